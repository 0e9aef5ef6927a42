-- ===== end of PART A; then your names; then what follows =====
/-! THE CLAIM OUT OF ONE WALK OF THE LAW'S BODY. Your part is whole_start (and what it stands on); all else here is the same for every law, but numbers. -/
def R_law : String := "BallAndNameLaw"
def lw_P (b : Addr) (xs : List Int32) (args : Array Value) (s : State) : Prop := args = #[.ref b] ∧ s.IntsAt b xs ∧ xs.length ≤ 320 ∧ (Jvm.Cond.and given_1 narrow_1).before args s = true
def lw_Q (_ : Array Value) (s : State) (o : Outcome) (t : State) : Prop := o = .returned (some (.int 1)) ∧ Framed s o t [] 600000 7302250
def lw_Z (below : List Frame) (a : Array Value) (s : State) : State → Prop := fun t => ∃ o, t.status = .running ∧ Ended t below o ∧ lw_Q a s o t
/-- the law's own end, with 1 on the stack, nothing written that was there before, its room as the claim has it -/
theorem lw_ret {p : Program} {l : Launch} {e : Env} {s : State} {m : MethodId} {below : List Frame} {meth : Method} {c : Code} {b : Nat} (hx : p.tables.exec = Jvm.exec) (hb : c.code = code) (hr : meth.sig.returnType = ret) (hlocks : meth.locks = false) {pc : Nat} {H : Heap} {ls : Array Slot} (hdg : decode code pc = .ok (.ireturn, 1)) : W p l e room_1 s m #[Value.ref b] below meth c H [] 600000 7302250 (lw_Z below #[Value.ref b] s) (F0 m pc ls [.int 1]) := by
  intro T hT X
  obtain ⟨fs, hret, hrun, hended, hW, hframe⟩ := X.leave (v := some (.int 1)) (hlocks := hlocks) (fun h => by rw [hr] at h; cases h)
  have hmeth' : T.vm.method? m = some meth := X.method'
  refine ⟨T.setFrames fs, ?_, .returned (some (.int 1)), hrun, hended, rfl, ⟨_, rfl⟩, hW, hframe⟩
  jvm_step X.here [X.here.top, hx, hb, hdg, hmeth', hr, ret, narrow_b1]
  (try refine ⟨rfl, ?_⟩); (try refine ⟨rfl, ?_⟩)
  first | (intro acts; rw [hret _ acts rfl rfl rfl]) | rw [hret _ _ rfl rfl rfl]
  exact Steps.refl _
/-- what holds at the law's entry: the machine, the code, the tables' words (any of lw_tbl by 'hts w (by decide +kernel)'), the script of L ints xs at the cell b, what the Statement gives of the start (any of its parts by flat_of_before) -/
def lw_At (p : Program) (s : State) (m : MethodId) (meth : Method) (c : Code) (b L : Nat) (xs : Nat → Int32) : Prop :=
  p.tables.exec = Jvm.exec ∧ c.code = code ∧ meth.sig.returnType = ret ∧ c.maxLocals = 4 ∧ s.vm.findClass R_law = some m.cls ∧ (∀ w ∈ lw_tbl, w.before #[Value.ref b] s = true) ∧ va_X b L xs s s.heap ∧ b < s.heap.size ∧ meth.locks = false ∧ (Jvm.Cond.and given_1 narrow_1).before #[Value.ref b] s = true
/-! the law's walk out of its function -/
def S0 : ba_S := (fun _ _ => none, fun _ => (0, 0), 0, 0)
def m0 : ba_M := (fun _ _ => 0, fun _ _ => 0)
theorem ws_inst : ∀ t, t < 12 → ∃ own ix, ba_nw own ix t := by
  intro t ht
  match t, ht with
  | 0, _ => exact ⟨_, _, nw_RX11_35⟩
  | 1, _ => exact ⟨_, _, nw_RX11_48⟩
  | 2, _ => exact ⟨_, _, nw_RX0_9⟩
  | 3, _ => exact ⟨_, _, nw_RX11_16⟩
  | 4, _ => exact ⟨_, _, nw_RX11_23⟩
  | 5, _ => exact ⟨_, _, nw_RX11_41⟩
  | 6, _ => exact ⟨_, _, nw_RX11_62⟩
  | 7, _ => exact ⟨_, _, nw_RX11_55⟩
  | 8, _ => exact ⟨_, _, nw_RX11_7⟩
  | 9, _ => exact ⟨_, _, nw_RX2_7⟩
  | 10, _ => exact ⟨_, _, nw_RL_7⟩
  | 11, _ => exact ⟨_, _, nw_RL_10⟩
  | t + 12, h => exact absurd h (by omega)
theorem iAP : Cond.arrayOver (.object RX2) ∈ lw_tbl ∧ Cond.arrayOver (.object RX10) ∈ lw_tbl := ⟨by decide +kernel, by decide +kernel⟩
theorem ws_K {s : State} {b : Nat} (hts : ∀ w ∈ lw_tbl, w.before #[Value.ref b] s = true) : ∃ (D : va_G) (G : ba_G), va_K D vwCl (tyl G) s ∧ TB s := by
  have h1 : ∀ t : Nat, ∃ (cC : ClassId) (iS : Nat → Nat), ∀ q : vw_C, vwCl[t]? = some q → u_Kn s q.1 q.2.1 q.2.2 cC iS := by
    intro t
    cases hv : vwCl[t]? with
    | none => exact ⟨0, fun _ => 0, fun q h => by cases h⟩
    | some q =>
      obtain ⟨C, T, N⟩ := q
      obtain ⟨c1, c2, c3, c4, c5⟩ := ba_cls t hv
      obtain ⟨own, ix, C', T', N', g1, g2, g3, g4⟩ := ws_inst t c5
      have e := Option.some.inj (hv.symm.trans g1)
      cases e
      obtain ⟨cC, iS, hk⟩ := u_known (C := C) (T := T) (N := N) (n := N) hts c3 (hts _ g3)
      exact ⟨cC, iS, fun q h => by cases h; exact hk⟩
  obtain ⟨cI, kI, pI, f1, f2, f3⟩ := Cond.arrayClass_spec (hts _ iAI)
  obtain ⟨cL, kL, pL, l1, l2, l3⟩ := Cond.arrayClass_spec (hts _ iAL)
  obtain ⟨pP, cP, kP, p1, p2, p3, p4, p5⟩ := Cond.arrayOver_spec (hts _ iAP.1)
  obtain ⟨pT, cT, kT, t1, t2, t3, t4, t5⟩ := Cond.arrayOver_spec (hts _ iAP.2)
  refine ⟨(fun t => Classical.choose (h1 t), fun t => Classical.choose (Classical.choose_spec (h1 t))), (cI, cL, cP, cT), ⟨fun t q hq => Classical.choose_spec (Classical.choose_spec (h1 t)) q hq, fun k q hq => ?_⟩, ?_, va_AO.of (hts _ iAP.1), va_AO.of (hts _ iAP.2)⟩
  · match k, hq with
    | 0, hq => cases hq; exact ⟨fun N z => ⟨(fun k h => by cases h), kI, f2, pI, f3⟩, f1⟩
    | 1, hq => cases hq; exact ⟨fun N z => ⟨(fun k h => by cases h), kL, l2, pL, l3⟩, l1⟩
    | 2, hq => cases hq; exact ⟨fun N z => ⟨(fun k h => by cases h), kP, p3, pP, p4⟩, kP, pP, p3, p4, p1, p5⟩
    | 3, hq => cases hq; exact ⟨fun N z => ⟨(fun k h => by cases h), kT, t3, pT, t4⟩, kT, pT, t3, t4, t1, t5⟩
    | k + 4, hq => simp [tyl] at hq
  · intro w hw hn
    cases w <;> first | (simp [ba_nest] at hn; done) | exact va_Nw.of rfl (hts _ hw)
theorem ws_of (hf : ∀ (N : Nat) (xs : Nat → Int32), N ≤ 320 → ∃ (S' : ba_S) (m' : ba_M), f_La_law N xs S0 m0 = some (true, S', m') ∧ nN S' ≤ 600000 ∧ nS S' ≤ 7302250)
    {p : Program} {e : Env} {s : State} {m : MethodId} {below : List Frame} {meth : Method} {c : Code} (l : Launch) {b L : Nat} {xs : Nat → Int32} (hL : L ≤ 320) (C0 : lw_At p s m meth c b L xs) : W p l e room_1 s m #[Value.ref b] below meth c s.heap [] 0 0 (lw_Z below #[Value.ref b] s) (entryFrame m ([Value.ref b] : List Value).toArray 4) := by
  obtain ⟨hx, hb, hr, hml, hown, hts, hX, hbl, hlocks, hgv⟩ := id C0
  obtain ⟨S', m', hf1, hn, hs⟩ := hf L xs hL
  obtain ⟨D, G, hK, hTB⟩ := ws_K hts
  have A := e_La_law (N := L) (xs := xs) S0 m0
  rw [hf1] at A
  obtain ⟨_, A2⟩ := A _ rfl
  have hl := lv_entry ([.ref b]) (n := 4) (Nat.le_of_ble_eq_true rfl)
  rw [lg_entry_eq]
  generalize (lg_sl ([.ref b]) ++ List.replicate (4 - (lg_sl ([.ref b])).length) Slot.unset).toArray = ls at hl ⊢
  have hLH : LH s.heap.size b 4 ls [some aX, none, none, none] := hl
  have X : CX (Y_La_law L xs) p room_1 s m #[Value.ref b] meth c s.heap D G s.heap.size b := by
    refine ⟨hx, hb, hml, hown, fun w hw _ => hts w hw, (show 8 ≤ 10 by decide), (show 186 ≤ 374 by decide), ⟨hK, hTB⟩, Nat.le_refl _, (fun h => by cases h), fun N ys h => ?_⟩
    have h' := Option.some.inj h
    cases h'
    exact ⟨hX, hbl, hbl⟩
  refine A2 p l e room_1 s m #[Value.ref b] below meth c s.heap D G s.heap.size b 0 0 (lw_Z below #[Value.ref b] s) X ?_ s.heap [] ls ⟨fun k q h => by simp [wls, S0, nN] at h, rfl⟩ va_S.rf hLH (Nat.le_refl _) (Nat.le_refl _)
  refine ⟨hn, hs, fun H1 locs1 ls1 pc1 hW1 hS1 hd => ?_⟩
  refine va_forget hS1.2.2 (W.widen (k := 600000) (n := 7302250) hn hs ?_)
  exact lw_ret hx hb hr hlocks hd
