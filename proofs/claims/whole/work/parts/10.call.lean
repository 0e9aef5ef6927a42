/-! contracts: a method as a function of the memory; calls -/
def ba_tb : List Cond := lw_tbl.filter goodWord
def QA (v : Option Value) (D : va_G) (G : ba_G) (base : Nat) (S' : ba_S) (m' : ba_M) : Array Value → State → Outcome → State → Prop := fun _ st oc t => (oc = .returned v ∧ Wd D G base S' m' t.heap) ∧ va_F (fun a => base ≤ a) st t
def PA (as : List Value) (D : va_G) (G : ba_G) (base : Nat) (S : ba_S) (m : ba_M) : Array Value → State → Prop := va_Pc as (fun U => Wd D G base S m U.heap ∧ va_K D vwCl (tyl G) U ∧ TB U)
def MA {ρ : Type} (Y : ba_Y ρ) (y : MethodName) (ret : Option FieldType) (as : List ba_A) (S : ba_S) (m : ba_M) (q : ρ) : Prop :=
  (nN S ≤ nN (yE Y q).2.1 ∧ nS S ≤ nS (yE Y q).2.1) ∧ ∀ (l : Launch) (D : va_G) (G : ba_G) (base b : Nat), Met l y (Cond.code y (yC Y) (yN Y) ret :: ba_tb) ({ frames := yF Y, cells := nN (yE Y q).2.1 - nN S, slots := nS (yE Y q).2.1 - nS S, locals := yL Y })
    (PA (as.map (cv base b)) D G base S m) (QA ((yE Y q).1.map (cv base b)) D G base (yE Y q).2.1 (yE Y q).2.2) (nN (yE Y q).2.1 - nN S) (nS (yE Y q).2.1 - nS S) (fun a => base ≤ a)
def RG (ret : Option FieldType) (ri : Instr) (v : Option ba_A) : Prop :=
  (ret = some .int ∧ ri = .ireturn ∧ ∃ x, v = some (aI x)) ∨ (ret = some .boolean ∧ ri = .ireturn ∧ ∃ z, v = some (aI (b2i z))) ∨ (ret = some .long ∧ ri = .lreturn ∧ ∃ x, v = some (aJ x)) ∨ (ret = none ∧ ri = .return_ ∧ v = none) ∨ (∃ n, ret = some (.object n) ∧ ri = .areturn ∧ ∃ r, v = some (aR r))
theorem lg_len (base b : Nat) (as : List ba_A) : (lg_sl (as.map (cv base b))).length = (as.map ac).sum := by
  induction as with
  | nil => rfl
  | cons a l ih =>
    have h : lg_sl ((a :: l).map (cv base b)) = (if (cv base b a).category = 2 then [Slot.val (cv base b a), Slot.second] else [Slot.val (cv base b a)]) ++ lg_sl (l.map (cv base b)) := by simp [lg_sl]
    rw [h, List.length_append, ih]
    rcases a with x | x | (_ | x) | x <;> simp [cv, Value.category, ac]
theorem ba_met {ρ : Type} {Y : ba_Y ρ} {y : MethodName} {ret : Option FieldType} {as : List ba_A} {S : ba_S} {m : ba_M} {q : ρ} (hy : plainName y.cls = true ∧ yO Y = y.cls) (hX : yX Y = none) (hi : yI Y = true → y.name = "<init>") (hr : RG ret (yR Y) (yE Y q).1) (hs : decide ((as.map ac).sum ≤ yN Y) = true)
    (a : AW Y 0 (La as ++ List.replicate (yN Y - (La as).length) none) [] S m (some q)) : MA Y y ret as S m q := by
  obtain ⟨a1, a2⟩ := a q rfl
  refine ⟨a1, fun l D G base b => ?_⟩
  refine Met.ofW (cc := yC Y) (maxL := yN Y) (ret := ret) hy.1 rfl ?_
  intro p e s mid args below meth c s₁ B hml hv
  obtain ⟨rfl, hW, hK, hTB⟩ := hv
  have hx := B.exec
  have hb := B.bytes
  have hrt := B.returns
  have hts := atoms_spec (ws := Cond.code y (yC Y) (yN Y) ret :: ba_tb) B.pre
  have hown : s.vm.findClass (yO Y) = some mid.cls := by rw [hy.2]; exact findClass_of_methodNamed B.named
  have hlocks := B.notSynchronized
  have hin : meth.name = y.name := (name_of_methodNamed B.named B.method).1
  have hl := lv_entry (as.map (cv base b)) (n := yN Y) (by rw [lg_len]; exact of_decide_eq_true hs)
  rw [lg_entry_eq]
  generalize (lg_sl (as.map (cv base b)) ++ List.replicate (yN Y - (lg_sl (as.map (cv base b))).length) Slot.unset).toArray = ls at hl ⊢
  have hL : LH base b (yN Y) ls (La as ++ List.replicate (yN Y - (La as).length) none) := LH.mem hl fun i v h => by
    have := La_in base b as 0 i v (Lg_app _ _ i v h)
    rwa [Nat.zero_add] at this
  have X : CX Y p (headSpec (Cond.code y (yC Y) (yN Y) ret :: ba_tb) ({ frames := yF Y, cells := nN (yE Y q).2.1 - nN S, slots := nS (yE Y q).2.1 - nS S, locals := yL Y } : Room)).room s mid (as.map (cv base b)).toArray meth c s.heap D G base b := by
    refine ⟨hx, hb, hml, hown, fun w hw hg => hts w (List.mem_cons_of_mem _ (List.mem_filter.mpr ⟨hw, hg⟩)), Nat.le_refl _, Nat.le_refl _, ⟨hK, hTB⟩, ?_, fun h => hin.trans (hi h), fun L xs h => ?_⟩
    · rw [hW.2]; exact Nat.le_add_right _ _
    · rw [hX] at h; cases h
  have key := a2 p l e _ s mid (as.map (cv base b)).toArray below meth c s.heap D G base b (nN S) (nS S) (MQ below (QA ((yE Y q).1.map (cv base b)) D G base (yE Y q).2.1 (yE Y q).2.2) (as.map (cv base b)).toArray s (nN (yE Y q).2.1 - nN S) (nS (yE Y q).2.1 - nS S) (fun a => base ≤ a)) X ?_ s.heap [] ls hW va_S.rf hL (Nat.le_refl _) (Nat.le_refl _)
  · rw [Nat.sub_self, Nat.sub_self] at key
    exact key
  · refine ⟨Nat.le_refl _, Nat.le_refl _, fun H1 locs1 ls1 pc1 hW1 hS1 hd => ?_⟩
    have hq : ∀ (v : Option Value), v = (yE Y q).1.map (cv base b) → ∀ t : State, t.heap = H1 → s.WarmedH t.vm → QA ((yE Y q).1.map (cv base b)) D G base (yE Y q).2.1 (yE Y q).2.2 (as.map (cv base b)).toArray s (.returned v) t := by
      intro v hv t ht _
      exact ⟨⟨by rw [hv], by rw [ht]; exact hW1⟩, hS1.F ht⟩
    rcases hr with ⟨h1, h2, x, h3⟩ | ⟨h1, h2, z, h3⟩ | ⟨h1, h2, x, h3⟩ | ⟨h1, h2, h3⟩ | ⟨n, h1, h2, r, h3⟩
    · rw [h2] at hd
      rw [h3] at hq ⊢
      exact W.iret hx hb (hrt.trans h1) (hq _ rfl) hS1.2.2 hd hlocks
    · rw [h2] at hd
      rw [h3] at hq ⊢
      exact W.zret hx hb (hrt.trans h1) (by cases z <;> rfl) (hq _ rfl) hS1.2.2 hd hlocks
    · rw [h2] at hd
      rw [h3] at hq ⊢
      exact W.lret hx hb (hrt.trans h1) (hq _ rfl) hS1.2.2 hd hlocks
    · rw [h2] at hd
      rw [h3] at hq ⊢
      exact W.vret hx hb (hrt.trans h1) (hq _ rfl) hS1.2.2 hd hlocks
    · rw [h2] at hd
      rw [h3] at hq ⊢
      exact W.aret hx hb (hrt.trans h1) (Or.inl ⟨n, rfl⟩) (by cases r with
        | none => exact Or.inl rfl
        | some a => exact Or.inr ⟨_, rfl⟩) (hq _ rfl) hS1.2.2 hd hlocks
theorem PA.blind {as : List Value} {D : va_G} {G : ba_G} {base : Nat} {S : ba_S} {m : ba_M} : FrameBlind (PA as D G base S m) := by
  intro a U g mk h
  obtain ⟨h0, h1, h2, h3⟩ := h
  exact ⟨h0, h1, va_K.moved (u := U) (U := U.calling g mk a) (Vm.Alike.refl U.vm) h2, TB.same (u := U) (U := U.calling g mk a) rfl h3⟩
theorem ba_goodIn {y : MethodName} {bytes : ByteArray} {maxL : Nat} {ret : Option FieldType} (h : Cond.code y bytes maxL ret ∈ lw_tbl) : GoodIn ba_tb (Cond.code y bytes maxL ret :: ba_tb) := by
  have hall : ∀ w ∈ ba_tb, w ∈ ba_tb ∧ ((w.onTables && w.keeps) = true ∨ ∃ ty, w = .arrayClass ty) := fun w hw => ⟨hw, good_of_word (List.mem_filter.mp hw).2⟩
  intro w hw
  rcases List.mem_cons.mp hw with rfl | hw
  · exact hall _ (List.mem_filter.mpr ⟨h, rfl⟩)
  · exact hall w hw
section BC
variable {p : Program} {l : Launch} {e : Env} {R : Room} {s : State} {m : MethodId} {args : Array Value} {below : List Frame} {meth : Method} {c : Code} {H : Heap} {locs : List Loc} {cells slots mc ms : Nat} {Q : State → Prop}
theorem bw_call {pc : Nat} {ls : Array Slot} {st0 rest : List Value} {H0 : Heap} {v : Option Value} {D : va_G} {G : ba_G} {base : Nat} {S' : ba_S} {m' : ba_M} {a : Array Value}
    (hr : va_Run p l e R s m args below meth c H locs cells slots mc ms (F0 m pc ls st0) rest (QA v D G base S' m' a) (fun a => base ≤ a)) (hS : va_S (fun a => base ≤ a) H0 H locs)
    (kk : ∀ (H1 : Heap) (locs1 : List Loc), Wd D G base S' m' H1 → va_S (fun a => base ≤ a) H0 H1 locs1 → W p l e R s m args below meth c H1 locs1 (cells + mc) (slots + ms) Q (F0 m (pc + 3) ls (v.toList ++ rest))) : W p l e R s m args below meth c H locs cells slots Q (F0 m pc ls st0) := by
  intro T hT X
  obtain ⟨v', st₀, t, T', L, h0, X', hL, e1, e2, ⟨⟨hv, hW⟩, hz, hk⟩, st⟩ := hr T hT X
  cases hv
  rw [h0] at hz hk
  obtain ⟨t2, a1, b1⟩ := kk T'.heap (locs ++ L) (by rw [e1]; exact hW) ⟨Nat.le_trans hS.1 (by rw [e1]; exact hz), fun q h1 h2 => by rw [e1, hk q (Nat.lt_of_lt_of_le h1 hS.1) h2]; exact hS.2.1 q h1 h2, fun q hq => by
      rcases List.mem_append.mp hq with h | h
      · exact hS.2.2 q h
      · exact hL q h⟩ T' rfl X'
  exact ⟨t2, st t2 a1, b1⟩
end BC
/-- what the tables say of a method that is called: its code, its class, its number of arguments -/
def ba_mt (y : MethodName) (bytes : ByteArray) (maxL : Nat) (ret : Option FieldType) (n : Nat) : Prop := Cond.code y bytes maxL ret ∈ lw_tbl ∧ Cond.initialized y.cls ∈ lw_tbl ∧ (y.cls ≠ "java/lang/invoke/MethodHandle" ∧ y.cls ≠ "java/lang/invoke/VarHandle" ∧ (parseMethodDescriptor y.desc).map (fun d => d.parameters.length) = some n)
def ba_vt (y : MethodName) : Prop := Cond.instanceMethod y ∈ lw_tbl ∧ Cond.selects y.cls y y ∈ lw_tbl
section AWC
variable {ρ ρ' : Type} {Y : ba_Y ρ} {Y' : ba_Y ρ'} {pc ix : Nat} {L : List (Option ba_A)} {st rest : List ba_A} {S : ba_S} {m : ba_M} {y : MethodName} {ret : Option FieldType} {as : List ba_A} {f : Option ρ'} {k : ρ' → Option ρ}
theorem AW.call {mcms : Unit} (hr : decide (yF Y' + 1 ≤ yF Y) = true ∧ decide (8 + (yN Y' + 11) + yL Y' ≤ yL Y) = true ∧ decide ((rest.map ac).sum ≤ 8) = true) (hM : ∀ q, f = some q → MA Y' y ret as S m q) (kk : ∀ q, f = some q → AW Y (pc + 3) L ((yE Y' q).1.toList ++ rest) (yE Y' q).2.1 (yE Y' q).2.2 (k q))
    (h : ∀ (q : ρ'), MA Y' y ret as S m q → ∀ (p : Program) (l : Launch) (e : Env) (R : Room) (s : State) (mid : MethodId) (args : Array Value) (below : List Frame) (meth : Method) (c : Code) (H0 : Heap) (D : va_G) (G : ba_G) (base b cells slots : Nat) (H : Heap) (locs : List Loc) (ls : Array Slot),
      CX Y p R s mid args meth c H0 D G base b → Wd D G base S m H → LH base b (yN Y) ls L → yF Y' + 1 ≤ R.frames ∧ 8 + (yN Y' + 11) + yL Y' ≤ R.locals → cells + (nN (yE Y' q).2.1 - nN S) ≤ R.cells ∧ slots + (nS (yE Y' q).2.1 - nS S) ≤ R.slots →
      2 * (F0 mid pc ls (st.map (cv base b))).monitorRoom + ((rest.map (cv base b)).map fun v => v.category).sum ≤ 8 →
      va_Run p l e R s mid args below meth c H locs cells slots (nN (yE Y' q).2.1 - nN S) (nS (yE Y' q).2.1 - nS S) (F0 mid pc ls (st.map (cv base b))) (rest.map (cv base b)) (QA ((yE Y' q).1.map (cv base b)) D G base (yE Y' q).2.1 (yE Y' q).2.2 (as.map (cv base b)).toArray) (fun a => base ≤ a)) : AW Y pc L st S m (f.bind k) := by
  intro q2 hq2
  cases hf : f with
  | none => rw [hf] at hq2; cases hq2
  | some q =>
    rw [hf] at hq2
    obtain ⟨⟨g1, g1'⟩, g2⟩ := kk q hf q2 hq2
    have hm := hM q hf
    obtain ⟨⟨u1, u2⟩, -⟩ := id hm
    refine ⟨⟨by omega, by omega⟩, ?_⟩
    intro p l e R s mid args below meth c H0 D G base b n0 s0 Q X E H locs ls hW hS hL hn hs
    have f1 := X.F
    have f2 := of_decide_eq_true hr.1
    have f3 := of_decide_eq_true hr.2.1
    have f4 := of_decide_eq_true hr.2.2
    have e1 := E.1
    have e2 := E.2.1
    refine bw_call (h q hm p l e R s mid args below meth c H0 D G base b _ _ H locs ls X hW hL ⟨by omega, by omega⟩ ⟨by omega, by omega⟩ (by show 2 * 0 + _ ≤ 8; rw [cv_sum]; omega)) hS fun H1 locs1 hW1 hS1 => ?_
    have := g2 p l e R s mid args below meth c H0 D G base b n0 s0 Q X E H1 locs1 ls hW1 hS1 hL (by omega) (by omega)
    rw [show nN S - n0 + (nN (yE Y' q).2.1 - nN S) = nN (yE Y' q).2.1 - n0 by omega, show nS S - s0 + (nS (yE Y' q).2.1 - nS S) = nS (yE Y' q).2.1 - s0 by omega]
    rw [show ((yE Y' q).1.map (cv base b)).toList ++ rest.map (cv base b) = ((yE Y' q).1.toList ++ rest).map (cv base b) by cases (yE Y' q).1 <;> rfl]
    exact this
theorem CX.fix {p : Program} {R : Room} {s : State} {mid : MethodId} {args : Array Value} {meth : Method} {c : Code} {H0 : Heap} {D : va_G} {G : ba_G} {base b : Nat} (X : CX Y p R s mid args meth c H0 D G base b) : CallFix p mid c (yC Y) (yN Y) s args ba_tb (yO Y) :=
  ⟨X.1, X.2.1, X.2.2.1, X.own, fun w hw => X.ts w (List.mem_filter.mp hw).1 (List.mem_filter.mp hw).2⟩
theorem PA.at {p : Program} {R : Room} {s : State} {mid : MethodId} {args : Array Value} {meth : Method} {c : Code} {H0 H : Heap} {D : va_G} {G : ba_G} {base b : Nat} (X : CX Y p R s mid args meth c H0 D G base b) (hW : Wd D G base S m H) (av : List Value) : PreS s H (PA av D G base S m) av :=
  ⟨PA.blind, fun U hU hWm => ⟨rfl, by rw [hU]; exact hW, va_K.moved hWm.alike X.K, X.TB.warm hWm⟩⟩
theorem a_callV {a t n : Nat} (hd : decode (yC Y) pc = .ok (.invokevirtual ix, 3)) (hl : Cond.methodLink (yO Y) ix y ∈ lw_tbl) (hm : ba_mt y (yC Y') (yN Y') ret n) (hv : ba_vt y) (ht : ∃ q : vw_C, vwCl[t]? = some q ∧ q.1 = y.cls) (hn : as.length = n) (hk : ck S a t = true)
    (hr : decide (yF Y' + 1 ≤ yF Y) = true ∧ decide (8 + (yN Y' + 11) + yL Y' ≤ yL Y) = true ∧ decide ((rest.map ac).sum ≤ 8) = true) (hs : st = as.reverse ++ aR (some a) :: rest) (hM : ∀ q, f = some q → MA Y' y ret (aR (some a) :: as) S m q)
    (kk : ∀ q, f = some q → AW Y (pc + 3) L ((yE Y' q).1.toList ++ rest) (yE Y' q).2.1 (yE Y' q).2.2 (k q)) : AW Y pc L st S m (f.bind k) := by
  refine AW.call (mcms := ()) hr hM kk fun q hMq p l e R s mid args below meth c H0 D G base b cells slots H locs ls X hW hL hRm hcs hst => ?_
  obtain ⟨q5, w1, w2⟩ := ht
  obtain ⟨⟨C, T, N⟩, rfl⟩ : ∃ z, z = q5 := ⟨_, rfl⟩
  obtain ⟨c1, c2, c3, c4, c5⟩ := ba_cls t w1
  obtain ⟨k1, k2⟩ := ck_i hk
  have he : (wls base G S m)[a]? = some (base + a, .inr (t, oF base S m a t)) := by rw [wls_at k1, cE_o k2 c5]
  have hrc := va_recv X.K hW.1 w1 he
  have hP := PA.at X hW (((aR (some a)) :: as).map (cv base b))
  refine va_runV (ws := Cond.code y (yC Y') (yN Y') ret :: ba_tb) (C := y.cls) (b := base + a) (As := as.map (cv base b)) X.fix (hMq.2 l D G base b) ⟨callB_of (ws' := ba_tb) n X.fix.2.2.2.2 (ba_goodIn hm.1) rfl rfl rfl (X.ts _ hm.2.1 rfl) (X.ts _ hl rfl) hm.2.2 hRm, X.ts _ hv.1 rfl, X.ts _ hv.2 rfl⟩ ⟨hP.1, by rw [← w2]; exact hrc, hP.2⟩ rfl (by rw [List.length_map]; exact hn) hL.1 ?_ hst hd hcs
  rw [hs]
  show ((as.reverse ++ aR (some a) :: rest).map (cv base b)) = _
  rw [List.map_append, List.map_reverse]
  rfl
theorem a_callS {n : Nat} (hd : decode (yC Y) pc = .ok (.invokestatic ix, 3)) (hl : Cond.methodLink (yO Y) ix y ∈ lw_tbl) (hm : ba_mt y (yC Y') (yN Y') ret n) (hv : Cond.static y ∈ lw_tbl) (hn : as.length = n)
    (hr : decide (yF Y' + 1 ≤ yF Y) = true ∧ decide (8 + (yN Y' + 11) + yL Y' ≤ yL Y) = true ∧ decide ((rest.map ac).sum ≤ 8) = true) (hs : st = as.reverse ++ rest) (hM : ∀ q, f = some q → MA Y' y ret as S m q)
    (kk : ∀ q, f = some q → AW Y (pc + 3) L ((yE Y' q).1.toList ++ rest) (yE Y' q).2.1 (yE Y' q).2.2 (k q)) : AW Y pc L st S m (f.bind k) := by
  refine AW.call (mcms := ()) hr hM kk fun q hMq p l e R s mid args below meth c H0 D G base b cells slots H locs ls X hW hL hRm hcs hst => ?_
  have hP := PA.at X hW (as.map (cv base b))
  refine va_runS (ws := Cond.code y (yC Y') (yN Y') ret :: ba_tb) (As := as.map (cv base b)) X.fix (hMq.2 l D G base b) ⟨callB_of (ws' := ba_tb) n X.fix.2.2.2.2 (ba_goodIn hm.1) rfl rfl rfl (X.ts _ hm.2.1 rfl) (X.ts _ hl rfl) hm.2.2 hRm, X.ts _ hv rfl⟩ hP rfl (by rw [List.length_map]; exact hn) hL.1 ?_ hst hd hcs
  rw [hs]
  show ((as.reverse ++ rest).map (cv base b)) = _
  rw [List.map_append, List.map_reverse]
theorem a_callSN {n : Nat} {host : String} (hd : decode (yC Y) pc = .ok (.invokestatic ix, 3)) (hl : Cond.methodLinkNest (yO Y) ix y host ∈ lw_tbl) (hm : ba_mt y (yC Y') (yN Y') ret n) (hv : Cond.static y ∈ lw_tbl) (hn : as.length = n)
    (hr : decide (yF Y' + 1 ≤ yF Y) = true ∧ decide (8 + (yN Y' + 11) + yL Y' ≤ yL Y) = true ∧ decide ((rest.map ac).sum ≤ 8) = true) (hs : st = as.reverse ++ rest) (hM : ∀ q, f = some q → MA Y' y ret as S m q)
    (kk : ∀ q, f = some q → AW Y (pc + 3) L ((yE Y' q).1.toList ++ rest) (yE Y' q).2.1 (yE Y' q).2.2 (k q)) : AW Y pc L st S m (f.bind k) := by
  refine AW.call (mcms := ()) hr hM kk fun q hMq p l e R s mid args below meth c H0 D G base b cells slots H locs ls X hW hL hRm hcs hst => ?_
  have hP := PA.at X hW (as.map (cv base b))
  refine va_runSN (ws := Cond.code y (yC Y') (yN Y') ret :: ba_tb) (host := host) (As := as.map (cv base b)) X.fix (hMq.2 l D G base b) ⟨va_cnB (ws' := ba_tb) n X.fix.2.2.2.2 (ba_goodIn hm.1) rfl rfl rfl (X.TB.1 _ hl rfl) (X.ts _ hm.2.1 rfl) hm.2.2 hRm, X.ts _ hv rfl, trivial⟩ hP rfl (by rw [List.length_map]; exact hn) hL.1 ?_ hst hd hcs
  rw [hs]
  show ((as.reverse ++ rest).map (cv base b)) = _
  rw [List.map_append, List.map_reverse]
theorem a_callI {a n : Nat} (hd : decode (yC Y) pc = .ok (.invokespecial ix, 3)) (hl : Cond.methodLink (yO Y) ix y ∈ lw_tbl) (hm : ba_mt y (yC Y') (yN Y') none n) (hv : Cond.instanceMethod y ∈ lw_tbl ∧ y.name = "<init>") (hn : as.length = n)
    (hr : decide (yF Y' + 1 ≤ yF Y) = true ∧ decide (8 + (yN Y' + 11) + yL Y' ≤ yL Y) = true ∧ decide ((rest.map ac).sum ≤ 8) = true) (hs : st = as.reverse ++ aR (some a) :: rest) (hM : ∀ q, f = some q → MA Y' y none (aR (some a) :: as) S m q)
    (kk : ∀ q, f = some q → AW Y (pc + 3) L ((yE Y' q).1.toList ++ rest) (yE Y' q).2.1 (yE Y' q).2.2 (k q)) : AW Y pc L st S m (f.bind k) := by
  refine AW.call (mcms := ()) hr hM kk fun q hMq p l e R s mid args below meth c H0 D G base b cells slots H locs ls X hW hL hRm hcs hst => ?_
  have hP := PA.at X hW (((aR (some a)) :: as).map (cv base b))
  refine va_runI (ws := Cond.code y (yC Y') (yN Y') none :: ba_tb) (b := base + a) (As := as.map (cv base b)) X.fix (hMq.2 l D G base b) ⟨callB_of (ws' := ba_tb) n X.fix.2.2.2.2 (ba_goodIn hm.1) rfl rfl rfl (X.ts _ hm.2.1 rfl) (X.ts _ hl rfl) hm.2.2 hRm, hv.2, X.ts _ hv.1 rfl⟩ hP rfl (by rw [List.length_map]; exact hn) hL.1 ?_ hst hd hcs
  rw [hs]
  show ((as.reverse ++ aR (some a) :: rest).map (cv base b)) = _
  rw [List.map_append, List.map_reverse]
  rfl
theorem a_callIN {a n : Nat} {host : String} (hd : decode (yC Y) pc = .ok (.invokespecial ix, 3)) (hl : Cond.methodLinkNest (yO Y) ix y host ∈ lw_tbl) (hm : ba_mt y (yC Y') (yN Y') none n) (hv : Cond.instanceMethod y ∈ lw_tbl ∧ y.name = "<init>") (hn : as.length = n)
    (hr : decide (yF Y' + 1 ≤ yF Y) = true ∧ decide (8 + (yN Y' + 11) + yL Y' ≤ yL Y) = true ∧ decide ((rest.map ac).sum ≤ 8) = true) (hs : st = as.reverse ++ aR (some a) :: rest) (hM : ∀ q, f = some q → MA Y' y none (aR (some a) :: as) S m q)
    (kk : ∀ q, f = some q → AW Y (pc + 3) L ((yE Y' q).1.toList ++ rest) (yE Y' q).2.1 (yE Y' q).2.2 (k q)) : AW Y pc L st S m (f.bind k) := by
  refine AW.call (mcms := ()) hr hM kk fun q hMq p l e R s mid args below meth c H0 D G base b cells slots H locs ls X hW hL hRm hcs hst => ?_
  have hP := PA.at X hW (((aR (some a)) :: as).map (cv base b))
  refine va_runIN (ws := Cond.code y (yC Y') (yN Y') none :: ba_tb) (host := host) (b := base + a) (As := as.map (cv base b)) X.fix (hMq.2 l D G base b) ⟨va_cnB (ws' := ba_tb) n X.fix.2.2.2.2 (ba_goodIn hm.1) rfl rfl rfl (X.TB.1 _ hl rfl) (X.ts _ hm.2.1 rfl) hm.2.2 hRm, hv.2, X.ts _ hv.1 rfl⟩ hP rfl (by rw [List.length_map]; exact hn) hL.1 ?_ hst hd hcs
  rw [hs]
  show ((as.reverse ++ aR (some a) :: rest).map (cv base b)) = _
  rw [List.map_append, List.map_reverse]
  rfl
end AWC
