/-! the tables -/
def ba_fl (own : String) (ix t k : Nat) (fin : Bool) : Prop := ∃ (C : String) (T : u_T) (N : Nat), vwCl[t]? = some (C, T, N) ∧ k < N ∧ Cond.fieldLink own ix (T k).1 (T k).2.1 (T k).2.2.1 ∈ lw_tbl ∧ (T k).2.2.2 = fin ∧ (fin = true → (T k).1 = own ∨ True)
theorem iX0 : ∀ w ∈ wsX00, w ∈ lw_tbl := by decide +kernel
theorem iX1 : ∀ w ∈ wsX10, w ∈ lw_tbl := by decide +kernel
theorem iX2 : ∀ w ∈ wsX20, w ∈ lw_tbl := by decide +kernel
theorem iX3 : ∀ w ∈ wsX30, w ∈ lw_tbl := by decide +kernel
theorem iX4 : ∀ w ∈ wsX40, w ∈ lw_tbl := by decide +kernel
theorem iX6 : ∀ w ∈ wsX60, w ∈ lw_tbl := by decide +kernel
theorem iX7 : ∀ w ∈ wsX70, w ∈ lw_tbl := by decide +kernel
theorem iX8 : ∀ w ∈ wsX80, w ∈ lw_tbl := by decide +kernel
theorem iX9 : ∀ w ∈ wsX90, w ∈ lw_tbl := by decide +kernel
theorem iX10 : ∀ w ∈ wsX100, w ∈ lw_tbl := by decide +kernel
theorem iX11 : ∀ w ∈ wsX110, w ∈ lw_tbl := by decide +kernel
theorem iX12 : ∀ w ∈ wsX120, w ∈ lw_tbl := by decide +kernel
theorem u_good {C : String} {T : u_T} {N : Nat} : ∀ w ∈ u_ws C T N, goodWord w = true := by
  intro w hw
  obtain ⟨k, -, rfl⟩ := List.mem_map.mp hw
  unfold u_lay
  split <;> rfl
theorem ba_cls (t : Nat) {C : String} {T : u_T} {N : Nat} (h : vwCl[t]? = some (C, T, N)) : (∀ k, k < N → parseFieldDescriptor (T k).2.2.1 = some (fY t k)) ∧ (∀ a, a < N → ∀ b, b < N → a ≠ b → (T a).2.1 ≠ (T b).2.1) ∧ (∀ w ∈ u_ws C T N, w ∈ lw_tbl) ∧ nF t = N ∧ t < 12 := by
  match t, h with
  | 0, h => cases h; exact ⟨tyX0_ok, nmX0, iX0, rfl, by decide⟩
  | 1, h => cases h; exact ⟨tyX1_ok, nmX1, iX1, rfl, by decide⟩
  | 2, h => cases h; exact ⟨tyX2_ok, nmX2, iX2, rfl, by decide⟩
  | 3, h => cases h; exact ⟨tyX3_ok, nmX3, iX3, rfl, by decide⟩
  | 4, h => cases h; exact ⟨tyX4_ok, nmX4, iX4, rfl, by decide⟩
  | 5, h => cases h; exact ⟨tyX6_ok, nmX6, iX6, rfl, by decide⟩
  | 6, h => cases h; exact ⟨tyX7_ok, nmX7, iX7, rfl, by decide⟩
  | 7, h => cases h; exact ⟨tyX8_ok, nmX8, iX8, rfl, by decide⟩
  | 8, h => cases h; exact ⟨tyX9_ok, nmX9, iX9, rfl, by decide⟩
  | 9, h => cases h; exact ⟨tyX10_ok, nmX10, iX10, rfl, by decide⟩
  | 10, h => cases h; exact ⟨tyX11_ok, nmX11, iX11, rfl, by decide⟩
  | 11, h => cases h; exact ⟨tyX12_ok, nmX12, iX12, rfl, by decide⟩
  | t + 12, h => exact absurd h (by simp [vwCl])
theorem CX.x {ρ : Type} {Y : ba_Y ρ} {p : Program} {R : Room} {s : State} {mid : MethodId} {args : Array Value} {meth : Method} {c : Code} {H0 : Heap} {D : va_G} {G : ba_G} {base b : Nat} (X : CX Y p R s mid args meth c H0 D G base b) : p.tables.exec = Jvm.exec := X.1
theorem CX.ts {ρ : Type} {Y : ba_Y ρ} {p : Program} {R : Room} {s : State} {mid : MethodId} {args : Array Value} {meth : Method} {c : Code} {H0 : Heap} {D : va_G} {G : ba_G} {base b : Nat} (X : CX Y p R s mid args meth c H0 D G base b) : ∀ w ∈ lw_tbl, goodWord w = true → w.before args s = true := X.2.2.2.2.1
theorem CX.tu {ρ : Type} {Y : ba_Y ρ} {p : Program} {R : Room} {s : State} {mid : MethodId} {args : Array Value} {meth : Method} {c : Code} {H0 : Heap} {D : va_G} {G : ba_G} {base b : Nat} (X : CX Y p R s mid args meth c H0 D G base b) {C : String} {T : u_T} {N : Nat} (h : ∀ w ∈ u_ws C T N, w ∈ lw_tbl) : ∀ w ∈ u_ws C T N, w.before args s = true := fun w hw => X.2.2.2.2.1 w (h w hw) (u_good w hw)
theorem CX.own {ρ : Type} {Y : ba_Y ρ} {p : Program} {R : Room} {s : State} {mid : MethodId} {args : Array Value} {meth : Method} {c : Code} {H0 : Heap} {D : va_G} {G : ba_G} {base b : Nat} (X : CX Y p R s mid args meth c H0 D G base b) : s.vm.findClass (yO Y) = some mid.cls := X.2.2.2.1
theorem CX.K {ρ : Type} {Y : ba_Y ρ} {p : Program} {R : Room} {s : State} {mid : MethodId} {args : Array Value} {meth : Method} {c : Code} {H0 : Heap} {D : va_G} {G : ba_G} {base b : Nat} (X : CX Y p R s mid args meth c H0 D G base b) : va_K D vwCl (tyl G) s := X.2.2.2.2.2.2.2.1.1
theorem CX.TB {ρ : Type} {Y : ba_Y ρ} {p : Program} {R : Room} {s : State} {mid : MethodId} {args : Array Value} {meth : Method} {c : Code} {H0 : Heap} {D : va_G} {G : ba_G} {base b : Nat} (X : CX Y p R s mid args meth c H0 D G base b) : TB s := X.2.2.2.2.2.2.2.1.2
theorem CX.F {ρ : Type} {Y : ba_Y ρ} {p : Program} {R : Room} {s : State} {mid : MethodId} {args : Array Value} {meth : Method} {c : Code} {H0 : Heap} {D : va_G} {G : ba_G} {base b : Nat} (X : CX Y p R s mid args meth c H0 D G base b) : yF Y ≤ R.frames ∧ yL Y ≤ R.locals := ⟨X.2.2.2.2.2.1, X.2.2.2.2.2.2.1⟩
theorem CX.nm {ρ : Type} {Y : ba_Y ρ} {p : Program} {R : Room} {s : State} {mid : MethodId} {args : Array Value} {meth : Method} {c : Code} {H0 : Heap} {D : va_G} {G : ba_G} {base b : Nat} (X : CX Y p R s mid args meth c H0 D G base b) : yI Y = true → meth.name = "<init>" := X.2.2.2.2.2.2.2.2.2.1
theorem CX.sc {ρ : Type} {Y : ba_Y ρ} {p : Program} {R : Room} {s : State} {mid : MethodId} {args : Array Value} {meth : Method} {c : Code} {H0 : Heap} {D : va_G} {G : ba_G} {base b : Nat} (X : CX Y p R s mid args meth c H0 D G base b) {N : Nat} {xs : Nat → Int32} (h : yX Y = some (N, xs)) : va_X b N xs s H0 ∧ b < H0.size ∧ b < base := X.2.2.2.2.2.2.2.2.2.2 N xs h
/-! the combinators of which the functions are made -/
def ldR {β : Type} (S : ba_S) (o k t : Nat) (f : Nat → Option β) : Option β := match gR S o k with
  | some b => if ck S b t = true then f b else none
  | none => none
def cK {β : Type} (S : ba_S) (o t : Nat) (r : Option β) : Option β := if ck S o t = true then r else none
def bD {β : Type} (S : ba_S) (a : Nat) (i : Int32) (r : Option β) : Option β := if i < 0 ∨ kL S a ≤ i.toNatClampNeg then none else r
def nA {β : Type} (n : Int32) (r : Option β) : Option β := if n < 0 ∨ 100000 < n.toNatClampNeg then none else r
def wR (S : ba_S) (o k : Nat) (r : Option Nat) : ba_S := (fun a b => if a = o ∧ b = k then r else S.1 a b, S.2)
def pS (S : ba_S) (t len N : Nat) : ba_S := (fun a b => if a = nN S then none else S.1 a b, fun a => if a = nN S then (t, len) else S.2.1 a, nN S + 1, nS S + N)
def pM (n : Nat) (m : ba_M) : ba_M := (fun a b => if a = n then 0 else m.1 a b, fun a b => if a = n then 0 else m.2 a b)
theorem wls_push {base : Nat} {G : ba_G} {S : ba_S} {m : ba_M} {t len N : Nat} {e : va_E} (he : cE base G (pS S t len N) (pM (nN S) m) (nN S) = e) : wls base G S m ++ [(base + nN S, e)] = wls base G (pS S t len N) (pM (nN S) m) := by
  subst he
  have : nN (pS S t len N) = nN S + 1 := rfl
  unfold wls
  rw [this, List.range_succ, List.map_append]
  congr 1
  refine List.map_congr_left fun o ho => ?_
  have hlt : o < nN S := List.mem_range.mp ho
  have hne : o ≠ nN S := by omega
  exact congrArg (fun z => (base + o, z)) (cE_of (S := S) (m := m) (by simp [pS, hne]) (fun k => by simp [gI, pM, hne]) (fun k => by simp [gL, pM, hne]) (fun k => by simp [gR, pS, hne])).symm
section AWM
variable {ρ : Type} {Y : ba_Y ρ} {pc : Nat} {L : List (Option ba_A)} {st : List ba_A} {S : ba_S} {m : ba_M} {o : Option ρ}
theorem AW.ck {a t : Nat} (k : ck S a t = true → AW Y pc L st S m o) : AW Y pc L st S m (cK S a t o) := AW.if (fun h => k h) (fun _ => AW.none)
theorem a_getI {t k ix a : Nat} {fin : Bool} (hd : decode (yC Y) pc = .ok (.getfield ix, 3)) (hf : ba_fl (yO Y) ix t k fin) (hc : fc (fY t k) = 0) (hk : ck S a t = true) (h : AW Y (pc + 3) L (aI (gI m a k) :: st) S m o) : AW Y pc L (aR (some a) :: st) S m o :=
  h.step fun p l e R s mid args below meth c H0 D G base b cells slots Q H locs ls X hW hS hL kk => by
    obtain ⟨C, T, N, h1, h2, h3, -⟩ := hf
    obtain ⟨c1, c2, c3, c4, c5⟩ := ba_cls t h1
    obtain ⟨k1, k2⟩ := ck_i hk
    have he : (wls base G S m)[a]? = some (base + a, .inr (t, oF base S m a t)) := by rw [wls_at k1, cE_o k2 c5]
    exact va_get X.1 X.2.1 (X.tu c3) (fun _ h => h) X.own X.K hW.1 a he h1 k h2 (X.ts _ h3 rfl) (fun _ h => h) (v := .int (gI m a k)) (by rw [oF_at (by rw [c4]; exact h2), hc]; rfl) hd (kk ls hL)
theorem a_getL {t k ix a : Nat} {fin : Bool} (hd : decode (yC Y) pc = .ok (.getfield ix, 3)) (hf : ba_fl (yO Y) ix t k fin) (hc : fc (fY t k) = 1) (hk : ck S a t = true) (h : AW Y (pc + 3) L (aJ (gL m a k) :: st) S m o) : AW Y pc L (aR (some a) :: st) S m o :=
  h.step fun p l e R s mid args below meth c H0 D G base b cells slots Q H locs ls X hW hS hL kk => by
    obtain ⟨C, T, N, h1, h2, h3, -⟩ := hf
    obtain ⟨c1, c2, c3, c4, c5⟩ := ba_cls t h1
    obtain ⟨k1, k2⟩ := ck_i hk
    have he : (wls base G S m)[a]? = some (base + a, .inr (t, oF base S m a t)) := by rw [wls_at k1, cE_o k2 c5]
    exact va_get X.1 X.2.1 (X.tu c3) (fun _ h => h) X.own X.K hW.1 a he h1 k h2 (X.ts _ h3 rfl) (fun _ h => h) (v := .long (gL m a k)) (by rw [oF_at (by rw [c4]; exact h2), hc]; rfl) hd (kk ls hL)
theorem a_getR {t k ix a t2 : Nat} {fin : Bool} {f : Nat → Option ρ} (hd : decode (yC Y) pc = .ok (.getfield ix, 3)) (hf : ba_fl (yO Y) ix t k fin) (hc : fc (fY t k) = 2) (hk : ck S a t = true) (h : ∀ r, ck S r t2 = true → AW Y (pc + 3) L (aR (some r) :: st) S m (f r)) : AW Y pc L (aR (some a) :: st) S m (ldR S a k t2 f) := by
  unfold ldR
  cases hr : gR S a k with
  | none => exact AW.none
  | some r =>
    refine AW.if (fun hck => ?_) (fun _ => AW.none)
    refine (h r hck).step fun p l e R s mid args below meth c H0 D G base b cells slots Q H locs ls X hW hS hL kk => ?_
    obtain ⟨C, T, N, h1, h2, h3, -⟩ := hf
    obtain ⟨c1, c2, c3, c4, c5⟩ := ba_cls t h1
    obtain ⟨k1, k2⟩ := ck_i hk
    have he : (wls base G S m)[a]? = some (base + a, .inr (t, oF base S m a t)) := by rw [wls_at k1, cE_o k2 c5]
    exact va_get X.1 X.2.1 (X.tu c3) (fun _ h => h) X.own X.K hW.1 a he h1 k h2 (X.ts _ h3 rfl) (fun _ h => h) (v := .ref (base + r)) (by rw [oF_at (by rw [c4]; exact h2), hc]; simp [fV, hr, va_rf]) hd (kk ls hL)
/-- an instruction that changes the memory -/
theorem AW.stepM {pc' : Nat} {L' : List (Option ba_A)} {st' : List ba_A} {S' : ba_S} {m' : ba_M} (k : AW Y pc' L' st' S' m' o) (hN : nN S' = nN S) (hT : nS S' = nS S)
    (h : ∀ (p : Program) (l : Launch) (e : Env) (R : Room) (s : State) (mid : MethodId) (args : Array Value) (below : List Frame) (meth : Method) (c : Code) (H0 : Heap) (D : va_G) (G : ba_G) (base b cells slots : Nat) (Q : State → Prop) (H : Heap) (locs : List Loc) (ls : Array Slot),
      CX Y p R s mid args meth c H0 D G base b → Wd D G base S m H → va_S (fun a => base ≤ a) H0 H locs → LH base b (yN Y) ls L →
      (∀ ls' H1 locs1, LH base b (yN Y) ls' L' → Wd D G base S' m' H1 → va_S (fun a => base ≤ a) H0 H1 locs1 → W p l e R s mid args below meth c H1 locs1 cells slots Q (F0 mid pc' ls' (st'.map (cv base b)))) → W p l e R s mid args below meth c H locs cells slots Q (F0 mid pc ls (st.map (cv base b)))) : AW Y pc L st S m o := by
  intro q hq
  obtain ⟨h1, h2⟩ := k q hq
  refine ⟨by rw [← hN, ← hT]; exact h1, ?_⟩
  intro p l e R s mid args below meth c H0 D G base b n0 s0 Q X E H locs ls hW hS hL hn hs
  rw [← hN] at hn ⊢
  rw [← hT] at hs ⊢
  exact h p l e R s mid args below meth c H0 D G base b _ _ Q H locs ls X hW hS hL (fun ls' H1 locs1 hL' hW' hS' => h2 p l e R s mid args below meth c H0 D G base b n0 s0 Q X E H1 locs1 ls' hW' hS' hL' hn hs)
theorem a_putI {t k ix a : Nat} {x : Int32} {ty : FieldType} (hd : decode (yC Y) pc = .ok (.putfield ix, 3)) (hf : ba_fl (yO Y) ix t k false) (hc : fY t k = ty) (hc2 : fc ty = 0) (hnw : narrow ty (.int x) = .int x) (hft : fits ty (.int x) = true) (hk : ck S a t = true) (h : AW Y (pc + 3) L st S (wI m a k x) o) : AW Y pc L (aI x :: aR (some a) :: st) S m o :=
  h.stepM rfl rfl fun p l e R s mid args below meth c H0 D G base b cells slots Q H locs ls X hW hS hL kk => by
    obtain ⟨C, T, N, h1, h2, h3, h4, -⟩ := hf
    obtain ⟨c1, c2, c3, c4, c5⟩ := ba_cls t h1
    obtain ⟨k1, k2⟩ := ck_i hk
    have he : (wls base G S m)[a]? = some (base + a, .inr (t, oF base S m a t)) := by rw [wls_at k1, cE_o k2 c5]
    refine bw_put X.1 X.2.1 (X.tu c3) (fun _ h => h) (fY t) c1 c2 X.own X.K hW.1 wls_D hS a he h1 k h2 (X.ts _ h3 rfl) h4 (ty := ty) (v := .int x) (by rw [c1 k h2, hc]) hnw hft (by rw [oF_len, c4]; exact h2) hd fun H1 locs1 hz hP hS1 => ?_
    refine kk ls H1 locs1 hL ⟨?_, hz.trans hW.2⟩ hS1
    rw [wls_set (S' := S) (m' := wI m a k x) rfl (fun _ => ?_) (fun b hb => ?_)] at hP
    · exact hP
    · rw [cE_o k2 c5, oF_set (S' := S) (m' := wI m a k x) (fun _ => ?_) (fun j hj => ?_)]
      · rw [hc, hc2]; simp [fV, gI_s]
      · exact fV_of (gI_n _ _ _ _ _ _ (by simp [hj])) rfl rfl
    · exact cE_of rfl (fun j => gI_n _ _ _ _ _ _ (by simp [hb])) (fun _ => rfl) (fun _ => rfl)
theorem a_putL {t k ix a : Nat} {x : Int64} (hd : decode (yC Y) pc = .ok (.putfield ix, 3)) (hf : ba_fl (yO Y) ix t k false) (hc : fY t k = .long) (hk : ck S a t = true) (h : AW Y (pc + 3) L st S (wL m a k x) o) : AW Y pc L (aJ x :: aR (some a) :: st) S m o :=
  h.stepM rfl rfl fun p l e R s mid args below meth c H0 D G base b cells slots Q H locs ls X hW hS hL kk => by
    obtain ⟨C, T, N, h1, h2, h3, h4, -⟩ := hf
    obtain ⟨c1, c2, c3, c4, c5⟩ := ba_cls t h1
    obtain ⟨k1, k2⟩ := ck_i hk
    have he : (wls base G S m)[a]? = some (base + a, .inr (t, oF base S m a t)) := by rw [wls_at k1, cE_o k2 c5]
    refine bw_put X.1 X.2.1 (X.tu c3) (fun _ h => h) (fY t) c1 c2 X.own X.K hW.1 wls_D hS a he h1 k h2 (X.ts _ h3 rfl) h4 (ty := .long) (v := .long x) (by rw [c1 k h2, hc]) rfl rfl (by rw [oF_len, c4]; exact h2) hd fun H1 locs1 hz hP hS1 => ?_
    refine kk ls H1 locs1 hL ⟨?_, hz.trans hW.2⟩ hS1
    rw [wls_set (S' := S) (m' := wL m a k x) rfl (fun _ => ?_) (fun b hb => ?_)] at hP
    · exact hP
    · rw [cE_o k2 c5, oF_set (S' := S) (m' := wL m a k x) (fun _ => ?_) (fun j hj => ?_)]
      · rw [hc]; simp [fc, fV, gL, wL]
      · exact fV_of rfl (by simp [gL, wL, hj]) rfl
    · exact cE_of rfl (fun _ => rfl) (fun j => by simp [gL, wL, hb]) (fun _ => rfl)
/-- a reference into a final field, in a constructor -/
theorem a_putR {t k ix a r : Nat} {ty : FieldType} (hi : yI Y = true) (hd : decode (yC Y) pc = .ok (.putfield ix, 3)) (hf : ba_fl (yO Y) ix t k true) (hown : ∃ q : vw_C, vwCl[t]? = some q ∧ (q.2.1 k).1 = yO Y) (hc : fY t k = ty) (hc2 : fc ty = 2) (hnw : ∀ b : Nat, narrow ty (.ref b) = .ref b ∧ fits ty (.ref b) = true) (hk : ck S a t = true) (h : AW Y (pc + 3) L st (wR S a k (some r)) m o) : AW Y pc L (aR (some r) :: aR (some a) :: st) S m o :=
  h.stepM rfl rfl fun p l e R s mid args below meth c H0 D G base b cells slots Q H locs ls X hW hS hL kk => by
    obtain ⟨C, T, N, h1, h2, h3, h4, -⟩ := hf
    obtain ⟨q5, w1, w2⟩ := hown
    have w3 : q5 = (C, T, N) := Option.some.inj (w1.symm.trans h1)
    subst w3
    obtain ⟨c1, c2, c3, c4, c5⟩ := ba_cls t h1
    obtain ⟨k1, k2⟩ := ck_i hk
    have he : (wls base G S m)[a]? = some (base + a, .inr (t, oF base S m a t)) := by rw [wls_at k1, cE_o k2 c5]
    refine bw_putF X.1 X.2.1 (X.tu c3) (fun _ h => h) (fY t) c1 c2 X.own X.K hW.1 wls_D hS a he h1 k h2 (X.ts _ h3 rfl) h4 (X.nm hi) w2 (ty := ty) (v := .ref (base + r)) (by rw [c1 k h2, hc]) (hnw _).1 (hnw _).2 (by rw [oF_len, c4]; exact h2) hd fun H1 locs1 hz hP hS1 => ?_
    refine kk ls H1 locs1 hL ⟨?_, hz.trans hW.2⟩ hS1
    rw [wls_set (S := S) (S' := wR S a k (some r)) (m := m) (m' := m) rfl (fun _ => ?_) (fun b hb => ?_)] at hP
    · exact hP
    · rw [cE_o (show kT (wR S a k (some r)) a = t from k2) c5, oF_set (S' := wR S a k (some r)) (m' := m) (fun _ => ?_) (fun j hj => ?_)]
      · rw [hc, hc2]; simp [fV, gR, wR, va_rf]
      · exact fV_of rfl rfl (by simp [gR, wR, hj])
    · exact cE_of rfl (fun _ => rfl) (fun _ => rfl) (fun j => by simp [gR, wR, hb])
/-- an int into a final field, in a constructor -/
theorem a_putIF {t k ix a : Nat} {x : Int32} (hi : yI Y = true) (hd : decode (yC Y) pc = .ok (.putfield ix, 3)) (hf : ba_fl (yO Y) ix t k true) (hown : ∃ q : vw_C, vwCl[t]? = some q ∧ (q.2.1 k).1 = yO Y) (hc : fY t k = .int) (hk : ck S a t = true) (h : AW Y (pc + 3) L st S (wI m a k x) o) : AW Y pc L (aI x :: aR (some a) :: st) S m o :=
  h.stepM rfl rfl fun p l e R s mid args below meth c H0 D G base b cells slots Q H locs ls X hW hS hL kk => by
    obtain ⟨C, T, N, h1, h2, h3, h4, -⟩ := hf
    obtain ⟨q5, w1, w2⟩ := hown
    have w3 : q5 = (C, T, N) := Option.some.inj (w1.symm.trans h1)
    subst w3
    obtain ⟨c1, c2, c3, c4, c5⟩ := ba_cls t h1
    obtain ⟨k1, k2⟩ := ck_i hk
    have he : (wls base G S m)[a]? = some (base + a, .inr (t, oF base S m a t)) := by rw [wls_at k1, cE_o k2 c5]
    refine bw_putF X.1 X.2.1 (X.tu c3) (fun _ h => h) (fY t) c1 c2 X.own X.K hW.1 wls_D hS a he h1 k h2 (X.ts _ h3 rfl) h4 (X.nm hi) w2 (ty := .int) (v := .int x) (by rw [c1 k h2, hc]) rfl rfl (by rw [oF_len, c4]; exact h2) hd fun H1 locs1 hz hP hS1 => ?_
    refine kk ls H1 locs1 hL ⟨?_, hz.trans hW.2⟩ hS1
    rw [wls_set (S' := S) (m' := wI m a k x) rfl (fun _ => ?_) (fun b hb => ?_)] at hP
    · exact hP
    · rw [cE_o k2 c5, oF_set (S' := S) (m' := wI m a k x) (fun _ => ?_) (fun j hj => ?_)]
      · rw [hc]; simp [fc, fV, gI_s]
      · exact fV_of (gI_n _ _ _ _ _ _ (by simp [hj])) rfl rfl
    · exact cE_of rfl (fun j => gI_n _ _ _ _ _ _ (by simp [hb])) (fun _ => rfl) (fun _ => rfl)
theorem a_iald {a : Nat} {i : Int32} (hd : decode (yC Y) pc = .ok (.iaload, 1)) (hk : ck S a 20 = true) (h : AW Y (pc + 1) L (aI (gI m a i.toNatClampNeg) :: st) S m o) : AW Y pc L (aI i :: aR (some a) :: st) S m (bD S a i o) :=
  AW.if (fun _ => AW.none) fun hin => h.step fun p l e R s mid args below meth c H0 D G base b cells slots Q H locs ls X hW hS hL kk => by
    obtain ⟨k1, k2⟩ := ck_i hk
    exact va_iald X.1 X.2.1 X.K hW.1 a 0 (by rw [wls_at k1, cE_i k2]) (rfl : (tyl G)[0]? = some (G.1, .int)) hin hd (kk ls hL)
theorem a_lald {a : Nat} {i : Int32} (hd : decode (yC Y) pc = .ok (.laload, 1)) (hk : ck S a 21 = true) (h : AW Y (pc + 1) L (aJ (gL m a i.toNatClampNeg) :: st) S m o) : AW Y pc L (aI i :: aR (some a) :: st) S m (bD S a i o) :=
  AW.if (fun _ => AW.none) fun hin => h.step fun p l e R s mid args below meth c H0 D G base b cells slots Q H locs ls X hW hS hL kk => by
    obtain ⟨k1, k2⟩ := ck_i hk
    exact va_lald X.1 X.2.1 X.K hW.1 a 1 (by rw [wls_at k1, cE_l k2]) (rfl : (tyl G)[1]? = some (G.2.1, .long)) hin hd (kk ls hL)
theorem a_pald {a t2 : Nat} {i : Int32} {f : Nat → Option ρ} (hd : decode (yC Y) pc = .ok (.aaload, 1)) (hk : ck S a 22 = true) (h : ∀ r, ck S r t2 = true → AW Y (pc + 1) L (aR (some r) :: st) S m (f r)) : AW Y pc L (aI i :: aR (some a) :: st) S m (bD S a i (ldR S a i.toNatClampNeg t2 f)) :=
  AW.if (fun _ => AW.none) fun hin => by
    unfold ldR
    cases hr : gR S a i.toNatClampNeg with
    | none => exact AW.none
    | some r =>
      refine AW.if (fun hck => ?_) (fun _ => AW.none)
      refine (h r hck).step fun p l e R s mid args below meth c H0 D G base b cells slots Q H locs ls X hW hS hL kk => ?_
      obtain ⟨k1, k2⟩ := ck_i hk
      refine va_aldq X.1 X.2.1 X.K hW.1 a 2 (by rw [wls_at k1, cE_p k2]) (rfl : (tyl G)[2]? = some (G.2.2.1, .object RX2)) hin hd ?_
      rw [hr]
      exact kk ls hL
theorem a_tald {a t2 : Nat} {i : Int32} {f : Nat → Option ρ} (hd : decode (yC Y) pc = .ok (.aaload, 1)) (hk : ck S a 23 = true) (h : ∀ r, ck S r t2 = true → AW Y (pc + 1) L (aR (some r) :: st) S m (f r)) : AW Y pc L (aI i :: aR (some a) :: st) S m (bD S a i (ldR S a i.toNatClampNeg t2 f)) :=
  AW.if (fun _ => AW.none) fun hin => by
    unfold ldR
    cases hr : gR S a i.toNatClampNeg with
    | none => exact AW.none
    | some r =>
      refine AW.if (fun hck => ?_) (fun _ => AW.none)
      refine (h r hck).step fun p l e R s mid args below meth c H0 D G base b cells slots Q H locs ls X hW hS hL kk => ?_
      obtain ⟨k1, k2⟩ := ck_i hk
      refine va_aldq X.1 X.2.1 X.K hW.1 a 3 (by rw [wls_at k1, cE_t k2]) (rfl : (tyl G)[3]? = some (G.2.2.2, .object RX10)) hin hd ?_
      rw [hr]
      exact kk ls hL
theorem a_alen {a T : Nat} (hd : decode (yC Y) pc = .ok (.arraylength, 1)) (hk : ck S a T = true) (hT : T = 20 ∨ T = 21 ∨ T = 22 ∨ T = 23) (h : AW Y (pc + 1) L (aI (Int32.ofNat (kL S a)) :: st) S m o) : AW Y pc L (aR (some a) :: st) S m o :=
  h.step fun p l e R s mid args below meth c H0 D G base b cells slots Q H locs ls X hW hS hL kk => by
    obtain ⟨k1, k2⟩ := ck_i hk
    rcases hT with rfl | rfl | rfl | rfl
    · exact va_alen (x := (kL S a, .inl (fun j => gI m a j))) X.1 X.2.1 X.K hW.1 a 0 (by rw [wls_at k1, cE_i k2]) (rfl : (tyl G)[0]? = some (G.1, .int)) rfl hd (kk ls hL)
    · exact va_alen (x := (kL S a, .inr (.inl (fun j => gL m a j)))) X.1 X.2.1 X.K hW.1 a 1 (by rw [wls_at k1, cE_l k2]) (rfl : (tyl G)[1]? = some (G.2.1, .long)) rfl hd (kk ls hL)
    · exact va_alen (x := (kL S a, .inr (.inr (.inr (.inr (fun j => (gR S a j).map (base + ·))))))) X.1 X.2.1 X.K hW.1 a 2 (by rw [wls_at k1, cE_p k2]) (rfl : (tyl G)[2]? = some (G.2.2.1, .object RX2)) rfl hd (kk ls hL)
    · exact va_alen (x := (kL S a, .inr (.inr (.inr (.inr (fun j => (gR S a j).map (base + ·))))))) X.1 X.2.1 X.K hW.1 a 3 (by rw [wls_at k1, cE_t k2]) (rfl : (tyl G)[3]? = some (G.2.2.2, .object RX10)) rfl hd (kk ls hL)
theorem a_iast {a : Nat} {i x : Int32} (hd : decode (yC Y) pc = .ok (.iastore, 1)) (hk : ck S a 20 = true) (h : AW Y (pc + 1) L st S (wI m a i.toNatClampNeg x) o) : AW Y pc L (aI x :: aI i :: aR (some a) :: st) S m (bD S a i o) :=
  AW.if (fun _ => AW.none) fun hin => h.stepM rfl rfl fun p l e R s mid args below meth c H0 D G base b cells slots Q H locs ls X hW hS hL kk => by
    obtain ⟨k1, k2⟩ := ck_i hk
    refine bw_iast X.1 X.2.1 X.K hW.1 wls_D hS a 0 (by rw [wls_at k1, cE_i k2]) (rfl : (tyl G)[0]? = some (G.1, .int)) hin hd fun H1 locs1 hz hP hS1 => ?_
    refine kk ls H1 locs1 hL ⟨?_, hz.trans hW.2⟩ hS1
    rw [wls_set (S' := S) (m' := wI m a i.toNatClampNeg x) rfl (fun _ => ?_) (fun b hb => ?_)] at hP
    · exact hP
    · rw [cE_i k2]
      congr 4
      funext j
      simp [gI, wI, upd]
    · exact cE_of rfl (fun j => gI_n _ _ _ _ _ _ (by simp [hb])) (fun _ => rfl) (fun _ => rfl)
theorem a_last {a : Nat} {i : Int32} {x : Int64} (hd : decode (yC Y) pc = .ok (.lastore, 1)) (hk : ck S a 21 = true) (h : AW Y (pc + 1) L st S (wL m a i.toNatClampNeg x) o) : AW Y pc L (aJ x :: aI i :: aR (some a) :: st) S m (bD S a i o) :=
  AW.if (fun _ => AW.none) fun hin => h.stepM rfl rfl fun p l e R s mid args below meth c H0 D G base b cells slots Q H locs ls X hW hS hL kk => by
    obtain ⟨k1, k2⟩ := ck_i hk
    refine bw_last X.1 X.2.1 X.K hW.1 wls_D hS a 1 (by rw [wls_at k1, cE_l k2]) (rfl : (tyl G)[1]? = some (G.2.1, .long)) hin hd fun H1 locs1 hz hP hS1 => ?_
    refine kk ls H1 locs1 hL ⟨?_, hz.trans hW.2⟩ hS1
    rw [wls_set (S' := S) (m' := wL m a i.toNatClampNeg x) rfl (fun _ => ?_) (fun b hb => ?_)] at hP
    · exact hP
    · rw [cE_l k2]
      congr 5
      funext j
      simp [gL, wL, vp_updL]
    · exact cE_of rfl (fun _ => rfl) (fun j => by simp [gL, wL, hb]) (fun _ => rfl)
/-- the law's script -/
theorem a_slen {N : Nat} {xs : Nat → Int32} (hX : yX Y = some (N, xs)) (hd : decode (yC Y) pc = .ok (.arraylength, 1)) (h : AW Y (pc + 1) L (aI (Int32.ofNat N) :: st) S m o) : AW Y pc L (aX :: st) S m o :=
  h.step fun p l e R s mid args below meth c H0 D G base b cells slots Q H locs ls X hW hS hL kk => by
    obtain ⟨x1, x2, x3⟩ := X.sc hX
    exact va_slen X.1 X.2.1 x1 x2 (Nat.not_le.mpr x3) hS hd (kk ls hL)
def sD {β : Type} (N : Nat) (i : Int32) (r : Option β) : Option β := if i < 0 ∨ N ≤ i.toNatClampNeg then none else r
theorem a_sld {N : Nat} {xs : Nat → Int32} {i : Int32} (hX : yX Y = some (N, xs)) (hd : decode (yC Y) pc = .ok (.iaload, 1)) (h : AW Y (pc + 1) L (aI (xs i.toNatClampNeg) :: st) S m o) : AW Y pc L (aI i :: aX :: st) S m (sD N i o) :=
  AW.if (fun _ => AW.none) fun hin => h.step fun p l e R s mid args below meth c H0 D G base b cells slots Q H locs ls X hW hS hL kk => by
    obtain ⟨x1, x2, x3⟩ := X.sc hX
    exact va_sld X.1 X.2.1 x1 x2 (Nat.not_le.mpr x3) hS hin hd (kk ls hL)
theorem a_ldc2 {ix : Nat} {x : Int64} (hd : decode (yC Y) pc = .ok (.ldc2_w ix, 3)) (hc : Cond.constantLong (yO Y) ix x ∈ lw_tbl) (h : AW Y (pc + 3) L (aJ x :: st) S m o) : AW Y pc L st S m o :=
  h.step fun p l e R s mid args below meth c H0 D G base b cells slots Q H locs ls X hW hS hL kk => lv_ldc2 X.1 X.2.1 X.own (X.ts _ hc rfl) hd (kk ls hL)
end AWM
