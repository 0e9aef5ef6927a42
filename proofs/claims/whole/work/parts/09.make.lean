/-! making objects and arrays -/
section AWN
variable {ρ : Type} {Y : ba_Y ρ} {pc : Nat} {L : List (Option ba_A)} {st : List ba_A} {S : ba_S} {m : ba_M} {o : Option ρ}
theorem AW.stepN {pc' : Nat} {st' : List ba_A} {t len N : Nat} (k : AW Y pc' L st' (pS S t len N) (pM (nN S) m) o)
    (h : ∀ (p : Program) (l : Launch) (e : Env) (R : Room) (s : State) (mid : MethodId) (args : Array Value) (below : List Frame) (meth : Method) (c : Code) (H0 : Heap) (D : va_G) (G : ba_G) (base b cells slots : Nat) (Q : State → Prop) (H : Heap) (locs : List Loc) (ls : Array Slot),
      CX Y p R s mid args meth c H0 D G base b → Wd D G base S m H → va_S (fun a => base ≤ a) H0 H locs → cells + 1 ≤ R.cells → slots + N ≤ R.slots →
      (∀ H1, H1.size = H.size + 1 → va_P D vwCl (wls base G (pS S t len N) (pM (nN S) m)) H1 → va_S (fun a => base ≤ a) H0 H1 locs → W p l e R s mid args below meth c H1 locs (cells + 1) (slots + N) Q (F0 mid pc' ls (st'.map (cv base b)))) → W p l e R s mid args below meth c H locs cells slots Q (F0 mid pc ls (st.map (cv base b)))) : AW Y pc L st S m o := by
  intro q hq
  obtain ⟨⟨h1, h1'⟩, h2⟩ := k q hq
  have e1 : nN (pS S t len N) = nN S + 1 := rfl
  have e2 : nS (pS S t len N) = nS S + N := rfl
  rw [e1] at h1
  rw [e2] at h1'
  refine ⟨⟨by omega, by omega⟩, ?_⟩
  intro p l e R s mid args below meth c H0 D G base b n0 s0 Q X E H locs ls hW hS hL hn hs
  have c1 := E.1
  have c2 := E.2.1
  refine h p l e R s mid args below meth c H0 D G base b _ _ Q H locs ls X hW hS (by omega) (by omega) fun H1 hz hP hS1 => ?_
  have := h2 p l e R s mid args below meth c H0 D G base b n0 s0 Q X E H1 locs ls ⟨hP, by rw [hz, hW.2, e1]; omega⟩ hS1 hL (by omega) (by omega)
  rw [e1, e2, show nN S + 1 - n0 = nN S - n0 + 1 by omega, show nS S + N - s0 = nS S - s0 + N by omega] at this
  exact this
theorem fY_ok : ∀ t, t < 12 → ∀ k, k < nF t → fY t k ≠ .float ∧ fY t k ≠ .double := by decide +kernel
def ba_nw (own : String) (ix t : Nat) : Prop := ∃ (C : String) (T : u_T) (N : Nat), vwCl[t]? = some (C, T, N) ∧ Cond.classLink own ix C ∈ lw_tbl ∧ Cond.instantiable C N ∈ lw_tbl ∧ Cond.initialized C ∈ lw_tbl
theorem a_new {ix t : Nat} (hd : decode (yC Y) pc = .ok (.new ix, 3)) (hf : ba_nw (yO Y) ix t) (k : AW Y (pc + 3) L (aR (some (nN S)) :: st) (pS S t 0 (nF t)) (pM (nN S) m) o) : AW Y pc L st S m o :=
  k.stepN fun p l e R s mid args below meth c H0 D G base b cells slots Q H locs ls X hW hS hcl hsl kk => by
    obtain ⟨C, T, N, h1, h2, h3, h4⟩ := hf
    obtain ⟨c1, c2, c3, c4, c5⟩ := ba_cls t h1
    have ek : kT (pS S t 0 (nF t)) (nN S) = t := by simp [kT, pS]
    refine bw_new X.1 X.2.1 (X.tu c3) (fun _ h => h) (fY t) c1 X.own (X.ts _ h2 rfl) (X.ts _ h3 rfl) (X.ts _ h4 rfl) X.K hW.1 hS h1 (fs := oF base (pS S t 0 (nF t)) (pM (nN S) m) (nN S) t) (fun j hj => ?_) hcl (by rw [← c4]; exact hsl) hd fun H1 hz hP hS1 => ?_
    · have hj' : j < nF t := by rw [c4]; exact hj
      unfold vp_V
      rw [List.getD_eq_getElem?_getD, oF_at hj']
      have hfd := fY_ok t c5 j hj'
      cases hty : fY t j <;> first | exact absurd hty hfd.1 | exact absurd hty hfd.2 | simp [defaultValue, fc, fV, gI, gL, gR, pM, pS, va_rf]
    · rw [hW.2] at hP ⊢
      rw [wls_push (t := t) (len := 0) (N := nF t) (cE_o ek c5)] at hP
      have := kk H1 (by rw [hz]) hP hS1
      rw [← c4]
      exact this
theorem iAI : Cond.arrayClass .int ∈ lw_tbl := by decide +kernel
theorem iAL : Cond.arrayClass .long ∈ lw_tbl := by decide +kernel
theorem a_newI {n : Int32} (hd : decode (yC Y) pc = .ok (.newarray .int, 2)) (k : AW Y (pc + 2) L (aR (some (nN S)) :: st) (pS S 20 n.toNatClampNeg n.toNatClampNeg) (pM (nN S) m) o) : AW Y pc L (aI n :: st) S m (nA n o) :=
  AW.if (fun _ => AW.none) fun hn => k.stepN fun p l e R s mid args below meth c H0 D G base b cells slots Q H locs ls X hW hS hcl hsl kk => by
    have hG := (X.K.2 0 _ (rfl : (tyl G)[0]? = some (G.1, .int))).2
    have ek : kT (pS S 20 n.toNatClampNeg n.toNatClampNeg) (nN S) = 20 := by simp [kT, pS]
    refine bw_newa (atype := .int) (a0 := (n.toNatClampNeg, .inl (fun _ => 0))) X.1 X.2.1 (X.ts _ iAI rfl) rfl hW.1 hS hG rfl (fun h => hn (Or.inl h)) rfl (by have : ¬ 100000 < n.toNatClampNeg := fun h => hn (Or.inr h); show n.toNatClampNeg * 4 ≤ _; omega) hcl hsl hd fun H1 hz hP hS1 => ?_
    rw [hW.2] at hP ⊢
    rw [wls_push (t := 20) (len := n.toNatClampNeg) (N := n.toNatClampNeg) (by rw [cE_i ek]; simp [kL, pS, gI, pM])] at hP
    exact kk H1 hz hP hS1
theorem a_newL {n : Int32} (hd : decode (yC Y) pc = .ok (.newarray .long, 2)) (k : AW Y (pc + 2) L (aR (some (nN S)) :: st) (pS S 21 n.toNatClampNeg n.toNatClampNeg) (pM (nN S) m) o) : AW Y pc L (aI n :: st) S m (nA n o) :=
  AW.if (fun _ => AW.none) fun hn => k.stepN fun p l e R s mid args below meth c H0 D G base b cells slots Q H locs ls X hW hS hcl hsl kk => by
    have hG := (X.K.2 1 _ (rfl : (tyl G)[1]? = some (G.2.1, .long))).2
    have ek : kT (pS S 21 n.toNatClampNeg n.toNatClampNeg) (nN S) = 21 := by simp [kT, pS]
    refine bw_newa (atype := .long) (a0 := (n.toNatClampNeg, .inr (.inl (fun _ => 0)))) X.1 X.2.1 (X.ts _ iAL rfl) rfl hW.1 hS hG rfl (fun h => hn (Or.inl h)) rfl (by have : ¬ 100000 < n.toNatClampNeg := fun h => hn (Or.inr h); show n.toNatClampNeg * 8 ≤ _; omega) hcl hsl hd fun H1 hz hP hS1 => ?_
    rw [hW.2] at hP ⊢
    rw [wls_push (t := 21) (len := n.toNatClampNeg) (N := n.toNatClampNeg) (by rw [cE_l ek]; simp [kL, pS, gL, pM])] at hP
    exact kk H1 hz hP hS1
theorem a_newP {n : Int32} {ix : Nat} (hd : decode (yC Y) pc = .ok (.anewarray ix, 3)) (hf : Cond.classLink (yO Y) ix RX2 ∈ lw_tbl) (k : AW Y (pc + 3) L (aR (some (nN S)) :: st) (pS S 22 n.toNatClampNeg n.toNatClampNeg) (pM (nN S) m) o) : AW Y pc L (aI n :: st) S m (nA n o) :=
  AW.if (fun _ => AW.none) fun hn => k.stepN fun p l e R s mid args below meth c H0 D G base b cells slots Q H locs ls X hW hS hcl hsl kk => by
    obtain ⟨kA, comp, g1, g2, g3, hG⟩ := (X.K.2 2 _ (rfl : (tyl G)[2]? = some (G.2.2.1, .object RX2))).2
    have ek : kT (pS S 22 n.toNatClampNeg n.toNatClampNeg) (nN S) = 22 := by simp [kT, pS]
    refine bw_newq X.1 X.2.1 X.own (X.ts _ hf rfl) (va_AO.use X.TB.2.1) hW.1 hS hG (fun h => hn (Or.inl h)) rfl (by have : ¬ 100000 < n.toNatClampNeg := fun h => hn (Or.inr h); omega) hcl hsl hd fun H1 hz hP hS1 => ?_
    rw [hW.2] at hP ⊢
    rw [wls_push (t := 22) (len := n.toNatClampNeg) (N := n.toNatClampNeg) (by rw [cE_p ek]; simp [kL, pS, gR])] at hP
    exact kk H1 hz hP hS1
theorem a_newT {n : Int32} {ix : Nat} (hd : decode (yC Y) pc = .ok (.anewarray ix, 3)) (hf : Cond.classLink (yO Y) ix RX10 ∈ lw_tbl) (k : AW Y (pc + 3) L (aR (some (nN S)) :: st) (pS S 23 n.toNatClampNeg n.toNatClampNeg) (pM (nN S) m) o) : AW Y pc L (aI n :: st) S m (nA n o) :=
  AW.if (fun _ => AW.none) fun hn => k.stepN fun p l e R s mid args below meth c H0 D G base b cells slots Q H locs ls X hW hS hcl hsl kk => by
    obtain ⟨kA, comp, g1, g2, g3, hG⟩ := (X.K.2 3 _ (rfl : (tyl G)[3]? = some (G.2.2.2, .object RX10))).2
    have ek : kT (pS S 23 n.toNatClampNeg n.toNatClampNeg) (nN S) = 23 := by simp [kT, pS]
    refine bw_newq X.1 X.2.1 X.own (X.ts _ hf rfl) (va_AO.use X.TB.2.2) hW.1 hS hG (fun h => hn (Or.inl h)) rfl (by have : ¬ 100000 < n.toNatClampNeg := fun h => hn (Or.inr h); omega) hcl hsl hd fun H1 hz hP hS1 => ?_
    rw [hW.2] at hP ⊢
    rw [wls_push (t := 23) (len := n.toNatClampNeg) (N := n.toNatClampNeg) (by rw [cE_t ek]; simp [kL, pS, gR])] at hP
    exact kk H1 hz hP hS1
theorem a_past {a v : Nat} {i : Int32} (hd : decode (yC Y) pc = .ok (.aastore, 1)) (hk : ck S a 22 = true) (hv : ck S v 2 = true) (h : AW Y (pc + 1) L st (wR S a i.toNatClampNeg (some v)) m o) : AW Y pc L (aR (some v) :: aI i :: aR (some a) :: st) S m (bD S a i o) :=
  AW.if (fun _ => AW.none) fun hin => h.stepM rfl rfl fun p l e R s mid args below meth c H0 D G base b cells slots Q H locs ls X hW hS hL kk => by
    obtain ⟨k1, k2⟩ := ck_i hk
    obtain ⟨v1, v2⟩ := ck_i hv
    refine bw_astq X.1 X.2.1 X.K hW.1 wls_D hS a 2 v 2 (by rw [wls_at k1, cE_p k2]) (rfl : (tyl G)[2]? = some (G.2.2.1, .object RX2)) (by rw [wls_at v1, cE_o v2 (by decide)]) (r := (RX2, TX2, 6)) rfl hin hd fun H1 locs1 hz hP hS1 => ?_
    refine kk ls H1 locs1 hL ⟨?_, hz.trans hW.2⟩ hS1
    rw [wls_set (S := S) (S' := wR S a i.toNatClampNeg (some v)) (m := m) (m' := m) rfl (fun _ => ?_) (fun b hb => ?_)] at hP
    · exact hP
    · rw [cE_p (show kT (wR S a i.toNatClampNeg (some v)) a = 22 from k2)]
      refine congrArg (fun f => (Sum.inl (G.2.2.1, kL S a, .inr (.inr (.inr (.inr f)))) : va_E)) (funext fun j => ?_)
      by_cases hj : j = i.toNatClampNeg
      · subst hj; simp [gR, wR, va_up]
      · simp [gR, wR, va_up, hj]
    · exact cE_of rfl (fun _ => rfl) (fun _ => rfl) (fun j => by simp [gR, wR, hb])
theorem a_tast {a v : Nat} {i : Int32} (hd : decode (yC Y) pc = .ok (.aastore, 1)) (hk : ck S a 23 = true) (hv : ck S v 9 = true) (h : AW Y (pc + 1) L st (wR S a i.toNatClampNeg (some v)) m o) : AW Y pc L (aR (some v) :: aI i :: aR (some a) :: st) S m (bD S a i o) :=
  AW.if (fun _ => AW.none) fun hin => h.stepM rfl rfl fun p l e R s mid args below meth c H0 D G base b cells slots Q H locs ls X hW hS hL kk => by
    obtain ⟨k1, k2⟩ := ck_i hk
    obtain ⟨v1, v2⟩ := ck_i hv
    refine bw_astq X.1 X.2.1 X.K hW.1 wls_D hS a 3 v 9 (by rw [wls_at k1, cE_t k2]) (rfl : (tyl G)[3]? = some (G.2.2.2, .object RX10)) (by rw [wls_at v1, cE_o v2 (by decide)]) (r := (RX10, TX10, 4)) rfl hin hd fun H1 locs1 hz hP hS1 => ?_
    refine kk ls H1 locs1 hL ⟨?_, hz.trans hW.2⟩ hS1
    rw [wls_set (S := S) (S' := wR S a i.toNatClampNeg (some v)) (m := m) (m' := m) rfl (fun _ => ?_) (fun b hb => ?_)] at hP
    · exact hP
    · rw [cE_t (show kT (wR S a i.toNatClampNeg (some v)) a = 23 from k2)]
      refine congrArg (fun f => (Sum.inl (G.2.2.2, kL S a, .inr (.inr (.inr (.inr f)))) : va_E)) (funext fun j => ?_)
      by_cases hj : j = i.toNatClampNeg
      · subst hj; simp [gR, wR, va_up]
      · simp [gR, wR, va_up, hj]
    · exact cE_of rfl (fun _ => rfl) (fun _ => rfl) (fun j => by simp [gR, wR, hb])
/-- Object's constructor -/
theorem iOI : Cond.instanceMethod Lib.objectInit ∈ lw_tbl := by decide +kernel
theorem iOC : Cond.code Lib.objectInit ⟨#[0xb1]⟩ 1 none ∈ lw_tbl := by decide +kernel
theorem a_obj {ix a : Nat} (hd : decode (yC Y) pc = .ok (.invokespecial ix, 3)) (hl : Cond.methodLink (yO Y) ix Lib.objectInit ∈ lw_tbl) (hF : decide (1 ≤ yF Y) = true) (hLc : decide (20 ≤ yL Y) = true) (hst : decide ((st.map ac).sum ≤ 8) = true) (k : AW Y (pc + 3) L st S m o) : AW Y pc L (aR (some a) :: st) S m o :=
  k.step fun p l e R s mid args below meth c H0 D G base b cells slots Q H locs ls X hW hS hL kk => by
    have f1 := X.F
    have f2 := of_decide_eq_true hF
    have f3 := of_decide_eq_true hLc
    have f4 := of_decide_eq_true hst
    exact W.objInit X.1 X.2.1 X.own (X.ts _ hl rfl) (X.ts _ iOI rfl) (X.ts _ iOC rfl) rfl (by rw [X.2.2.1]; exact hL.1) rfl hd (Nat.le_trans f2 f1.1) (by show 2 * 0 + _ + 12 ≤ _; rw [cv_sum]; omega) (kk ls hL)
end AWN
