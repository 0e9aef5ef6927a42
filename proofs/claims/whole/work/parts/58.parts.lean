/-! the reference's parts -/
theorem sub4 {v : Nat} (hv : v < 2 ^ 31) : nI v - nI v / nI 4 * nI 4 = nI (v % 4) ∧ nI v / nI 4 = nI (v / 4) := by
  have h1 : nI v / nI 4 = nI (v / 4) := pk_div hv (by omega) (by omega)
  refine ⟨?_, h1⟩
  rw [h1, pk_mul, pk_sub (by omega)]
  exact congrArg nI (by omega)
theorem sp_leftL : ∀ (r a v N : Nat) (m : ba_M), v < 4 ^ r → v < 2 ^ 31 → dsm r v ≤ a → a < 2 ^ 30 → r < N → fx (fun _ _ _ => none) (b_Mo_left_11 SF) N (nI a) (nI v) m = some (nI (a - dsm r v), m) := by
  intro r
  induction r with
  | zero =>
    intro a v N m hv hv2 ha ha2 hN
    obtain ⟨N, rfl⟩ : ∃ z, N = z + 1 := ⟨N - 1, by omega⟩
    obtain rfl : v = 0 := by have : v < 1 := hv; omega
    rw [fx_s]
    generalize fx (fun _ _ _ => none) (b_Mo_left_11 SF) N = K
    unfold b_Mo_left_11
    rw [z0, if_pos (by rw [nI_leI (by omega) (by omega)]; omega)]
    rfl
  | succ r ih =>
    intro a v N m hv hv2 ha ha2 hN
    obtain ⟨N, rfl⟩ : ∃ z, N = z + 1 := ⟨N - 1, by omega⟩
    have hd : dsm (r + 1) v = v % 4 + dsm r (v / 4) := rfl
    rw [hd] at ha
    have h := ih (a - v % 4) (v / 4) N m (by rw [Nat.pow_succ] at hv; omega) (by omega) (by omega) (by omega) (by omega)
    rw [fx_s]
    generalize fx (fun _ _ _ => none) (b_Mo_left_11 SF) N = K at h ⊢
    by_cases h0 : v = 0
    · subst h0
      have hz : ∀ r, dsm r 0 = 0 := by
        intro r
        induction r with
        | zero => rfl
        | succ r ih => unfold dsm; rw [Nat.zero_div, ih]
      unfold b_Mo_left_11
      rw [z0, if_pos (by rw [nI_leI (by omega) (by omega)]; omega), hz, Nat.sub_zero]
    · obtain ⟨e1, e2⟩ := sub4 hv2
      have h4 : ¬ nI 4 = nI 0 := by rw [nI_eq (by omega) (by omega)]; omega
      unfold b_Mo_left_11
      rw [z0, if_neg (by rw [nI_leI (by omega) (by omega)]; omega), if_neg h4, if_neg h4, e1, e2, pk_sub (by omega), h, hd]
      congr 3
      omega
theorem sp_left {m : ba_M} {c n d x : Nat} {P T : ba_T} (hG : GM m c n d P T) (hc : 2 ≤ c ∧ c ≤ 5) (hx : x < 4 ^ c) : f_Mo_left SF 102 (nI x) m = some (nI (Lf c x), m) := by
  have hx4 : 4 ^ c ≤ 1024 := by rcases p4c hc with h | h | h | h <;> omega
  have h1 := dsm_le hc hx
  have h := sp_leftL 5 (3 * c + 1) x FU m (by show x < 1024; omega) (by omega) (by omega) (by omega) (by unfold FU; omega)
  have h : f_Mo_left_11 SF (nI (3 * c + 1)) (nI x) m = some (nI (Lf c x), m) := h
  unfold f_Mo_left
  rw [cK_102, hG.1, pk_mul, nI_add, h]
theorem sh_r {x p : Nat} (hx : x < 1024) (hp : p < 5) : (nI x >>> ((nI 2 * nI p) &&& 31) &&& nI 3) = nI (dg x p) := by
  unfold dg
  match p, hp with
  | 0, _ => rw [show (nI 2 * nI 0) &&& 31 = nI 0 from by decide, show nI x >>> nI 0 = nI (x / 2 ^ 0) from pk_shrN (by omega) _ 0 (by decide), show nI 3 = nI (2 ^ 2 - 1) from rfl, pk_andN (by omega) 2 (by decide)]
  | 1, _ => rw [show (nI 2 * nI 1) &&& 31 = nI 2 from by decide, show nI x >>> nI 2 = nI (x / 2 ^ 2) from pk_shrN (by omega) _ 2 (by decide), show nI 3 = nI (2 ^ 2 - 1) from rfl, pk_andN (by omega) 2 (by decide)]
  | 2, _ => rw [show (nI 2 * nI 2) &&& 31 = nI 4 from by decide, show nI x >>> nI 4 = nI (x / 2 ^ 4) from pk_shrN (by omega) _ 4 (by decide), show nI 3 = nI (2 ^ 2 - 1) from rfl, pk_andN (by omega) 2 (by decide)]
  | 3, _ => rw [show (nI 2 * nI 3) &&& 31 = nI 6 from by decide, show nI x >>> nI 6 = nI (x / 2 ^ 6) from pk_shrN (by omega) _ 6 (by decide), show nI 3 = nI (2 ^ 2 - 1) from rfl, pk_andN (by omega) 2 (by decide)]
  | 4, _ => rw [show (nI 2 * nI 4) &&& 31 = nI 8 from by decide, show nI x >>> nI 8 = nI (x / 2 ^ 8) from pk_shrN (by omega) _ 8 (by decide), show nI 3 = nI (2 ^ 2 - 1) from rfl, pk_andN (by omega) 2 (by decide)]
theorem sh_l {p : Nat} (hp : p < 6) : (nI 1 <<< ((nI 2 * nI p) &&& 31)) = nI (4 ^ p) := by
  match p, hp with
  | 0, _ => decide
  | 1, _ => decide
  | 2, _ => decide
  | 3, _ => decide
  | 4, _ => decide
  | 5, _ => decide
def kI (k : Nat) : Int32 := if k = 5 then -4 else nI k
theorem kI_eq {k p : Nat} (hk : k ≤ 5) (hp : p < 5) : (kI k = nI p) ↔ k = p := by
  unfold kI
  by_cases h : k = 5
  · rw [if_pos h]
    exact ⟨fun e => absurd e.symm (nI_nneg (by omega) _ (by decide)), fun e => by omega⟩
  · rw [if_neg h]
    exact nI_eq (by omega) (by omega)
theorem kI_n {k : Nat} (hk : k ≤ 5) : (kI k = -4) ↔ k = 5 := by
  unfold kI
  by_cases h : k = 5
  · rw [if_pos h]; exact ⟨fun _ => h, fun _ => rfl⟩
  · rw [if_neg h]; exact ⟨fun e => absurd e (nI_nneg (by omega) _ (by decide)), fun e => absurd e h⟩
/-- the parts are so from the flat place a on -/
def PQ (m : ba_M) (c k : Nat) (ca tg ch : Nat → Nat) (x : Nat) : Prop := ∀ y i, x ≤ y → y < 4 ^ c → i < c → gL m 115 (5 * y + i) = lN (VV c k ca tg ch y i)
theorem sp_then {m : ba_M} {c n d x p k : Nat} {P T : ba_T} {ca tg ch : Nat → Nat} (hG : GM m c n d P T) (hP : PW m) (hc : 2 ≤ c ∧ c ≤ 5) (hx : x < 4 ^ c) (hp : p < c) (hk : k ≤ 5) (hA : PQ m c k ca tg ch (x + 1)) : f_Mo_then SF 102 (nI x) (nI p) (kI k) m = some (lN (TH c k ca tg ch x p), m) := by
  have hx4 : 4 ^ c ≤ 1024 := by rcases p4c hc with h | h | h | h <;> omega
  obtain ⟨l1, l2⟩ := Lf_in hc hx
  have hd := dg_lt x p
  unfold f_Mo_then f_Mo_then_16 f_Mo_then_44 TH
  rw [cK_102, sh_r (by omega) (by omega)]
  by_cases h3 : dg x p = 3
  · rw [if_pos (congrArg nI h3), if_pos rfl, if_pos h3]
    by_cases hkp : k = p
    · rw [if_pos ((kI_eq hk (by omega)).mpr hkp), if_pos hkp, ld_102_20, sp_left hG hc hx, obS]
      dsimp only
      rw [pk_sub (by omega), bd_114 (show Lf c x - 1 < 18 by omega), nI_clamp (by omega), hP _ (by omega)]
    · rw [if_neg (fun e => hkp ((kI_eq hk (by omega)).mp e)), if_neg hkp]
  · have h4 : dg x p < 3 := by omega
    have h5 := up_lt hc hx hp h4
    have h6 : 1 ≤ 4 ^ p := Nat.pow_pos (by omega)
    rw [if_neg (fun e => h3 (nI_inj (by omega) (by omega) e)), if_neg Bool.false_ne_true, if_neg h3, ld_102_21, sh_l (by omega), nI_add, pk_mul, nI_add, bd_115 (show 5 * (x + 4 ^ p) + p < 5120 by omega), nI_clamp (by omega), hA _ _ (by omega) h5 hp]
def TBm (m : ba_M) (c n d : Nat) (P T : ba_T) (i : Nat) : Prop := ∀ k, k < i → gI m 116 k = nI (tgG c n d P T k) ∧ gI m 117 k = nI (chG c n d P T k)
def oPm : Nat → Nat → Prop := fun o k => oMo o k ∨ o = 115 ∨ o = 116 ∨ o = 117
def oP5 : Nat → Nat → Prop := fun o _ => o = 115
theorem PQ.fr {m m' : ba_M} {c k x : Nat} {ca tg ch : Nat → Nat} (h : PQ m c k ca tg ch x) {O : Nat → Nat → Prop} (hF : Fr O m m') (hO : ∀ o j, O o j → o ≠ 115) : PQ m' c k ca tg ch x := fun y i h1 h2 h3 => (hF.2 _ _ (fun q => hO _ _ q rfl)).trans (h y i h1 h2 h3)
theorem sp_91 {m : ba_M} {c n d x i k s0 : Nat} {P T : ba_T} (hG : GM m c n d P T) (hok : okG c n d P T) (hP : PW m) (hx : x < 4 ^ c) (hi : i < c) (hk : k ≤ 5) (hA : PQ m c k (fun i => T i 0) (tgG c n d P T) (chG c n d P T) (x + 1)) (hB : TBm m c n d P T c) (K57 : Nat → Int32 → Int32 → ba_M → Option (ba_M)) (K63 : Nat → Int32 → Int32 → Int32 → ba_M → Option (ba_M)) :
    f_Mo_findParts_91 SF K57 K63 102 (kI k) (nI x) (nI i) (lN s0) m = K63 102 (kI k) (nI x) (nI (i + 1)) (wL m 115 (5 * x + i) (lN (s0 + chG c n d P T i * TH c k (fun i => T i 0) (tgG c n d P T) (chG c n d P T) x (tgG c n d P T i) + (10 - chG c n d P T i) * TH c k (fun i => T i 0) (tgG c n d P T) (chG c n d P T) x (T i 0)))) := by
  obtain ⟨⟨o1, o2, o3, o4, o5⟩, o6, o7⟩ := id hok
  have hx4 : 4 ^ c ≤ 1024 := by rcases p4c ⟨o1, o2⟩ with h | h | h | h <;> omega
  obtain ⟨g1, g2, g3, g4⟩ := tgG_in hok hi
  have hca := (o7 i hi).1
  obtain ⟨b1, b2⟩ := hB i hi
  have h0 := (hG.2.2.2.2 i hi).1
  have t1 := sp_then hG hP ⟨o1, o2⟩ hx g2 hk hA
  have t2 := sp_then hG hP ⟨o1, o2⟩ hx hca hk hA
  unfold f_Mo_findParts_91
  rw [ld_102_23, bd_117 (show i < 5 by omega), ld_102_22, bd_116 (show i < 5 by omega), nI_clamp (show i < 2 ^ 31 by omega), b1, t1, obS, ld_102_23, bd_117 (show i < 5 by omega), ld_102_4, bd_104 (show i < 20 by omega)]
  dsimp only
  rw [h0, t2, obS, ld_102_21, pk_mul, nI_add, bd_115 (show 5 * x + i < 5120 by omega), nI_clamp (show 5 * x + i < 2 ^ 31 by omega), b2, nI_add, pk_sub (by omega), nI_l (show chG c n d P T i < 2 ^ 31 by omega), nI_l (show 10 - chG c n d P T i < 2 ^ 31 by omega), lN_mul, lN_mul, lN_add, lN_add]
theorem sp_63 {c n d x k : Nat} {P T : ba_T} (hok : okG c n d P T) (hx : x < 4 ^ c) (hk : k ≤ 5) (K57 : Nat → Int32 → Int32 → ba_M → Option (ba_M)) : ∀ (r i N : Nat) (m : ba_M), c - i = r → i ≤ c → r < N → GM m c n d P T → PW m → TBm m c n d P T c → PQ m c k (fun i => T i 0) (tgG c n d P T) (chG c n d P T) (x + 1) → (∀ j, j < i → gL m 115 (5 * x + j) = lN (VV c k (fun i => T i 0) (tgG c n d P T) (chG c n d P T) x j)) →
    ∃ m', fx (fun _ _ _ _ _ => none) (b_Mo_findParts_63 SF K57) N 102 (kI k) (nI x) (nI i) m = K57 102 (kI k) (nI x + (-1)) m' ∧ Fr oP5 m m' ∧ PQ m' c k (fun i => T i 0) (tgG c n d P T) (chG c n d P T) x := by
  obtain ⟨⟨o1, o2, o3, o4, o5⟩, o6, o7⟩ := id hok
  intro r
  induction r with
  | zero =>
    intro i N m hr hi hN hG hP hB hA hR
    obtain ⟨N, rfl⟩ : ∃ z, N = z + 1 := ⟨N - 1, by omega⟩
    obtain rfl : i = c := by omega
    refine ⟨m, ?_, Fr.rf, fun y j h1 h2 h3 => ?_⟩
    · rw [fx_s]
      generalize fx (fun _ _ _ _ _ => none) (b_Mo_findParts_63 SF K57) N = K
      unfold b_Mo_findParts_63
      rw [hG.1, if_pos (by rw [nI_leI (by omega) (by omega)]; omega)]
    · by_cases e : y = x
      · subst e; exact hR j h3
      · exact hA y j (by omega) h2 h3
  | succ r ih =>
    intro i N m hr hi hN hG hP hB hA hR
    obtain ⟨N, rfl⟩ : ∃ z, N = z + 1 := ⟨N - 1, by omega⟩
    have hic : i < c := by omega
    obtain ⟨l1, l2⟩ := Lf_in ⟨o1, o2⟩ hx
    obtain ⟨g1, g2, g3, g4⟩ := tgG_in hok hic
    have hca := (o7 i hic).1
    have hV := VV_eq (k := k) (ca := fun i => T i 0) (tg := tgG c n d P T) (ch := chG c n d P T) ⟨o1, o2⟩ (i := i) hx g2 hca
    have hF : Fr oP5 m (wL m 115 (5 * x + i) (lN (VV c k (fun i => T i 0) (tgG c n d P T) (chG c n d P T) x i))) := Fr.rf.wl (by rfl)
    obtain ⟨m', u1, u2, u3⟩ := ih (i + 1) N (wL m 115 (5 * x + i) (lN (VV c k (fun i => T i 0) (tgG c n d P T) (chG c n d P T) x i))) (by omega) (by omega) (by omega) (hG.fr o2 hF (by intro o j ho; unfold oP5 at ho; omega)) (hP.frO hF (by intro o j ho; unfold oP5 at ho; omega)) (fun j hj => hB j hj) (fun y j h1 h2 h3 => (gL_n _ _ _ _ _ _ (by omega)).trans (hA y j h1 h2 h3)) (fun j hj => by
      by_cases e : j = i
      · subst e; exact gL_s _ _ _ _
      · rw [gL_n _ _ _ _ _ _ (by omega)]; exact hR j (by omega))
    refine ⟨m', ?_, hF.tr u2, u3⟩
    rw [fx_s]
    generalize fx (fun _ _ _ _ _ => none) (b_Mo_findParts_63 SF K57) N = K at u1 ⊢
    unfold b_Mo_findParts_63
    rw [hG.1, if_neg (by rw [nI_leI (by omega) (by omega)]; omega)]
    by_cases h5 : k = 5
    · rw [if_pos ((kI_n hk).mpr h5), ld_102_20, sp_left hG ⟨o1, o2⟩ hx, obS]
      dsimp only
      rw [bd_114 (show Lf c x < 18 by omega), nI_clamp (show Lf c x < 2 ^ 31 by omega), hP _ (by omega), sp_91 hG hok hP hx hic hk hA hB]
      rw [if_pos h5] at hV
      rw [← hV]
      exact u1
    · rw [if_neg (fun e => h5 ((kI_n hk).mp e)), sp_91 hG hok hP hx hic hk hA hB]
      rw [if_neg h5] at hV
      rw [← hV]
      exact u1
theorem m1_s (r : Nat) : nI (r + 1) + (-1 : Int32) = nI r := by
  have h : nI (r + 1) = nI r + nI 1 := (nI_add _ _).symm
  rw [h, Int32.add_assoc, show nI 1 + (-1 : Int32) = 0 from by decide, Int32.add_zero]
theorem m1_0 : nI 0 + (-1 : Int32) = -1 := by decide
theorem sp_57 {c n d k : Nat} {P T : ba_T} (hok : okG c n d P T) (hk : k ≤ 5) : ∀ (r N : Nat) (m : ba_M), r ≤ 4 ^ c → r < N → GM m c n d P T → PW m → TBm m c n d P T c → PQ m c k (fun i => T i 0) (tgG c n d P T) (chG c n d P T) r →
    ∃ m', fx (fun _ _ _ _ => none) (b_Mo_findParts_57 SF) N 102 (kI k) (nI r + (-1)) m = some m' ∧ Fr oP5 m m' ∧ PQ m' c k (fun i => T i 0) (tgG c n d P T) (chG c n d P T) 0 := by
  obtain ⟨⟨o1, o2, o3, o4, o5⟩, o6, o7⟩ := id hok
  have hx4 : 4 ^ c ≤ 1024 := by rcases p4c ⟨o1, o2⟩ with h | h | h | h <;> omega
  intro r
  induction r with
  | zero =>
    intro N m hr hN hG hP hB hA
    obtain ⟨N, rfl⟩ : ∃ z, N = z + 1 := ⟨N - 1, by omega⟩
    refine ⟨m, ?_, Fr.rf, hA⟩
    rw [fx_s]
    generalize fx (fun _ _ _ _ => none) (b_Mo_findParts_57 SF) N = K
    unfold b_Mo_findParts_57
    rw [m1_0, if_pos (by decide)]
  | succ r ih =>
    intro N m hr hN hG hP hB hA
    obtain ⟨N, rfl⟩ : ∃ z, N = z + 1 := ⟨N - 1, by omega⟩
    have ih' := fun m => ih N m (by omega) (by omega)
    rw [fx_s]
    generalize fx (fun _ _ _ _ => none) (b_Mo_findParts_57 SF) N = K at ih' ⊢
    obtain ⟨m1, u1, u2, u3⟩ := sp_63 (x := r) hok (by omega) hk K c 0 FU m rfl (Nat.zero_le _) (by unfold FU; omega) hG hP hB hA (fun j hj => absurd hj (Nat.not_lt_zero _))
    obtain ⟨m', v1, v2, v3⟩ := ih' m1 (hG.fr o2 u2 (by intro o j ho; unfold oP5 at ho; omega)) (hP.frO u2 (by intro o j ho; unfold oP5 at ho; omega)) (fun j hj => by
      obtain ⟨b1, b2⟩ := hB j hj
      exact ⟨(u2.1 _ _ (by unfold oP5; omega)).trans b1, (u2.1 _ _ (by unfold oP5; omega)).trans b2⟩) u3
    refine ⟨m', ?_, u2.tr v2, v3⟩
    have u1 : f_Mo_findParts_63 SF K 102 (kI k) (nI r) (nI 0) m = K 102 (kI k) (nI r + (-1)) m1 := u1
    unfold b_Mo_findParts_57
    rw [m1_s, z0, if_neg (by rw [nI_ltI (by omega) (by omega)]; omega), u1]
    exact v1
theorem sp_fp2 {c n d k : Nat} {P T : ba_T} (hok : okG c n d P T) (hk : k ≤ 5) : ∀ (r i N : Nat) (m : ba_M), c - i = r → i ≤ c → r < N → GM m c n d P T → PW m → TBm m c n d P T i →
    ∃ m', fx (fun _ _ _ _ => none) (b_Mo_findParts_2 SF) N 102 (kI k) (nI i) m = some m' ∧ Fr oPm m m' ∧ PQ m' c k (fun i => T i 0) (tgG c n d P T) (chG c n d P T) 0 := by
  obtain ⟨⟨o1, o2, o3, o4, o5⟩, o6, o7⟩ := id hok
  have hx4 : 4 ^ c ≤ 1024 := by rcases p4c ⟨o1, o2⟩ with h | h | h | h <;> omega
  intro r
  induction r with
  | zero =>
    intro i N m hr hi hN hG hP hB
    obtain ⟨N, rfl⟩ : ∃ z, N = z + 1 := ⟨N - 1, by omega⟩
    obtain rfl : i = c := by omega
    obtain ⟨m', u1, u2, u3⟩ := sp_57 hok hk (4 ^ i) FU m (Nat.le_refl _) (by unfold FU; omega) hG hP hB (fun y j h1 h2 h3 => by omega)
    refine ⟨m', ?_, u2.up (fun o j h => Or.inr (Or.inl h)), u3⟩
    have u1 : f_Mo_findParts_57 SF 102 (kI k) (nI (4 ^ i) + (-1)) m = some m' := u1
    have e : (nI 1 <<< ((nI 2 * nI i) &&& 31)) - nI 1 = nI (4 ^ i) + (-1) := by
      rw [sh_l (by omega), Int32.sub_eq_add_neg]; rfl
    rw [fx_s]
    generalize fx (fun _ _ _ _ => none) (b_Mo_findParts_2 SF) N = K
    unfold b_Mo_findParts_2
    rw [hG.1, if_pos (by rw [nI_leI (by omega) (by omega)]; omega), e, u1]
  | succ r ih =>
    intro i N m hr hi hN hG hP hB
    obtain ⟨N, rfl⟩ : ∃ z, N = z + 1 := ⟨N - 1, by omega⟩
    have hic : i < c := by omega
    obtain ⟨g1, g2, g3, g4⟩ := tgG_in hok hic
    obtain ⟨m1, e1, e2, e3⟩ := sp_go hG hok hic
    have e3' : RM m1 c n d P (T i 0) (T i 1) (btT P T i) := e3
    have r3 := e3'.2.2
    rw [g1] at r3
    have h18 : gI m1 102 18 = nI (tgG c n d P T i) := r3
    have h111 : gI m1 111 (tgG c n d P T i) = nI (chG c n d P T i) := (e3'.2.1 _ g2 g3).1
    have hF : Fr oPm m (wI (wI m1 116 i (nI (tgG c n d P T i))) 117 i (nI (chG c n d P T i))) := ((e2.up (O' := oPm) (fun o j h => Or.inl h)).w (show oPm 116 i from Or.inr (Or.inr (Or.inl rfl)))).w (show oPm 117 i from Or.inr (Or.inr (Or.inr rfl)))
    obtain ⟨m', u1, u2, u3⟩ := ih (i + 1) N (wI (wI m1 116 i (nI (tgG c n d P T i))) 117 i (nI (chG c n d P T i))) (by omega) (by omega) (by omega) (hG.fr o2 hF (by intro o j ho; unfold oPm oMo at ho; omega)) (hP.frO hF (by intro o j ho; unfold oPm oMo at ho; omega)) (fun j hj => by
      by_cases e : j = i
      · subst e
        exact ⟨(gI_n _ _ _ _ _ _ (by omega)).trans (gI_s _ _ _ _), gI_s _ _ _ _⟩
      · obtain ⟨b1, b2⟩ := hB j (by omega)
        rw [gI_n _ _ _ _ _ _ (by omega), gI_n _ _ _ _ _ _ (by omega), gI_n _ _ _ _ _ _ (by omega), gI_n _ _ _ _ _ _ (by omega)]
        exact ⟨(e2.1 _ _ (by unfold oMo; omega)).trans b1, (e2.1 _ _ (by unfold oMo; omega)).trans b2⟩)
    refine ⟨m', ?_, hF.tr u2, u3⟩
    have x1 : gI (wI m1 116 i (nI (tgG c n d P T i))) 102 18 = nI (tgG c n d P T i) := (gI_n _ _ _ _ _ _ (by omega)).trans h18
    have x2 : gI (wI m1 116 i (nI (tgG c n d P T i))) 111 (tgG c n d P T i) = nI (chG c n d P T i) := (gI_n _ _ _ _ _ _ (by omega)).trans h111
    rw [fx_s]
    generalize fx (fun _ _ _ _ => none) (b_Mo_findParts_2 SF) N = K at u1 ⊢
    unfold b_Mo_findParts_2
    rw [hG.1, if_neg (by rw [nI_leI (by omega) (by omega)]; omega), e1, obS, ld_102_22, bd_116 (show i < 5 by omega), ld_102_23, ld_102_16, nI_clamp (show i < 2 ^ 31 by omega), h18, x1, bd_111 (show tgG c n d P T i < 5 by omega), nI_clamp (show tgG c n d P T i < 2 ^ 31 by omega), x2, bd_117 (show i < 5 by omega), nI_add]
    exact u1
theorem sp_codeL {m : ba_M} {c n d : Nat} {P T : ba_T} (hG : GM m c n d P T) (hc : 2 ≤ c ∧ c ≤ 5) (hT : ∀ k, k < c → T k 3 ≤ 3) : ∀ (j N code : Nat), j ≤ c → j < N → code < 1024 → pkS (fun k => T k 3) c = pkS (fun k => T k 3) j + 4 ^ j * code →
    fx (fun _ _ _ _ => none) (b_Mo_codeOf_9 SF) N 102 (nI code) (nI j + (-1)) m = some (nI (pkS (fun k => T k 3) c), m) := by
  intro j
  induction j with
  | zero =>
    intro N code hj hN hcd h
    obtain ⟨N, rfl⟩ : ∃ z, N = z + 1 := ⟨N - 1, by omega⟩
    rw [fx_s]
    generalize fx (fun _ _ _ _ => none) (b_Mo_codeOf_9 SF) N = K
    unfold b_Mo_codeOf_9
    rw [m1_0, if_pos (by decide), h]
    congr 3
    show code = 0 + 4 ^ 0 * code
    omega
  | succ j ih =>
    intro N code hj hN hcd h
    obtain ⟨N, rfl⟩ : ∃ z, N = z + 1 := ⟨N - 1, by omega⟩
    have h1 : pkS (fun k => T k 3) (j + 1) = pkS (fun k => T k 3) j + T j 3 * 4 ^ j := rfl
    have h2 : pkS (fun k => T k 3) c = pkS (fun k => T k 3) j + 4 ^ j * (4 * code + T j 3) := by
      rw [h, h1, Nat.mul_add, Nat.pow_succ, Nat.mul_comm (T j 3), Nat.mul_assoc]
      omega
    have h3 := pkS_lt (l := fun k => T k 3) c hT
    have hx4 : 4 ^ c ≤ 1024 := by rcases p4c hc with h | h | h | h <;> omega
    have h4 : 4 * code + T j 3 ≤ 4 ^ j * (4 * code + T j 3) := Nat.le_mul_of_pos_left _ (Nat.pow_pos (by omega))
    have hg := (hG.2.2.2.2 j (by omega)).2.2.2
    have ih' := ih N (4 * code + T j 3) (by omega) (by omega) (by omega) h2
    rw [fx_s]
    generalize fx (fun _ _ _ _ => none) (b_Mo_codeOf_9 SF) N = K at ih' ⊢
    unfold b_Mo_codeOf_9
    rw [m1_s, z0, if_neg (by rw [nI_ltI (by omega) (by omega)]; omega), ld_102_4, nI_add, bd_104 (show 15 + j < 20 by omega), nI_clamp (show 15 + j < 2 ^ 31 by omega), hg, pk_mul, nI_add]
    exact ih'
theorem sp_code {m : ba_M} {c n d : Nat} {P T : ba_T} (hG : GM m c n d P T) (hc : 2 ≤ c ∧ c ≤ 5) (hT : ∀ k, k < c → T k 3 ≤ 3) : f_Mo_codeOf SF 102 m = some (nI (pkS (fun k => T k 3) c), m) := by
  have h := sp_codeL hG hc hT c FU 0 (Nat.le_refl _) (by unfold FU; omega) (by omega) (by rw [Nat.mul_zero, Nat.add_zero])
  have e : nI c - nI 1 = nI c + (-1) := by rw [Int32.sub_eq_add_neg]; rfl
  unfold f_Mo_codeOf
  rw [cK_102, hG.1, e]
  exact h
