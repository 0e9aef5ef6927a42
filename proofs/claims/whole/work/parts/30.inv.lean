/-! what holds between any two calls -/
/-- THE TEXT -/
def TX (m : ba_M) (l : Nat) : Prop := l ≤ 300 ∧ gI m 1 1 = nI l ∧ gI m 102 6 = nI l ∧ ∀ j, j < l → gI m 105 j = gI m 2 j
/-- SEEN: s sightings sg t 0, 1, 2 -/
def SG (m : ba_M) (c n s : Nat) (sg : ba_T) : Prop := s ≤ 8 ∧ gI m 44 3 = nI s ∧ gI m 102 26 = nI s ∧ ∀ t, t < s → (gI m 45 t = nI (sg t 0) ∧ gI m 46 t = nI (sg t 1) ∧ gI m 47 t = nI (sg t 2) ∧ gI m 119 (3 * t) = nI (sg t 0) ∧ gI m 119 (3 * t + 1) = nI (sg t 1) ∧ gI m 119 (3 * t + 2) = nI (sg t 2)) ∧ sg t 0 < c ∧ sg t 1 < c ∧ sg t 2 ≤ n
def okT (c n : Nat) (T : ba_T) : Prop := ∀ i, i < c → T i 0 < c ∧ T i 0 ≠ i ∧ T i 1 ≤ n ∧ 1 ≤ T i 2 ∧ T i 2 ≤ 9 ∧ T i 3 ≤ 3
/-- what can be UNDONE: u changes, W 0 what is told now, W (t + 1) what was told ahead of the t-th latest change, which was one of player a t -/
def UN (m : ba_M) (c n : Nat) (T : ba_T) (u w : Nat) (W : Nat → ba_T) (a : Nat → Nat) : Prop :=
  u ≤ 8 ∧ w < 8 ∧ gI m 48 0 = nI 8 ∧ gI m 48 2 = nI u ∧ gI m 48 3 = nI w ∧ gI m 102 24 = nI u ∧ (∀ i, i < c → ∀ f, f < 4 → W 0 i f = T i f) ∧
  ∀ t, t < u → okT c n (W (t + 1)) ∧ (∀ i, i < c → ∀ f, f < 4 → gI m (50 + (5 * ((w + 8 - t) % 8) + i)) f = nI (W (t + 1) i f)) ∧
    a t < c ∧ gI m 118 (5 * (u - 1 - t)) = nI (a t) ∧ (∀ f, f < 4 → gI m 118 (5 * (u - 1 - t) + 1 + f) = nI (W (t + 1) (a t) f)) ∧ ∀ i, i < c → i ≠ a t → ∀ f, f < 4 → W (t + 1) i f = W t i f
/-- KEPT -/
def KP (m : ba_M) (c n v w : Nat) (V : Nat → ba_T) : Prop :=
  v ≤ 2 ∧ w < 2 ∧ gI m 90 0 = nI 2 ∧ gI m 90 2 = nI v ∧ gI m 90 3 = nI w ∧ gI m 102 29 = nI v ∧
  ∀ t, t < v → okT c n (V t) ∧ ∀ i, i < c → ∀ f, f < 4 → gI m (92 + (5 * ((w + 2 - t) % 2) + i)) f = nI (V t i f) ∧ gI m 121 (20 * (v - 1 - t) + (5 * f + i)) = nI (V t i f)
def PW (m : ba_M) : Prop := ∀ k, k < 18 → gL m 114 k = lN (10 ^ k)
def Inv (m : ba_M) : Prop := ∃ (c n d : Nat) (P T : ba_T), GC m c n d P T ∧ GM m c n d P T ∧ okG c n d P T ∧ (∃ l, TX m l) ∧ (∃ s sg, SG m c n s sg) ∧ (∃ u w W a, UN m c n T u w W a) ∧ (∃ v w V, KP m c n v w V) ∧ PW m
/-- what a call may use as it likes -/
def scr : Nat → Nat → Prop := fun o k => (3 ≤ o ∧ o ≤ 5) ∨ (20 ≤ o ∧ o ≤ 43) ∨ (o = 102 ∧ (k = 7 ∨ 9 ≤ k ∧ k ≤ 11 ∨ k = 18)) ∨ (106 ≤ o ∧ o ≤ 113) ∨ (115 ≤ o ∧ o ≤ 117) ∨ o = 120
theorem scr_Ro : ∀ o k, oRo o k → scr o k := by intro o k h; simp only [oRo, scr] at *; omega
theorem scr_Mo : ∀ o k, oMo o k → scr o k := by intro o k h; simp only [oMo, scr] at *; omega
def tTX : Nat → Nat → Prop := fun o k => o = 1 ∨ o = 2 ∨ o = 105 ∨ o = 102 ∧ k = 6
def tSG : Nat → Nat → Prop := fun o k => 44 ≤ o ∧ o ≤ 47 ∨ o = 119 ∨ o = 102 ∧ k = 26
def tUN : Nat → Nat → Prop := fun o k => o = 48 ∨ 50 ≤ o ∧ o < 90 ∨ o = 118 ∨ o = 102 ∧ k = 24
def tKP : Nat → Nat → Prop := fun o k => o = 90 ∨ 92 ≤ o ∧ o < 102 ∨ o = 121 ∨ o = 102 ∧ k = 29
def tGC : Nat → Nat → Prop := fun o _ => o = 6 ∨ 10 ≤ o ∧ o < 20
def tGM : Nat → Nat → Prop := fun o k => o = 102 ∧ k < 3 ∨ o = 103 ∨ o = 104
theorem TX.frO {m m' : ba_M} {l : Nat} (h : TX m l) {O : Nat → Nat → Prop} (hF : Fr O m m') (hO : ∀ o k, O o k → ¬ tTX o k) : TX m' l := by
  have e : ∀ o k, tTX o k → gI m' o k = gI m o k := fun o k ho => hF.1 o k (fun q => hO o k q ho)
  obtain ⟨h1, h2, h3, h4⟩ := h
  refine ⟨h1, by rw [e _ _ (by unfold tTX; omega)]; exact h2, by rw [e _ _ (by unfold tTX; omega)]; exact h3, fun j hj => ?_⟩
  rw [e _ _ (by unfold tTX; omega), e _ _ (by unfold tTX; omega)]
  exact h4 j hj
theorem SG.frO {m m' : ba_M} {c n s : Nat} {sg : ba_T} (h : SG m c n s sg) {O : Nat → Nat → Prop} (hF : Fr O m m') (hO : ∀ o k, O o k → ¬ tSG o k) : SG m' c n s sg := by
  have e : ∀ o k, tSG o k → gI m' o k = gI m o k := fun o k ho => hF.1 o k (fun q => hO o k q ho)
  obtain ⟨h1, h2, h3, h4⟩ := h
  refine ⟨h1, by rw [e _ _ (by unfold tSG; omega)]; exact h2, by rw [e _ _ (by unfold tSG; omega)]; exact h3, fun j hj => ?_⟩
  rw [e _ _ (by unfold tSG; omega), e _ _ (by unfold tSG; omega), e _ _ (by unfold tSG; omega), e _ _ (by unfold tSG; omega), e _ _ (by unfold tSG; omega), e _ _ (by unfold tSG; omega)]
  exact h4 j hj
theorem UN.frO {m m' : ba_M} {c n u w : Nat} {T : ba_T} {W : Nat → ba_T} {a : Nat → Nat} (h : UN m c n T u w W a) (hc : c ≤ 5) {O : Nat → Nat → Prop} (hF : Fr O m m') (hO : ∀ o k, O o k → ¬ tUN o k) : UN m' c n T u w W a := by
  have e : ∀ o k, tUN o k → gI m' o k = gI m o k := fun o k ho => hF.1 o k (fun q => hO o k q ho)
  obtain ⟨h1, h2, h3, h4, h5, h6, h7, h8⟩ := h
  refine ⟨h1, h2, by rw [e _ _ (by unfold tUN; omega)]; exact h3, by rw [e _ _ (by unfold tUN; omega)]; exact h4, by rw [e _ _ (by unfold tUN; omega)]; exact h5, by rw [e _ _ (by unfold tUN; omega)]; exact h6, h7, fun t ht => ?_⟩
  obtain ⟨g1, g2, g3, g4, g5, g6⟩ := h8 t ht
  refine ⟨g1, fun i hi f hf => ?_, g3, by rw [e _ _ (by unfold tUN; omega)]; exact g4, fun f hf => by rw [e _ _ (by unfold tUN; omega)]; exact g5 f hf, g6⟩
  rw [e _ _ (by unfold tUN; omega)]
  exact g2 i hi f hf
theorem KP.frO {m m' : ba_M} {c n v w : Nat} {V : Nat → ba_T} (h : KP m c n v w V) (hc : c ≤ 5) {O : Nat → Nat → Prop} (hF : Fr O m m') (hO : ∀ o k, O o k → ¬ tKP o k) : KP m' c n v w V := by
  have e : ∀ o k, tKP o k → gI m' o k = gI m o k := fun o k ho => hF.1 o k (fun q => hO o k q ho)
  obtain ⟨h1, h2, h3, h4, h5, h6, h8⟩ := h
  refine ⟨h1, h2, by rw [e _ _ (by unfold tKP; omega)]; exact h3, by rw [e _ _ (by unfold tKP; omega)]; exact h4, by rw [e _ _ (by unfold tKP; omega)]; exact h5, by rw [e _ _ (by unfold tKP; omega)]; exact h6, fun t ht => ?_⟩
  obtain ⟨g1, g2⟩ := h8 t ht
  refine ⟨g1, fun i hi f hf => ?_⟩
  rw [e _ _ (by unfold tKP; omega), e _ _ (by unfold tKP; omega)]
  exact g2 i hi f hf
theorem PW.frO {m m' : ba_M} (h : PW m) {O : Nat → Nat → Prop} (hF : Fr O m m') (hO : ∀ o k, O o k → o ≠ 114) : PW m' := fun k hk => by
  rw [hF.2 _ _ (fun q => hO _ _ q rfl)]
  exact h k hk
theorem TX.fr {m m' : ba_M} {l : Nat} (h : TX m l) (hF : Fr scr m m') : TX m' l := h.frO hF (by intro o k ho; simp only [scr, tTX] at *; omega)
theorem SG.fr {m m' : ba_M} {c n s : Nat} {sg : ba_T} (h : SG m c n s sg) (hF : Fr scr m m') : SG m' c n s sg := h.frO hF (by intro o k ho; simp only [scr, tSG] at *; omega)
theorem UN.fr {m m' : ba_M} {c n u w : Nat} {T : ba_T} {W : Nat → ba_T} {a : Nat → Nat} (h : UN m c n T u w W a) (hc : c ≤ 5) (hF : Fr scr m m') : UN m' c n T u w W a := h.frO hc hF (by intro o k ho; simp only [scr, tUN] at *; omega)
theorem KP.fr {m m' : ba_M} {c n v w : Nat} {V : Nat → ba_T} (h : KP m c n v w V) (hc : c ≤ 5) (hF : Fr scr m m') : KP m' c n v w V := h.frO hc hF (by intro o k ho; simp only [scr, tKP] at *; omega)
theorem Inv.fr {m m' : ba_M} (h : Inv m) (hF : Fr scr m m') : Inv m' := by
  obtain ⟨c, n, d, P, T, h1, h2, h3, ⟨l, h4⟩, ⟨s, sg, h5⟩, ⟨u, w, W, a, h6⟩, ⟨v, w2, V, h7⟩, h8⟩ := h
  have hc : c ≤ 5 := h3.1.2.1
  exact ⟨c, n, d, P, T, h1.fr hc hF (by intro o k ho; simp only [scr] at ho; omega), h2.fr hc hF (by intro o k ho; simp only [scr] at ho; omega), h3, ⟨l, h4.fr hF⟩, ⟨s, sg, h5.fr hF⟩, ⟨u, w, W, a, h6.fr hc hF⟩, ⟨v, w2, V, h7.fr hc hF⟩, fun k hk => by rw [hF.2 _ _ (by simp only [scr]; omega)]; exact h8 k hk⟩
/-- class and reference answer alike, and it holds again -/
def Ag {α : Type} (f : Option (α × ba_M)) (g : ba_M → Option (α × ba_M)) : Prop := ∃ r m1 m2, f = some (r, m1) ∧ g m1 = some (r, m2) ∧ Inv m2
theorem has_cases (x : Int32) (c : Nat) : (∃ i, i < c ∧ x = nI i) ∨ ∀ i, i < c → x ≠ nI i := by
  by_cases h : ∃ i, i < c ∧ x = nI i
  · exact Or.inl h
  · exact Or.inr fun i hi e => h ⟨i, hi, e⟩
theorem out_of {x : Int32} {c : Nat} (hc : c < 2 ^ 31) (h : ∀ i, i < c → x ≠ nI i) : x.toInt < 0 ∨ (c : Int) ≤ x.toInt := by
  by_cases h0 : x.toInt < 0
  · exact Or.inl h0
  · right
    rcases Int.lt_or_le x.toInt c with h1 | h1
    · exfalso
      refine h x.toInt.toNat (by omega) ?_
      apply Int32.toInt_inj.mp
      rw [nI_toInt (by omega)]
      omega
    · exact h1
theorem sp_has_t {m : ba_M} {c i : Nat} (hc : gI m 6 2 = nI c) (h : i < c) (h5 : c ≤ 5) : f_Ga_has SF 6 (nI i) m = some (true, m) := by
  unfold f_Ga_has f_Ga_has_16 f_Ga_has_17
  simp (disch := omega) only [oN, Option.bind_some, ↓reduceIte, ifT, ifF, eq_self, reduceCtorEq, cK_0, cK_1, cK_2, kl_2, bd_2, cK_3, cK_4, kl_4, bd_4, cK_5, cK_6, cK_7, kl_7, bd_7, cK_8, cK_25, cK_20, kl_20, bd_20, cK_21, kl_21, bd_21, cK_22, kl_22, bd_22, cK_23, cK_24, kl_24, bd_24, cK_37, cK_38, cK_39, kl_39, bd_39, cK_40, kl_40, bd_40, cK_41, kl_41, bd_41, cK_42, kl_42, bd_42, cK_43, kl_43, bd_43, cK_44, cK_45, kl_45, bd_45, cK_46, kl_46, bd_46, cK_47, kl_47, bd_47, cK_48, cK_49, kl_49, bd_49, cK_90, cK_91, kl_91, bd_91, cK_102, cK_103, kl_103, bd_103, cK_104, kl_104, bd_104, cK_105, kl_105, bd_105, cK_106, kl_106, bd_106, cK_107, kl_107, bd_107, cK_108, kl_108, bd_108, cK_109, kl_109, bd_109, cK_110, kl_110, bd_110, cK_111, kl_111, bd_111, cK_112, kl_112, bd_112, cK_113, kl_113, bd_113, cK_114, kl_114, bd_114, cK_115, kl_115, bd_115, cK_116, kl_116, bd_116, cK_117, kl_117, bd_117, cK_118, kl_118, bd_118, cK_119, kl_119, bd_119, cK_120, kl_120, bd_120, cK_121, kl_121, bd_121, ld_0_0, ld_0_1, ld_0_2, ld_0_3, ld_0_4, ld_0_5, ld_0_6, ld_0_7, ld_0_8, ld_0_9, ld_1_0, ld_3_0, ld_5_0, ld_5_1, ld_5_2, ld_5_3, ld_6_0, ld_6_1, ld_23_0, ld_23_1, ld_38_0, ld_38_1, ld_38_2, ld_38_3, ld_38_4, ld_44_0, ld_44_1, ld_44_2, ld_48_1, ld_90_1, ld_102_3, ld_102_4, ld_102_5, ld_102_8, ld_102_12, ld_102_13, ld_102_14, ld_102_15, ld_102_16, ld_102_17, ld_102_19, ld_102_20, ld_102_21, ld_102_22, ld_102_23, ld_102_25, ld_102_27, ld_102_28, ld_102_30, cK_pl, cK_to, cK_dp, cK_dt, cK_un, cK_ke, ld_pl, ld_to, ld_dp, ld_dt, ld_un, ld_ke, nI_add, pk_mul, pk_sub, nI_ltI, nI_leI, nI_eq, nI_clamp, z0, hc]
theorem sp_has_f {m : ba_M} {c : Nat} {x : Int32} (hc : gI m 6 2 = nI c) (h : ∀ i, i < c → x ≠ nI i) (h5 : c ≤ 5) : f_Ga_has SF 6 x m = some (false, m) := by
  unfold f_Ga_has f_Ga_has_16 f_Ga_has_17
  simp only [cK_0, cK_1, cK_2, kl_2, bd_2, cK_3, cK_4, kl_4, bd_4, cK_5, cK_6, cK_7, kl_7, bd_7, cK_8, cK_25, cK_20, kl_20, bd_20, cK_21, kl_21, bd_21, cK_22, kl_22, bd_22, cK_23, cK_24, kl_24, bd_24, cK_37, cK_38, cK_39, kl_39, bd_39, cK_40, kl_40, bd_40, cK_41, kl_41, bd_41, cK_42, kl_42, bd_42, cK_43, kl_43, bd_43, cK_44, cK_45, kl_45, bd_45, cK_46, kl_46, bd_46, cK_47, kl_47, bd_47, cK_48, cK_49, kl_49, bd_49, cK_90, cK_91, kl_91, bd_91, cK_102, cK_103, kl_103, bd_103, cK_104, kl_104, bd_104, cK_105, kl_105, bd_105, cK_106, kl_106, bd_106, cK_107, kl_107, bd_107, cK_108, kl_108, bd_108, cK_109, kl_109, bd_109, cK_110, kl_110, bd_110, cK_111, kl_111, bd_111, cK_112, kl_112, bd_112, cK_113, kl_113, bd_113, cK_114, kl_114, bd_114, cK_115, kl_115, bd_115, cK_116, kl_116, bd_116, cK_117, kl_117, bd_117, cK_118, kl_118, bd_118, cK_119, kl_119, bd_119, cK_120, kl_120, bd_120, cK_121, kl_121, bd_121, ld_0_0, ld_0_1, ld_0_2, ld_0_3, ld_0_4, ld_0_5, ld_0_6, ld_0_7, ld_0_8, ld_0_9, ld_1_0, ld_3_0, ld_5_0, ld_5_1, ld_5_2, ld_5_3, ld_6_0, ld_6_1, ld_23_0, ld_23_1, ld_38_0, ld_38_1, ld_38_2, ld_38_3, ld_38_4, ld_44_0, ld_44_1, ld_44_2, ld_48_1, ld_90_1, ld_102_3, ld_102_4, ld_102_5, ld_102_8, ld_102_12, ld_102_13, ld_102_14, ld_102_15, ld_102_16, ld_102_17, ld_102_19, ld_102_20, ld_102_21, ld_102_22, ld_102_23, ld_102_25, ld_102_27, ld_102_28, ld_102_30, cK_pl, cK_to, cK_dp, cK_dt, cK_un, cK_ke, ld_pl, ld_to, ld_dp, ld_dt, ld_un, ld_ke, hc]
  rcases out_of (by omega) h with h1 | h1
  · rw [if_pos (by rw [i32_lt]; exact h1)]
  · rw [if_neg (by rw [i32_lt]; show ¬ _ < (0 : Int); omega), if_pos (by rw [i32_le, nI_toInt (by omega)]; exact h1)]
theorem dec_in {x : Int32} {a b : Nat} (hb : b < 2 ^ 31) (ha : a < 2 ^ 31) : (decide (nI a ≤ x ∧ x ≤ nI b) = true) ↔ ∃ i, a ≤ i ∧ i ≤ b ∧ x = nI i := by
  rw [decide_eq_true_iff, i32_le, i32_le, nI_toInt hb, nI_toInt ha]
  constructor
  · rintro ⟨h1, h2⟩
    refine ⟨x.toInt.toNat, by omega, by omega, ?_⟩
    apply Int32.toInt_inj.mp
    rw [nI_toInt (by omega)]
    omega
  · rintro ⟨i, h1, h2, rfl⟩
    rw [nI_toInt (by omega)]
    omega
theorem dec_t {a b i : Nat} (hb : b < 2 ^ 31) (h1 : a ≤ i) (h2 : i ≤ b) : decide (nI a ≤ nI i ∧ nI i ≤ nI b) = true := (dec_in hb (by omega)).mpr ⟨i, h1, h2, rfl⟩
theorem dec_f {x : Int32} {a b : Nat} (hb : b < 2 ^ 31) (ha : a < 2 ^ 31) (h : ∀ i, a ≤ i → i ≤ b → x ≠ nI i) : decide (nI a ≤ x ∧ x ≤ nI b) = false := by
  cases h1 : decide (nI a ≤ x ∧ x ≤ nI b) with
  | false => rfl
  | true =>
    obtain ⟨i, h2, h3, h4⟩ := (dec_in hb ha).mp h1
    exact absurd h4 (h i h2 h3)
theorem sp_within {S : ba_S} (a b c : Int32) (m : ba_M) : f_Ba_within S a b c m = some (decide (b ≤ a ∧ a ≤ c), m) := by
  have h := sp_in (S := S) a b c m
  unfold f_Mo_in f_Mo_in_14 f_Mo_in_15 at h
  unfold f_Ba_within f_Ba_within_14 f_Ba_within_15
  exact h
theorem sp_isP_t {m : ba_M} {c i : Nat} (hc : gI m 102 2 = nI c) (h : i < c) (h5 : c ≤ 5) : f_Mo_isPlayer SF 102 (nI i) m = some (true, m) := by
  unfold f_Mo_isPlayer
  simp (disch := omega) only [oN, Option.bind_some, ↓reduceIte, ifT, ifF, eq_self, reduceCtorEq, cK_0, cK_1, cK_2, kl_2, bd_2, cK_3, cK_4, kl_4, bd_4, cK_5, cK_6, cK_7, kl_7, bd_7, cK_8, cK_25, cK_20, kl_20, bd_20, cK_21, kl_21, bd_21, cK_22, kl_22, bd_22, cK_23, cK_24, kl_24, bd_24, cK_37, cK_38, cK_39, kl_39, bd_39, cK_40, kl_40, bd_40, cK_41, kl_41, bd_41, cK_42, kl_42, bd_42, cK_43, kl_43, bd_43, cK_44, cK_45, kl_45, bd_45, cK_46, kl_46, bd_46, cK_47, kl_47, bd_47, cK_48, cK_49, kl_49, bd_49, cK_90, cK_91, kl_91, bd_91, cK_102, cK_103, kl_103, bd_103, cK_104, kl_104, bd_104, cK_105, kl_105, bd_105, cK_106, kl_106, bd_106, cK_107, kl_107, bd_107, cK_108, kl_108, bd_108, cK_109, kl_109, bd_109, cK_110, kl_110, bd_110, cK_111, kl_111, bd_111, cK_112, kl_112, bd_112, cK_113, kl_113, bd_113, cK_114, kl_114, bd_114, cK_115, kl_115, bd_115, cK_116, kl_116, bd_116, cK_117, kl_117, bd_117, cK_118, kl_118, bd_118, cK_119, kl_119, bd_119, cK_120, kl_120, bd_120, cK_121, kl_121, bd_121, ld_0_0, ld_0_1, ld_0_2, ld_0_3, ld_0_4, ld_0_5, ld_0_6, ld_0_7, ld_0_8, ld_0_9, ld_1_0, ld_3_0, ld_5_0, ld_5_1, ld_5_2, ld_5_3, ld_6_0, ld_6_1, ld_23_0, ld_23_1, ld_38_0, ld_38_1, ld_38_2, ld_38_3, ld_38_4, ld_44_0, ld_44_1, ld_44_2, ld_48_1, ld_90_1, ld_102_3, ld_102_4, ld_102_5, ld_102_8, ld_102_12, ld_102_13, ld_102_14, ld_102_15, ld_102_16, ld_102_17, ld_102_19, ld_102_20, ld_102_21, ld_102_22, ld_102_23, ld_102_25, ld_102_27, ld_102_28, ld_102_30, cK_pl, cK_to, cK_dp, cK_dt, cK_un, cK_ke, ld_pl, ld_to, ld_dp, ld_dt, ld_un, ld_ke, pk_sub, hc, sp_in, dec_t]
theorem sp_isP_f {m : ba_M} {c : Nat} {x : Int32} (hc : gI m 102 2 = nI c) (h : ∀ i, i < c → x ≠ nI i) (h5 : c ≤ 5) (h1 : 1 ≤ c) : f_Mo_isPlayer SF 102 x m = some (false, m) := by
  unfold f_Mo_isPlayer
  simp (disch := omega) only [oN, Option.bind_some, ↓reduceIte, ifT, ifF, eq_self, reduceCtorEq, cK_0, cK_1, cK_2, kl_2, bd_2, cK_3, cK_4, kl_4, bd_4, cK_5, cK_6, cK_7, kl_7, bd_7, cK_8, cK_25, cK_20, kl_20, bd_20, cK_21, kl_21, bd_21, cK_22, kl_22, bd_22, cK_23, cK_24, kl_24, bd_24, cK_37, cK_38, cK_39, kl_39, bd_39, cK_40, kl_40, bd_40, cK_41, kl_41, bd_41, cK_42, kl_42, bd_42, cK_43, kl_43, bd_43, cK_44, cK_45, kl_45, bd_45, cK_46, kl_46, bd_46, cK_47, kl_47, bd_47, cK_48, cK_49, kl_49, bd_49, cK_90, cK_91, kl_91, bd_91, cK_102, cK_103, kl_103, bd_103, cK_104, kl_104, bd_104, cK_105, kl_105, bd_105, cK_106, kl_106, bd_106, cK_107, kl_107, bd_107, cK_108, kl_108, bd_108, cK_109, kl_109, bd_109, cK_110, kl_110, bd_110, cK_111, kl_111, bd_111, cK_112, kl_112, bd_112, cK_113, kl_113, bd_113, cK_114, kl_114, bd_114, cK_115, kl_115, bd_115, cK_116, kl_116, bd_116, cK_117, kl_117, bd_117, cK_118, kl_118, bd_118, cK_119, kl_119, bd_119, cK_120, kl_120, bd_120, cK_121, kl_121, bd_121, ld_0_0, ld_0_1, ld_0_2, ld_0_3, ld_0_4, ld_0_5, ld_0_6, ld_0_7, ld_0_8, ld_0_9, ld_1_0, ld_3_0, ld_5_0, ld_5_1, ld_5_2, ld_5_3, ld_6_0, ld_6_1, ld_23_0, ld_23_1, ld_38_0, ld_38_1, ld_38_2, ld_38_3, ld_38_4, ld_44_0, ld_44_1, ld_44_2, ld_48_1, ld_90_1, ld_102_3, ld_102_4, ld_102_5, ld_102_8, ld_102_12, ld_102_13, ld_102_14, ld_102_15, ld_102_16, ld_102_17, ld_102_19, ld_102_20, ld_102_21, ld_102_22, ld_102_23, ld_102_25, ld_102_27, ld_102_28, ld_102_30, cK_pl, cK_to, cK_dp, cK_dt, cK_un, cK_ke, ld_pl, ld_to, ld_dp, ld_dt, ld_un, ld_ke, pk_sub, hc, sp_in]
  rw [dec_f (by omega) (by omega) (fun i _ h3 => h i (by omega))]
theorem sp_in_t {S : ba_S} {a b i : Nat} (h1 : a ≤ i) (h2 : i ≤ b) (hb : b < 2 ^ 31) (m : ba_M) : f_Mo_in S (nI i) (nI a) (nI b) m = some (true, m) := by rw [sp_in, dec_t hb h1 h2]
theorem sp_in_f {S : ba_S} {a b : Nat} {x : Int32} (hb : b < 2 ^ 31) (ha : a < 2 ^ 31) (h : ∀ i, a ≤ i → i ≤ b → x ≠ nI i) (m : ba_M) : f_Mo_in S x (nI a) (nI b) m = some (false, m) := by rw [sp_in, dec_f hb ha h]
theorem sp_within_t {S : ba_S} {a b i : Nat} (h1 : a ≤ i) (h2 : i ≤ b) (hb : b < 2 ^ 31) (m : ba_M) : f_Ba_within S (nI i) (nI a) (nI b) m = some (true, m) := by rw [sp_within, dec_t hb h1 h2]
theorem sp_within_f {S : ba_S} {a b : Nat} {x : Int32} (hb : b < 2 ^ 31) (ha : a < 2 ^ 31) (h : ∀ i, a ≤ i → i ≤ b → x ≠ nI i) (m : ba_M) : f_Ba_within S x (nI a) (nI b) m = some (false, m) := by rw [sp_within, dec_f hb ha h]
