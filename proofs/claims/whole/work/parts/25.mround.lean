/-! the reference's round -/
def GM (m : ba_M) (c n d : Nat) (P T : ba_T) : Prop := gI m 102 2 = nI c ∧ gI m 102 0 = nI n ∧ gI m 102 1 = nI d ∧ (∀ i, i < c → gI m 103 (5 * i) = nI (P i 0) ∧ gI m 103 (5 * i + 1) = nI (P i 1) ∧ gI m 103 (5 * i + 2) = nI (P i 2) ∧ gI m 103 (5 * i + 3) = nI (P i 3) ∧ gI m 103 (5 * i + 4) = nI (P i 4)) ∧ ∀ i, i < c → gI m 104 i = nI (T i 0) ∧ gI m 104 (5 + i) = nI (T i 1) ∧ gI m 104 (10 + i) = nI (T i 2) ∧ gI m 104 (15 + i) = nI (T i 3)
theorem GM.fr {m m' : ba_M} {c n d : Nat} {P T : ba_T} (hG : GM m c n d P T) (hc : c ≤ 5) {O : Nat → Nat → Prop} (h : Fr O m m') (hO : ∀ o k, O o k → ¬ (o = 102 ∧ k < 3 ∨ o = 103 ∨ o = 104)) : GM m' c n d P T := by
  have e : ∀ o k, (o = 102 ∧ k < 3 ∨ o = 103 ∨ o = 104) → gI m' o k = gI m o k := fun o k ho => h.1 o k (fun q => hO o k q ho)
  obtain ⟨g1, g2, g3, g4, g5⟩ := hG
  refine ⟨by rw [e _ _ (by omega)]; exact g1, by rw [e _ _ (by omega)]; exact g2, by rw [e _ _ (by omega)]; exact g3, fun i hi => ?_, fun i hi => ?_⟩
  · rw [e _ _ (by omega), e _ _ (by omega), e _ _ (by omega), e _ _ (by omega), e _ _ (by omega)]
    exact g4 i hi
  · rw [e _ _ (by omega), e _ _ (by omega), e _ _ (by omega), e _ _ (by omega)]
    exact g5 i hi
theorem sub_nn {a b : Nat} (ha : a < 2 ^ 30) (hb : b < 2 ^ 30) : (nI 0 ≤ nI a - nI b) ↔ b ≤ a := by
  rw [i32_le, pk_sub_toInt ha hb]
  show (0 : Int) ≤ _ ↔ _
  omega
theorem m1_mul (x : Int32) : (-1 : Int32) * x = -x := by rw [show (-1 : Int32) = -(1 : Int32) from rfl, Int32.neg_mul, Int32.one_mul]
theorem sp_size {S : ba_S} {a b : Nat} (ha : a < 2 ^ 30) (hb : b < 2 ^ 30) (m : ba_M) : f_Mo_size S (nI a - nI b) m = some (nI (ds a b), m) := by
  unfold f_Mo_size f_Mo_size_10
  rw [z0]
  by_cases h : b ≤ a
  · rw [if_pos ((sub_nn ha hb).mpr h), pk_sub h]
    unfold ds
    rw [show a - b + (b - a) = a - b by omega]
  · rw [if_neg (fun q => h ((sub_nn ha hb).mp q)), Int32.neg_sub, pk_sub (by omega)]
    unfold ds
    rw [show a - b + (b - a) = b - a by omega]
theorem sp_in {S : ba_S} (a b c : Int32) (m : ba_M) : f_Mo_in S a b c m = some (decide (b ≤ a ∧ a ≤ c), m) := by
  unfold f_Mo_in f_Mo_in_14 f_Mo_in_15
  by_cases h1 : a < b
  · rw [if_pos h1]
    rw [i32_lt] at h1
    simp only [i32_le]
    rw [decide_eq_false (by omega)]
  · rw [if_neg h1]
    by_cases h2 : c < a
    · rw [if_pos h2]
      rw [i32_lt] at h2
      simp only [i32_le]
      rw [decide_eq_false (by omega)]
    · rw [if_neg h2]
      rw [i32_lt] at h1 h2
      simp only [i32_le]
      rw [decide_eq_true (by omega)]
theorem sp_mbeats {m : ba_M} {c n d : Nat} {P T : ba_T} (hG : GM m c n d P T) (hok : okG c n d P T) {j b h : Nat} (hj : j < c) (hb : b ≤ 40) (hh : h ≤ 9) : f_Mo_beatsOf SF 102 (nI j) (nI b) (nI h) m = some (nI (bts (P j 0) (P j 1) b h), m) := by
  obtain ⟨⟨o1, o2, o3, o4, o5⟩, o6, o7⟩ := id hok
  obtain ⟨q1, q2, q3, q4, q5, q6, q7⟩ := o6 j hj
  obtain ⟨p1, p2, p3, p4, p5⟩ := hG.2.2.2.1 j hj
  have hds : ds b (P j 0) ≤ 40 := by unfold ds; omega
  have hdiv : (ds b (P j 0) + P j 1 - 1) / P j 1 ≤ ds b (P j 0) + P j 1 - 1 := Nat.div_le_self _ _
  unfold f_Mo_beatsOf f_Mo_beatsOf_47 bts
  simp (disch := omega) only [oN, Option.bind_some, ↓reduceIte, ifT, ifF, eq_self, reduceCtorEq, cK_0, cK_1, cK_2, kl_2, bd_2, cK_3, cK_4, kl_4, bd_4, cK_5, cK_6, cK_7, kl_7, bd_7, cK_8, cK_25, cK_20, kl_20, bd_20, cK_21, kl_21, bd_21, cK_22, kl_22, bd_22, cK_23, cK_24, kl_24, bd_24, cK_37, cK_38, cK_39, kl_39, bd_39, cK_40, kl_40, bd_40, cK_41, kl_41, bd_41, cK_42, kl_42, bd_42, cK_43, kl_43, bd_43, cK_44, cK_45, kl_45, bd_45, cK_46, kl_46, bd_46, cK_47, kl_47, bd_47, cK_48, cK_49, kl_49, bd_49, cK_90, cK_91, kl_91, bd_91, cK_102, cK_103, kl_103, bd_103, cK_104, kl_104, bd_104, cK_105, kl_105, bd_105, cK_106, kl_106, bd_106, cK_107, kl_107, bd_107, cK_108, kl_108, bd_108, cK_109, kl_109, bd_109, cK_110, kl_110, bd_110, cK_111, kl_111, bd_111, cK_112, kl_112, bd_112, cK_113, kl_113, bd_113, cK_114, kl_114, bd_114, cK_115, kl_115, bd_115, cK_116, kl_116, bd_116, cK_117, kl_117, bd_117, cK_118, kl_118, bd_118, cK_119, kl_119, bd_119, cK_120, kl_120, bd_120, cK_121, kl_121, bd_121, ld_0_0, ld_0_1, ld_0_2, ld_0_3, ld_0_4, ld_0_5, ld_0_6, ld_0_7, ld_0_8, ld_0_9, ld_1_0, ld_3_0, ld_5_0, ld_5_1, ld_5_2, ld_5_3, ld_6_0, ld_6_1, ld_23_0, ld_23_1, ld_38_0, ld_38_1, ld_38_2, ld_38_3, ld_38_4, ld_44_0, ld_44_1, ld_44_2, ld_48_1, ld_90_1, ld_102_3, ld_102_4, ld_102_5, ld_102_8, ld_102_12, ld_102_13, ld_102_14, ld_102_15, ld_102_16, ld_102_17, ld_102_19, ld_102_20, ld_102_21, ld_102_22, ld_102_23, ld_102_25, ld_102_27, ld_102_28, ld_102_30, cK_pl, cK_to, cK_dp, cK_dt, cK_un, cK_ke, ld_pl, ld_to, ld_dp, ld_dt, ld_un, ld_ke, nI_add, pk_mul, pk_sub, nI_ltI, nI_leI, nI_eq, nI_clamp, z0, p1, p2, sp_size, pk_div]
  by_cases h1 : (ds b (P j 0) + P j 1 - 1) / P j 1 ≤ h
  · rw [if_pos h1, Nat.max_eq_left h1]
  · rw [if_neg h1, Nat.max_eq_right (by omega)]
theorem sp_mstands {m : ba_M} {c n d : Nat} {P T : ba_T} (hG : GM m c n d P T) (hok : okG c n d P T) {k kd b bt : Nat} (hk : k < c) (hkd : kd ≤ 3) (hb : b ≤ 40) (hbt : 1 ≤ bt ∧ bt ≤ 100) : f_Mo_standsOf SF 102 (nI k) (nI kd) (nI b) (nI bt) m = some (nI (stp n d (P k 0) (P k 1) kd b bt), m) := by
  obtain ⟨⟨o1, o2, o3, o4, o5⟩, o6, o7⟩ := id hok
  obtain ⟨q1, q2, q3, q4, q5, q6, q7⟩ := o6 k hk
  obtain ⟨p1, p2, p3, p4, p5⟩ := hG.2.2.2.1 k hk
  have hm1 : P k 1 * bt ≤ 5 * 100 := Nat.mul_le_mul q3 hbt.2
  have hm2 : P k 1 * (bt - 1) ≤ 5 * 100 := Nat.mul_le_mul q3 (by omega)
  have hc1 : bt * P k 1 = P k 1 * bt := Nat.mul_comm _ _
  have hc2 : (bt - 1) * P k 1 = P k 1 * (bt - 1) := Nat.mul_comm _ _
  have hds : ds (P k 0) b ≤ 40 := by unfold ds; omega
  unfold f_Mo_standsOf f_Mo_standsOf_21 f_Mo_standsOf_69 f_Mo_standsOf_96 f_Mo_standsOf_141 stp tw
  simp (disch := omega) only [oN, Option.bind_some, ↓reduceIte, ifT, ifF, eq_self, reduceCtorEq, cK_0, cK_1, cK_2, kl_2, bd_2, cK_3, cK_4, kl_4, bd_4, cK_5, cK_6, cK_7, kl_7, bd_7, cK_8, cK_25, cK_20, kl_20, bd_20, cK_21, kl_21, bd_21, cK_22, kl_22, bd_22, cK_23, cK_24, kl_24, bd_24, cK_37, cK_38, cK_39, kl_39, bd_39, cK_40, kl_40, bd_40, cK_41, kl_41, bd_41, cK_42, kl_42, bd_42, cK_43, kl_43, bd_43, cK_44, cK_45, kl_45, bd_45, cK_46, kl_46, bd_46, cK_47, kl_47, bd_47, cK_48, cK_49, kl_49, bd_49, cK_90, cK_91, kl_91, bd_91, cK_102, cK_103, kl_103, bd_103, cK_104, kl_104, bd_104, cK_105, kl_105, bd_105, cK_106, kl_106, bd_106, cK_107, kl_107, bd_107, cK_108, kl_108, bd_108, cK_109, kl_109, bd_109, cK_110, kl_110, bd_110, cK_111, kl_111, bd_111, cK_112, kl_112, bd_112, cK_113, kl_113, bd_113, cK_114, kl_114, bd_114, cK_115, kl_115, bd_115, cK_116, kl_116, bd_116, cK_117, kl_117, bd_117, cK_118, kl_118, bd_118, cK_119, kl_119, bd_119, cK_120, kl_120, bd_120, cK_121, kl_121, bd_121, ld_0_0, ld_0_1, ld_0_2, ld_0_3, ld_0_4, ld_0_5, ld_0_6, ld_0_7, ld_0_8, ld_0_9, ld_1_0, ld_3_0, ld_5_0, ld_5_1, ld_5_2, ld_5_3, ld_6_0, ld_6_1, ld_23_0, ld_23_1, ld_38_0, ld_38_1, ld_38_2, ld_38_3, ld_38_4, ld_44_0, ld_44_1, ld_44_2, ld_48_1, ld_90_1, ld_102_3, ld_102_4, ld_102_5, ld_102_8, ld_102_12, ld_102_13, ld_102_14, ld_102_15, ld_102_16, ld_102_17, ld_102_19, ld_102_20, ld_102_21, ld_102_22, ld_102_23, ld_102_25, ld_102_27, ld_102_28, ld_102_30, cK_pl, cK_to, cK_dp, cK_dt, cK_un, cK_ke, ld_pl, ld_to, ld_dp, ld_dt, ld_un, ld_ke, nI_add, pk_mul, nI_ltI, nI_leI, nI_eq, nI_clamp, z0, p1, p2, hG.2.1, hG.2.2.1, sp_size, m1_mul, Int32.sub_neg, ← Int32.sub_eq_add_neg, sub_nn, hc1, hc2, Nat.one_mul]
  by_cases h2 : kd = 2
  · by_cases hx : P k 0 < b
    · by_cases h3 : ds (P k 0) b ≤ P k 1 * bt
      · simp (disch := omega) only [h2, hx, h3, oN, Option.bind_some, ↓reduceIte, ifT, ifF, eq_self, reduceCtorEq, nI_add, pk_mul, pk_sub, nI_ltI, nI_leI, nI_eq, nI_clamp, z0]
        unfold ds at h3 ⊢
        congr 3
        omega
      · simp (disch := omega) only [h2, hx, h3, oN, Option.bind_some, ↓reduceIte, ifT, ifF, eq_self, reduceCtorEq, nI_add, pk_mul, pk_sub, nI_ltI, nI_leI, nI_eq, nI_clamp, z0]
        unfold ds at h3
        congr 3
        omega
    · by_cases h3 : ds (P k 0) b ≤ P k 1 * bt
      · have hd2 : ds (P k 0) b ≤ P k 0 := by unfold ds; omega
        simp (disch := omega) only [h2, hx, h3, oN, Option.bind_some, ↓reduceIte, ifT, ifF, eq_self, reduceCtorEq, nI_add, pk_mul, pk_sub, nI_ltI, nI_leI, nI_eq, nI_clamp, z0]
        unfold ds at h3 ⊢
        congr 3
        split <;> omega
      · have hd2 : P k 1 * bt ≤ P k 0 := by unfold ds at h3; omega
        simp (disch := omega) only [h2, hx, h3, oN, Option.bind_some, ↓reduceIte, ifT, ifF, eq_self, reduceCtorEq, nI_add, pk_mul, pk_sub, nI_ltI, nI_leI, nI_eq, nI_clamp, z0]
        unfold ds at h3
        congr 3
        split <;> omega
  · by_cases h1 : kd = 1
    · by_cases hx : P k 0 < b
      · by_cases h3 : P k 1 * (bt - 1) + d ≤ P k 0
        · simp (disch := omega) only [h2, h1, hx, h3, oN, Option.bind_some, ↓reduceIte, ifT, ifF, eq_self, reduceCtorEq, nI_add, pk_mul, pk_sub, nI_ltI, nI_leI, nI_eq, nI_clamp, z0, sub_nn]
          congr 3
          split <;> omega
        · simp (disch := omega) only [h2, h1, hx, h3, oN, Option.bind_some, ↓reduceIte, ifT, ifF, eq_self, reduceCtorEq, nI_add, pk_mul, pk_sub, nI_ltI, nI_leI, nI_eq, nI_clamp, z0, sub_nn]
          congr 3
          split <;> omega
      · by_cases h3 : P k 0 + (P k 1 * (bt - 1) + d) ≤ n
        · simp (disch := omega) only [h2, h1, hx, h3, oN, Option.bind_some, ↓reduceIte, ifT, ifF, eq_self, reduceCtorEq, nI_add, pk_mul, pk_sub, nI_ltI, nI_leI, nI_eq, nI_clamp, z0, sub_nn]
          congr 3
          omega
        · simp (disch := omega) only [h2, h1, hx, h3, oN, Option.bind_some, ↓reduceIte, ifT, ifF, eq_self, reduceCtorEq, nI_add, pk_mul, pk_sub, nI_ltI, nI_leI, nI_eq, nI_clamp, z0, sub_nn]
          congr 3
          omega
    · by_cases hx : P k 0 < b
      · by_cases h3 : P k 1 * bt + d ≤ P k 0
        · simp (disch := omega) only [h2, h1, hx, h3, oN, Option.bind_some, ↓reduceIte, ifT, ifF, eq_self, reduceCtorEq, nI_add, pk_mul, pk_sub, nI_ltI, nI_leI, nI_eq, nI_clamp, z0, sub_nn]
          congr 3
          split <;> omega
        · simp (disch := omega) only [h2, h1, hx, h3, oN, Option.bind_some, ↓reduceIte, ifT, ifF, eq_self, reduceCtorEq, nI_add, pk_mul, pk_sub, nI_ltI, nI_leI, nI_eq, nI_clamp, z0, sub_nn]
          congr 3
          split <;> omega
      · by_cases h3 : P k 0 + (P k 1 * bt + d) ≤ n
        · simp (disch := omega) only [h2, h1, hx, h3, oN, Option.bind_some, ↓reduceIte, ifT, ifF, eq_self, reduceCtorEq, nI_add, pk_mul, pk_sub, nI_ltI, nI_leI, nI_eq, nI_clamp, z0, sub_nn]
          congr 3
          omega
        · simp (disch := omega) only [h2, h1, hx, h3, oN, Option.bind_some, ↓reduceIte, ifT, ifF, eq_self, reduceCtorEq, nI_add, pk_mul, pk_sub, nI_ltI, nI_leI, nI_eq, nI_clamp, z0, sub_nn]
          congr 3
          omega
