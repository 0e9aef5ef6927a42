/-- what the reference's round leaves -/
def oMo : Nat → Nat → Prop := fun o k => 110 ≤ o ∧ o ≤ 112 ∨ o = 102 ∧ k = 18
theorem sp_hidesLoop {m : ba_M} {c n d j k fr : Nat} {P T : ba_T} {st : Nat → Nat} (hG : GM m c n d P T) (hok : okG c n d P T) (hst : ∀ i, i < c → gI m 110 i = nI (st i) ∧ st i ≤ 40) (hj : j < c) (hk : k < c) (hfr : fr ≤ 40) : ∀ (r i N : Nat), c - i = r → i ≤ c → r < N →
    fx (fun _ _ _ _ _ _ _ => none) (b_Mo_hides_47 SF) N 102 (nI j) (nI k) (nI (min fr (st k))) (nI (max fr (st k))) (nI i) m = some (hI (hdF (hdP P st (fun _ => fr) j k) r i), m) := by
  intro r
  obtain ⟨⟨o1, o2, o3, o4, o5⟩, o6, o7⟩ := id hok
  obtain ⟨q1, q2, q3, q4, q5, q6, q7⟩ := o6 k hk
  obtain ⟨y1, y2, y3, y4, y5⟩ := hG.2.2.2.1 k hk
  obtain ⟨k1, k2⟩ := hst k hk
  induction r with
  | zero =>
    intro i N hr hi hN
    obtain ⟨N, rfl⟩ : ∃ z, N = z + 1 := ⟨N - 1, by omega⟩
    rw [fx_s]
    unfold b_Mo_hides_47
    simp (disch := omega) only [oN, Option.bind_some, ↓reduceIte, ifT, ifF, eq_self, reduceCtorEq, cK_0, cK_1, cK_2, kl_2, bd_2, cK_3, cK_4, kl_4, bd_4, cK_5, cK_6, cK_7, kl_7, bd_7, cK_8, cK_25, cK_20, kl_20, bd_20, cK_21, kl_21, bd_21, cK_22, kl_22, bd_22, cK_23, cK_24, kl_24, bd_24, cK_37, cK_38, cK_39, kl_39, bd_39, cK_40, kl_40, bd_40, cK_41, kl_41, bd_41, cK_42, kl_42, bd_42, cK_43, kl_43, bd_43, cK_44, cK_45, kl_45, bd_45, cK_46, kl_46, bd_46, cK_47, kl_47, bd_47, cK_48, cK_49, kl_49, bd_49, cK_90, cK_91, kl_91, bd_91, cK_102, cK_103, kl_103, bd_103, cK_104, kl_104, bd_104, cK_105, kl_105, bd_105, cK_106, kl_106, bd_106, cK_107, kl_107, bd_107, cK_108, kl_108, bd_108, cK_109, kl_109, bd_109, cK_110, kl_110, bd_110, cK_111, kl_111, bd_111, cK_112, kl_112, bd_112, cK_113, kl_113, bd_113, cK_114, kl_114, bd_114, cK_115, kl_115, bd_115, cK_116, kl_116, bd_116, cK_117, kl_117, bd_117, cK_118, kl_118, bd_118, cK_119, kl_119, bd_119, cK_120, kl_120, bd_120, cK_121, kl_121, bd_121, ld_0_0, ld_0_1, ld_0_2, ld_0_3, ld_0_4, ld_0_5, ld_0_6, ld_0_7, ld_0_8, ld_0_9, ld_1_0, ld_3_0, ld_5_0, ld_5_1, ld_5_2, ld_5_3, ld_6_0, ld_6_1, ld_23_0, ld_23_1, ld_38_0, ld_38_1, ld_38_2, ld_38_3, ld_38_4, ld_44_0, ld_44_1, ld_44_2, ld_48_1, ld_90_1, ld_102_3, ld_102_4, ld_102_5, ld_102_8, ld_102_12, ld_102_13, ld_102_14, ld_102_15, ld_102_16, ld_102_17, ld_102_19, ld_102_20, ld_102_21, ld_102_22, ld_102_23, ld_102_25, ld_102_27, ld_102_28, ld_102_30, cK_pl, cK_to, cK_dp, cK_dt, cK_un, cK_ke, ld_pl, ld_to, ld_dp, ld_dt, ld_un, ld_ke, hG.1, nI_leI]
    rfl
  | succ r ih =>
    intro i N hr' hi hN
    obtain ⟨N, rfl⟩ : ∃ z, N = z + 1 := ⟨N - 1, by omega⟩
    have hic : i < c := by omega
    obtain ⟨s1, s2⟩ := hst i hic
    obtain ⟨p1, p2, p3, p4, p5⟩ := hG.2.2.2.1 i hic
    obtain ⟨v1, v2, v3, v4, v5, v6, v7⟩ := o6 i hic
    have key := ih (i + 1) N (by omega) (by omega) (by omega)
    rw [fx_s]
    generalize fx (fun _ _ _ _ _ _ _ => none) (b_Mo_hides_47 SF) N = K at key ⊢
    have h119 : f_Mo_hides_119 SF K 102 (nI j) (nI k) (nI (min fr (st k))) (nI (max fr (st k))) (nI i) m = some (hI (hdF (hdP P st (fun _ => fr) j k) r (i + 1)), m) := by
      unfold f_Mo_hides_119
      rw [nI_add]
      exact key
    unfold b_Mo_hides_47
    simp (disch := omega) only [oN, Option.bind_some, ↓reduceIte, ifT, ifF, eq_self, reduceCtorEq, cK_0, cK_1, cK_2, kl_2, bd_2, cK_3, cK_4, kl_4, bd_4, cK_5, cK_6, cK_7, kl_7, bd_7, cK_8, cK_25, cK_20, kl_20, bd_20, cK_21, kl_21, bd_21, cK_22, kl_22, bd_22, cK_23, cK_24, kl_24, bd_24, cK_37, cK_38, cK_39, kl_39, bd_39, cK_40, kl_40, bd_40, cK_41, kl_41, bd_41, cK_42, kl_42, bd_42, cK_43, kl_43, bd_43, cK_44, cK_45, kl_45, bd_45, cK_46, kl_46, bd_46, cK_47, kl_47, bd_47, cK_48, cK_49, kl_49, bd_49, cK_90, cK_91, kl_91, bd_91, cK_102, cK_103, kl_103, bd_103, cK_104, kl_104, bd_104, cK_105, kl_105, bd_105, cK_106, kl_106, bd_106, cK_107, kl_107, bd_107, cK_108, kl_108, bd_108, cK_109, kl_109, bd_109, cK_110, kl_110, bd_110, cK_111, kl_111, bd_111, cK_112, kl_112, bd_112, cK_113, kl_113, bd_113, cK_114, kl_114, bd_114, cK_115, kl_115, bd_115, cK_116, kl_116, bd_116, cK_117, kl_117, bd_117, cK_118, kl_118, bd_118, cK_119, kl_119, bd_119, cK_120, kl_120, bd_120, cK_121, kl_121, bd_121, ld_0_0, ld_0_1, ld_0_2, ld_0_3, ld_0_4, ld_0_5, ld_0_6, ld_0_7, ld_0_8, ld_0_9, ld_1_0, ld_3_0, ld_5_0, ld_5_1, ld_5_2, ld_5_3, ld_6_0, ld_6_1, ld_23_0, ld_23_1, ld_38_0, ld_38_1, ld_38_2, ld_38_3, ld_38_4, ld_44_0, ld_44_1, ld_44_2, ld_48_1, ld_90_1, ld_102_3, ld_102_4, ld_102_5, ld_102_8, ld_102_12, ld_102_13, ld_102_14, ld_102_15, ld_102_16, ld_102_17, ld_102_19, ld_102_20, ld_102_21, ld_102_22, ld_102_23, ld_102_25, ld_102_27, ld_102_28, ld_102_30, cK_pl, cK_to, cK_dp, cK_dt, cK_un, cK_ke, ld_pl, ld_to, ld_dp, ld_dt, ld_un, ld_ke, hG.1, nI_leI, s1, nI_eq, nI_ltI, nI_add, pk_mul, nI_clamp, p3, y3, h119]
    have hstep : hdF (hdP P st (fun _ => fr) j k) (r + 1) i = if hdP P st (fun _ => fr) j k i = true then some i else hdF (hdP P st (fun _ => fr) j k) r (i + 1) := rfl
    rw [hstep]
    by_cases c2 : i = j
    · rw [if_neg (show ¬ hdP P st (fun _ => fr) j k i = true by simp [hdP, c2])]
      simp only [c2, ↓reduceIte]
    · by_cases c1 : i = k
      · rw [if_neg (show ¬ hdP P st (fun _ => fr) j k i = true by simp [hdP, c1])]
        simp only [c1, ↓reduceIte, ite_self]
      · by_cases c5 : P i 2 < P k 2
        · rw [if_neg (show ¬ hdP P st (fun _ => fr) j k i = true by simp [hdP]; omega)]
          simp (disch := omega) only [c1, c2, c5, ↓reduceIte]
        · by_cases c3 : st i ≤ min fr (st k)
          · rw [if_neg (show ¬ hdP P st (fun _ => fr) j k i = true by simp [hdP]; omega)]
            simp (disch := omega) only [c1, c2, c3, c5, ↓reduceIte]
          · by_cases c4 : max fr (st k) ≤ st i
            · rw [if_neg (show ¬ hdP P st (fun _ => fr) j k i = true by simp [hdP]; omega)]
              simp (disch := omega) only [c1, c2, c3, c4, c5, ↓reduceIte]
            · rw [if_pos (show hdP P st (fun _ => fr) j k i = true by simp [hdP]; omega)]
              simp (disch := omega) only [c1, c2, c3, c4, c5, ↓reduceIte]
              rfl
theorem sp_hides {m : ba_M} {c n d j k fr : Nat} {P T : ba_T} {st : Nat → Nat} (hG : GM m c n d P T) (hok : okG c n d P T) (hst : ∀ i, i < c → gI m 110 i = nI (st i) ∧ st i ≤ 40) (hj : j < c) (hk : k < c) (hfr : fr ≤ 40) :
    f_Mo_hides SF 102 (nI j) (nI k) (nI fr) m = some (hI (hdF (hdP P st (fun _ => fr) j k) c 0), m) := by
  have key := sp_hidesLoop hG hok hst hj hk hfr c 0 FU rfl (by omega) (by have := hok.1; unfold FU; omega)
  obtain ⟨⟨o1, o2, o3, o4, o5⟩, o6, o7⟩ := id hok
  obtain ⟨k1, k2⟩ := hst k hk
  unfold f_Mo_hides f_Mo_hides_20 f_Mo_hides_42 f_Mo_hides_47
  simp (disch := omega) only [oN, Option.bind_some, ↓reduceIte, ifT, ifF, eq_self, reduceCtorEq, cK_0, cK_1, cK_2, kl_2, bd_2, cK_3, cK_4, kl_4, bd_4, cK_5, cK_6, cK_7, kl_7, bd_7, cK_8, cK_25, cK_20, kl_20, bd_20, cK_21, kl_21, bd_21, cK_22, kl_22, bd_22, cK_23, cK_24, kl_24, bd_24, cK_37, cK_38, cK_39, kl_39, bd_39, cK_40, kl_40, bd_40, cK_41, kl_41, bd_41, cK_42, kl_42, bd_42, cK_43, kl_43, bd_43, cK_44, cK_45, kl_45, bd_45, cK_46, kl_46, bd_46, cK_47, kl_47, bd_47, cK_48, cK_49, kl_49, bd_49, cK_90, cK_91, kl_91, bd_91, cK_102, cK_103, kl_103, bd_103, cK_104, kl_104, bd_104, cK_105, kl_105, bd_105, cK_106, kl_106, bd_106, cK_107, kl_107, bd_107, cK_108, kl_108, bd_108, cK_109, kl_109, bd_109, cK_110, kl_110, bd_110, cK_111, kl_111, bd_111, cK_112, kl_112, bd_112, cK_113, kl_113, bd_113, cK_114, kl_114, bd_114, cK_115, kl_115, bd_115, cK_116, kl_116, bd_116, cK_117, kl_117, bd_117, cK_118, kl_118, bd_118, cK_119, kl_119, bd_119, cK_120, kl_120, bd_120, cK_121, kl_121, bd_121, ld_0_0, ld_0_1, ld_0_2, ld_0_3, ld_0_4, ld_0_5, ld_0_6, ld_0_7, ld_0_8, ld_0_9, ld_1_0, ld_3_0, ld_5_0, ld_5_1, ld_5_2, ld_5_3, ld_6_0, ld_6_1, ld_23_0, ld_23_1, ld_38_0, ld_38_1, ld_38_2, ld_38_3, ld_38_4, ld_44_0, ld_44_1, ld_44_2, ld_48_1, ld_90_1, ld_102_3, ld_102_4, ld_102_5, ld_102_8, ld_102_12, ld_102_13, ld_102_14, ld_102_15, ld_102_16, ld_102_17, ld_102_19, ld_102_20, ld_102_21, ld_102_22, ld_102_23, ld_102_25, ld_102_27, ld_102_28, ld_102_30, cK_pl, cK_to, cK_dp, cK_dt, cK_un, cK_ke, ld_pl, ld_to, ld_dp, ld_dt, ld_un, ld_ke, k1, nI_clamp, nI_leI]
  by_cases h : st k ≤ fr
  · rw [Nat.min_eq_right h, Nat.max_eq_left h] at key
    simp only [h, ↓reduceIte]
    exact key
  · rw [Nat.min_eq_left (by omega), Nat.max_eq_right (by omega)] at key
    simp only [h, ↓reduceIte]
    exact key
theorem hdP_tc {P : ba_T} {st tc : Nat → Nat} {j k : Nat} : hdP P st (fun _ => tc k) j k = hdP P st tc j k := rfl
