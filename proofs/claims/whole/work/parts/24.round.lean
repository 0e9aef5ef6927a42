/-! the class's round -/
theorem sp_who {i : Nat} (h : i < 5) (m : ba_M) : f_Ga_who SF 6 (nI i) m = some (10 + 2 * i, m) := by
  unfold f_Ga_who f_Ga_who_23 f_Ga_who_36 f_Ga_who_22
  simp (disch := omega) only [oN, Option.bind_some, ↓reduceIte, ifT, ifF, eq_self, reduceCtorEq, cK_0, cK_1, cK_2, kl_2, bd_2, cK_3, cK_4, kl_4, bd_4, cK_5, cK_6, cK_7, kl_7, bd_7, cK_8, cK_25, cK_20, kl_20, bd_20, cK_21, kl_21, bd_21, cK_22, kl_22, bd_22, cK_23, cK_24, kl_24, bd_24, cK_37, cK_38, cK_39, kl_39, bd_39, cK_40, kl_40, bd_40, cK_41, kl_41, bd_41, cK_42, kl_42, bd_42, cK_43, kl_43, bd_43, cK_44, cK_45, kl_45, bd_45, cK_46, kl_46, bd_46, cK_47, kl_47, bd_47, cK_48, cK_49, kl_49, bd_49, cK_90, cK_91, kl_91, bd_91, cK_102, cK_103, kl_103, bd_103, cK_104, kl_104, bd_104, cK_105, kl_105, bd_105, cK_106, kl_106, bd_106, cK_107, kl_107, bd_107, cK_108, kl_108, bd_108, cK_109, kl_109, bd_109, cK_110, kl_110, bd_110, cK_111, kl_111, bd_111, cK_112, kl_112, bd_112, cK_113, kl_113, bd_113, cK_114, kl_114, bd_114, cK_115, kl_115, bd_115, cK_116, kl_116, bd_116, cK_117, kl_117, bd_117, cK_118, kl_118, bd_118, cK_119, kl_119, bd_119, cK_120, kl_120, bd_120, cK_121, kl_121, bd_121, ld_0_0, ld_0_1, ld_0_2, ld_0_3, ld_0_4, ld_0_5, ld_0_6, ld_0_7, ld_0_8, ld_0_9, ld_1_0, ld_3_0, ld_5_0, ld_5_1, ld_5_2, ld_5_3, ld_6_0, ld_6_1, ld_23_0, ld_23_1, ld_38_0, ld_38_1, ld_38_2, ld_38_3, ld_38_4, ld_44_0, ld_44_1, ld_44_2, ld_48_1, ld_90_1, ld_102_3, ld_102_4, ld_102_5, ld_102_8, ld_102_12, ld_102_13, ld_102_14, ld_102_15, ld_102_16, ld_102_17, ld_102_19, ld_102_20, ld_102_21, ld_102_22, ld_102_23, ld_102_25, ld_102_27, ld_102_28, ld_102_30, cK_pl, cK_to, cK_dp, cK_dt, cK_un, cK_ke, ld_pl, ld_to, ld_dp, ld_dt, ld_un, ld_ke, nI_add, pk_mul, pk_sub, nI_ltI, nI_leI, nI_eq, nI_clamp, z0]
theorem sp_at {o l i : Nat} (hk : ck SF o 20 = true) (hl : kL SF o = l) (h : i < l) (h2 : l < 2 ^ 31) (m : ba_M) : f_Rw_at SF o (nI i) m = some (gI m o i, m) := by
  unfold f_Rw_at f_Rw_at_17 f_Rw_at_16 cK
  rw [if_pos hk, if_neg (nI_pos (by omega)), hl, if_neg (by rw [nI_leI (by omega) (by omega)]; omega), bd_of hl h h2, nI_clamp (by omega)]
theorem sp_put {o l i : Nat} {x : Int32} (hk : ck SF o 20 = true) (hl : kL SF o = l) (h : i < l) (h2 : l < 2 ^ 31) (m : ba_M) : f_Rw_put SF o (nI i) x m = some (wI m o i x) := by
  unfold f_Rw_put f_Rw_put_14 cK
  rw [if_pos hk, if_neg (nI_pos (by omega)), hl, if_neg (by rw [nI_leI (by omega) (by omega)]; omega), bd_of hl h h2, nI_clamp (by omega)]
/-- the game as told: players P i f (start, pace, size, skill, kind), what is told of them T i f (callee, cell, height, letters) -/
abbrev ba_T : Type := Nat → Nat → Nat
def okG (c n d : Nat) (P T : ba_T) : Prop := (2 ≤ c ∧ c ≤ 5 ∧ 5 ≤ n ∧ n ≤ 40 ∧ d ≤ 3) ∧ (∀ i, i < c → P i 0 ≤ n ∧ 1 ≤ P i 1 ∧ P i 1 ≤ 5 ∧ 1 ≤ P i 2 ∧ P i 2 ≤ 9 ∧ P i 3 ≤ 9 ∧ P i 4 ≤ 3) ∧ ∀ i, i < c → T i 0 < c ∧ T i 0 ≠ i ∧ T i 1 ≤ n ∧ 1 ≤ T i 2 ∧ T i 2 ≤ 9 ∧ T i 3 ≤ 3
def GC (m : ba_M) (c n d : Nat) (P T : ba_T) : Prop := gI m 6 2 = nI c ∧ gI m 6 3 = nI n ∧ gI m 6 4 = nI d ∧ (∀ i, i < c → gI m (10 + 2 * i) 1 = nI (P i 0) ∧ gI m (10 + 2 * i) 2 = nI (P i 1) ∧ gI m (10 + 2 * i) 3 = nI (P i 2) ∧ gI m (10 + 2 * i) 4 = nI (P i 3) ∧ gI m (10 + 2 * i) 5 = nI (P i 4)) ∧ ∀ i, i < c → gI m (11 + 2 * i) 0 = nI (T i 0) ∧ gI m (11 + 2 * i) 1 = nI (T i 1) ∧ gI m (11 + 2 * i) 2 = nI (T i 2) ∧ gI m (11 + 2 * i) 3 = nI (T i 3)
def tw (g f r : Nat) : Nat := if f ≤ g then min g (f + r) else max g (f - r)
def stp (n d X V kd b bt : Nat) : Nat := tw (if kd = 2 then b else if X < b then 0 else n) X ((if kd = 1 then bt - 1 else bt) * V + if kd = 2 then 0 else d)
theorem tw_le {g f r N : Nat} (hg : g ≤ N) (hf : f ≤ N) : tw g f r ≤ N := by
  unfold tw
  split <;> omega
theorem sp_toward {S : ba_S} {g f r : Nat} (hg : g < 2 ^ 29) (hf : f < 2 ^ 29) (hr : r < 2 ^ 29) (m : ba_M) : f_Ro_toward S (nI g) (nI f) (nI r) m = some (nI (tw g f r), m) := by
  unfold f_Ro_toward f_Ro_toward_22 tw
  by_cases h : f ≤ g
  · simp (disch := omega) only [oN, Option.bind_some, ↓reduceIte, ifT, ifF, eq_self, reduceCtorEq, nI_add, nI_ltI, jmin_n]
  · simp (disch := omega) only [oN, Option.bind_some, ↓reduceIte, ifT, ifF, eq_self, reduceCtorEq, nI_ltI, jmax_s]
theorem sp_suppose {m : ba_M} {c n d : Nat} {P T : ba_T} (hG : GC m c n d P T) (hok : okG c n d P T) {k j b bt kd : Nat} (hk : k < c) (hj : j < c) (hb : b ≤ 40) (hbt : 1 ≤ bt ∧ bt ≤ 100) (hkd : kd ≤ 3) (h4 : gI m 5 4 = nI j) (h5 : gI m 5 5 = nI b) (h6 : gI m 5 6 = nI bt) :
    f_Ro_suppose SF 5 (nI k) (nI kd) m = some (wI (wI (wI m 20 k (nI kd)) 21 k (nI (if k = j then b else stp n d (P k 0) (P k 1) kd b bt))) 22 k (nI (tw (if k = j then b else stp n d (P k 0) (P k 1) kd b bt) b 3))) := by
  obtain ⟨g1, g2, g3, g4, g5⟩ := hG
  obtain ⟨⟨o1, o2, o3, o4, o5⟩, o6, o7⟩ := hok
  obtain ⟨p1, p2, p3, p4, p5⟩ := g4 k hk
  obtain ⟨q1, q2, q3, q4, q5, q6, q7⟩ := o6 k hk
  have hk5 : k < 5 := by omega
  have hm1 : bt * P k 1 ≤ 100 * 5 := Nat.mul_le_mul hbt.2 q3
  have hm2 : (bt - 1) * P k 1 ≤ 100 * 5 := Nat.mul_le_mul (by omega) q3
  have hst : (if k = j then b else stp n d (P k 0) (P k 1) kd b bt) ≤ 40 := by
    split
    · exact hb
    · unfold stp
      refine tw_le ?_ (by omega)
      split
      · exact hb
      · split <;> omega
  generalize hs : (if k = j then b else stp n d (P k 0) (P k 1) kd b bt) = st at hst ⊢
  unfold f_Ro_suppose
  simp (disch := omega) only [oN, Option.bind_some, ↓reduceIte, ifT, ifF, eq_self, reduceCtorEq, cK_0, cK_1, cK_2, kl_2, bd_2, cK_3, cK_4, kl_4, bd_4, cK_5, cK_6, cK_7, kl_7, bd_7, cK_8, cK_25, cK_20, kl_20, bd_20, cK_21, kl_21, bd_21, cK_22, kl_22, bd_22, cK_23, cK_24, kl_24, bd_24, cK_37, cK_38, cK_39, kl_39, bd_39, cK_40, kl_40, bd_40, cK_41, kl_41, bd_41, cK_42, kl_42, bd_42, cK_43, kl_43, bd_43, cK_44, cK_45, kl_45, bd_45, cK_46, kl_46, bd_46, cK_47, kl_47, bd_47, cK_48, cK_49, kl_49, bd_49, cK_90, cK_91, kl_91, bd_91, cK_102, cK_103, kl_103, bd_103, cK_104, kl_104, bd_104, cK_105, kl_105, bd_105, cK_106, kl_106, bd_106, cK_107, kl_107, bd_107, cK_108, kl_108, bd_108, cK_109, kl_109, bd_109, cK_110, kl_110, bd_110, cK_111, kl_111, bd_111, cK_112, kl_112, bd_112, cK_113, kl_113, bd_113, cK_114, kl_114, bd_114, cK_115, kl_115, bd_115, cK_116, kl_116, bd_116, cK_117, kl_117, bd_117, cK_118, kl_118, bd_118, cK_119, kl_119, bd_119, cK_120, kl_120, bd_120, cK_121, kl_121, bd_121, ld_0_0, ld_0_1, ld_0_2, ld_0_3, ld_0_4, ld_0_5, ld_0_6, ld_0_7, ld_0_8, ld_0_9, ld_1_0, ld_3_0, ld_5_0, ld_5_1, ld_5_2, ld_5_3, ld_6_0, ld_6_1, ld_23_0, ld_23_1, ld_38_0, ld_38_1, ld_38_2, ld_38_3, ld_38_4, ld_44_0, ld_44_1, ld_44_2, ld_48_1, ld_90_1, ld_102_3, ld_102_4, ld_102_5, ld_102_8, ld_102_12, ld_102_13, ld_102_14, ld_102_15, ld_102_16, ld_102_17, ld_102_19, ld_102_20, ld_102_21, ld_102_22, ld_102_23, ld_102_25, ld_102_27, ld_102_28, ld_102_30, cK_pl, cK_to, cK_dp, cK_dt, cK_un, cK_ke, ld_pl, ld_to, ld_dp, ld_dt, ld_un, ld_ke, sp_who, p1, h5, g2, nI_ltI]
  have e121 : ∀ m', m' = m → f_Ro_suppose_121 SF 5 (nI k) (nI kd) (nI st) m' = some (wI (wI (wI m 20 k (nI kd)) 21 k (nI st)) 22 k (nI (tw st b 3))) := by
    rintro m' rfl
    unfold f_Ro_suppose_121
    simp (disch := omega) only [oN, Option.bind_some, ↓reduceIte, ifT, ifF, eq_self, reduceCtorEq, cK_0, cK_1, cK_2, kl_2, bd_2, cK_3, cK_4, kl_4, bd_4, cK_5, cK_6, cK_7, kl_7, bd_7, cK_8, cK_25, cK_20, kl_20, bd_20, cK_21, kl_21, bd_21, cK_22, kl_22, bd_22, cK_23, cK_24, kl_24, bd_24, cK_37, cK_38, cK_39, kl_39, bd_39, cK_40, kl_40, bd_40, cK_41, kl_41, bd_41, cK_42, kl_42, bd_42, cK_43, kl_43, bd_43, cK_44, cK_45, kl_45, bd_45, cK_46, kl_46, bd_46, cK_47, kl_47, bd_47, cK_48, cK_49, kl_49, bd_49, cK_90, cK_91, kl_91, bd_91, cK_102, cK_103, kl_103, bd_103, cK_104, kl_104, bd_104, cK_105, kl_105, bd_105, cK_106, kl_106, bd_106, cK_107, kl_107, bd_107, cK_108, kl_108, bd_108, cK_109, kl_109, bd_109, cK_110, kl_110, bd_110, cK_111, kl_111, bd_111, cK_112, kl_112, bd_112, cK_113, kl_113, bd_113, cK_114, kl_114, bd_114, cK_115, kl_115, bd_115, cK_116, kl_116, bd_116, cK_117, kl_117, bd_117, cK_118, kl_118, bd_118, cK_119, kl_119, bd_119, cK_120, kl_120, bd_120, cK_121, kl_121, bd_121, ld_0_0, ld_0_1, ld_0_2, ld_0_3, ld_0_4, ld_0_5, ld_0_6, ld_0_7, ld_0_8, ld_0_9, ld_1_0, ld_3_0, ld_5_0, ld_5_1, ld_5_2, ld_5_3, ld_6_0, ld_6_1, ld_23_0, ld_23_1, ld_38_0, ld_38_1, ld_38_2, ld_38_3, ld_38_4, ld_44_0, ld_44_1, ld_44_2, ld_48_1, ld_90_1, ld_102_3, ld_102_4, ld_102_5, ld_102_8, ld_102_12, ld_102_13, ld_102_14, ld_102_15, ld_102_16, ld_102_17, ld_102_19, ld_102_20, ld_102_21, ld_102_22, ld_102_23, ld_102_25, ld_102_27, ld_102_28, ld_102_30, cK_pl, cK_to, cK_dp, cK_dt, cK_un, cK_ke, ld_pl, ld_to, ld_dp, ld_dt, ld_un, ld_ke, sp_put ck_20 kl_20, sp_put ck_21 kl_21, sp_put ck_22 kl_22, gI_n, h5, sp_toward]
  have e85 : ∀ g br s : Nat, g ≤ 40 → br * P k 1 ≤ 500 → br ≤ 100 → s ≤ 3 → (k ≠ j → st = tw g (P k 0) (br * P k 1 + s)) → f_Ro_suppose_85 SF 5 (nI k) (nI kd) (10 + 2 * k) (nI g) (nI br) (nI s) m = some (wI (wI (wI m 20 k (nI kd)) 21 k (nI st)) 22 k (nI (tw st b 3))) := by
    intro g br s a1 a2 a3 a4 a5
    unfold f_Ro_suppose_85
    by_cases hkj : k = j
    · rw [if_pos hkj] at hs
      subst hs
      simp (disch := omega) only [oN, Option.bind_some, ↓reduceIte, ifT, ifF, eq_self, reduceCtorEq, h4, nI_eq, h5]
      exact e121 m rfl
    · simp (disch := omega) only [oN, Option.bind_some, ↓reduceIte, ifT, ifF, eq_self, reduceCtorEq, h4, nI_eq, p1, p2, pk_mul, nI_add, sp_toward, ← a5 hkj]
      exact e121 m rfl
  have hkd2 : k ≠ j → st = stp n d (P k 0) (P k 1) kd b bt := fun h => by rw [← hs, if_neg h]
  unfold stp at hkd2
  by_cases h2 : kd = 2
  · have e47 : ∀ g : Nat, g ≤ 40 → (k ≠ j → st = tw g (P k 0) (bt * P k 1 + 0)) → f_Ro_suppose_47 SF 5 (nI k) (nI kd) (10 + 2 * k) (nI g) m = some (wI (wI (wI m 20 k (nI kd)) 21 k (nI st)) 22 k (nI (tw st b 3))) := by
      intro g a1 a2
      unfold f_Ro_suppose_47 f_Ro_suppose_67
      simp (disch := omega) only [oN, Option.bind_some, ↓reduceIte, ifT, ifF, eq_self, reduceCtorEq, nI_eq, h6]
      exact e85 g bt 0 a1 (by omega) (by omega) (by omega) a2
    have e31 : ∀ s : Int32, f_Ro_suppose_31 SF 5 (nI k) (nI kd) (10 + 2 * k) s m = some (wI (wI (wI m 20 k (nI kd)) 21 k (nI st)) 22 k (nI (tw st b 3))) := by
      intro s
      unfold f_Ro_suppose_31
      simp (disch := omega) only [oN, Option.bind_some, ↓reduceIte, ifT, ifF, eq_self, reduceCtorEq, nI_eq, h5]
      exact e47 b hb (fun h => by rw [hkd2 h, if_pos h2, if_neg (by omega), if_pos h2])
    rw [e31, e31, ite_self]
  · have e31 : ∀ g : Nat, g ≤ 40 → (k ≠ j → st = tw g (P k 0) ((if kd = 1 then bt - 1 else bt) * P k 1 + d)) → f_Ro_suppose_31 SF 5 (nI k) (nI kd) (10 + 2 * k) (nI g) m = some (wI (wI (wI m 20 k (nI kd)) 21 k (nI st)) 22 k (nI (tw st b 3))) := by
      intro g a1 a2
      unfold f_Ro_suppose_31 f_Ro_suppose_47 f_Ro_suppose_67
      by_cases h1 : kd = 1
      · rw [if_pos h1] at a2
        simp (disch := omega) only [oN, Option.bind_some, ↓reduceIte, ifT, ifF, eq_self, reduceCtorEq, cK_0, cK_1, cK_2, kl_2, bd_2, cK_3, cK_4, kl_4, bd_4, cK_5, cK_6, cK_7, kl_7, bd_7, cK_8, cK_25, cK_20, kl_20, bd_20, cK_21, kl_21, bd_21, cK_22, kl_22, bd_22, cK_23, cK_24, kl_24, bd_24, cK_37, cK_38, cK_39, kl_39, bd_39, cK_40, kl_40, bd_40, cK_41, kl_41, bd_41, cK_42, kl_42, bd_42, cK_43, kl_43, bd_43, cK_44, cK_45, kl_45, bd_45, cK_46, kl_46, bd_46, cK_47, kl_47, bd_47, cK_48, cK_49, kl_49, bd_49, cK_90, cK_91, kl_91, bd_91, cK_102, cK_103, kl_103, bd_103, cK_104, kl_104, bd_104, cK_105, kl_105, bd_105, cK_106, kl_106, bd_106, cK_107, kl_107, bd_107, cK_108, kl_108, bd_108, cK_109, kl_109, bd_109, cK_110, kl_110, bd_110, cK_111, kl_111, bd_111, cK_112, kl_112, bd_112, cK_113, kl_113, bd_113, cK_114, kl_114, bd_114, cK_115, kl_115, bd_115, cK_116, kl_116, bd_116, cK_117, kl_117, bd_117, cK_118, kl_118, bd_118, cK_119, kl_119, bd_119, cK_120, kl_120, bd_120, cK_121, kl_121, bd_121, ld_0_0, ld_0_1, ld_0_2, ld_0_3, ld_0_4, ld_0_5, ld_0_6, ld_0_7, ld_0_8, ld_0_9, ld_1_0, ld_3_0, ld_5_0, ld_5_1, ld_5_2, ld_5_3, ld_6_0, ld_6_1, ld_23_0, ld_23_1, ld_38_0, ld_38_1, ld_38_2, ld_38_3, ld_38_4, ld_44_0, ld_44_1, ld_44_2, ld_48_1, ld_90_1, ld_102_3, ld_102_4, ld_102_5, ld_102_8, ld_102_12, ld_102_13, ld_102_14, ld_102_15, ld_102_16, ld_102_17, ld_102_19, ld_102_20, ld_102_21, ld_102_22, ld_102_23, ld_102_25, ld_102_27, ld_102_28, ld_102_30, cK_pl, cK_to, cK_dp, cK_dt, cK_un, cK_ke, ld_pl, ld_to, ld_dp, ld_dt, ld_un, ld_ke, nI_eq, h6, pk_sub, g3]
        exact e85 g (bt - 1) d a1 (by omega) (by omega) (by omega) a2
      · rw [if_neg h1] at a2
        simp (disch := omega) only [oN, Option.bind_some, ↓reduceIte, ifT, ifF, eq_self, reduceCtorEq, cK_0, cK_1, cK_2, kl_2, bd_2, cK_3, cK_4, kl_4, bd_4, cK_5, cK_6, cK_7, kl_7, bd_7, cK_8, cK_25, cK_20, kl_20, bd_20, cK_21, kl_21, bd_21, cK_22, kl_22, bd_22, cK_23, cK_24, kl_24, bd_24, cK_37, cK_38, cK_39, kl_39, bd_39, cK_40, kl_40, bd_40, cK_41, kl_41, bd_41, cK_42, kl_42, bd_42, cK_43, kl_43, bd_43, cK_44, cK_45, kl_45, bd_45, cK_46, kl_46, bd_46, cK_47, kl_47, bd_47, cK_48, cK_49, kl_49, bd_49, cK_90, cK_91, kl_91, bd_91, cK_102, cK_103, kl_103, bd_103, cK_104, kl_104, bd_104, cK_105, kl_105, bd_105, cK_106, kl_106, bd_106, cK_107, kl_107, bd_107, cK_108, kl_108, bd_108, cK_109, kl_109, bd_109, cK_110, kl_110, bd_110, cK_111, kl_111, bd_111, cK_112, kl_112, bd_112, cK_113, kl_113, bd_113, cK_114, kl_114, bd_114, cK_115, kl_115, bd_115, cK_116, kl_116, bd_116, cK_117, kl_117, bd_117, cK_118, kl_118, bd_118, cK_119, kl_119, bd_119, cK_120, kl_120, bd_120, cK_121, kl_121, bd_121, ld_0_0, ld_0_1, ld_0_2, ld_0_3, ld_0_4, ld_0_5, ld_0_6, ld_0_7, ld_0_8, ld_0_9, ld_1_0, ld_3_0, ld_5_0, ld_5_1, ld_5_2, ld_5_3, ld_6_0, ld_6_1, ld_23_0, ld_23_1, ld_38_0, ld_38_1, ld_38_2, ld_38_3, ld_38_4, ld_44_0, ld_44_1, ld_44_2, ld_48_1, ld_90_1, ld_102_3, ld_102_4, ld_102_5, ld_102_8, ld_102_12, ld_102_13, ld_102_14, ld_102_15, ld_102_16, ld_102_17, ld_102_19, ld_102_20, ld_102_21, ld_102_22, ld_102_23, ld_102_25, ld_102_27, ld_102_28, ld_102_30, cK_pl, cK_to, cK_dp, cK_dt, cK_un, cK_ke, ld_pl, ld_to, ld_dp, ld_dt, ld_un, ld_ke, nI_eq, h6, g3]
        exact e85 g bt d a1 (by omega) (by omega) (by omega) a2
    rw [if_neg h2, if_neg h2] at hkd2
    by_cases hx : P k 0 < b
    · rw [if_pos hx] at hkd2 ⊢
      exact e31 0 (by omega) hkd2
    · rw [if_neg hx] at hkd2 ⊢
      exact e31 n (by omega) hkd2
/-- what holds behind a round that was played: j has the ball at b after bt beats -/
def st1 (n d : Nat) (P : ba_T) (j b bt kd k : Nat) : Nat := if k = j then b else stp n d (P k 0) (P k 1) kd b bt
def RD (m : ba_M) (c n d : Nat) (P : ba_T) (j b bt : Nat) : Prop := gI m 5 4 = nI j ∧ gI m 5 5 = nI b ∧ gI m 5 6 = nI bt ∧ ∀ k, k < c → gI m 20 k = nI (P k 4) ∧ gI m 21 k = nI (st1 n d P j b bt (P k 4) k) ∧ gI m 22 k = nI (tw (st1 n d P j b bt (P k 4) k) b 3)
/-- m' differs from m in the places of O alone -/
def Fr (O : Nat → Nat → Prop) (m m' : ba_M) : Prop := (∀ o k, ¬ O o k → gI m' o k = gI m o k) ∧ ∀ o k, ¬ O o k → gL m' o k = gL m o k
theorem Fr.rf {O : Nat → Nat → Prop} {m : ba_M} : Fr O m m := ⟨fun _ _ _ => rfl, fun _ _ _ => rfl⟩
theorem Fr.tr {O : Nat → Nat → Prop} {m m1 m2 : ba_M} (h : Fr O m m1) (h2 : Fr O m1 m2) : Fr O m m2 := ⟨fun o k ho => (h2.1 o k ho).trans (h.1 o k ho), fun o k ho => (h2.2 o k ho).trans (h.2 o k ho)⟩
theorem Fr.w {O : Nat → Nat → Prop} {m m1 : ba_M} {o k : Nat} {x : Int32} (h : Fr O m m1) (ho : O o k) : Fr O m (wI m1 o k x) := ⟨fun a j ha => by
    rw [gI_n _ _ _ _ _ _ (fun q => by rw [q.1, q.2] at ha; exact ha ho)]
    exact h.1 a j ha, fun a j ha => by rw [gL_wI]; exact h.2 a j ha⟩
theorem Fr.wl {O : Nat → Nat → Prop} {m m1 : ba_M} {o k : Nat} {x : Int64} (h : Fr O m m1) (ho : O o k) : Fr O m (wL m1 o k x) := ⟨fun a j ha => by rw [gI_wL]; exact h.1 a j ha, fun a j ha => by
    rw [gL_wL, if_neg (fun q => by rw [q.1, q.2] at ha; exact ha ho)]
    exact h.2 a j ha⟩
theorem Fr.up {O O' : Nat → Nat → Prop} {m m1 : ba_M} (h : Fr O m m1) (ho : ∀ o k, O o k → O' o k) : Fr O' m m1 := ⟨fun o k hn => h.1 o k (fun q => hn (ho o k q)), fun o k hn => h.2 o k (fun q => hn (ho o k q))⟩
def oRo : Nat → Nat → Prop := fun o _ => o = 5 ∨ 20 ≤ o ∧ o ≤ 22
theorem GC.fr {m m' : ba_M} {c n d : Nat} {P T : ba_T} (hG : GC m c n d P T) (hc : c ≤ 5) {O : Nat → Nat → Prop} (h : Fr O m m') (hO : ∀ o k, O o k → ¬ (o = 6 ∨ 10 ≤ o ∧ o < 20)) : GC m' c n d P T := by
  have e : ∀ o k, (o = 6 ∨ 10 ≤ o ∧ o < 20) → gI m' o k = gI m o k := fun o k ho => h.1 o k (fun q => hO o k q ho)
  obtain ⟨g1, g2, g3, g4, g5⟩ := hG
  refine ⟨by rw [e _ _ (by omega)]; exact g1, by rw [e _ _ (by omega)]; exact g2, by rw [e _ _ (by omega)]; exact g3, fun i hi => ?_, fun i hi => ?_⟩
  · rw [e _ _ (by omega), e _ _ (by omega), e _ _ (by omega), e _ _ (by omega), e _ _ (by omega)]
    exact g4 i hi
  · rw [e _ _ (by omega), e _ _ (by omega), e _ _ (by omega), e _ _ (by omega)]
    exact g5 i hi
theorem sp_playLoop {c n d : Nat} {P T : ba_T} (hok : okG c n d P T) {j b bt : Nat} (hj : j < c) (hb : b ≤ 40) (hbt : 1 ≤ bt ∧ bt ≤ 100) : ∀ (r i N : Nat) (m : ba_M), c - i = r → i ≤ c → r < N → GC m c n d P T → gI m 5 4 = nI j → gI m 5 5 = nI b → gI m 5 6 = nI bt →
    (∀ k, k < i → gI m 20 k = nI (P k 4) ∧ gI m 21 k = nI (st1 n d P j b bt (P k 4) k) ∧ gI m 22 k = nI (tw (st1 n d P j b bt (P k 4) k) b 3)) →
    ∃ m', fx (fun _ _ _ => none) (b_Ro_playCall_33 SF) N 5 (nI i) m = some m' ∧ Fr oRo m m' ∧ RD m' c n d P j b bt := by
  intro r
  induction r with
  | zero =>
    intro i N m hr hi hN hG h4 h5 h6 hk
    obtain ⟨N, rfl⟩ : ∃ z, N = z + 1 := ⟨N - 1, by omega⟩
    obtain ⟨⟨o1, o2, o3, o4, o5⟩, o6, o7⟩ := id hok
    have hic : i = c := by omega
    subst hic
    refine ⟨m, ?_, Fr.rf, h4, h5, h6, hk⟩
    rw [fx_s]
    unfold b_Ro_playCall_33
    simp (disch := omega) only [oN, Option.bind_some, ↓reduceIte, ifT, ifF, eq_self, reduceCtorEq, cK_0, cK_1, cK_2, kl_2, bd_2, cK_3, cK_4, kl_4, bd_4, cK_5, cK_6, cK_7, kl_7, bd_7, cK_8, cK_25, cK_20, kl_20, bd_20, cK_21, kl_21, bd_21, cK_22, kl_22, bd_22, cK_23, cK_24, kl_24, bd_24, cK_37, cK_38, cK_39, kl_39, bd_39, cK_40, kl_40, bd_40, cK_41, kl_41, bd_41, cK_42, kl_42, bd_42, cK_43, kl_43, bd_43, cK_44, cK_45, kl_45, bd_45, cK_46, kl_46, bd_46, cK_47, kl_47, bd_47, cK_48, cK_49, kl_49, bd_49, cK_90, cK_91, kl_91, bd_91, cK_102, cK_103, kl_103, bd_103, cK_104, kl_104, bd_104, cK_105, kl_105, bd_105, cK_106, kl_106, bd_106, cK_107, kl_107, bd_107, cK_108, kl_108, bd_108, cK_109, kl_109, bd_109, cK_110, kl_110, bd_110, cK_111, kl_111, bd_111, cK_112, kl_112, bd_112, cK_113, kl_113, bd_113, cK_114, kl_114, bd_114, cK_115, kl_115, bd_115, cK_116, kl_116, bd_116, cK_117, kl_117, bd_117, cK_118, kl_118, bd_118, cK_119, kl_119, bd_119, cK_120, kl_120, bd_120, cK_121, kl_121, bd_121, ld_0_0, ld_0_1, ld_0_2, ld_0_3, ld_0_4, ld_0_5, ld_0_6, ld_0_7, ld_0_8, ld_0_9, ld_1_0, ld_3_0, ld_5_0, ld_5_1, ld_5_2, ld_5_3, ld_6_0, ld_6_1, ld_23_0, ld_23_1, ld_38_0, ld_38_1, ld_38_2, ld_38_3, ld_38_4, ld_44_0, ld_44_1, ld_44_2, ld_48_1, ld_90_1, ld_102_3, ld_102_4, ld_102_5, ld_102_8, ld_102_12, ld_102_13, ld_102_14, ld_102_15, ld_102_16, ld_102_17, ld_102_19, ld_102_20, ld_102_21, ld_102_22, ld_102_23, ld_102_25, ld_102_27, ld_102_28, ld_102_30, cK_pl, cK_to, cK_dp, cK_dt, cK_un, cK_ke, ld_pl, ld_to, ld_dp, ld_dt, ld_un, ld_ke, hG.1, nI_leI]
  | succ r ih =>
    intro i N m hr hi hN hG h4 h5 h6 hk
    obtain ⟨N, rfl⟩ : ∃ z, N = z + 1 := ⟨N - 1, by omega⟩
    obtain ⟨⟨o1, o2, o3, o4, o5⟩, o6, o7⟩ := id hok
    have hic : i < c := by omega
    obtain ⟨q1, q2, q3, q4, q5, q6, q7⟩ := o6 i hic
    have hsup := sp_suppose hG hok hic hj hb hbt (kd := P i 4) q7 h4 h5 h6
    rw [fx_s]
    have ih' := ih (i + 1) N
    generalize fx (fun _ _ _ => none) (b_Ro_playCall_33 SF) N = K at ih' ⊢
    unfold b_Ro_playCall_33
    simp (disch := omega) only [oN, Option.bind_some, ↓reduceIte, ifT, ifF, eq_self, reduceCtorEq, cK_0, cK_1, cK_2, kl_2, bd_2, cK_3, cK_4, kl_4, bd_4, cK_5, cK_6, cK_7, kl_7, bd_7, cK_8, cK_25, cK_20, kl_20, bd_20, cK_21, kl_21, bd_21, cK_22, kl_22, bd_22, cK_23, cK_24, kl_24, bd_24, cK_37, cK_38, cK_39, kl_39, bd_39, cK_40, kl_40, bd_40, cK_41, kl_41, bd_41, cK_42, kl_42, bd_42, cK_43, kl_43, bd_43, cK_44, cK_45, kl_45, bd_45, cK_46, kl_46, bd_46, cK_47, kl_47, bd_47, cK_48, cK_49, kl_49, bd_49, cK_90, cK_91, kl_91, bd_91, cK_102, cK_103, kl_103, bd_103, cK_104, kl_104, bd_104, cK_105, kl_105, bd_105, cK_106, kl_106, bd_106, cK_107, kl_107, bd_107, cK_108, kl_108, bd_108, cK_109, kl_109, bd_109, cK_110, kl_110, bd_110, cK_111, kl_111, bd_111, cK_112, kl_112, bd_112, cK_113, kl_113, bd_113, cK_114, kl_114, bd_114, cK_115, kl_115, bd_115, cK_116, kl_116, bd_116, cK_117, kl_117, bd_117, cK_118, kl_118, bd_118, cK_119, kl_119, bd_119, cK_120, kl_120, bd_120, cK_121, kl_121, bd_121, ld_0_0, ld_0_1, ld_0_2, ld_0_3, ld_0_4, ld_0_5, ld_0_6, ld_0_7, ld_0_8, ld_0_9, ld_1_0, ld_3_0, ld_5_0, ld_5_1, ld_5_2, ld_5_3, ld_6_0, ld_6_1, ld_23_0, ld_23_1, ld_38_0, ld_38_1, ld_38_2, ld_38_3, ld_38_4, ld_44_0, ld_44_1, ld_44_2, ld_48_1, ld_90_1, ld_102_3, ld_102_4, ld_102_5, ld_102_8, ld_102_12, ld_102_13, ld_102_14, ld_102_15, ld_102_16, ld_102_17, ld_102_19, ld_102_20, ld_102_21, ld_102_22, ld_102_23, ld_102_25, ld_102_27, ld_102_28, ld_102_30, cK_pl, cK_to, cK_dp, cK_dt, cK_un, cK_ke, ld_pl, ld_to, ld_dp, ld_dt, ld_un, ld_ke, hG.1, nI_leI, sp_who, (hG.2.2.2.1 i hic).2.2.2.2, hsup, nI_add]
    have hF : Fr oRo m (wI (wI (wI m 20 i (nI (P i 4))) 21 i (nI (if i = j then b else stp n d (P i 0) (P i 1) (P i 4) b bt))) 22 i (nI (tw (if i = j then b else stp n d (P i 0) (P i 1) (P i 4) b bt) b 3))) := ((Fr.rf.w (by simp [oRo])).w (by simp [oRo])).w (by simp [oRo])
    obtain ⟨m', e1, e2, e3⟩ := ih' _ (by omega) (by omega) (by omega) (hG.fr (by omega) hF (by intro o _ ho; simp only [oRo] at ho; omega)) (by simp (disch := omega) only [gI_n]; exact h4) (by simp (disch := omega) only [gI_n]; exact h5) (by simp (disch := omega) only [gI_n]; exact h6) (fun k hk2 => by
      by_cases hki : k = i
      · subst hki
        refine ⟨?_, ?_, ?_⟩
        · simp (disch := omega) only [gI_n, gI_s]
        · simp (disch := omega) only [gI_n, gI_s]; rfl
        · simp (disch := omega) only [gI_n, gI_s]; rfl
      · simp (disch := omega) only [gI_n]
        exact hk k (by omega))
    exact ⟨m', e1, hF.tr e2, e3⟩
def bts (X V b h : Nat) : Nat := max h ((ds b X + V - 1) / V)
theorem bts_in {X V b h n : Nat} (hX : X ≤ 40) (hb : b ≤ 40) (hV : 1 ≤ V ∧ V ≤ 5) (hh : 1 ≤ h ∧ h ≤ 9) : 1 ≤ bts X V b h ∧ bts X V b h ≤ 100 := by
  unfold bts
  have h1 : (ds b X + V - 1) / V ≤ ds b X + V - 1 := Nat.div_le_self _ _
  have h2 : ds b X ≤ 40 := by unfold ds; omega
  omega
theorem sp_playCall {m : ba_M} {c n d : Nat} {P T : ba_T} (hG : GC m c n d P T) (hok : okG c n d P T) {j b h : Nat} (hj : j < c) (hb : b ≤ 40) (hh : 1 ≤ h ∧ h ≤ 9) :
    ∃ m', f_Ro_playCall SF 5 (nI j) (nI b) (nI h) m = some m' ∧ Fr oRo m m' ∧ RD m' c n d P j b (bts (P j 0) (P j 1) b h) := by
  obtain ⟨⟨o1, o2, o3, o4, o5⟩, o6, o7⟩ := id hok
  obtain ⟨q1, q2, q3, q4, q5, q6, q7⟩ := o6 j hj
  have hbt := bts_in (n := n) (X := P j 0) (V := P j 1) (by omega) hb ⟨q2, q3⟩ hh
  have hds : ds b (P j 0) ≤ 40 := by unfold ds; omega
  have hF : Fr oRo m (wI (wI (wI m 5 4 (nI j)) 5 5 (nI b)) 5 6 (nI (bts (P j 0) (P j 1) b h))) := ((Fr.rf.w (by simp [oRo])).w (by simp [oRo])).w (by simp [oRo])
  obtain ⟨m', e1, e2, e3⟩ := sp_playLoop hok hj hb hbt c 0 FU (wI (wI (wI m 5 4 (nI j)) 5 5 (nI b)) 5 6 (nI (bts (P j 0) (P j 1) b h))) rfl (by omega) (by unfold FU; omega) (hG.fr (by omega) hF (by intro o _ ho; simp only [oRo] at ho; omega)) (by simp (disch := omega) only [gI_n, gI_s]) (by simp (disch := omega) only [gI_n, gI_s]) (by simp (disch := omega) only [gI_n, gI_s]) (fun k hk => by omega)
  refine ⟨m', ?_, hF.tr e2, e3⟩
  rw [← e1]
  obtain ⟨p1, p2, p3, p4, p5⟩ := hG.2.2.2.1 j hj
  unfold f_Ro_playCall f_Ro_beatsToBall f_Ro_beatsToBall_37 f_Ro_playCall_33
  have hdiv : (ds b (P j 0) + P j 1 - 1) / P j 1 ≤ ds b (P j 0) + P j 1 - 1 := Nat.div_le_self _ _
  simp (disch := omega) only [oN, Option.bind_some, ↓reduceIte, ifT, ifF, eq_self, reduceCtorEq, cK_0, cK_1, cK_2, kl_2, bd_2, cK_3, cK_4, kl_4, bd_4, cK_5, cK_6, cK_7, kl_7, bd_7, cK_8, cK_25, cK_20, kl_20, bd_20, cK_21, kl_21, bd_21, cK_22, kl_22, bd_22, cK_23, cK_24, kl_24, bd_24, cK_37, cK_38, cK_39, kl_39, bd_39, cK_40, kl_40, bd_40, cK_41, kl_41, bd_41, cK_42, kl_42, bd_42, cK_43, kl_43, bd_43, cK_44, cK_45, kl_45, bd_45, cK_46, kl_46, bd_46, cK_47, kl_47, bd_47, cK_48, cK_49, kl_49, bd_49, cK_90, cK_91, kl_91, bd_91, cK_102, cK_103, kl_103, bd_103, cK_104, kl_104, bd_104, cK_105, kl_105, bd_105, cK_106, kl_106, bd_106, cK_107, kl_107, bd_107, cK_108, kl_108, bd_108, cK_109, kl_109, bd_109, cK_110, kl_110, bd_110, cK_111, kl_111, bd_111, cK_112, kl_112, bd_112, cK_113, kl_113, bd_113, cK_114, kl_114, bd_114, cK_115, kl_115, bd_115, cK_116, kl_116, bd_116, cK_117, kl_117, bd_117, cK_118, kl_118, bd_118, cK_119, kl_119, bd_119, cK_120, kl_120, bd_120, cK_121, kl_121, bd_121, ld_0_0, ld_0_1, ld_0_2, ld_0_3, ld_0_4, ld_0_5, ld_0_6, ld_0_7, ld_0_8, ld_0_9, ld_1_0, ld_3_0, ld_5_0, ld_5_1, ld_5_2, ld_5_3, ld_6_0, ld_6_1, ld_23_0, ld_23_1, ld_38_0, ld_38_1, ld_38_2, ld_38_3, ld_38_4, ld_44_0, ld_44_1, ld_44_2, ld_48_1, ld_90_1, ld_102_3, ld_102_4, ld_102_5, ld_102_8, ld_102_12, ld_102_13, ld_102_14, ld_102_15, ld_102_16, ld_102_17, ld_102_19, ld_102_20, ld_102_21, ld_102_22, ld_102_23, ld_102_25, ld_102_27, ld_102_28, ld_102_30, cK_pl, cK_to, cK_dp, cK_dt, cK_un, cK_ke, ld_pl, ld_to, ld_dp, ld_dt, ld_un, ld_ke, sp_who, gI_n, gI_s, p1, p2, z0, nI_leI, nI_eq, jabs_s, nI_add, pk_sub, pk_div, jmax_n]
  rfl
theorem sp_playAsTold {m : ba_M} {c n d : Nat} {P T : ba_T} (hG : GC m c n d P T) (hok : okG c n d P T) {i : Nat} (hi : i < c) :
    ∃ m', f_Ro_playAsTold SF 5 (nI i) m = some m' ∧ Fr oRo m m' ∧ RD m' c n d P (T i 0) (T i 1) (bts (P (T i 0) 0) (P (T i 0) 1) (T i 1) (T i 2)) := by
  obtain ⟨⟨o1, o2, o3, o4, o5⟩, o6, o7⟩ := id hok
  obtain ⟨t1, t2, t3, t4, t5, t6⟩ := o7 i hi
  obtain ⟨m', e1, e2, e3⟩ := sp_playCall hG hok (j := T i 0) (b := T i 1) (h := T i 2) t1 (by omega) ⟨t4, t5⟩
  obtain ⟨p1, p2, p3, p4⟩ := hG.2.2.2.2 i hi
  refine ⟨m', ?_, e2, e3⟩
  unfold f_Ro_playAsTold
  simp (disch := omega) only [oN, Option.bind_some, ↓reduceIte, ifT, ifF, eq_self, reduceCtorEq, cK_0, cK_1, cK_2, kl_2, bd_2, cK_3, cK_4, kl_4, bd_4, cK_5, cK_6, cK_7, kl_7, bd_7, cK_8, cK_25, cK_20, kl_20, bd_20, cK_21, kl_21, bd_21, cK_22, kl_22, bd_22, cK_23, cK_24, kl_24, bd_24, cK_37, cK_38, cK_39, kl_39, bd_39, cK_40, kl_40, bd_40, cK_41, kl_41, bd_41, cK_42, kl_42, bd_42, cK_43, kl_43, bd_43, cK_44, cK_45, kl_45, bd_45, cK_46, kl_46, bd_46, cK_47, kl_47, bd_47, cK_48, cK_49, kl_49, bd_49, cK_90, cK_91, kl_91, bd_91, cK_102, cK_103, kl_103, bd_103, cK_104, kl_104, bd_104, cK_105, kl_105, bd_105, cK_106, kl_106, bd_106, cK_107, kl_107, bd_107, cK_108, kl_108, bd_108, cK_109, kl_109, bd_109, cK_110, kl_110, bd_110, cK_111, kl_111, bd_111, cK_112, kl_112, bd_112, cK_113, kl_113, bd_113, cK_114, kl_114, bd_114, cK_115, kl_115, bd_115, cK_116, kl_116, bd_116, cK_117, kl_117, bd_117, cK_118, kl_118, bd_118, cK_119, kl_119, bd_119, cK_120, kl_120, bd_120, cK_121, kl_121, bd_121, ld_0_0, ld_0_1, ld_0_2, ld_0_3, ld_0_4, ld_0_5, ld_0_6, ld_0_7, ld_0_8, ld_0_9, ld_1_0, ld_3_0, ld_5_0, ld_5_1, ld_5_2, ld_5_3, ld_6_0, ld_6_1, ld_23_0, ld_23_1, ld_38_0, ld_38_1, ld_38_2, ld_38_3, ld_38_4, ld_44_0, ld_44_1, ld_44_2, ld_48_1, ld_90_1, ld_102_3, ld_102_4, ld_102_5, ld_102_8, ld_102_12, ld_102_13, ld_102_14, ld_102_15, ld_102_16, ld_102_17, ld_102_19, ld_102_20, ld_102_21, ld_102_22, ld_102_23, ld_102_25, ld_102_27, ld_102_28, ld_102_30, cK_pl, cK_to, cK_dp, cK_dt, cK_un, cK_ke, ld_pl, ld_to, ld_dp, ld_dt, ld_un, ld_ke, sp_who, p1, p2, p3, e1]
/-- what is read off a round: kinds, stands, throwing cells -/
def RA (m : ba_M) (c j : Nat) (Kd st tc : Nat → Nat) : Prop := gI m 5 4 = nI j ∧ ∀ k, k < c → gI m 20 k = nI (Kd k) ∧ gI m 21 k = nI (st k) ∧ gI m 22 k = nI (tc k)
def okR (c j : Nat) (Kd st tc : Nat → Nat) : Prop := j < c ∧ ∀ k, k < c → Kd k ≤ 3 ∧ st k ≤ 40 ∧ tc k ≤ 40
def hdP (P : ba_T) (st tc : Nat → Nat) (j k t : Nat) : Bool := decide (t ≠ k ∧ t ≠ j ∧ min (tc k) (st k) < st t ∧ st t < max (tc k) (st k) ∧ P k 2 ≤ P t 2)
def hdF (p : Nat → Bool) : Nat → Nat → Option Nat
  | 0, _ => none
  | r + 1, i => if p i = true then some i else hdF p r (i + 1)
def hI : Option Nat → Int32
  | none => -4
  | some t => nI t
theorem sp_standOf {m : ba_M} {k : Nat} (hk : k < 5) : f_Ro_standOf SF 5 (nI k) m = some (gI m 21 k, m) := by
  unfold f_Ro_standOf
  simp (disch := omega) only [oN, Option.bind_some, ↓reduceIte, ifT, ifF, eq_self, reduceCtorEq, cK_0, cK_1, cK_2, kl_2, bd_2, cK_3, cK_4, kl_4, bd_4, cK_5, cK_6, cK_7, kl_7, bd_7, cK_8, cK_25, cK_20, kl_20, bd_20, cK_21, kl_21, bd_21, cK_22, kl_22, bd_22, cK_23, cK_24, kl_24, bd_24, cK_37, cK_38, cK_39, kl_39, bd_39, cK_40, kl_40, bd_40, cK_41, kl_41, bd_41, cK_42, kl_42, bd_42, cK_43, kl_43, bd_43, cK_44, cK_45, kl_45, bd_45, cK_46, kl_46, bd_46, cK_47, kl_47, bd_47, cK_48, cK_49, kl_49, bd_49, cK_90, cK_91, kl_91, bd_91, cK_102, cK_103, kl_103, bd_103, cK_104, kl_104, bd_104, cK_105, kl_105, bd_105, cK_106, kl_106, bd_106, cK_107, kl_107, bd_107, cK_108, kl_108, bd_108, cK_109, kl_109, bd_109, cK_110, kl_110, bd_110, cK_111, kl_111, bd_111, cK_112, kl_112, bd_112, cK_113, kl_113, bd_113, cK_114, kl_114, bd_114, cK_115, kl_115, bd_115, cK_116, kl_116, bd_116, cK_117, kl_117, bd_117, cK_118, kl_118, bd_118, cK_119, kl_119, bd_119, cK_120, kl_120, bd_120, cK_121, kl_121, bd_121, ld_0_0, ld_0_1, ld_0_2, ld_0_3, ld_0_4, ld_0_5, ld_0_6, ld_0_7, ld_0_8, ld_0_9, ld_1_0, ld_3_0, ld_5_0, ld_5_1, ld_5_2, ld_5_3, ld_6_0, ld_6_1, ld_23_0, ld_23_1, ld_38_0, ld_38_1, ld_38_2, ld_38_3, ld_38_4, ld_44_0, ld_44_1, ld_44_2, ld_48_1, ld_90_1, ld_102_3, ld_102_4, ld_102_5, ld_102_8, ld_102_12, ld_102_13, ld_102_14, ld_102_15, ld_102_16, ld_102_17, ld_102_19, ld_102_20, ld_102_21, ld_102_22, ld_102_23, ld_102_25, ld_102_27, ld_102_28, ld_102_30, cK_pl, cK_to, cK_dp, cK_dt, cK_un, cK_ke, ld_pl, ld_to, ld_dp, ld_dt, ld_un, ld_ke, sp_at ck_21 kl_21]
theorem sp_hiderLoop {m : ba_M} {c n d j k : Nat} {P T : ba_T} {Kd st tc : Nat → Nat} (hG : GC m c n d P T) (hok : okG c n d P T) (hR : RA m c j Kd st tc) (hr : okR c j Kd st tc) (hk : k < c) : ∀ (r i N : Nat), c - i = r → i ≤ c → r < N →
    fx (fun _ _ _ _ _ _ _ => none) (b_Ro_hiderOf_56 SF) N 5 (nI k) (nI (min (tc k) (st k))) (nI (max (tc k) (st k))) (nI (P k 2)) (nI i) m = some (hI (hdF (hdP P st tc j k) r i), m) := by
  intro r
  obtain ⟨⟨o1, o2, o3, o4, o5⟩, o6, o7⟩ := id hok
  obtain ⟨q1, q2, q3, q4, q5, q6, q7⟩ := o6 k hk
  obtain ⟨k1, k2, k3⟩ := hr.2 k hk
  have hj := hr.1
  induction r with
  | zero =>
    intro i N hr hi hN
    obtain ⟨N, rfl⟩ : ∃ z, N = z + 1 := ⟨N - 1, by omega⟩
    rw [fx_s]
    unfold b_Ro_hiderOf_56
    simp (disch := omega) only [oN, Option.bind_some, ↓reduceIte, ifT, ifF, eq_self, reduceCtorEq, cK_0, cK_1, cK_2, kl_2, bd_2, cK_3, cK_4, kl_4, bd_4, cK_5, cK_6, cK_7, kl_7, bd_7, cK_8, cK_25, cK_20, kl_20, bd_20, cK_21, kl_21, bd_21, cK_22, kl_22, bd_22, cK_23, cK_24, kl_24, bd_24, cK_37, cK_38, cK_39, kl_39, bd_39, cK_40, kl_40, bd_40, cK_41, kl_41, bd_41, cK_42, kl_42, bd_42, cK_43, kl_43, bd_43, cK_44, cK_45, kl_45, bd_45, cK_46, kl_46, bd_46, cK_47, kl_47, bd_47, cK_48, cK_49, kl_49, bd_49, cK_90, cK_91, kl_91, bd_91, cK_102, cK_103, kl_103, bd_103, cK_104, kl_104, bd_104, cK_105, kl_105, bd_105, cK_106, kl_106, bd_106, cK_107, kl_107, bd_107, cK_108, kl_108, bd_108, cK_109, kl_109, bd_109, cK_110, kl_110, bd_110, cK_111, kl_111, bd_111, cK_112, kl_112, bd_112, cK_113, kl_113, bd_113, cK_114, kl_114, bd_114, cK_115, kl_115, bd_115, cK_116, kl_116, bd_116, cK_117, kl_117, bd_117, cK_118, kl_118, bd_118, cK_119, kl_119, bd_119, cK_120, kl_120, bd_120, cK_121, kl_121, bd_121, ld_0_0, ld_0_1, ld_0_2, ld_0_3, ld_0_4, ld_0_5, ld_0_6, ld_0_7, ld_0_8, ld_0_9, ld_1_0, ld_3_0, ld_5_0, ld_5_1, ld_5_2, ld_5_3, ld_6_0, ld_6_1, ld_23_0, ld_23_1, ld_38_0, ld_38_1, ld_38_2, ld_38_3, ld_38_4, ld_44_0, ld_44_1, ld_44_2, ld_48_1, ld_90_1, ld_102_3, ld_102_4, ld_102_5, ld_102_8, ld_102_12, ld_102_13, ld_102_14, ld_102_15, ld_102_16, ld_102_17, ld_102_19, ld_102_20, ld_102_21, ld_102_22, ld_102_23, ld_102_25, ld_102_27, ld_102_28, ld_102_30, cK_pl, cK_to, cK_dp, cK_dt, cK_un, cK_ke, ld_pl, ld_to, ld_dp, ld_dt, ld_un, ld_ke, hG.1, nI_leI]
    rfl
  | succ r ih =>
    intro i N hr' hi hN
    obtain ⟨N, rfl⟩ : ∃ z, N = z + 1 := ⟨N - 1, by omega⟩
    have hic : i < c := by omega
    obtain ⟨s1, s2, s3⟩ := hR.2 i hic
    obtain ⟨u1, u2, u3⟩ := hr.2 i hic
    obtain ⟨p1, p2, p3, p4, p5⟩ := hG.2.2.2.1 i hic
    obtain ⟨v1, v2, v3, v4, v5, v6, v7⟩ := o6 i hic
    have key := ih (i + 1) N (by omega) (by omega) (by omega)
    rw [fx_s]
    generalize fx (fun _ _ _ _ _ _ _ => none) (b_Ro_hiderOf_56 SF) N = K at key ⊢
    have h138 : f_Ro_hiderOf_138 SF K 5 (nI k) (nI (min (tc k) (st k))) (nI (max (tc k) (st k))) (nI (P k 2)) (nI i) m = some (hI (hdF (hdP P st tc j k) r (i + 1)), m) := by
      unfold f_Ro_hiderOf_138
      rw [nI_add]
      exact key
    unfold b_Ro_hiderOf_56 f_Ro_hiderOf_95 f_Ro_hiderOf_96
    simp (disch := omega) only [oN, Option.bind_some, ↓reduceIte, ifT, ifF, eq_self, reduceCtorEq, cK_0, cK_1, cK_2, kl_2, bd_2, cK_3, cK_4, kl_4, bd_4, cK_5, cK_6, cK_7, kl_7, bd_7, cK_8, cK_25, cK_20, kl_20, bd_20, cK_21, kl_21, bd_21, cK_22, kl_22, bd_22, cK_23, cK_24, kl_24, bd_24, cK_37, cK_38, cK_39, kl_39, bd_39, cK_40, kl_40, bd_40, cK_41, kl_41, bd_41, cK_42, kl_42, bd_42, cK_43, kl_43, bd_43, cK_44, cK_45, kl_45, bd_45, cK_46, kl_46, bd_46, cK_47, kl_47, bd_47, cK_48, cK_49, kl_49, bd_49, cK_90, cK_91, kl_91, bd_91, cK_102, cK_103, kl_103, bd_103, cK_104, kl_104, bd_104, cK_105, kl_105, bd_105, cK_106, kl_106, bd_106, cK_107, kl_107, bd_107, cK_108, kl_108, bd_108, cK_109, kl_109, bd_109, cK_110, kl_110, bd_110, cK_111, kl_111, bd_111, cK_112, kl_112, bd_112, cK_113, kl_113, bd_113, cK_114, kl_114, bd_114, cK_115, kl_115, bd_115, cK_116, kl_116, bd_116, cK_117, kl_117, bd_117, cK_118, kl_118, bd_118, cK_119, kl_119, bd_119, cK_120, kl_120, bd_120, cK_121, kl_121, bd_121, ld_0_0, ld_0_1, ld_0_2, ld_0_3, ld_0_4, ld_0_5, ld_0_6, ld_0_7, ld_0_8, ld_0_9, ld_1_0, ld_3_0, ld_5_0, ld_5_1, ld_5_2, ld_5_3, ld_6_0, ld_6_1, ld_23_0, ld_23_1, ld_38_0, ld_38_1, ld_38_2, ld_38_3, ld_38_4, ld_44_0, ld_44_1, ld_44_2, ld_48_1, ld_90_1, ld_102_3, ld_102_4, ld_102_5, ld_102_8, ld_102_12, ld_102_13, ld_102_14, ld_102_15, ld_102_16, ld_102_17, ld_102_19, ld_102_20, ld_102_21, ld_102_22, ld_102_23, ld_102_25, ld_102_27, ld_102_28, ld_102_30, cK_pl, cK_to, cK_dp, cK_dt, cK_un, cK_ke, ld_pl, ld_to, ld_dp, ld_dt, ld_un, ld_ke, hG.1, nI_leI, sp_at ck_21 kl_21, s2, hR.1, nI_eq, nI_ltI, sp_who, p3, h138]
    have hstep : hdF (hdP P st tc j k) (r + 1) i = if hdP P st tc j k i = true then some i else hdF (hdP P st tc j k) r (i + 1) := rfl
    rw [hstep]
    by_cases c1 : i = k
    · rw [if_neg (show ¬ hdP P st tc j k i = true by simp [hdP, c1])]
      simp only [c1, ↓reduceIte, ite_self]
    · by_cases c2 : i = j
      · rw [if_neg (show ¬ hdP P st tc j k i = true by simp [hdP, c2])]
        simp only [c2, ↓reduceIte, ite_self]
      · by_cases c3 : st i ≤ min (tc k) (st k)
        · rw [if_neg (show ¬ hdP P st tc j k i = true by simp [hdP]; omega)]
          simp (disch := omega) only [c1, c2, c3, ↓reduceIte, Bool.false_eq_true]
        · by_cases c4 : max (tc k) (st k) ≤ st i
          · rw [if_neg (show ¬ hdP P st tc j k i = true by simp [hdP]; omega)]
            simp (disch := omega) only [c1, c2, c3, c4, ↓reduceIte, Bool.false_eq_true]
          · by_cases c5 : P i 2 < P k 2
            · rw [if_neg (show ¬ hdP P st tc j k i = true by simp [hdP]; omega)]
              simp (disch := omega) only [c1, c2, c3, c4, c5, ↓reduceIte]
            · rw [if_pos (show hdP P st tc j k i = true by simp [hdP]; omega)]
              simp (disch := omega) only [c1, c2, c3, c4, c5, ↓reduceIte]
              rfl
theorem sp_hider {m : ba_M} {c n d j k : Nat} {P T : ba_T} {Kd st tc : Nat → Nat} (hG : GC m c n d P T) (hok : okG c n d P T) (hR : RA m c j Kd st tc) (hr : okR c j Kd st tc) (hk : k < c) :
    f_Ro_hiderOf SF 5 (nI k) m = some (hI (hdF (hdP P st tc j k) c 0), m) := by
  have key := sp_hiderLoop hG hok hR hr hk c 0 FU rfl (by omega) (by have := hok.1; unfold FU; omega)
  obtain ⟨⟨o1, o2, o3, o4, o5⟩, o6, o7⟩ := id hok
  obtain ⟨s1, s2, s3⟩ := hR.2 k hk
  obtain ⟨u1, u2, u3⟩ := hr.2 k hk
  obtain ⟨p1, p2, p3, p4, p5⟩ := hG.2.2.2.1 k hk
  unfold f_Ro_hiderOf f_Ro_hiderOf_56
  simp (disch := omega) only [oN, Option.bind_some, ↓reduceIte, ifT, ifF, eq_self, reduceCtorEq, cK_0, cK_1, cK_2, kl_2, bd_2, cK_3, cK_4, kl_4, bd_4, cK_5, cK_6, cK_7, kl_7, bd_7, cK_8, cK_25, cK_20, kl_20, bd_20, cK_21, kl_21, bd_21, cK_22, kl_22, bd_22, cK_23, cK_24, kl_24, bd_24, cK_37, cK_38, cK_39, kl_39, bd_39, cK_40, kl_40, bd_40, cK_41, kl_41, bd_41, cK_42, kl_42, bd_42, cK_43, kl_43, bd_43, cK_44, cK_45, kl_45, bd_45, cK_46, kl_46, bd_46, cK_47, kl_47, bd_47, cK_48, cK_49, kl_49, bd_49, cK_90, cK_91, kl_91, bd_91, cK_102, cK_103, kl_103, bd_103, cK_104, kl_104, bd_104, cK_105, kl_105, bd_105, cK_106, kl_106, bd_106, cK_107, kl_107, bd_107, cK_108, kl_108, bd_108, cK_109, kl_109, bd_109, cK_110, kl_110, bd_110, cK_111, kl_111, bd_111, cK_112, kl_112, bd_112, cK_113, kl_113, bd_113, cK_114, kl_114, bd_114, cK_115, kl_115, bd_115, cK_116, kl_116, bd_116, cK_117, kl_117, bd_117, cK_118, kl_118, bd_118, cK_119, kl_119, bd_119, cK_120, kl_120, bd_120, cK_121, kl_121, bd_121, ld_0_0, ld_0_1, ld_0_2, ld_0_3, ld_0_4, ld_0_5, ld_0_6, ld_0_7, ld_0_8, ld_0_9, ld_1_0, ld_3_0, ld_5_0, ld_5_1, ld_5_2, ld_5_3, ld_6_0, ld_6_1, ld_23_0, ld_23_1, ld_38_0, ld_38_1, ld_38_2, ld_38_3, ld_38_4, ld_44_0, ld_44_1, ld_44_2, ld_48_1, ld_90_1, ld_102_3, ld_102_4, ld_102_5, ld_102_8, ld_102_12, ld_102_13, ld_102_14, ld_102_15, ld_102_16, ld_102_17, ld_102_19, ld_102_20, ld_102_21, ld_102_22, ld_102_23, ld_102_25, ld_102_27, ld_102_28, ld_102_30, cK_pl, cK_to, cK_dp, cK_dt, cK_un, cK_ke, ld_pl, ld_to, ld_dp, ld_dt, ld_un, ld_ke, sp_at ck_21 kl_21, sp_at ck_22 kl_22, s2, s3, sp_who, p3, jmin_n, jmax_n]
  exact key
/-- the chance -/
def chF (c : Nat) (P : ba_T) (Kd st tc : Nat → Nat) (j k : Nat) : Nat :=
  let v := min 10 (max 0 ((if Kd k = 3 then P k 2 / 2 else P k 2) + P j 3 - ds (st k) (tc k)))
  if hdF (hdP P st tc j k) c 0 = none then v else v / 2
theorem chF_le {c : Nat} {P : ba_T} {Kd st tc : Nat → Nat} {j k : Nat} : chF c P Kd st tc j k ≤ 10 := by
  unfold chF
  simp only
  split
  · exact Nat.min_le_left _ _
  · exact Nat.le_trans (Nat.div_le_self _ _) (Nat.min_le_left _ _)
theorem hdF_lt {p : Nat → Bool} : ∀ (r i t : Nat), hdF p r i = some t → t < i + r := by
  intro r
  induction r with
  | zero => intro i t h; cases h
  | succ r ih =>
    intro i t h
    unfold hdF at h
    split at h
    · cases h; omega
    · have := ih _ _ h; omega
theorem hI_none {c : Nat} {x : Option Nat} (h : ∀ t, x = some t → t < c) (hc : c ≤ 1000) : (hI x = -4) ↔ x = none := by
  cases x with
  | none => simp [hI]
  | some t =>
    have := h t rfl
    simp only [hI, reduceCtorEq, iff_false]
    exact nI_nneg (by omega) _ (by decide)
theorem sp_chance {m : ba_M} {c n d j k : Nat} {P T : ba_T} {Kd st tc : Nat → Nat} (hG : GC m c n d P T) (hok : okG c n d P T) (hR : RA m c j Kd st tc) (hr : okR c j Kd st tc) (hk : k < c) :
    f_Ro_chanceOf SF 5 (nI k) m = some (nI (chF c P Kd st tc j k), m) := by
  have hh := sp_hider hG hok hR hr hk
  obtain ⟨⟨o1, o2, o3, o4, o5⟩, o6, o7⟩ := id hok
  have hj := hr.1
  obtain ⟨s1, s2, s3⟩ := hR.2 k hk
  obtain ⟨u1, u2, u3⟩ := hr.2 k hk
  obtain ⟨p1, p2, p3, p4, p5⟩ := hG.2.2.2.1 k hk
  obtain ⟨v1, v2, v3, v4, v5, v6, v7⟩ := o6 k hk
  obtain ⟨w1, w2, w3, w4, w5⟩ := hG.2.2.2.1 j hj
  obtain ⟨x1, x2, x3, x4, x5, x6, x7⟩ := o6 j hj
  have hd : ds (st k) (tc k) ≤ 40 := by unfold ds; omega
  have hn := hI_none (x := hdF (hdP P st tc j k) c 0) (c := c) (fun t ht => by have := hdF_lt _ _ _ ht; omega) (by omega)
  have e31 : ∀ s : Nat, s ≤ 9 → f_Ro_chanceOf_31 SF 5 (nI k) (nI s) m = some (nI (if hdF (hdP P st tc j k) c 0 = none then min 10 (max 0 (s + P j 3 - ds (st k) (tc k))) else min 10 (max 0 (s + P j 3 - ds (st k) (tc k))) / 2), m) := by
    intro s hs
    unfold f_Ro_chanceOf_31 f_Ro_chanceOf_103
    simp (disch := omega) only [oN, Option.bind_some, ↓reduceIte, ifT, ifF, eq_self, reduceCtorEq, cK_0, cK_1, cK_2, kl_2, bd_2, cK_3, cK_4, kl_4, bd_4, cK_5, cK_6, cK_7, kl_7, bd_7, cK_8, cK_25, cK_20, kl_20, bd_20, cK_21, kl_21, bd_21, cK_22, kl_22, bd_22, cK_23, cK_24, kl_24, bd_24, cK_37, cK_38, cK_39, kl_39, bd_39, cK_40, kl_40, bd_40, cK_41, kl_41, bd_41, cK_42, kl_42, bd_42, cK_43, kl_43, bd_43, cK_44, cK_45, kl_45, bd_45, cK_46, kl_46, bd_46, cK_47, kl_47, bd_47, cK_48, cK_49, kl_49, bd_49, cK_90, cK_91, kl_91, bd_91, cK_102, cK_103, kl_103, bd_103, cK_104, kl_104, bd_104, cK_105, kl_105, bd_105, cK_106, kl_106, bd_106, cK_107, kl_107, bd_107, cK_108, kl_108, bd_108, cK_109, kl_109, bd_109, cK_110, kl_110, bd_110, cK_111, kl_111, bd_111, cK_112, kl_112, bd_112, cK_113, kl_113, bd_113, cK_114, kl_114, bd_114, cK_115, kl_115, bd_115, cK_116, kl_116, bd_116, cK_117, kl_117, bd_117, cK_118, kl_118, bd_118, cK_119, kl_119, bd_119, cK_120, kl_120, bd_120, cK_121, kl_121, bd_121, ld_0_0, ld_0_1, ld_0_2, ld_0_3, ld_0_4, ld_0_5, ld_0_6, ld_0_7, ld_0_8, ld_0_9, ld_1_0, ld_3_0, ld_5_0, ld_5_1, ld_5_2, ld_5_3, ld_6_0, ld_6_1, ld_23_0, ld_23_1, ld_38_0, ld_38_1, ld_38_2, ld_38_3, ld_38_4, ld_44_0, ld_44_1, ld_44_2, ld_48_1, ld_90_1, ld_102_3, ld_102_4, ld_102_5, ld_102_8, ld_102_12, ld_102_13, ld_102_14, ld_102_15, ld_102_16, ld_102_17, ld_102_19, ld_102_20, ld_102_21, ld_102_22, ld_102_23, ld_102_25, ld_102_27, ld_102_28, ld_102_30, cK_pl, cK_to, cK_dp, cK_dt, cK_un, cK_ke, ld_pl, ld_to, ld_dp, ld_dt, ld_un, ld_ke, sp_at ck_21 kl_21, sp_at ck_22 kl_22, s2, s3, hR.1, sp_who, w4, hh, hn, jabs_s, nI_add, jmax_s, jmin_n, z0, nI_eq, pk_div]
    split <;> rfl
  unfold f_Ro_chanceOf chF
  simp (disch := omega) only [oN, Option.bind_some, ↓reduceIte, ifT, ifF, eq_self, reduceCtorEq, cK_0, cK_1, cK_2, kl_2, bd_2, cK_3, cK_4, kl_4, bd_4, cK_5, cK_6, cK_7, kl_7, bd_7, cK_8, cK_25, cK_20, kl_20, bd_20, cK_21, kl_21, bd_21, cK_22, kl_22, bd_22, cK_23, cK_24, kl_24, bd_24, cK_37, cK_38, cK_39, kl_39, bd_39, cK_40, kl_40, bd_40, cK_41, kl_41, bd_41, cK_42, kl_42, bd_42, cK_43, kl_43, bd_43, cK_44, cK_45, kl_45, bd_45, cK_46, kl_46, bd_46, cK_47, kl_47, bd_47, cK_48, cK_49, kl_49, bd_49, cK_90, cK_91, kl_91, bd_91, cK_102, cK_103, kl_103, bd_103, cK_104, kl_104, bd_104, cK_105, kl_105, bd_105, cK_106, kl_106, bd_106, cK_107, kl_107, bd_107, cK_108, kl_108, bd_108, cK_109, kl_109, bd_109, cK_110, kl_110, bd_110, cK_111, kl_111, bd_111, cK_112, kl_112, bd_112, cK_113, kl_113, bd_113, cK_114, kl_114, bd_114, cK_115, kl_115, bd_115, cK_116, kl_116, bd_116, cK_117, kl_117, bd_117, cK_118, kl_118, bd_118, cK_119, kl_119, bd_119, cK_120, kl_120, bd_120, cK_121, kl_121, bd_121, ld_0_0, ld_0_1, ld_0_2, ld_0_3, ld_0_4, ld_0_5, ld_0_6, ld_0_7, ld_0_8, ld_0_9, ld_1_0, ld_3_0, ld_5_0, ld_5_1, ld_5_2, ld_5_3, ld_6_0, ld_6_1, ld_23_0, ld_23_1, ld_38_0, ld_38_1, ld_38_2, ld_38_3, ld_38_4, ld_44_0, ld_44_1, ld_44_2, ld_48_1, ld_90_1, ld_102_3, ld_102_4, ld_102_5, ld_102_8, ld_102_12, ld_102_13, ld_102_14, ld_102_15, ld_102_16, ld_102_17, ld_102_19, ld_102_20, ld_102_21, ld_102_22, ld_102_23, ld_102_25, ld_102_27, ld_102_28, ld_102_30, cK_pl, cK_to, cK_dp, cK_dt, cK_un, cK_ke, ld_pl, ld_to, ld_dp, ld_dt, ld_un, ld_ke, sp_who, sp_at ck_20 kl_20, s1, nI_eq, z0, p3, pk_div, e31]
  split <;> rfl
/-- at whom it is thrown -/
def tgN (ch : Nat → Nat) (j : Nat) : Nat → Option Nat
  | 0 => none
  | k + 1 => if k = j then tgN ch j k else match tgN ch j k with
    | none => some k
    | some t => if ch t < ch k then some k else some t
def tgC (ch : Nat → Nat) : Option Nat → Int32
  | none => -1
  | some t => nI (ch t)
theorem tgN_lt {ch : Nat → Nat} {j : Nat} : ∀ (k t : Nat), tgN ch j k = some t → t < k ∧ t ≠ j := by
  intro k
  induction k with
  | zero => intro t h; cases h
  | succ k ih =>
    intro t h
    unfold tgN at h
    split at h
    · have := ih t h; omega
    · cases hq : tgN ch j k with
      | none => rw [hq] at h; cases h; omega
      | some u =>
        rw [hq] at h
        have := ih u hq
        simp only at h
        split at h <;> cases h <;> omega
theorem tgN_some {ch : Nat → Nat} {j : Nat} : ∀ (k : Nat), 2 ≤ k → ∃ t, tgN ch j k = some t := by
  intro k hk
  induction k with
  | zero => omega
  | succ k ih =>
    unfold tgN
    by_cases h1 : k = j
    · rw [if_pos h1]
      by_cases h2 : 2 ≤ k
      · exact ih h2
      · have : k = 1 := by omega
        subst this
        have h3 : tgN ch j (0 + 1) = some 0 := by
          unfold tgN
          rw [if_neg (show ¬ (0 = j) by omega)]
          rfl
        exact ⟨_, h3⟩
    · rw [if_neg h1]
      cases tgN ch j k with
      | none => exact ⟨_, rfl⟩
      | some u => simp only; split <;> exact ⟨_, rfl⟩
theorem sp_targetLoop {m : ba_M} {c n d j : Nat} {P T : ba_T} {Kd st tc : Nat → Nat} (hG : GC m c n d P T) (hok : okG c n d P T) (hR : RA m c j Kd st tc) (hr : okR c j Kd st tc) : ∀ (r i N : Nat), c - i = r → i ≤ c → r < N →
    fx (fun _ _ _ _ _ => none) (b_Ro_target_7 SF) N 5 (hI (tgN (chF c P Kd st tc j) j i)) (tgC (chF c P Kd st tc j) (tgN (chF c P Kd st tc j) j i)) (nI i) m = some (hI (tgN (chF c P Kd st tc j) j c), m) := by
  intro r
  obtain ⟨⟨o1, o2, o3, o4, o5⟩, o6, o7⟩ := id hok
  have hj := hr.1
  induction r with
  | zero =>
    intro i N hr hi hN
    obtain ⟨N, rfl⟩ : ∃ z, N = z + 1 := ⟨N - 1, by omega⟩
    have : i = c := by omega
    subst this
    rw [fx_s]
    unfold b_Ro_target_7
    simp (disch := omega) only [oN, Option.bind_some, ↓reduceIte, ifT, ifF, eq_self, reduceCtorEq, cK_0, cK_1, cK_2, kl_2, bd_2, cK_3, cK_4, kl_4, bd_4, cK_5, cK_6, cK_7, kl_7, bd_7, cK_8, cK_25, cK_20, kl_20, bd_20, cK_21, kl_21, bd_21, cK_22, kl_22, bd_22, cK_23, cK_24, kl_24, bd_24, cK_37, cK_38, cK_39, kl_39, bd_39, cK_40, kl_40, bd_40, cK_41, kl_41, bd_41, cK_42, kl_42, bd_42, cK_43, kl_43, bd_43, cK_44, cK_45, kl_45, bd_45, cK_46, kl_46, bd_46, cK_47, kl_47, bd_47, cK_48, cK_49, kl_49, bd_49, cK_90, cK_91, kl_91, bd_91, cK_102, cK_103, kl_103, bd_103, cK_104, kl_104, bd_104, cK_105, kl_105, bd_105, cK_106, kl_106, bd_106, cK_107, kl_107, bd_107, cK_108, kl_108, bd_108, cK_109, kl_109, bd_109, cK_110, kl_110, bd_110, cK_111, kl_111, bd_111, cK_112, kl_112, bd_112, cK_113, kl_113, bd_113, cK_114, kl_114, bd_114, cK_115, kl_115, bd_115, cK_116, kl_116, bd_116, cK_117, kl_117, bd_117, cK_118, kl_118, bd_118, cK_119, kl_119, bd_119, cK_120, kl_120, bd_120, cK_121, kl_121, bd_121, ld_0_0, ld_0_1, ld_0_2, ld_0_3, ld_0_4, ld_0_5, ld_0_6, ld_0_7, ld_0_8, ld_0_9, ld_1_0, ld_3_0, ld_5_0, ld_5_1, ld_5_2, ld_5_3, ld_6_0, ld_6_1, ld_23_0, ld_23_1, ld_38_0, ld_38_1, ld_38_2, ld_38_3, ld_38_4, ld_44_0, ld_44_1, ld_44_2, ld_48_1, ld_90_1, ld_102_3, ld_102_4, ld_102_5, ld_102_8, ld_102_12, ld_102_13, ld_102_14, ld_102_15, ld_102_16, ld_102_17, ld_102_19, ld_102_20, ld_102_21, ld_102_22, ld_102_23, ld_102_25, ld_102_27, ld_102_28, ld_102_30, cK_pl, cK_to, cK_dp, cK_dt, cK_un, cK_ke, ld_pl, ld_to, ld_dp, ld_dt, ld_un, ld_ke, hG.1, nI_leI]
  | succ r ih =>
    intro i N hr' hi hN
    obtain ⟨N, rfl⟩ : ∃ z, N = z + 1 := ⟨N - 1, by omega⟩
    have hic : i < c := by omega
    have key := ih (i + 1) N (by omega) (by omega) (by omega)
    have hch := sp_chance hG hok hR hr hic
    have hlt : ∀ t, chF c P Kd st tc j t < 2 ^ 31 := fun t => by
      have := chF_le (c := c) (P := P) (Kd := Kd) (st := st) (tc := tc) (j := j) (k := t)
      omega
    generalize chF c P Kd st tc j = ch at key hch hlt ⊢
    have hle : ∀ t, tgN ch j i = some t → ch t < 2 ^ 31 := fun t _ => hlt t
    have hci : ch i < 2 ^ 31 := hlt i
    rw [fx_s]
    generalize fx (fun _ _ _ _ _ => none) (b_Ro_target_7 SF) N = K at key ⊢
    unfold b_Ro_target_7 f_Ro_target_35 f_Ro_target_48
    simp (disch := omega) only [oN, Option.bind_some, ↓reduceIte, ifT, ifF, eq_self, reduceCtorEq, cK_0, cK_1, cK_2, kl_2, bd_2, cK_3, cK_4, kl_4, bd_4, cK_5, cK_6, cK_7, kl_7, bd_7, cK_8, cK_25, cK_20, kl_20, bd_20, cK_21, kl_21, bd_21, cK_22, kl_22, bd_22, cK_23, cK_24, kl_24, bd_24, cK_37, cK_38, cK_39, kl_39, bd_39, cK_40, kl_40, bd_40, cK_41, kl_41, bd_41, cK_42, kl_42, bd_42, cK_43, kl_43, bd_43, cK_44, cK_45, kl_45, bd_45, cK_46, kl_46, bd_46, cK_47, kl_47, bd_47, cK_48, cK_49, kl_49, bd_49, cK_90, cK_91, kl_91, bd_91, cK_102, cK_103, kl_103, bd_103, cK_104, kl_104, bd_104, cK_105, kl_105, bd_105, cK_106, kl_106, bd_106, cK_107, kl_107, bd_107, cK_108, kl_108, bd_108, cK_109, kl_109, bd_109, cK_110, kl_110, bd_110, cK_111, kl_111, bd_111, cK_112, kl_112, bd_112, cK_113, kl_113, bd_113, cK_114, kl_114, bd_114, cK_115, kl_115, bd_115, cK_116, kl_116, bd_116, cK_117, kl_117, bd_117, cK_118, kl_118, bd_118, cK_119, kl_119, bd_119, cK_120, kl_120, bd_120, cK_121, kl_121, bd_121, ld_0_0, ld_0_1, ld_0_2, ld_0_3, ld_0_4, ld_0_5, ld_0_6, ld_0_7, ld_0_8, ld_0_9, ld_1_0, ld_3_0, ld_5_0, ld_5_1, ld_5_2, ld_5_3, ld_6_0, ld_6_1, ld_23_0, ld_23_1, ld_38_0, ld_38_1, ld_38_2, ld_38_3, ld_38_4, ld_44_0, ld_44_1, ld_44_2, ld_48_1, ld_90_1, ld_102_3, ld_102_4, ld_102_5, ld_102_8, ld_102_12, ld_102_13, ld_102_14, ld_102_15, ld_102_16, ld_102_17, ld_102_19, ld_102_20, ld_102_21, ld_102_22, ld_102_23, ld_102_25, ld_102_27, ld_102_28, ld_102_30, cK_pl, cK_to, cK_dp, cK_dt, cK_un, cK_ke, ld_pl, ld_to, ld_dp, ld_dt, ld_un, ld_ke, hG.1, nI_leI, hR.1, nI_eq, hch, nI_add]
    have hstep : tgN ch j (i + 1) = if i = j then tgN ch j i else match tgN ch j i with
      | none => some i
      | some t => if ch t < ch i then some i else some t := rfl
    rw [hstep] at key
    by_cases c1 : i = j
    · rw [if_pos c1] at key ⊢
      rw [if_pos]
      · exact key
      · cases hq : tgN ch j i with
        | none => exact Int32.le_refl _
        | some t =>
          show (-1 : Int32) ≤ nI (ch t)
          rw [i32_le, nI_toInt (hle t hq)]
          show (-1 : Int) ≤ _
          omega
    · rw [if_neg c1] at key ⊢
      cases hq : tgN ch j i with
      | none =>
        rw [hq] at key
        rw [if_neg]
        · exact key
        · show ¬ nI (ch i) ≤ -1
          rw [i32_le, nI_toInt hci]
          show ¬ _ ≤ (-1 : Int)
          omega
      | some t =>
        rw [hq] at key
        have ht := hle t hq
        show (if nI (ch i) ≤ nI (ch t) then _ else _) = _
        simp only [nI_leI hci ht]
        by_cases c2 : ch t < ch i
        · rw [if_neg (by omega)]
          simp only [c2, ↓reduceIte] at key
          exact key
        · rw [if_pos (by omega)]
          simp only [c2, ↓reduceIte] at key
          exact key
theorem sp_target {m : ba_M} {c n d j : Nat} {P T : ba_T} {Kd st tc : Nat → Nat} (hG : GC m c n d P T) (hok : okG c n d P T) (hR : RA m c j Kd st tc) (hr : okR c j Kd st tc) :
    f_Ro_target SF 5 m = some (hI (tgN (chF c P Kd st tc j) j c), m) := by
  have key := sp_targetLoop hG hok hR hr c 0 FU rfl (by omega) (by have := hok.1; unfold FU; omega)
  unfold f_Ro_target f_Ro_target_7
  simp only [cK_0, cK_1, cK_2, kl_2, bd_2, cK_3, cK_4, kl_4, bd_4, cK_5, cK_6, cK_7, kl_7, bd_7, cK_8, cK_25, cK_20, kl_20, bd_20, cK_21, kl_21, bd_21, cK_22, kl_22, bd_22, cK_23, cK_24, kl_24, bd_24, cK_37, cK_38, cK_39, kl_39, bd_39, cK_40, kl_40, bd_40, cK_41, kl_41, bd_41, cK_42, kl_42, bd_42, cK_43, kl_43, bd_43, cK_44, cK_45, kl_45, bd_45, cK_46, kl_46, bd_46, cK_47, kl_47, bd_47, cK_48, cK_49, kl_49, bd_49, cK_90, cK_91, kl_91, bd_91, cK_102, cK_103, kl_103, bd_103, cK_104, kl_104, bd_104, cK_105, kl_105, bd_105, cK_106, kl_106, bd_106, cK_107, kl_107, bd_107, cK_108, kl_108, bd_108, cK_109, kl_109, bd_109, cK_110, kl_110, bd_110, cK_111, kl_111, bd_111, cK_112, kl_112, bd_112, cK_113, kl_113, bd_113, cK_114, kl_114, bd_114, cK_115, kl_115, bd_115, cK_116, kl_116, bd_116, cK_117, kl_117, bd_117, cK_118, kl_118, bd_118, cK_119, kl_119, bd_119, cK_120, kl_120, bd_120, cK_121, kl_121, bd_121, ld_0_0, ld_0_1, ld_0_2, ld_0_3, ld_0_4, ld_0_5, ld_0_6, ld_0_7, ld_0_8, ld_0_9, ld_1_0, ld_3_0, ld_5_0, ld_5_1, ld_5_2, ld_5_3, ld_6_0, ld_6_1, ld_23_0, ld_23_1, ld_38_0, ld_38_1, ld_38_2, ld_38_3, ld_38_4, ld_44_0, ld_44_1, ld_44_2, ld_48_1, ld_90_1, ld_102_3, ld_102_4, ld_102_5, ld_102_8, ld_102_12, ld_102_13, ld_102_14, ld_102_15, ld_102_16, ld_102_17, ld_102_19, ld_102_20, ld_102_21, ld_102_22, ld_102_23, ld_102_25, ld_102_27, ld_102_28, ld_102_30, cK_pl, cK_to, cK_dp, cK_dt, cK_un, cK_ke, ld_pl, ld_to, ld_dp, ld_dt, ld_un, ld_ke]
  exact key
