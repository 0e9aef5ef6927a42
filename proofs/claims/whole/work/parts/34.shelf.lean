/-! the shelf at 48 (copies 50 and on, 8 places) -/
theorem sp_copyOfU {m : ba_M} {w k : Nat} (hw : gI m 48 3 = nI w) (h : w < 8) (hk : k < 5) : f_Sh_copyOf SF 48 (nI k) m = some (some (50 + (w * 5 + k)), m) := by
  unfold f_Sh_copyOf f_Sh_copyOf_31 f_Sh_copyOf_32
  simp (disch := omega) only [oN, Option.bind_some, ↓reduceIte, ifT, ifF, eq_self, reduceCtorEq, cK_0, cK_1, cK_2, kl_2, bd_2, cK_3, cK_4, kl_4, bd_4, cK_5, cK_6, cK_7, kl_7, bd_7, cK_8, cK_25, cK_20, kl_20, bd_20, cK_21, kl_21, bd_21, cK_22, kl_22, bd_22, cK_23, cK_24, kl_24, bd_24, cK_37, cK_38, cK_39, kl_39, bd_39, cK_40, kl_40, bd_40, cK_41, kl_41, bd_41, cK_42, kl_42, bd_42, cK_43, kl_43, bd_43, cK_44, cK_45, kl_45, bd_45, cK_46, kl_46, bd_46, cK_47, kl_47, bd_47, cK_48, cK_49, kl_49, bd_49, cK_90, cK_91, kl_91, bd_91, cK_102, cK_103, kl_103, bd_103, cK_104, kl_104, bd_104, cK_105, kl_105, bd_105, cK_106, kl_106, bd_106, cK_107, kl_107, bd_107, cK_108, kl_108, bd_108, cK_109, kl_109, bd_109, cK_110, kl_110, bd_110, cK_111, kl_111, bd_111, cK_112, kl_112, bd_112, cK_113, kl_113, bd_113, cK_114, kl_114, bd_114, cK_115, kl_115, bd_115, cK_116, kl_116, bd_116, cK_117, kl_117, bd_117, cK_118, kl_118, bd_118, cK_119, kl_119, bd_119, cK_120, kl_120, bd_120, cK_121, kl_121, bd_121, ld_0_0, ld_0_1, ld_0_2, ld_0_3, ld_0_4, ld_0_5, ld_0_6, ld_0_7, ld_0_8, ld_0_9, ld_1_0, ld_3_0, ld_5_0, ld_5_1, ld_5_2, ld_5_3, ld_6_0, ld_6_1, ld_23_0, ld_23_1, ld_38_0, ld_38_1, ld_38_2, ld_38_3, ld_38_4, ld_44_0, ld_44_1, ld_44_2, ld_48_1, ld_90_1, ld_102_3, ld_102_4, ld_102_5, ld_102_8, ld_102_12, ld_102_13, ld_102_14, ld_102_15, ld_102_16, ld_102_17, ld_102_19, ld_102_20, ld_102_21, ld_102_22, ld_102_23, ld_102_25, ld_102_27, ld_102_28, ld_102_30, cK_pl, cK_to, cK_dp, cK_dt, cK_un, cK_ke, ld_pl, ld_to, ld_dp, ld_dt, ld_un, ld_ke, nI_add, pk_mul, pk_sub, nI_ltI, nI_leI, nI_eq, nI_clamp, z0, hw]
theorem sp_cpU {m : ba_M} {j k : Nat} (h : j < 40) (hk : k < 5) : f_To_copyFrom SF (50 + j) (11 + 2 * k) m = some (wI (wI (wI (wI m (50 + j) 0 (gI m (11 + 2 * k) 0)) (50 + j) 1 (gI m (11 + 2 * k) 1)) (50 + j) 2 (gI m (11 + 2 * k) 2)) (50 + j) 3 (gI m (11 + 2 * k) 3)) := by
  unfold f_To_copyFrom f_To_tellCall
  simp (disch := omega) only [oN, Option.bind_some, ↓reduceIte, ifT, ifF, eq_self, reduceCtorEq, cK_0, cK_1, cK_2, kl_2, bd_2, cK_3, cK_4, kl_4, bd_4, cK_5, cK_6, cK_7, kl_7, bd_7, cK_8, cK_25, cK_20, kl_20, bd_20, cK_21, kl_21, bd_21, cK_22, kl_22, bd_22, cK_23, cK_24, kl_24, bd_24, cK_37, cK_38, cK_39, kl_39, bd_39, cK_40, kl_40, bd_40, cK_41, kl_41, bd_41, cK_42, kl_42, bd_42, cK_43, kl_43, bd_43, cK_44, cK_45, kl_45, bd_45, cK_46, kl_46, bd_46, cK_47, kl_47, bd_47, cK_48, cK_49, kl_49, bd_49, cK_90, cK_91, kl_91, bd_91, cK_102, cK_103, kl_103, bd_103, cK_104, kl_104, bd_104, cK_105, kl_105, bd_105, cK_106, kl_106, bd_106, cK_107, kl_107, bd_107, cK_108, kl_108, bd_108, cK_109, kl_109, bd_109, cK_110, kl_110, bd_110, cK_111, kl_111, bd_111, cK_112, kl_112, bd_112, cK_113, kl_113, bd_113, cK_114, kl_114, bd_114, cK_115, kl_115, bd_115, cK_116, kl_116, bd_116, cK_117, kl_117, bd_117, cK_118, kl_118, bd_118, cK_119, kl_119, bd_119, cK_120, kl_120, bd_120, cK_121, kl_121, bd_121, ld_0_0, ld_0_1, ld_0_2, ld_0_3, ld_0_4, ld_0_5, ld_0_6, ld_0_7, ld_0_8, ld_0_9, ld_1_0, ld_3_0, ld_5_0, ld_5_1, ld_5_2, ld_5_3, ld_6_0, ld_6_1, ld_23_0, ld_23_1, ld_38_0, ld_38_1, ld_38_2, ld_38_3, ld_38_4, ld_44_0, ld_44_1, ld_44_2, ld_48_1, ld_90_1, ld_102_3, ld_102_4, ld_102_5, ld_102_8, ld_102_12, ld_102_13, ld_102_14, ld_102_15, ld_102_16, ld_102_17, ld_102_19, ld_102_20, ld_102_21, ld_102_22, ld_102_23, ld_102_25, ld_102_27, ld_102_28, ld_102_30, cK_pl, cK_to, cK_dp, cK_dt, cK_un, cK_ke, ld_pl, ld_to, ld_dp, ld_dt, ld_un, ld_ke, gI_n]
theorem sp_cbU {m : ba_M} {j k : Nat} (h : j < 40) (hk : k < 5) : f_To_copyFrom SF (11 + 2 * k) (50 + j) m = some (wI (wI (wI (wI m (11 + 2 * k) 0 (gI m (50 + j) 0)) (11 + 2 * k) 1 (gI m (50 + j) 1)) (11 + 2 * k) 2 (gI m (50 + j) 2)) (11 + 2 * k) 3 (gI m (50 + j) 3)) := by
  unfold f_To_copyFrom f_To_tellCall
  simp (disch := omega) only [oN, Option.bind_some, ↓reduceIte, ifT, ifF, eq_self, reduceCtorEq, cK_0, cK_1, cK_2, kl_2, bd_2, cK_3, cK_4, kl_4, bd_4, cK_5, cK_6, cK_7, kl_7, bd_7, cK_8, cK_25, cK_20, kl_20, bd_20, cK_21, kl_21, bd_21, cK_22, kl_22, bd_22, cK_23, cK_24, kl_24, bd_24, cK_37, cK_38, cK_39, kl_39, bd_39, cK_40, kl_40, bd_40, cK_41, kl_41, bd_41, cK_42, kl_42, bd_42, cK_43, kl_43, bd_43, cK_44, cK_45, kl_45, bd_45, cK_46, kl_46, bd_46, cK_47, kl_47, bd_47, cK_48, cK_49, kl_49, bd_49, cK_90, cK_91, kl_91, bd_91, cK_102, cK_103, kl_103, bd_103, cK_104, kl_104, bd_104, cK_105, kl_105, bd_105, cK_106, kl_106, bd_106, cK_107, kl_107, bd_107, cK_108, kl_108, bd_108, cK_109, kl_109, bd_109, cK_110, kl_110, bd_110, cK_111, kl_111, bd_111, cK_112, kl_112, bd_112, cK_113, kl_113, bd_113, cK_114, kl_114, bd_114, cK_115, kl_115, bd_115, cK_116, kl_116, bd_116, cK_117, kl_117, bd_117, cK_118, kl_118, bd_118, cK_119, kl_119, bd_119, cK_120, kl_120, bd_120, cK_121, kl_121, bd_121, ld_0_0, ld_0_1, ld_0_2, ld_0_3, ld_0_4, ld_0_5, ld_0_6, ld_0_7, ld_0_8, ld_0_9, ld_1_0, ld_3_0, ld_5_0, ld_5_1, ld_5_2, ld_5_3, ld_6_0, ld_6_1, ld_23_0, ld_23_1, ld_38_0, ld_38_1, ld_38_2, ld_38_3, ld_38_4, ld_44_0, ld_44_1, ld_44_2, ld_48_1, ld_90_1, ld_102_3, ld_102_4, ld_102_5, ld_102_8, ld_102_12, ld_102_13, ld_102_14, ld_102_15, ld_102_16, ld_102_17, ld_102_19, ld_102_20, ld_102_21, ld_102_22, ld_102_23, ld_102_25, ld_102_27, ld_102_28, ld_102_30, cK_pl, cK_to, cK_dp, cK_dt, cK_un, cK_ke, ld_pl, ld_to, ld_dp, ld_dt, ld_un, ld_ke, gI_n]
theorem sp_putLU {w : Nat} (h : w < 8) : ∀ (r k N : Nat) (m : ba_M), 5 - k = r → k ≤ 5 → r < N → gI m 48 3 = nI w →
    ∃ m', fx (fun _ _ _ _ => none) (b_Sh_putNewest_46 SF) N 48 6 (nI k) m = some m' ∧ (∀ i, k ≤ i → i < 5 → ∀ f, f < 4 → gI m' (50 + (w * 5 + i)) f = gI m (11 + 2 * i) f) ∧ Fr (fun o _ => 50 + (w * 5 + k) ≤ o ∧ o < 50 + (w * 5 + 5)) m m' := by
  intro r
  induction r with
  | zero =>
    intro k N m hr hk hN hw
    obtain ⟨N, rfl⟩ : ∃ z, N = z + 1 := ⟨N - 1, by omega⟩
    refine ⟨m, ?_, fun i h1 h2 => by omega, Fr.rf⟩
    rw [fx_s]
    generalize fx (fun _ _ _ _ => none) (b_Sh_putNewest_46 SF) N = K
    unfold b_Sh_putNewest_46
    rw [if_pos (by rw [nI_leI (by omega) (by omega)]; omega)]
  | succ r ih =>
    intro k N m hr hk hN hw
    obtain ⟨N, rfl⟩ : ∃ z, N = z + 1 := ⟨N - 1, by omega⟩
    have hk5 : k < 5 := by omega
    have hcp := sp_cpU (m := m) (j := w * 5 + k) (k := k) (by omega) hk5
    have hF : Fr (fun o _ => o = 50 + (w * 5 + k)) m (wI (wI (wI (wI m (50 + (w * 5 + k)) 0 (gI m (11 + 2 * k) 0)) (50 + (w * 5 + k)) 1 (gI m (11 + 2 * k) 1)) (50 + (w * 5 + k)) 2 (gI m (11 + 2 * k) 2)) (50 + (w * 5 + k)) 3 (gI m (11 + 2 * k) 3)) := (((Fr.rf.w (by rfl)).w (by rfl)).w (by rfl)).w (by rfl)
    have hV : ∀ f, f < 4 → gI (wI (wI (wI (wI m (50 + (w * 5 + k)) 0 (gI m (11 + 2 * k) 0)) (50 + (w * 5 + k)) 1 (gI m (11 + 2 * k) 1)) (50 + (w * 5 + k)) 2 (gI m (11 + 2 * k) 2)) (50 + (w * 5 + k)) 3 (gI m (11 + 2 * k) 3)) (50 + (w * 5 + k)) f = gI m (11 + 2 * k) f := by
      intro f hf
      match f, hf with
      | 0, _ => rw [gI_n _ _ _ _ _ _ (by omega), gI_n _ _ _ _ _ _ (by omega), gI_n _ _ _ _ _ _ (by omega), gI_s]
      | 1, _ => rw [gI_n _ _ _ _ _ _ (by omega), gI_n _ _ _ _ _ _ (by omega), gI_s]
      | 2, _ => rw [gI_n _ _ _ _ _ _ (by omega), gI_s]
      | 3, _ => rw [gI_s]
    generalize wI (wI (wI (wI m (50 + (w * 5 + k)) 0 (gI m (11 + 2 * k) 0)) (50 + (w * 5 + k)) 1 (gI m (11 + 2 * k) 1)) (50 + (w * 5 + k)) 2 (gI m (11 + 2 * k) 2)) (50 + (w * 5 + k)) 3 (gI m (11 + 2 * k) 3) = m1 at hcp hF hV
    obtain ⟨m', e1, e2, e3⟩ := ih (k + 1) N m1 (by omega) (by omega) (by omega) (by rw [hF.1 _ _ (show ¬ (48 = 50 + (w * 5 + k)) by omega)]; exact hw)
    refine ⟨m', ?_, fun i h1 h2 f hf => ?_, (hF.up (by intro o _ (ho : o = _); omega)).tr (e3.up (by intro o _ ho; omega))⟩
    · rw [fx_s]
      generalize fx (fun _ _ _ _ => none) (b_Sh_putNewest_46 SF) N = K at e1 ⊢
      unfold b_Sh_putNewest_46 f_Sh_putNewest_73
      simp (disch := omega) only [oN, Option.bind_some, ↓reduceIte, ifT, ifF, eq_self, reduceCtorEq, cK_0, cK_1, cK_2, kl_2, bd_2, cK_3, cK_4, kl_4, bd_4, cK_5, cK_6, cK_7, kl_7, bd_7, cK_8, cK_25, cK_20, kl_20, bd_20, cK_21, kl_21, bd_21, cK_22, kl_22, bd_22, cK_23, cK_24, kl_24, bd_24, cK_37, cK_38, cK_39, kl_39, bd_39, cK_40, kl_40, bd_40, cK_41, kl_41, bd_41, cK_42, kl_42, bd_42, cK_43, kl_43, bd_43, cK_44, cK_45, kl_45, bd_45, cK_46, kl_46, bd_46, cK_47, kl_47, bd_47, cK_48, cK_49, kl_49, bd_49, cK_90, cK_91, kl_91, bd_91, cK_102, cK_103, kl_103, bd_103, cK_104, kl_104, bd_104, cK_105, kl_105, bd_105, cK_106, kl_106, bd_106, cK_107, kl_107, bd_107, cK_108, kl_108, bd_108, cK_109, kl_109, bd_109, cK_110, kl_110, bd_110, cK_111, kl_111, bd_111, cK_112, kl_112, bd_112, cK_113, kl_113, bd_113, cK_114, kl_114, bd_114, cK_115, kl_115, bd_115, cK_116, kl_116, bd_116, cK_117, kl_117, bd_117, cK_118, kl_118, bd_118, cK_119, kl_119, bd_119, cK_120, kl_120, bd_120, cK_121, kl_121, bd_121, ld_0_0, ld_0_1, ld_0_2, ld_0_3, ld_0_4, ld_0_5, ld_0_6, ld_0_7, ld_0_8, ld_0_9, ld_1_0, ld_3_0, ld_5_0, ld_5_1, ld_5_2, ld_5_3, ld_6_0, ld_6_1, ld_23_0, ld_23_1, ld_38_0, ld_38_1, ld_38_2, ld_38_3, ld_38_4, ld_44_0, ld_44_1, ld_44_2, ld_48_1, ld_90_1, ld_102_3, ld_102_4, ld_102_5, ld_102_8, ld_102_12, ld_102_13, ld_102_14, ld_102_15, ld_102_16, ld_102_17, ld_102_19, ld_102_20, ld_102_21, ld_102_22, ld_102_23, ld_102_25, ld_102_27, ld_102_28, ld_102_30, cK_pl, cK_to, cK_dp, cK_dt, cK_un, cK_ke, ld_pl, ld_to, ld_dp, ld_dt, ld_un, ld_ke, nI_leI, sp_copyOfU hw h hk5, sp_who, hcp, nI_add, e1]
    · by_cases hi : i = k
      · subst hi
        rw [e3.1 _ _ (by omega)]
        exact hV f hf
      · rw [e2 i (by omega) h2 f hf]
        exact hF.1 _ _ (show ¬ (11 + 2 * i = 50 + (w * 5 + k)) by omega)
theorem sp_putU {m : ba_M} {w u : Nat} (h : w < 8) (hu : u ≤ 8) (h0 : gI m 48 0 = nI 8) (h2 : gI m 48 2 = nI u) (h3 : gI m 48 3 = nI w) :
    ∃ m', f_Sh_putNewest SF 48 6 m = some m' ∧ gI m' 48 0 = nI 8 ∧ gI m' 48 2 = nI (min 8 (u + 1)) ∧ gI m' 48 3 = nI ((w + 1) % 8) ∧ (∀ i, i < 5 → ∀ f, f < 4 → gI m' (50 + (((w + 1) % 8) * 5 + i)) f = gI m (11 + 2 * i) f) ∧ Fr (fun o _ => o = 48 ∨ 50 + (((w + 1) % 8) * 5) ≤ o ∧ o < 50 + (((w + 1) % 8) * 5 + 5)) m m' := by
  have hw' : (w + 1) % 8 < 8 := Nat.mod_lt _ (by omega)
  have hF : Fr (fun o _ => o = 48) m (wI (wI m 48 3 (nI ((w + 1) % 8))) 48 2 (nI (min 8 (u + 1)))) := (Fr.rf.w (by rfl)).w (by rfl)
  obtain ⟨m', e1, e2, e3⟩ := sp_putLU hw' 5 0 FU (wI (wI m 48 3 (nI ((w + 1) % 8))) 48 2 (nI (min 8 (u + 1)))) rfl (by omega) (by unfold FU; omega) (by rw [gI_n _ _ _ _ _ _ (by omega), gI_s])
  refine ⟨m', ?_, ?_, ?_, ?_, fun i hi f hf => ?_, (hF.up (by intro o _ (ho : o = _); omega)).tr (e3.up (by intro o _ ho; omega))⟩
  · unfold f_Sh_putNewest f_Sh_putNewest_24 f_Sh_putNewest_46
    simp (disch := omega) only [oN, Option.bind_some, ↓reduceIte, ifT, ifF, eq_self, reduceCtorEq, cK_0, cK_1, cK_2, kl_2, bd_2, cK_3, cK_4, kl_4, bd_4, cK_5, cK_6, cK_7, kl_7, bd_7, cK_8, cK_25, cK_20, kl_20, bd_20, cK_21, kl_21, bd_21, cK_22, kl_22, bd_22, cK_23, cK_24, kl_24, bd_24, cK_37, cK_38, cK_39, kl_39, bd_39, cK_40, kl_40, bd_40, cK_41, kl_41, bd_41, cK_42, kl_42, bd_42, cK_43, kl_43, bd_43, cK_44, cK_45, kl_45, bd_45, cK_46, kl_46, bd_46, cK_47, kl_47, bd_47, cK_48, cK_49, kl_49, bd_49, cK_90, cK_91, kl_91, bd_91, cK_102, cK_103, kl_103, bd_103, cK_104, kl_104, bd_104, cK_105, kl_105, bd_105, cK_106, kl_106, bd_106, cK_107, kl_107, bd_107, cK_108, kl_108, bd_108, cK_109, kl_109, bd_109, cK_110, kl_110, bd_110, cK_111, kl_111, bd_111, cK_112, kl_112, bd_112, cK_113, kl_113, bd_113, cK_114, kl_114, bd_114, cK_115, kl_115, bd_115, cK_116, kl_116, bd_116, cK_117, kl_117, bd_117, cK_118, kl_118, bd_118, cK_119, kl_119, bd_119, cK_120, kl_120, bd_120, cK_121, kl_121, bd_121, ld_0_0, ld_0_1, ld_0_2, ld_0_3, ld_0_4, ld_0_5, ld_0_6, ld_0_7, ld_0_8, ld_0_9, ld_1_0, ld_3_0, ld_5_0, ld_5_1, ld_5_2, ld_5_3, ld_6_0, ld_6_1, ld_23_0, ld_23_1, ld_38_0, ld_38_1, ld_38_2, ld_38_3, ld_38_4, ld_44_0, ld_44_1, ld_44_2, ld_48_1, ld_90_1, ld_102_3, ld_102_4, ld_102_5, ld_102_8, ld_102_12, ld_102_13, ld_102_14, ld_102_15, ld_102_16, ld_102_17, ld_102_19, ld_102_20, ld_102_21, ld_102_22, ld_102_23, ld_102_25, ld_102_27, ld_102_28, ld_102_30, cK_pl, cK_to, cK_dp, cK_dt, cK_un, cK_ke, ld_pl, ld_to, ld_dp, ld_dt, ld_un, ld_ke, h0, h3, nI_add, nI_leI, gI_n, h2, jmin_n]
    by_cases hc : 8 ≤ w + 1
    · rw [if_pos hc]
      rw [show (w + 1) % 8 = 0 by rw [show w + 1 = 8 by omega, Nat.mod_self]] at e1
      exact e1
    · rw [if_neg hc]
      rw [Nat.mod_eq_of_lt (by omega)] at e1
      exact e1
  · rw [e3.1 _ _ (by omega), gI_n _ _ _ _ _ _ (by omega), gI_n _ _ _ _ _ _ (by omega)]
    exact h0
  · rw [e3.1 _ _ (by omega), gI_s]
  · rw [e3.1 _ _ (by omega), gI_n _ _ _ _ _ _ (by omega), gI_s]
  · rw [e2 i (by omega) hi f hf]
    exact hF.1 _ _ (show ¬ (11 + 2 * i = 48) by omega)
theorem sp_takeLU {w u : Nat} (h : w < 8) (hu : 1 ≤ u ∧ u ≤ 8) : ∀ (r k N : Nat) (m : ba_M), 5 - k = r → k ≤ 5 → r < N → gI m 48 0 = nI 8 → gI m 48 2 = nI u → gI m 48 3 = nI w →
    ∃ m', fx (fun _ _ _ _ => none) (b_Sh_takeNewest_10 SF) N 48 6 (nI k) m = some m' ∧ gI m' 48 0 = nI 8 ∧ gI m' 48 2 = nI (u - 1) ∧ gI m' 48 3 = nI ((w + (8 - 1)) % 8) ∧ (∀ i, k ≤ i → i < 5 → ∀ f, f < 4 → gI m' (11 + 2 * i) f = gI m (50 + (w * 5 + i)) f) ∧ Fr (fun o _ => o = 48 ∨ ∃ i, k ≤ i ∧ i < 5 ∧ o = 11 + 2 * i) m m' := by
  intro r
  induction r with
  | zero =>
    intro k N m hr hk hN h0 h2 h3
    obtain ⟨N, rfl⟩ : ∃ z, N = z + 1 := ⟨N - 1, by omega⟩
    refine ⟨wI (wI m 48 3 (nI ((w + (8 - 1)) % 8))) 48 2 (nI (u - 1)), ?_, ?_, gI_s _ _ _ _, ?_, fun i h1 h2 => by omega, (Fr.rf.w (Or.inl rfl)).w (Or.inl rfl)⟩
    · rw [fx_s]
      generalize fx (fun _ _ _ _ => none) (b_Sh_takeNewest_10 SF) N = K
      unfold b_Sh_takeNewest_10 f_Sh_takeNewest_66
      rw [if_pos (by rw [nI_leI (by omega) (by omega)]; omega)]
      simp (disch := omega) only [h3, z0, nI_leI, h0, pk_sub, gI_n, h2]
      by_cases hw : w ≤ 0
      · rw [if_pos hw, show (w + (8 - 1)) % 8 = 8 - 1 by rw [show w = 0 by omega]]
      · rw [if_neg hw, show (w + (8 - 1)) % 8 = w - 1 by rw [show w + (8 - 1) = (w - 1) + 8 by omega, Nat.add_mod_right, Nat.mod_eq_of_lt (by omega)]]
    · rw [gI_n _ _ _ _ _ _ (by omega), gI_n _ _ _ _ _ _ (by omega)]
      exact h0
    · rw [gI_n _ _ _ _ _ _ (by omega), gI_s]
  | succ r ih =>
    intro k N m hr hk hN h0 h2 h3
    obtain ⟨N, rfl⟩ : ∃ z, N = z + 1 := ⟨N - 1, by omega⟩
    have hk5 : k < 5 := by omega
    have hcp := sp_cbU (m := m) (j := w * 5 + k) (k := k) (by omega) hk5
    have hF : Fr (fun o _ => o = 11 + 2 * k) m (wI (wI (wI (wI m (11 + 2 * k) 0 (gI m (50 + (w * 5 + k)) 0)) (11 + 2 * k) 1 (gI m (50 + (w * 5 + k)) 1)) (11 + 2 * k) 2 (gI m (50 + (w * 5 + k)) 2)) (11 + 2 * k) 3 (gI m (50 + (w * 5 + k)) 3)) := (((Fr.rf.w (by rfl)).w (by rfl)).w (by rfl)).w (by rfl)
    have hV : ∀ f, f < 4 → gI (wI (wI (wI (wI m (11 + 2 * k) 0 (gI m (50 + (w * 5 + k)) 0)) (11 + 2 * k) 1 (gI m (50 + (w * 5 + k)) 1)) (11 + 2 * k) 2 (gI m (50 + (w * 5 + k)) 2)) (11 + 2 * k) 3 (gI m (50 + (w * 5 + k)) 3)) (11 + 2 * k) f = gI m (50 + (w * 5 + k)) f := by
      intro f hf
      match f, hf with
      | 0, _ => rw [gI_n _ _ _ _ _ _ (by omega), gI_n _ _ _ _ _ _ (by omega), gI_n _ _ _ _ _ _ (by omega), gI_s]
      | 1, _ => rw [gI_n _ _ _ _ _ _ (by omega), gI_n _ _ _ _ _ _ (by omega), gI_s]
      | 2, _ => rw [gI_n _ _ _ _ _ _ (by omega), gI_s]
      | 3, _ => rw [gI_s]
    generalize wI (wI (wI (wI m (11 + 2 * k) 0 (gI m (50 + (w * 5 + k)) 0)) (11 + 2 * k) 1 (gI m (50 + (w * 5 + k)) 1)) (11 + 2 * k) 2 (gI m (50 + (w * 5 + k)) 2)) (11 + 2 * k) 3 (gI m (50 + (w * 5 + k)) 3) = m1 at hcp hF hV
    obtain ⟨m', e1, e0, e4, e5, e2, e3⟩ := ih (k + 1) N m1 (by omega) (by omega) (by omega) (by rw [hF.1 _ _ (show ¬ (48 = 11 + 2 * k) by omega)]; exact h0) (by rw [hF.1 _ _ (show ¬ (48 = 11 + 2 * k) by omega)]; exact h2) (by rw [hF.1 _ _ (show ¬ (48 = 11 + 2 * k) by omega)]; exact h3)
    refine ⟨m', ?_, e0, e4, e5, fun i h1 h2 f hf => ?_, (hF.up (by intro o _ (ho : o = _); exact Or.inr ⟨k, by omega, by omega, ho⟩)).tr (e3.up (by rintro o _ (ho | ⟨i, g1, g2, g3⟩); exact Or.inl ho; exact Or.inr ⟨i, by omega, g2, g3⟩))⟩
    · rw [fx_s]
      generalize fx (fun _ _ _ _ => none) (b_Sh_takeNewest_10 SF) N = K at e1 ⊢
      unfold b_Sh_takeNewest_10 f_Sh_takeNewest_37
      simp (disch := omega) only [oN, Option.bind_some, ↓reduceIte, ifT, ifF, eq_self, reduceCtorEq, cK_0, cK_1, cK_2, kl_2, bd_2, cK_3, cK_4, kl_4, bd_4, cK_5, cK_6, cK_7, kl_7, bd_7, cK_8, cK_25, cK_20, kl_20, bd_20, cK_21, kl_21, bd_21, cK_22, kl_22, bd_22, cK_23, cK_24, kl_24, bd_24, cK_37, cK_38, cK_39, kl_39, bd_39, cK_40, kl_40, bd_40, cK_41, kl_41, bd_41, cK_42, kl_42, bd_42, cK_43, kl_43, bd_43, cK_44, cK_45, kl_45, bd_45, cK_46, kl_46, bd_46, cK_47, kl_47, bd_47, cK_48, cK_49, kl_49, bd_49, cK_90, cK_91, kl_91, bd_91, cK_102, cK_103, kl_103, bd_103, cK_104, kl_104, bd_104, cK_105, kl_105, bd_105, cK_106, kl_106, bd_106, cK_107, kl_107, bd_107, cK_108, kl_108, bd_108, cK_109, kl_109, bd_109, cK_110, kl_110, bd_110, cK_111, kl_111, bd_111, cK_112, kl_112, bd_112, cK_113, kl_113, bd_113, cK_114, kl_114, bd_114, cK_115, kl_115, bd_115, cK_116, kl_116, bd_116, cK_117, kl_117, bd_117, cK_118, kl_118, bd_118, cK_119, kl_119, bd_119, cK_120, kl_120, bd_120, cK_121, kl_121, bd_121, ld_0_0, ld_0_1, ld_0_2, ld_0_3, ld_0_4, ld_0_5, ld_0_6, ld_0_7, ld_0_8, ld_0_9, ld_1_0, ld_3_0, ld_5_0, ld_5_1, ld_5_2, ld_5_3, ld_6_0, ld_6_1, ld_23_0, ld_23_1, ld_38_0, ld_38_1, ld_38_2, ld_38_3, ld_38_4, ld_44_0, ld_44_1, ld_44_2, ld_48_1, ld_90_1, ld_102_3, ld_102_4, ld_102_5, ld_102_8, ld_102_12, ld_102_13, ld_102_14, ld_102_15, ld_102_16, ld_102_17, ld_102_19, ld_102_20, ld_102_21, ld_102_22, ld_102_23, ld_102_25, ld_102_27, ld_102_28, ld_102_30, cK_pl, cK_to, cK_dp, cK_dt, cK_un, cK_ke, ld_pl, ld_to, ld_dp, ld_dt, ld_un, ld_ke, nI_leI, sp_copyOfU h3 h hk5, sp_who, hcp, nI_add, e1]
    · by_cases hi : i = k
      · subst hi
        rw [e3.1 _ _ (by rintro (g | ⟨z, g1, g2, g3⟩) <;> omega)]
        exact hV f hf
      · rw [e2 i (by omega) h2 f hf]
        exact hF.1 _ _ (show ¬ (50 + (w * 5 + i) = 11 + 2 * k) by omega)
theorem sp_takeU {m : ba_M} {w u : Nat} (h : w < 8) (hu : 1 ≤ u ∧ u ≤ 8) (h0 : gI m 48 0 = nI 8) (h2 : gI m 48 2 = nI u) (h3 : gI m 48 3 = nI w) :
    ∃ m', f_Sh_takeNewest SF 48 6 m = some m' ∧ gI m' 48 0 = nI 8 ∧ gI m' 48 2 = nI (u - 1) ∧ gI m' 48 3 = nI ((w + (8 - 1)) % 8) ∧ (∀ i, i < 5 → ∀ f, f < 4 → gI m' (11 + 2 * i) f = gI m (50 + (w * 5 + i)) f) ∧ Fr (fun o _ => o = 48 ∨ ∃ i, 0 ≤ i ∧ i < 5 ∧ o = 11 + 2 * i) m m' := by
  obtain ⟨m', e1, e0, e4, e5, e2, e3⟩ := sp_takeLU h hu 5 0 FU m rfl (by omega) (by unfold FU; omega) h0 h2 h3
  refine ⟨m', ?_, e0, e4, e5, fun i hi f hf => e2 i (by omega) hi f hf, e3⟩
  unfold f_Sh_takeNewest f_Sh_takeNewest_10
  simp (disch := omega) only [oN, Option.bind_some, ↓reduceIte, ifT, ifF, eq_self, reduceCtorEq, cK_0, cK_1, cK_2, kl_2, bd_2, cK_3, cK_4, kl_4, bd_4, cK_5, cK_6, cK_7, kl_7, bd_7, cK_8, cK_25, cK_20, kl_20, bd_20, cK_21, kl_21, bd_21, cK_22, kl_22, bd_22, cK_23, cK_24, kl_24, bd_24, cK_37, cK_38, cK_39, kl_39, bd_39, cK_40, kl_40, bd_40, cK_41, kl_41, bd_41, cK_42, kl_42, bd_42, cK_43, kl_43, bd_43, cK_44, cK_45, kl_45, bd_45, cK_46, kl_46, bd_46, cK_47, kl_47, bd_47, cK_48, cK_49, kl_49, bd_49, cK_90, cK_91, kl_91, bd_91, cK_102, cK_103, kl_103, bd_103, cK_104, kl_104, bd_104, cK_105, kl_105, bd_105, cK_106, kl_106, bd_106, cK_107, kl_107, bd_107, cK_108, kl_108, bd_108, cK_109, kl_109, bd_109, cK_110, kl_110, bd_110, cK_111, kl_111, bd_111, cK_112, kl_112, bd_112, cK_113, kl_113, bd_113, cK_114, kl_114, bd_114, cK_115, kl_115, bd_115, cK_116, kl_116, bd_116, cK_117, kl_117, bd_117, cK_118, kl_118, bd_118, cK_119, kl_119, bd_119, cK_120, kl_120, bd_120, cK_121, kl_121, bd_121, ld_0_0, ld_0_1, ld_0_2, ld_0_3, ld_0_4, ld_0_5, ld_0_6, ld_0_7, ld_0_8, ld_0_9, ld_1_0, ld_3_0, ld_5_0, ld_5_1, ld_5_2, ld_5_3, ld_6_0, ld_6_1, ld_23_0, ld_23_1, ld_38_0, ld_38_1, ld_38_2, ld_38_3, ld_38_4, ld_44_0, ld_44_1, ld_44_2, ld_48_1, ld_90_1, ld_102_3, ld_102_4, ld_102_5, ld_102_8, ld_102_12, ld_102_13, ld_102_14, ld_102_15, ld_102_16, ld_102_17, ld_102_19, ld_102_20, ld_102_21, ld_102_22, ld_102_23, ld_102_25, ld_102_27, ld_102_28, ld_102_30, cK_pl, cK_to, cK_dp, cK_dt, cK_un, cK_ke, ld_pl, ld_to, ld_dp, ld_dt, ld_un, ld_ke, h2, z0, nI_eq]
  exact e1
/-! the shelf at 90 (copies 92 and on, 2 places) -/
theorem sp_copyOfK {m : ba_M} {w k : Nat} (hw : gI m 90 3 = nI w) (h : w < 2) (hk : k < 5) : f_Sh_copyOf SF 90 (nI k) m = some (some (92 + (w * 5 + k)), m) := by
  unfold f_Sh_copyOf f_Sh_copyOf_31 f_Sh_copyOf_32
  simp (disch := omega) only [oN, Option.bind_some, ↓reduceIte, ifT, ifF, eq_self, reduceCtorEq, cK_0, cK_1, cK_2, kl_2, bd_2, cK_3, cK_4, kl_4, bd_4, cK_5, cK_6, cK_7, kl_7, bd_7, cK_8, cK_25, cK_20, kl_20, bd_20, cK_21, kl_21, bd_21, cK_22, kl_22, bd_22, cK_23, cK_24, kl_24, bd_24, cK_37, cK_38, cK_39, kl_39, bd_39, cK_40, kl_40, bd_40, cK_41, kl_41, bd_41, cK_42, kl_42, bd_42, cK_43, kl_43, bd_43, cK_44, cK_45, kl_45, bd_45, cK_46, kl_46, bd_46, cK_47, kl_47, bd_47, cK_48, cK_49, kl_49, bd_49, cK_90, cK_91, kl_91, bd_91, cK_102, cK_103, kl_103, bd_103, cK_104, kl_104, bd_104, cK_105, kl_105, bd_105, cK_106, kl_106, bd_106, cK_107, kl_107, bd_107, cK_108, kl_108, bd_108, cK_109, kl_109, bd_109, cK_110, kl_110, bd_110, cK_111, kl_111, bd_111, cK_112, kl_112, bd_112, cK_113, kl_113, bd_113, cK_114, kl_114, bd_114, cK_115, kl_115, bd_115, cK_116, kl_116, bd_116, cK_117, kl_117, bd_117, cK_118, kl_118, bd_118, cK_119, kl_119, bd_119, cK_120, kl_120, bd_120, cK_121, kl_121, bd_121, ld_0_0, ld_0_1, ld_0_2, ld_0_3, ld_0_4, ld_0_5, ld_0_6, ld_0_7, ld_0_8, ld_0_9, ld_1_0, ld_3_0, ld_5_0, ld_5_1, ld_5_2, ld_5_3, ld_6_0, ld_6_1, ld_23_0, ld_23_1, ld_38_0, ld_38_1, ld_38_2, ld_38_3, ld_38_4, ld_44_0, ld_44_1, ld_44_2, ld_48_1, ld_90_1, ld_102_3, ld_102_4, ld_102_5, ld_102_8, ld_102_12, ld_102_13, ld_102_14, ld_102_15, ld_102_16, ld_102_17, ld_102_19, ld_102_20, ld_102_21, ld_102_22, ld_102_23, ld_102_25, ld_102_27, ld_102_28, ld_102_30, cK_pl, cK_to, cK_dp, cK_dt, cK_un, cK_ke, ld_pl, ld_to, ld_dp, ld_dt, ld_un, ld_ke, nI_add, pk_mul, pk_sub, nI_ltI, nI_leI, nI_eq, nI_clamp, z0, hw]
theorem sp_cpK {m : ba_M} {j k : Nat} (h : j < 10) (hk : k < 5) : f_To_copyFrom SF (92 + j) (11 + 2 * k) m = some (wI (wI (wI (wI m (92 + j) 0 (gI m (11 + 2 * k) 0)) (92 + j) 1 (gI m (11 + 2 * k) 1)) (92 + j) 2 (gI m (11 + 2 * k) 2)) (92 + j) 3 (gI m (11 + 2 * k) 3)) := by
  unfold f_To_copyFrom f_To_tellCall
  simp (disch := omega) only [oN, Option.bind_some, ↓reduceIte, ifT, ifF, eq_self, reduceCtorEq, cK_0, cK_1, cK_2, kl_2, bd_2, cK_3, cK_4, kl_4, bd_4, cK_5, cK_6, cK_7, kl_7, bd_7, cK_8, cK_25, cK_20, kl_20, bd_20, cK_21, kl_21, bd_21, cK_22, kl_22, bd_22, cK_23, cK_24, kl_24, bd_24, cK_37, cK_38, cK_39, kl_39, bd_39, cK_40, kl_40, bd_40, cK_41, kl_41, bd_41, cK_42, kl_42, bd_42, cK_43, kl_43, bd_43, cK_44, cK_45, kl_45, bd_45, cK_46, kl_46, bd_46, cK_47, kl_47, bd_47, cK_48, cK_49, kl_49, bd_49, cK_90, cK_91, kl_91, bd_91, cK_102, cK_103, kl_103, bd_103, cK_104, kl_104, bd_104, cK_105, kl_105, bd_105, cK_106, kl_106, bd_106, cK_107, kl_107, bd_107, cK_108, kl_108, bd_108, cK_109, kl_109, bd_109, cK_110, kl_110, bd_110, cK_111, kl_111, bd_111, cK_112, kl_112, bd_112, cK_113, kl_113, bd_113, cK_114, kl_114, bd_114, cK_115, kl_115, bd_115, cK_116, kl_116, bd_116, cK_117, kl_117, bd_117, cK_118, kl_118, bd_118, cK_119, kl_119, bd_119, cK_120, kl_120, bd_120, cK_121, kl_121, bd_121, ld_0_0, ld_0_1, ld_0_2, ld_0_3, ld_0_4, ld_0_5, ld_0_6, ld_0_7, ld_0_8, ld_0_9, ld_1_0, ld_3_0, ld_5_0, ld_5_1, ld_5_2, ld_5_3, ld_6_0, ld_6_1, ld_23_0, ld_23_1, ld_38_0, ld_38_1, ld_38_2, ld_38_3, ld_38_4, ld_44_0, ld_44_1, ld_44_2, ld_48_1, ld_90_1, ld_102_3, ld_102_4, ld_102_5, ld_102_8, ld_102_12, ld_102_13, ld_102_14, ld_102_15, ld_102_16, ld_102_17, ld_102_19, ld_102_20, ld_102_21, ld_102_22, ld_102_23, ld_102_25, ld_102_27, ld_102_28, ld_102_30, cK_pl, cK_to, cK_dp, cK_dt, cK_un, cK_ke, ld_pl, ld_to, ld_dp, ld_dt, ld_un, ld_ke, gI_n]
theorem sp_cbK {m : ba_M} {j k : Nat} (h : j < 10) (hk : k < 5) : f_To_copyFrom SF (11 + 2 * k) (92 + j) m = some (wI (wI (wI (wI m (11 + 2 * k) 0 (gI m (92 + j) 0)) (11 + 2 * k) 1 (gI m (92 + j) 1)) (11 + 2 * k) 2 (gI m (92 + j) 2)) (11 + 2 * k) 3 (gI m (92 + j) 3)) := by
  unfold f_To_copyFrom f_To_tellCall
  simp (disch := omega) only [oN, Option.bind_some, ↓reduceIte, ifT, ifF, eq_self, reduceCtorEq, cK_0, cK_1, cK_2, kl_2, bd_2, cK_3, cK_4, kl_4, bd_4, cK_5, cK_6, cK_7, kl_7, bd_7, cK_8, cK_25, cK_20, kl_20, bd_20, cK_21, kl_21, bd_21, cK_22, kl_22, bd_22, cK_23, cK_24, kl_24, bd_24, cK_37, cK_38, cK_39, kl_39, bd_39, cK_40, kl_40, bd_40, cK_41, kl_41, bd_41, cK_42, kl_42, bd_42, cK_43, kl_43, bd_43, cK_44, cK_45, kl_45, bd_45, cK_46, kl_46, bd_46, cK_47, kl_47, bd_47, cK_48, cK_49, kl_49, bd_49, cK_90, cK_91, kl_91, bd_91, cK_102, cK_103, kl_103, bd_103, cK_104, kl_104, bd_104, cK_105, kl_105, bd_105, cK_106, kl_106, bd_106, cK_107, kl_107, bd_107, cK_108, kl_108, bd_108, cK_109, kl_109, bd_109, cK_110, kl_110, bd_110, cK_111, kl_111, bd_111, cK_112, kl_112, bd_112, cK_113, kl_113, bd_113, cK_114, kl_114, bd_114, cK_115, kl_115, bd_115, cK_116, kl_116, bd_116, cK_117, kl_117, bd_117, cK_118, kl_118, bd_118, cK_119, kl_119, bd_119, cK_120, kl_120, bd_120, cK_121, kl_121, bd_121, ld_0_0, ld_0_1, ld_0_2, ld_0_3, ld_0_4, ld_0_5, ld_0_6, ld_0_7, ld_0_8, ld_0_9, ld_1_0, ld_3_0, ld_5_0, ld_5_1, ld_5_2, ld_5_3, ld_6_0, ld_6_1, ld_23_0, ld_23_1, ld_38_0, ld_38_1, ld_38_2, ld_38_3, ld_38_4, ld_44_0, ld_44_1, ld_44_2, ld_48_1, ld_90_1, ld_102_3, ld_102_4, ld_102_5, ld_102_8, ld_102_12, ld_102_13, ld_102_14, ld_102_15, ld_102_16, ld_102_17, ld_102_19, ld_102_20, ld_102_21, ld_102_22, ld_102_23, ld_102_25, ld_102_27, ld_102_28, ld_102_30, cK_pl, cK_to, cK_dp, cK_dt, cK_un, cK_ke, ld_pl, ld_to, ld_dp, ld_dt, ld_un, ld_ke, gI_n]
theorem sp_putLK {w : Nat} (h : w < 2) : ∀ (r k N : Nat) (m : ba_M), 5 - k = r → k ≤ 5 → r < N → gI m 90 3 = nI w →
    ∃ m', fx (fun _ _ _ _ => none) (b_Sh_putNewest_46 SF) N 90 6 (nI k) m = some m' ∧ (∀ i, k ≤ i → i < 5 → ∀ f, f < 4 → gI m' (92 + (w * 5 + i)) f = gI m (11 + 2 * i) f) ∧ Fr (fun o _ => 92 + (w * 5 + k) ≤ o ∧ o < 92 + (w * 5 + 5)) m m' := by
  intro r
  induction r with
  | zero =>
    intro k N m hr hk hN hw
    obtain ⟨N, rfl⟩ : ∃ z, N = z + 1 := ⟨N - 1, by omega⟩
    refine ⟨m, ?_, fun i h1 h2 => by omega, Fr.rf⟩
    rw [fx_s]
    generalize fx (fun _ _ _ _ => none) (b_Sh_putNewest_46 SF) N = K
    unfold b_Sh_putNewest_46
    rw [if_pos (by rw [nI_leI (by omega) (by omega)]; omega)]
  | succ r ih =>
    intro k N m hr hk hN hw
    obtain ⟨N, rfl⟩ : ∃ z, N = z + 1 := ⟨N - 1, by omega⟩
    have hk5 : k < 5 := by omega
    have hcp := sp_cpK (m := m) (j := w * 5 + k) (k := k) (by omega) hk5
    have hF : Fr (fun o _ => o = 92 + (w * 5 + k)) m (wI (wI (wI (wI m (92 + (w * 5 + k)) 0 (gI m (11 + 2 * k) 0)) (92 + (w * 5 + k)) 1 (gI m (11 + 2 * k) 1)) (92 + (w * 5 + k)) 2 (gI m (11 + 2 * k) 2)) (92 + (w * 5 + k)) 3 (gI m (11 + 2 * k) 3)) := (((Fr.rf.w (by rfl)).w (by rfl)).w (by rfl)).w (by rfl)
    have hV : ∀ f, f < 4 → gI (wI (wI (wI (wI m (92 + (w * 5 + k)) 0 (gI m (11 + 2 * k) 0)) (92 + (w * 5 + k)) 1 (gI m (11 + 2 * k) 1)) (92 + (w * 5 + k)) 2 (gI m (11 + 2 * k) 2)) (92 + (w * 5 + k)) 3 (gI m (11 + 2 * k) 3)) (92 + (w * 5 + k)) f = gI m (11 + 2 * k) f := by
      intro f hf
      match f, hf with
      | 0, _ => rw [gI_n _ _ _ _ _ _ (by omega), gI_n _ _ _ _ _ _ (by omega), gI_n _ _ _ _ _ _ (by omega), gI_s]
      | 1, _ => rw [gI_n _ _ _ _ _ _ (by omega), gI_n _ _ _ _ _ _ (by omega), gI_s]
      | 2, _ => rw [gI_n _ _ _ _ _ _ (by omega), gI_s]
      | 3, _ => rw [gI_s]
    generalize wI (wI (wI (wI m (92 + (w * 5 + k)) 0 (gI m (11 + 2 * k) 0)) (92 + (w * 5 + k)) 1 (gI m (11 + 2 * k) 1)) (92 + (w * 5 + k)) 2 (gI m (11 + 2 * k) 2)) (92 + (w * 5 + k)) 3 (gI m (11 + 2 * k) 3) = m1 at hcp hF hV
    obtain ⟨m', e1, e2, e3⟩ := ih (k + 1) N m1 (by omega) (by omega) (by omega) (by rw [hF.1 _ _ (show ¬ (90 = 92 + (w * 5 + k)) by omega)]; exact hw)
    refine ⟨m', ?_, fun i h1 h2 f hf => ?_, (hF.up (by intro o _ (ho : o = _); omega)).tr (e3.up (by intro o _ ho; omega))⟩
    · rw [fx_s]
      generalize fx (fun _ _ _ _ => none) (b_Sh_putNewest_46 SF) N = K at e1 ⊢
      unfold b_Sh_putNewest_46 f_Sh_putNewest_73
      simp (disch := omega) only [oN, Option.bind_some, ↓reduceIte, ifT, ifF, eq_self, reduceCtorEq, cK_0, cK_1, cK_2, kl_2, bd_2, cK_3, cK_4, kl_4, bd_4, cK_5, cK_6, cK_7, kl_7, bd_7, cK_8, cK_25, cK_20, kl_20, bd_20, cK_21, kl_21, bd_21, cK_22, kl_22, bd_22, cK_23, cK_24, kl_24, bd_24, cK_37, cK_38, cK_39, kl_39, bd_39, cK_40, kl_40, bd_40, cK_41, kl_41, bd_41, cK_42, kl_42, bd_42, cK_43, kl_43, bd_43, cK_44, cK_45, kl_45, bd_45, cK_46, kl_46, bd_46, cK_47, kl_47, bd_47, cK_48, cK_49, kl_49, bd_49, cK_90, cK_91, kl_91, bd_91, cK_102, cK_103, kl_103, bd_103, cK_104, kl_104, bd_104, cK_105, kl_105, bd_105, cK_106, kl_106, bd_106, cK_107, kl_107, bd_107, cK_108, kl_108, bd_108, cK_109, kl_109, bd_109, cK_110, kl_110, bd_110, cK_111, kl_111, bd_111, cK_112, kl_112, bd_112, cK_113, kl_113, bd_113, cK_114, kl_114, bd_114, cK_115, kl_115, bd_115, cK_116, kl_116, bd_116, cK_117, kl_117, bd_117, cK_118, kl_118, bd_118, cK_119, kl_119, bd_119, cK_120, kl_120, bd_120, cK_121, kl_121, bd_121, ld_0_0, ld_0_1, ld_0_2, ld_0_3, ld_0_4, ld_0_5, ld_0_6, ld_0_7, ld_0_8, ld_0_9, ld_1_0, ld_3_0, ld_5_0, ld_5_1, ld_5_2, ld_5_3, ld_6_0, ld_6_1, ld_23_0, ld_23_1, ld_38_0, ld_38_1, ld_38_2, ld_38_3, ld_38_4, ld_44_0, ld_44_1, ld_44_2, ld_48_1, ld_90_1, ld_102_3, ld_102_4, ld_102_5, ld_102_8, ld_102_12, ld_102_13, ld_102_14, ld_102_15, ld_102_16, ld_102_17, ld_102_19, ld_102_20, ld_102_21, ld_102_22, ld_102_23, ld_102_25, ld_102_27, ld_102_28, ld_102_30, cK_pl, cK_to, cK_dp, cK_dt, cK_un, cK_ke, ld_pl, ld_to, ld_dp, ld_dt, ld_un, ld_ke, nI_leI, sp_copyOfK hw h hk5, sp_who, hcp, nI_add, e1]
    · by_cases hi : i = k
      · subst hi
        rw [e3.1 _ _ (by omega)]
        exact hV f hf
      · rw [e2 i (by omega) h2 f hf]
        exact hF.1 _ _ (show ¬ (11 + 2 * i = 92 + (w * 5 + k)) by omega)
theorem sp_putK {m : ba_M} {w u : Nat} (h : w < 2) (hu : u ≤ 2) (h0 : gI m 90 0 = nI 2) (h2 : gI m 90 2 = nI u) (h3 : gI m 90 3 = nI w) :
    ∃ m', f_Sh_putNewest SF 90 6 m = some m' ∧ gI m' 90 0 = nI 2 ∧ gI m' 90 2 = nI (min 2 (u + 1)) ∧ gI m' 90 3 = nI ((w + 1) % 2) ∧ (∀ i, i < 5 → ∀ f, f < 4 → gI m' (92 + (((w + 1) % 2) * 5 + i)) f = gI m (11 + 2 * i) f) ∧ Fr (fun o _ => o = 90 ∨ 92 + (((w + 1) % 2) * 5) ≤ o ∧ o < 92 + (((w + 1) % 2) * 5 + 5)) m m' := by
  have hw' : (w + 1) % 2 < 2 := Nat.mod_lt _ (by omega)
  have hF : Fr (fun o _ => o = 90) m (wI (wI m 90 3 (nI ((w + 1) % 2))) 90 2 (nI (min 2 (u + 1)))) := (Fr.rf.w (by rfl)).w (by rfl)
  obtain ⟨m', e1, e2, e3⟩ := sp_putLK hw' 5 0 FU (wI (wI m 90 3 (nI ((w + 1) % 2))) 90 2 (nI (min 2 (u + 1)))) rfl (by omega) (by unfold FU; omega) (by rw [gI_n _ _ _ _ _ _ (by omega), gI_s])
  refine ⟨m', ?_, ?_, ?_, ?_, fun i hi f hf => ?_, (hF.up (by intro o _ (ho : o = _); omega)).tr (e3.up (by intro o _ ho; omega))⟩
  · unfold f_Sh_putNewest f_Sh_putNewest_24 f_Sh_putNewest_46
    simp (disch := omega) only [oN, Option.bind_some, ↓reduceIte, ifT, ifF, eq_self, reduceCtorEq, cK_0, cK_1, cK_2, kl_2, bd_2, cK_3, cK_4, kl_4, bd_4, cK_5, cK_6, cK_7, kl_7, bd_7, cK_8, cK_25, cK_20, kl_20, bd_20, cK_21, kl_21, bd_21, cK_22, kl_22, bd_22, cK_23, cK_24, kl_24, bd_24, cK_37, cK_38, cK_39, kl_39, bd_39, cK_40, kl_40, bd_40, cK_41, kl_41, bd_41, cK_42, kl_42, bd_42, cK_43, kl_43, bd_43, cK_44, cK_45, kl_45, bd_45, cK_46, kl_46, bd_46, cK_47, kl_47, bd_47, cK_48, cK_49, kl_49, bd_49, cK_90, cK_91, kl_91, bd_91, cK_102, cK_103, kl_103, bd_103, cK_104, kl_104, bd_104, cK_105, kl_105, bd_105, cK_106, kl_106, bd_106, cK_107, kl_107, bd_107, cK_108, kl_108, bd_108, cK_109, kl_109, bd_109, cK_110, kl_110, bd_110, cK_111, kl_111, bd_111, cK_112, kl_112, bd_112, cK_113, kl_113, bd_113, cK_114, kl_114, bd_114, cK_115, kl_115, bd_115, cK_116, kl_116, bd_116, cK_117, kl_117, bd_117, cK_118, kl_118, bd_118, cK_119, kl_119, bd_119, cK_120, kl_120, bd_120, cK_121, kl_121, bd_121, ld_0_0, ld_0_1, ld_0_2, ld_0_3, ld_0_4, ld_0_5, ld_0_6, ld_0_7, ld_0_8, ld_0_9, ld_1_0, ld_3_0, ld_5_0, ld_5_1, ld_5_2, ld_5_3, ld_6_0, ld_6_1, ld_23_0, ld_23_1, ld_38_0, ld_38_1, ld_38_2, ld_38_3, ld_38_4, ld_44_0, ld_44_1, ld_44_2, ld_48_1, ld_90_1, ld_102_3, ld_102_4, ld_102_5, ld_102_8, ld_102_12, ld_102_13, ld_102_14, ld_102_15, ld_102_16, ld_102_17, ld_102_19, ld_102_20, ld_102_21, ld_102_22, ld_102_23, ld_102_25, ld_102_27, ld_102_28, ld_102_30, cK_pl, cK_to, cK_dp, cK_dt, cK_un, cK_ke, ld_pl, ld_to, ld_dp, ld_dt, ld_un, ld_ke, h0, h3, nI_add, nI_leI, gI_n, h2, jmin_n]
    by_cases hc : 2 ≤ w + 1
    · rw [if_pos hc]
      rw [show (w + 1) % 2 = 0 by rw [show w + 1 = 2 by omega, Nat.mod_self]] at e1
      exact e1
    · rw [if_neg hc]
      rw [Nat.mod_eq_of_lt (by omega)] at e1
      exact e1
  · rw [e3.1 _ _ (by omega), gI_n _ _ _ _ _ _ (by omega), gI_n _ _ _ _ _ _ (by omega)]
    exact h0
  · rw [e3.1 _ _ (by omega), gI_s]
  · rw [e3.1 _ _ (by omega), gI_n _ _ _ _ _ _ (by omega), gI_s]
  · rw [e2 i (by omega) hi f hf]
    exact hF.1 _ _ (show ¬ (11 + 2 * i = 90) by omega)
theorem sp_takeLK {w u : Nat} (h : w < 2) (hu : 1 ≤ u ∧ u ≤ 2) : ∀ (r k N : Nat) (m : ba_M), 5 - k = r → k ≤ 5 → r < N → gI m 90 0 = nI 2 → gI m 90 2 = nI u → gI m 90 3 = nI w →
    ∃ m', fx (fun _ _ _ _ => none) (b_Sh_takeNewest_10 SF) N 90 6 (nI k) m = some m' ∧ gI m' 90 0 = nI 2 ∧ gI m' 90 2 = nI (u - 1) ∧ gI m' 90 3 = nI ((w + (2 - 1)) % 2) ∧ (∀ i, k ≤ i → i < 5 → ∀ f, f < 4 → gI m' (11 + 2 * i) f = gI m (92 + (w * 5 + i)) f) ∧ Fr (fun o _ => o = 90 ∨ ∃ i, k ≤ i ∧ i < 5 ∧ o = 11 + 2 * i) m m' := by
  intro r
  induction r with
  | zero =>
    intro k N m hr hk hN h0 h2 h3
    obtain ⟨N, rfl⟩ : ∃ z, N = z + 1 := ⟨N - 1, by omega⟩
    refine ⟨wI (wI m 90 3 (nI ((w + (2 - 1)) % 2))) 90 2 (nI (u - 1)), ?_, ?_, gI_s _ _ _ _, ?_, fun i h1 h2 => by omega, (Fr.rf.w (Or.inl rfl)).w (Or.inl rfl)⟩
    · rw [fx_s]
      generalize fx (fun _ _ _ _ => none) (b_Sh_takeNewest_10 SF) N = K
      unfold b_Sh_takeNewest_10 f_Sh_takeNewest_66
      rw [if_pos (by rw [nI_leI (by omega) (by omega)]; omega)]
      simp (disch := omega) only [h3, z0, nI_leI, h0, pk_sub, gI_n, h2]
      by_cases hw : w ≤ 0
      · rw [if_pos hw, show (w + (2 - 1)) % 2 = 2 - 1 by rw [show w = 0 by omega]]
      · rw [if_neg hw, show (w + (2 - 1)) % 2 = w - 1 by rw [show w + (2 - 1) = (w - 1) + 2 by omega, Nat.add_mod_right, Nat.mod_eq_of_lt (by omega)]]
    · rw [gI_n _ _ _ _ _ _ (by omega), gI_n _ _ _ _ _ _ (by omega)]
      exact h0
    · rw [gI_n _ _ _ _ _ _ (by omega), gI_s]
  | succ r ih =>
    intro k N m hr hk hN h0 h2 h3
    obtain ⟨N, rfl⟩ : ∃ z, N = z + 1 := ⟨N - 1, by omega⟩
    have hk5 : k < 5 := by omega
    have hcp := sp_cbK (m := m) (j := w * 5 + k) (k := k) (by omega) hk5
    have hF : Fr (fun o _ => o = 11 + 2 * k) m (wI (wI (wI (wI m (11 + 2 * k) 0 (gI m (92 + (w * 5 + k)) 0)) (11 + 2 * k) 1 (gI m (92 + (w * 5 + k)) 1)) (11 + 2 * k) 2 (gI m (92 + (w * 5 + k)) 2)) (11 + 2 * k) 3 (gI m (92 + (w * 5 + k)) 3)) := (((Fr.rf.w (by rfl)).w (by rfl)).w (by rfl)).w (by rfl)
    have hV : ∀ f, f < 4 → gI (wI (wI (wI (wI m (11 + 2 * k) 0 (gI m (92 + (w * 5 + k)) 0)) (11 + 2 * k) 1 (gI m (92 + (w * 5 + k)) 1)) (11 + 2 * k) 2 (gI m (92 + (w * 5 + k)) 2)) (11 + 2 * k) 3 (gI m (92 + (w * 5 + k)) 3)) (11 + 2 * k) f = gI m (92 + (w * 5 + k)) f := by
      intro f hf
      match f, hf with
      | 0, _ => rw [gI_n _ _ _ _ _ _ (by omega), gI_n _ _ _ _ _ _ (by omega), gI_n _ _ _ _ _ _ (by omega), gI_s]
      | 1, _ => rw [gI_n _ _ _ _ _ _ (by omega), gI_n _ _ _ _ _ _ (by omega), gI_s]
      | 2, _ => rw [gI_n _ _ _ _ _ _ (by omega), gI_s]
      | 3, _ => rw [gI_s]
    generalize wI (wI (wI (wI m (11 + 2 * k) 0 (gI m (92 + (w * 5 + k)) 0)) (11 + 2 * k) 1 (gI m (92 + (w * 5 + k)) 1)) (11 + 2 * k) 2 (gI m (92 + (w * 5 + k)) 2)) (11 + 2 * k) 3 (gI m (92 + (w * 5 + k)) 3) = m1 at hcp hF hV
    obtain ⟨m', e1, e0, e4, e5, e2, e3⟩ := ih (k + 1) N m1 (by omega) (by omega) (by omega) (by rw [hF.1 _ _ (show ¬ (90 = 11 + 2 * k) by omega)]; exact h0) (by rw [hF.1 _ _ (show ¬ (90 = 11 + 2 * k) by omega)]; exact h2) (by rw [hF.1 _ _ (show ¬ (90 = 11 + 2 * k) by omega)]; exact h3)
    refine ⟨m', ?_, e0, e4, e5, fun i h1 h2 f hf => ?_, (hF.up (by intro o _ (ho : o = _); exact Or.inr ⟨k, by omega, by omega, ho⟩)).tr (e3.up (by rintro o _ (ho | ⟨i, g1, g2, g3⟩); exact Or.inl ho; exact Or.inr ⟨i, by omega, g2, g3⟩))⟩
    · rw [fx_s]
      generalize fx (fun _ _ _ _ => none) (b_Sh_takeNewest_10 SF) N = K at e1 ⊢
      unfold b_Sh_takeNewest_10 f_Sh_takeNewest_37
      simp (disch := omega) only [oN, Option.bind_some, ↓reduceIte, ifT, ifF, eq_self, reduceCtorEq, cK_0, cK_1, cK_2, kl_2, bd_2, cK_3, cK_4, kl_4, bd_4, cK_5, cK_6, cK_7, kl_7, bd_7, cK_8, cK_25, cK_20, kl_20, bd_20, cK_21, kl_21, bd_21, cK_22, kl_22, bd_22, cK_23, cK_24, kl_24, bd_24, cK_37, cK_38, cK_39, kl_39, bd_39, cK_40, kl_40, bd_40, cK_41, kl_41, bd_41, cK_42, kl_42, bd_42, cK_43, kl_43, bd_43, cK_44, cK_45, kl_45, bd_45, cK_46, kl_46, bd_46, cK_47, kl_47, bd_47, cK_48, cK_49, kl_49, bd_49, cK_90, cK_91, kl_91, bd_91, cK_102, cK_103, kl_103, bd_103, cK_104, kl_104, bd_104, cK_105, kl_105, bd_105, cK_106, kl_106, bd_106, cK_107, kl_107, bd_107, cK_108, kl_108, bd_108, cK_109, kl_109, bd_109, cK_110, kl_110, bd_110, cK_111, kl_111, bd_111, cK_112, kl_112, bd_112, cK_113, kl_113, bd_113, cK_114, kl_114, bd_114, cK_115, kl_115, bd_115, cK_116, kl_116, bd_116, cK_117, kl_117, bd_117, cK_118, kl_118, bd_118, cK_119, kl_119, bd_119, cK_120, kl_120, bd_120, cK_121, kl_121, bd_121, ld_0_0, ld_0_1, ld_0_2, ld_0_3, ld_0_4, ld_0_5, ld_0_6, ld_0_7, ld_0_8, ld_0_9, ld_1_0, ld_3_0, ld_5_0, ld_5_1, ld_5_2, ld_5_3, ld_6_0, ld_6_1, ld_23_0, ld_23_1, ld_38_0, ld_38_1, ld_38_2, ld_38_3, ld_38_4, ld_44_0, ld_44_1, ld_44_2, ld_48_1, ld_90_1, ld_102_3, ld_102_4, ld_102_5, ld_102_8, ld_102_12, ld_102_13, ld_102_14, ld_102_15, ld_102_16, ld_102_17, ld_102_19, ld_102_20, ld_102_21, ld_102_22, ld_102_23, ld_102_25, ld_102_27, ld_102_28, ld_102_30, cK_pl, cK_to, cK_dp, cK_dt, cK_un, cK_ke, ld_pl, ld_to, ld_dp, ld_dt, ld_un, ld_ke, nI_leI, sp_copyOfK h3 h hk5, sp_who, hcp, nI_add, e1]
    · by_cases hi : i = k
      · subst hi
        rw [e3.1 _ _ (by rintro (g | ⟨z, g1, g2, g3⟩) <;> omega)]
        exact hV f hf
      · rw [e2 i (by omega) h2 f hf]
        exact hF.1 _ _ (show ¬ (92 + (w * 5 + i) = 11 + 2 * k) by omega)
theorem sp_takeK {m : ba_M} {w u : Nat} (h : w < 2) (hu : 1 ≤ u ∧ u ≤ 2) (h0 : gI m 90 0 = nI 2) (h2 : gI m 90 2 = nI u) (h3 : gI m 90 3 = nI w) :
    ∃ m', f_Sh_takeNewest SF 90 6 m = some m' ∧ gI m' 90 0 = nI 2 ∧ gI m' 90 2 = nI (u - 1) ∧ gI m' 90 3 = nI ((w + (2 - 1)) % 2) ∧ (∀ i, i < 5 → ∀ f, f < 4 → gI m' (11 + 2 * i) f = gI m (92 + (w * 5 + i)) f) ∧ Fr (fun o _ => o = 90 ∨ ∃ i, 0 ≤ i ∧ i < 5 ∧ o = 11 + 2 * i) m m' := by
  obtain ⟨m', e1, e0, e4, e5, e2, e3⟩ := sp_takeLK h hu 5 0 FU m rfl (by omega) (by unfold FU; omega) h0 h2 h3
  refine ⟨m', ?_, e0, e4, e5, fun i hi f hf => e2 i (by omega) hi f hf, e3⟩
  unfold f_Sh_takeNewest f_Sh_takeNewest_10
  simp (disch := omega) only [oN, Option.bind_some, ↓reduceIte, ifT, ifF, eq_self, reduceCtorEq, cK_0, cK_1, cK_2, kl_2, bd_2, cK_3, cK_4, kl_4, bd_4, cK_5, cK_6, cK_7, kl_7, bd_7, cK_8, cK_25, cK_20, kl_20, bd_20, cK_21, kl_21, bd_21, cK_22, kl_22, bd_22, cK_23, cK_24, kl_24, bd_24, cK_37, cK_38, cK_39, kl_39, bd_39, cK_40, kl_40, bd_40, cK_41, kl_41, bd_41, cK_42, kl_42, bd_42, cK_43, kl_43, bd_43, cK_44, cK_45, kl_45, bd_45, cK_46, kl_46, bd_46, cK_47, kl_47, bd_47, cK_48, cK_49, kl_49, bd_49, cK_90, cK_91, kl_91, bd_91, cK_102, cK_103, kl_103, bd_103, cK_104, kl_104, bd_104, cK_105, kl_105, bd_105, cK_106, kl_106, bd_106, cK_107, kl_107, bd_107, cK_108, kl_108, bd_108, cK_109, kl_109, bd_109, cK_110, kl_110, bd_110, cK_111, kl_111, bd_111, cK_112, kl_112, bd_112, cK_113, kl_113, bd_113, cK_114, kl_114, bd_114, cK_115, kl_115, bd_115, cK_116, kl_116, bd_116, cK_117, kl_117, bd_117, cK_118, kl_118, bd_118, cK_119, kl_119, bd_119, cK_120, kl_120, bd_120, cK_121, kl_121, bd_121, ld_0_0, ld_0_1, ld_0_2, ld_0_3, ld_0_4, ld_0_5, ld_0_6, ld_0_7, ld_0_8, ld_0_9, ld_1_0, ld_3_0, ld_5_0, ld_5_1, ld_5_2, ld_5_3, ld_6_0, ld_6_1, ld_23_0, ld_23_1, ld_38_0, ld_38_1, ld_38_2, ld_38_3, ld_38_4, ld_44_0, ld_44_1, ld_44_2, ld_48_1, ld_90_1, ld_102_3, ld_102_4, ld_102_5, ld_102_8, ld_102_12, ld_102_13, ld_102_14, ld_102_15, ld_102_16, ld_102_17, ld_102_19, ld_102_20, ld_102_21, ld_102_22, ld_102_23, ld_102_25, ld_102_27, ld_102_28, ld_102_30, cK_pl, cK_to, cK_dp, cK_dt, cK_un, cK_ke, ld_pl, ld_to, ld_dp, ld_dt, ld_un, ld_ke, h2, z0, nI_eq]
  exact e1
