/-! the reference's changes, undone, kept -/
theorem GM.t {m : ba_M} {c n d : Nat} {P T : ba_T} (hG : GM m c n d P T) {i f : Nat} (hi : i < c) (hf : f < 4) : gI m 104 (5 * f + i) = nI (T i f) := by
  obtain ⟨w1, w2, w3, w4⟩ := hG.2.2.2.2 i hi
  match f, hf with
  | 0, _ => rw [show 5 * 0 + i = i by omega]; exact w1
  | 1, _ => exact w2
  | 2, _ => exact w3
  | 3, _ => exact w4
theorem GC.t {m : ba_M} {c n d : Nat} {P T : ba_T} (hG : GC m c n d P T) {i f : Nat} (hi : i < c) (hf : f < 4) : gI m (11 + 2 * i) f = nI (T i f) := by
  obtain ⟨w1, w2, w3, w4⟩ := hG.2.2.2.2 i hi
  match f, hf with
  | 0, _ => exact w1
  | 1, _ => exact w2
  | 2, _ => exact w3
  | 3, _ => exact w4
theorem sp_kShift {x : Int32} : ∀ (r k N : Nat) (m : ba_M), 35 - k = r → k ≤ 35 → r < N → gI m 102 24 = nI 8 →
    ∃ m', fx (fun _ _ _ _ => none) (b_Mo_knows_11 SF) N 102 x (nI k) m = f_Mo_knows_47 SF 102 x (wI m' 102 24 (nI 7)) ∧ (∀ j, k ≤ j → j < 35 → gI m' 118 j = gI m 118 (j + 5)) ∧ Fr (fun o j => o = 118 ∧ k ≤ j ∧ j < 35) m m' := by
  intro r
  induction r with
  | zero =>
    intro k N m hr hk hN hw
    obtain ⟨N, rfl⟩ : ∃ z, N = z + 1 := ⟨N - 1, by omega⟩
    refine ⟨m, ?_, fun j h1 h2 => by omega, Fr.rf⟩
    rw [fx_s]
    generalize fx (fun _ _ _ _ => none) (b_Mo_knows_11 SF) N = K
    unfold b_Mo_knows_11
    rw [if_pos (by rw [nI_leI (by omega) (by omega)]; omega), hw, pk_sub (by omega)]
  | succ r ih =>
    intro k N m hr hk hN hw
    obtain ⟨N, rfl⟩ : ∃ z, N = z + 1 := ⟨N - 1, by omega⟩
    obtain ⟨m', e1, e2, e3⟩ := ih (k + 1) N (wI m 118 k (gI m 118 (k + 5))) (by omega) (by omega) (by omega) (by rw [gI_n _ _ _ _ _ _ (by omega)]; exact hw)
    have hF : Fr (fun o j => o = 118 ∧ k ≤ j ∧ j < 35) m (wI m 118 k (gI m 118 (k + 5))) := Fr.rf.w (by omega)
    refine ⟨m', ?_, fun j h1 h2 => ?_, hF.tr (e3.up (by intro o j ho; omega))⟩
    · rw [fx_s]
      generalize fx (fun _ _ _ _ => none) (b_Mo_knows_11 SF) N = K at e1 ⊢
      unfold b_Mo_knows_11
      simp (disch := omega) only [oN, Option.bind_some, ↓reduceIte, ifT, ifF, eq_self, reduceCtorEq, cK_0, cK_1, cK_2, kl_2, bd_2, cK_3, cK_4, kl_4, bd_4, cK_5, cK_6, cK_7, kl_7, bd_7, cK_8, cK_25, cK_20, kl_20, bd_20, cK_21, kl_21, bd_21, cK_22, kl_22, bd_22, cK_23, cK_24, kl_24, bd_24, cK_37, cK_38, cK_39, kl_39, bd_39, cK_40, kl_40, bd_40, cK_41, kl_41, bd_41, cK_42, kl_42, bd_42, cK_43, kl_43, bd_43, cK_44, cK_45, kl_45, bd_45, cK_46, kl_46, bd_46, cK_47, kl_47, bd_47, cK_48, cK_49, kl_49, bd_49, cK_90, cK_91, kl_91, bd_91, cK_102, cK_103, kl_103, bd_103, cK_104, kl_104, bd_104, cK_105, kl_105, bd_105, cK_106, kl_106, bd_106, cK_107, kl_107, bd_107, cK_108, kl_108, bd_108, cK_109, kl_109, bd_109, cK_110, kl_110, bd_110, cK_111, kl_111, bd_111, cK_112, kl_112, bd_112, cK_113, kl_113, bd_113, cK_114, kl_114, bd_114, cK_115, kl_115, bd_115, cK_116, kl_116, bd_116, cK_117, kl_117, bd_117, cK_118, kl_118, bd_118, cK_119, kl_119, bd_119, cK_120, kl_120, bd_120, cK_121, kl_121, bd_121, ld_0_0, ld_0_1, ld_0_2, ld_0_3, ld_0_4, ld_0_5, ld_0_6, ld_0_7, ld_0_8, ld_0_9, ld_1_0, ld_3_0, ld_5_0, ld_5_1, ld_5_2, ld_5_3, ld_6_0, ld_6_1, ld_23_0, ld_23_1, ld_38_0, ld_38_1, ld_38_2, ld_38_3, ld_38_4, ld_44_0, ld_44_1, ld_44_2, ld_48_1, ld_90_1, ld_102_3, ld_102_4, ld_102_5, ld_102_8, ld_102_12, ld_102_13, ld_102_14, ld_102_15, ld_102_16, ld_102_17, ld_102_19, ld_102_20, ld_102_21, ld_102_22, ld_102_23, ld_102_25, ld_102_27, ld_102_28, ld_102_30, cK_pl, cK_to, cK_dp, cK_dt, cK_un, cK_ke, ld_pl, ld_to, ld_dp, ld_dt, ld_un, ld_ke, nI_leI, nI_add, nI_clamp, e1]
    · by_cases hj : j = k
      · subst hj
        rw [e3.1 _ _ (by omega), gI_s]
      · rw [e2 j (by omega) h2, gI_n _ _ _ _ _ _ (by omega)]
theorem sp_kCopy {i u : Nat} (hi : i < 5) (hu : u ≤ 7) : ∀ (r k N : Nat) (m : ba_M), 4 - k = r → k ≤ 4 → r < N → gI m 102 24 = nI u →
    ∃ m', fx (fun _ _ _ _ => none) (b_Mo_knows_61 SF) N 102 (nI i) (nI k) m = some m' ∧ gI m' 102 24 = nI (u + 1) ∧ (∀ f, k ≤ f → f < 4 → gI m' 118 (5 * u + 1 + f) = gI m 104 (5 * f + i)) ∧ Fr (fun o j => o = 102 ∧ j = 24 ∨ o = 118 ∧ 5 * u + 1 + k ≤ j ∧ j < 5 * u + 5) m m' := by
  intro r
  induction r with
  | zero =>
    intro k N m hr hk hN hw
    obtain ⟨N, rfl⟩ : ∃ z, N = z + 1 := ⟨N - 1, by omega⟩
    refine ⟨wI m 102 24 (nI (u + 1)), ?_, gI_s _ _ _ _, fun j h1 h2 => by omega, Fr.rf.w (Or.inl ⟨rfl, rfl⟩)⟩
    rw [fx_s]
    generalize fx (fun _ _ _ _ => none) (b_Mo_knows_61 SF) N = K
    unfold b_Mo_knows_61
    rw [if_pos (by rw [nI_leI (by omega) (by omega)]; omega), hw, nI_add]
  | succ r ih =>
    intro k N m hr hk hN hw
    obtain ⟨N, rfl⟩ : ∃ z, N = z + 1 := ⟨N - 1, by omega⟩
    obtain ⟨m', e1, e0, e2, e3⟩ := ih (k + 1) N (wI m 118 (5 * u + 1 + k) (gI m 104 (5 * k + i))) (by omega) (by omega) (by omega) (by rw [gI_n _ _ _ _ _ _ (by omega)]; exact hw)
    have hF : Fr (fun o j => o = 102 ∧ j = 24 ∨ o = 118 ∧ 5 * u + 1 + k ≤ j ∧ j < 5 * u + 5) m (wI m 118 (5 * u + 1 + k) (gI m 104 (5 * k + i))) := Fr.rf.w (by omega)
    refine ⟨m', ?_, e0, fun f h1 h2 => ?_, hF.tr (e3.up (by intro o j ho; omega))⟩
    · rw [fx_s]
      generalize fx (fun _ _ _ _ => none) (b_Mo_knows_61 SF) N = K at e1 ⊢
      unfold b_Mo_knows_61
      simp (disch := omega) only [oN, Option.bind_some, ↓reduceIte, ifT, ifF, eq_self, reduceCtorEq, cK_0, cK_1, cK_2, kl_2, bd_2, cK_3, cK_4, kl_4, bd_4, cK_5, cK_6, cK_7, kl_7, bd_7, cK_8, cK_25, cK_20, kl_20, bd_20, cK_21, kl_21, bd_21, cK_22, kl_22, bd_22, cK_23, cK_24, kl_24, bd_24, cK_37, cK_38, cK_39, kl_39, bd_39, cK_40, kl_40, bd_40, cK_41, kl_41, bd_41, cK_42, kl_42, bd_42, cK_43, kl_43, bd_43, cK_44, cK_45, kl_45, bd_45, cK_46, kl_46, bd_46, cK_47, kl_47, bd_47, cK_48, cK_49, kl_49, bd_49, cK_90, cK_91, kl_91, bd_91, cK_102, cK_103, kl_103, bd_103, cK_104, kl_104, bd_104, cK_105, kl_105, bd_105, cK_106, kl_106, bd_106, cK_107, kl_107, bd_107, cK_108, kl_108, bd_108, cK_109, kl_109, bd_109, cK_110, kl_110, bd_110, cK_111, kl_111, bd_111, cK_112, kl_112, bd_112, cK_113, kl_113, bd_113, cK_114, kl_114, bd_114, cK_115, kl_115, bd_115, cK_116, kl_116, bd_116, cK_117, kl_117, bd_117, cK_118, kl_118, bd_118, cK_119, kl_119, bd_119, cK_120, kl_120, bd_120, cK_121, kl_121, bd_121, ld_0_0, ld_0_1, ld_0_2, ld_0_3, ld_0_4, ld_0_5, ld_0_6, ld_0_7, ld_0_8, ld_0_9, ld_1_0, ld_3_0, ld_5_0, ld_5_1, ld_5_2, ld_5_3, ld_6_0, ld_6_1, ld_23_0, ld_23_1, ld_38_0, ld_38_1, ld_38_2, ld_38_3, ld_38_4, ld_44_0, ld_44_1, ld_44_2, ld_48_1, ld_90_1, ld_102_3, ld_102_4, ld_102_5, ld_102_8, ld_102_12, ld_102_13, ld_102_14, ld_102_15, ld_102_16, ld_102_17, ld_102_19, ld_102_20, ld_102_21, ld_102_22, ld_102_23, ld_102_25, ld_102_27, ld_102_28, ld_102_30, cK_pl, cK_to, cK_dp, cK_dt, cK_un, cK_ke, ld_pl, ld_to, ld_dp, ld_dt, ld_un, ld_ke, nI_leI, nI_add, pk_mul, nI_clamp, hw, e1]
    · by_cases hf : f = k
      · subst hf
        rw [e3.1 _ _ (by omega), gI_s]
      · rw [e2 f (by omega) h2, gI_n _ _ _ _ _ _ (by omega)]
theorem sp_knows {m : ba_M} {i u : Nat} (hi : i < 5) (hu : u ≤ 8) (hw : gI m 102 24 = nI u) :
    ∃ m', f_Mo_knows SF 102 (nI i) m = some m' ∧ gI m' 102 24 = nI (min 8 (u + 1)) ∧ gI m' 118 (5 * min 7 u) = nI i ∧ (∀ f, f < 4 → gI m' 118 (5 * min 7 u + 1 + f) = gI m 104 (5 * f + i)) ∧ (∀ j, j < 5 * min 7 u → gI m' 118 j = gI m 118 (if u = 8 then j + 5 else j)) ∧ Fr (fun o k => o = 118 ∨ o = 102 ∧ k = 24) m m' := by
  have core : ∀ (m : ba_M) (u : Nat), u ≤ 7 → gI m 102 24 = nI u → ∃ m', f_Mo_knows_47 SF 102 (nI i) m = some m' ∧ gI m' 102 24 = nI (u + 1) ∧ gI m' 118 (5 * u) = nI i ∧ (∀ f, f < 4 → gI m' 118 (5 * u + 1 + f) = gI m 104 (5 * f + i)) ∧ (∀ j, j < 5 * u → gI m' 118 j = gI m 118 j) ∧ Fr (fun o k => o = 118 ∨ o = 102 ∧ k = 24) m m' := by
    intro m u hu hw
    obtain ⟨m', e1, e0, e2, e3⟩ := sp_kCopy hi hu 4 0 FU (wI m 118 (5 * u) (nI i)) rfl (by omega) (by unfold FU; omega) (by rw [gI_n _ _ _ _ _ _ (by omega)]; exact hw)
    have hF : Fr (fun o k => o = 118 ∨ o = 102 ∧ k = 24) m (wI m 118 (5 * u) (nI i)) := Fr.rf.w (by omega)
    refine ⟨m', ?_, e0, ?_, fun f hf => ?_, fun j hj => ?_, hF.tr (e3.up (by intro o j ho; omega))⟩
    · unfold f_Mo_knows_47 f_Mo_knows_61
      simp (disch := omega) only [oN, Option.bind_some, ↓reduceIte, ifT, ifF, eq_self, reduceCtorEq, cK_0, cK_1, cK_2, kl_2, bd_2, cK_3, cK_4, kl_4, bd_4, cK_5, cK_6, cK_7, kl_7, bd_7, cK_8, cK_25, cK_20, kl_20, bd_20, cK_21, kl_21, bd_21, cK_22, kl_22, bd_22, cK_23, cK_24, kl_24, bd_24, cK_37, cK_38, cK_39, kl_39, bd_39, cK_40, kl_40, bd_40, cK_41, kl_41, bd_41, cK_42, kl_42, bd_42, cK_43, kl_43, bd_43, cK_44, cK_45, kl_45, bd_45, cK_46, kl_46, bd_46, cK_47, kl_47, bd_47, cK_48, cK_49, kl_49, bd_49, cK_90, cK_91, kl_91, bd_91, cK_102, cK_103, kl_103, bd_103, cK_104, kl_104, bd_104, cK_105, kl_105, bd_105, cK_106, kl_106, bd_106, cK_107, kl_107, bd_107, cK_108, kl_108, bd_108, cK_109, kl_109, bd_109, cK_110, kl_110, bd_110, cK_111, kl_111, bd_111, cK_112, kl_112, bd_112, cK_113, kl_113, bd_113, cK_114, kl_114, bd_114, cK_115, kl_115, bd_115, cK_116, kl_116, bd_116, cK_117, kl_117, bd_117, cK_118, kl_118, bd_118, cK_119, kl_119, bd_119, cK_120, kl_120, bd_120, cK_121, kl_121, bd_121, ld_0_0, ld_0_1, ld_0_2, ld_0_3, ld_0_4, ld_0_5, ld_0_6, ld_0_7, ld_0_8, ld_0_9, ld_1_0, ld_3_0, ld_5_0, ld_5_1, ld_5_2, ld_5_3, ld_6_0, ld_6_1, ld_23_0, ld_23_1, ld_38_0, ld_38_1, ld_38_2, ld_38_3, ld_38_4, ld_44_0, ld_44_1, ld_44_2, ld_48_1, ld_90_1, ld_102_3, ld_102_4, ld_102_5, ld_102_8, ld_102_12, ld_102_13, ld_102_14, ld_102_15, ld_102_16, ld_102_17, ld_102_19, ld_102_20, ld_102_21, ld_102_22, ld_102_23, ld_102_25, ld_102_27, ld_102_28, ld_102_30, cK_pl, cK_to, cK_dp, cK_dt, cK_un, cK_ke, ld_pl, ld_to, ld_dp, ld_dt, ld_un, ld_ke, pk_mul, nI_clamp, hw, e1]
    · rw [e3.1 _ _ (by omega), gI_s]
    · rw [e2 f (by omega) hf, gI_n _ _ _ _ _ _ (by omega)]
    · rw [e3.1 _ _ (by omega), gI_n _ _ _ _ _ _ (by omega)]
  unfold f_Mo_knows f_Mo_knows_11
  simp (disch := omega) only [oN, Option.bind_some, ↓reduceIte, ifT, ifF, eq_self, reduceCtorEq, cK_0, cK_1, cK_2, kl_2, bd_2, cK_3, cK_4, kl_4, bd_4, cK_5, cK_6, cK_7, kl_7, bd_7, cK_8, cK_25, cK_20, kl_20, bd_20, cK_21, kl_21, bd_21, cK_22, kl_22, bd_22, cK_23, cK_24, kl_24, bd_24, cK_37, cK_38, cK_39, kl_39, bd_39, cK_40, kl_40, bd_40, cK_41, kl_41, bd_41, cK_42, kl_42, bd_42, cK_43, kl_43, bd_43, cK_44, cK_45, kl_45, bd_45, cK_46, kl_46, bd_46, cK_47, kl_47, bd_47, cK_48, cK_49, kl_49, bd_49, cK_90, cK_91, kl_91, bd_91, cK_102, cK_103, kl_103, bd_103, cK_104, kl_104, bd_104, cK_105, kl_105, bd_105, cK_106, kl_106, bd_106, cK_107, kl_107, bd_107, cK_108, kl_108, bd_108, cK_109, kl_109, bd_109, cK_110, kl_110, bd_110, cK_111, kl_111, bd_111, cK_112, kl_112, bd_112, cK_113, kl_113, bd_113, cK_114, kl_114, bd_114, cK_115, kl_115, bd_115, cK_116, kl_116, bd_116, cK_117, kl_117, bd_117, cK_118, kl_118, bd_118, cK_119, kl_119, bd_119, cK_120, kl_120, bd_120, cK_121, kl_121, bd_121, ld_0_0, ld_0_1, ld_0_2, ld_0_3, ld_0_4, ld_0_5, ld_0_6, ld_0_7, ld_0_8, ld_0_9, ld_1_0, ld_3_0, ld_5_0, ld_5_1, ld_5_2, ld_5_3, ld_6_0, ld_6_1, ld_23_0, ld_23_1, ld_38_0, ld_38_1, ld_38_2, ld_38_3, ld_38_4, ld_44_0, ld_44_1, ld_44_2, ld_48_1, ld_90_1, ld_102_3, ld_102_4, ld_102_5, ld_102_8, ld_102_12, ld_102_13, ld_102_14, ld_102_15, ld_102_16, ld_102_17, ld_102_19, ld_102_20, ld_102_21, ld_102_22, ld_102_23, ld_102_25, ld_102_27, ld_102_28, ld_102_30, cK_pl, cK_to, cK_dp, cK_dt, cK_un, cK_ke, ld_pl, ld_to, ld_dp, ld_dt, ld_un, ld_ke, hw, nI_eq]
  by_cases h8 : u = 8
  · subst h8
    obtain ⟨m1, e1, e2, e3⟩ := sp_kShift (x := nI i) 35 0 FU m rfl (by omega) (by unfold FU; omega) hw
    have hF : Fr (fun o k => o = 118 ∨ o = 102 ∧ k = 24) m (wI m1 102 24 (nI 7)) := (e3.up (by intro o j ho; omega)).w (by omega)
    obtain ⟨m', u1, u2, u3, u4, u5, u6⟩ := core (wI m1 102 24 (nI 7)) 7 (by omega) (gI_s _ _ _ _)
    refine ⟨m', ?_, u2, u3, fun f hf => ?_, fun j hj => ?_, hF.tr u6⟩
    · rw [if_pos rfl, e1, u1]
    · rw [show min 7 8 = 7 from rfl, u4 f hf]
      exact hF.1 _ _ (by omega)
    · rw [u5 j hj, gI_n _ _ _ _ _ _ (by omega), e2 j (by omega) (by omega), if_pos rfl]
  · obtain ⟨m', u1, u2, u3, u4, u5, u6⟩ := core m u (by omega) hw
    rw [show min 7 u = u by omega, show min 8 (u + 1) = u + 1 by omega]
    refine ⟨m', ?_, u2, u3, u4, fun j hj => ?_, u6⟩
    · rw [if_neg h8, u1]
    · rw [u5 j hj, if_neg h8]
theorem sp_uLoop {a u : Nat} (ha : a < 5) (hu : u ≤ 7) : ∀ (r k N : Nat) (m : ba_M), 4 - k = r → k ≤ 4 → r < N → gI m 102 24 = nI u →
    ∃ m', fx (fun _ _ _ _ => none) (b_Mo_undo_34 SF) N 102 (nI a) (nI k) m = some (nI u, m') ∧ (∀ f, k ≤ f → f < 4 → gI m' 104 (5 * f + a) = gI m 118 (5 * u + 1 + f)) ∧ Fr (fun o j => o = 104 ∧ ∃ f, k ≤ f ∧ f < 4 ∧ j = 5 * f + a) m m' := by
  intro r
  induction r with
  | zero =>
    intro k N m hr hk hN hw
    obtain ⟨N, rfl⟩ : ∃ z, N = z + 1 := ⟨N - 1, by omega⟩
    refine ⟨m, ?_, fun j h1 h2 => by omega, Fr.rf⟩
    rw [fx_s]
    generalize fx (fun _ _ _ _ => none) (b_Mo_undo_34 SF) N = K
    unfold b_Mo_undo_34
    rw [if_pos (by rw [nI_leI (by omega) (by omega)]; omega), hw]
  | succ r ih =>
    intro k N m hr hk hN hw
    obtain ⟨N, rfl⟩ : ∃ z, N = z + 1 := ⟨N - 1, by omega⟩
    obtain ⟨m', e1, e2, e3⟩ := ih (k + 1) N (wI m 104 (5 * k + a) (gI m 118 (5 * u + 1 + k))) (by omega) (by omega) (by omega) (by rw [gI_n _ _ _ _ _ _ (by omega)]; exact hw)
    have hF : Fr (fun o j => o = 104 ∧ ∃ f, k ≤ f ∧ f < 4 ∧ j = 5 * f + a) m (wI m 104 (5 * k + a) (gI m 118 (5 * u + 1 + k))) := Fr.rf.w ⟨rfl, k, by omega, by omega, rfl⟩
    refine ⟨m', ?_, fun f h1 h2 => ?_, hF.tr (e3.up (by rintro o j ⟨h1, f, h2, h3, h4⟩; exact ⟨h1, f, by omega, h3, h4⟩))⟩
    · rw [fx_s]
      generalize fx (fun _ _ _ _ => none) (b_Mo_undo_34 SF) N = K at e1 ⊢
      unfold b_Mo_undo_34
      simp (disch := omega) only [oN, Option.bind_some, ↓reduceIte, ifT, ifF, eq_self, reduceCtorEq, cK_0, cK_1, cK_2, kl_2, bd_2, cK_3, cK_4, kl_4, bd_4, cK_5, cK_6, cK_7, kl_7, bd_7, cK_8, cK_25, cK_20, kl_20, bd_20, cK_21, kl_21, bd_21, cK_22, kl_22, bd_22, cK_23, cK_24, kl_24, bd_24, cK_37, cK_38, cK_39, kl_39, bd_39, cK_40, kl_40, bd_40, cK_41, kl_41, bd_41, cK_42, kl_42, bd_42, cK_43, kl_43, bd_43, cK_44, cK_45, kl_45, bd_45, cK_46, kl_46, bd_46, cK_47, kl_47, bd_47, cK_48, cK_49, kl_49, bd_49, cK_90, cK_91, kl_91, bd_91, cK_102, cK_103, kl_103, bd_103, cK_104, kl_104, bd_104, cK_105, kl_105, bd_105, cK_106, kl_106, bd_106, cK_107, kl_107, bd_107, cK_108, kl_108, bd_108, cK_109, kl_109, bd_109, cK_110, kl_110, bd_110, cK_111, kl_111, bd_111, cK_112, kl_112, bd_112, cK_113, kl_113, bd_113, cK_114, kl_114, bd_114, cK_115, kl_115, bd_115, cK_116, kl_116, bd_116, cK_117, kl_117, bd_117, cK_118, kl_118, bd_118, cK_119, kl_119, bd_119, cK_120, kl_120, bd_120, cK_121, kl_121, bd_121, ld_0_0, ld_0_1, ld_0_2, ld_0_3, ld_0_4, ld_0_5, ld_0_6, ld_0_7, ld_0_8, ld_0_9, ld_1_0, ld_3_0, ld_5_0, ld_5_1, ld_5_2, ld_5_3, ld_6_0, ld_6_1, ld_23_0, ld_23_1, ld_38_0, ld_38_1, ld_38_2, ld_38_3, ld_38_4, ld_44_0, ld_44_1, ld_44_2, ld_48_1, ld_90_1, ld_102_3, ld_102_4, ld_102_5, ld_102_8, ld_102_12, ld_102_13, ld_102_14, ld_102_15, ld_102_16, ld_102_17, ld_102_19, ld_102_20, ld_102_21, ld_102_22, ld_102_23, ld_102_25, ld_102_27, ld_102_28, ld_102_30, cK_pl, cK_to, cK_dp, cK_dt, cK_un, cK_ke, ld_pl, ld_to, ld_dp, ld_dt, ld_un, ld_ke, nI_leI, nI_add, pk_mul, nI_clamp, hw, e1]
    · by_cases hf : f = k
      · subst hf
        rw [e3.1 _ _ (by rintro ⟨h1, z, h3, h4, h5⟩; omega), gI_s]
      · rw [e2 f (by omega) h2, gI_n _ _ _ _ _ _ (by omega)]
theorem sp_mundo {m : ba_M} {a u : Nat} (ha : a < 5) (hu : 1 ≤ u ∧ u ≤ 8) (hw : gI m 102 24 = nI u) (hc : gI m 118 (5 * (u - 1)) = nI a) :
    ∃ m', f_Mo_undo SF 102 m = some (nI (u - 1), m') ∧ gI m' 102 24 = nI (u - 1) ∧ (∀ f, f < 4 → gI m' 104 (5 * f + a) = gI m 118 (5 * (u - 1) + 1 + f)) ∧ Fr (fun o j => o = 102 ∧ j = 24 ∨ o = 104 ∧ ∃ f, 0 ≤ f ∧ f < 4 ∧ j = 5 * f + a) m m' := by
  obtain ⟨m', e1, e2, e3⟩ := sp_uLoop ha (show u - 1 ≤ 7 by omega) 4 0 FU (wI m 102 24 (nI (u - 1))) rfl (by omega) (by unfold FU; omega) (gI_s _ _ _ _)
  have hF : Fr (fun o j => o = 102 ∧ j = 24 ∨ o = 104 ∧ ∃ f, 0 ≤ f ∧ f < 4 ∧ j = 5 * f + a) m (wI m 102 24 (nI (u - 1))) := Fr.rf.w (Or.inl ⟨rfl, rfl⟩)
  refine ⟨m', ?_, ?_, fun f hf => ?_, hF.tr (e3.up (fun o j ho => Or.inr ho))⟩
  · unfold f_Mo_undo f_Mo_undo_34
    simp (disch := omega) only [oN, Option.bind_some, ↓reduceIte, ifT, ifF, eq_self, reduceCtorEq, cK_0, cK_1, cK_2, kl_2, bd_2, cK_3, cK_4, kl_4, bd_4, cK_5, cK_6, cK_7, kl_7, bd_7, cK_8, cK_25, cK_20, kl_20, bd_20, cK_21, kl_21, bd_21, cK_22, kl_22, bd_22, cK_23, cK_24, kl_24, bd_24, cK_37, cK_38, cK_39, kl_39, bd_39, cK_40, kl_40, bd_40, cK_41, kl_41, bd_41, cK_42, kl_42, bd_42, cK_43, kl_43, bd_43, cK_44, cK_45, kl_45, bd_45, cK_46, kl_46, bd_46, cK_47, kl_47, bd_47, cK_48, cK_49, kl_49, bd_49, cK_90, cK_91, kl_91, bd_91, cK_102, cK_103, kl_103, bd_103, cK_104, kl_104, bd_104, cK_105, kl_105, bd_105, cK_106, kl_106, bd_106, cK_107, kl_107, bd_107, cK_108, kl_108, bd_108, cK_109, kl_109, bd_109, cK_110, kl_110, bd_110, cK_111, kl_111, bd_111, cK_112, kl_112, bd_112, cK_113, kl_113, bd_113, cK_114, kl_114, bd_114, cK_115, kl_115, bd_115, cK_116, kl_116, bd_116, cK_117, kl_117, bd_117, cK_118, kl_118, bd_118, cK_119, kl_119, bd_119, cK_120, kl_120, bd_120, cK_121, kl_121, bd_121, ld_0_0, ld_0_1, ld_0_2, ld_0_3, ld_0_4, ld_0_5, ld_0_6, ld_0_7, ld_0_8, ld_0_9, ld_1_0, ld_3_0, ld_5_0, ld_5_1, ld_5_2, ld_5_3, ld_6_0, ld_6_1, ld_23_0, ld_23_1, ld_38_0, ld_38_1, ld_38_2, ld_38_3, ld_38_4, ld_44_0, ld_44_1, ld_44_2, ld_48_1, ld_90_1, ld_102_3, ld_102_4, ld_102_5, ld_102_8, ld_102_12, ld_102_13, ld_102_14, ld_102_15, ld_102_16, ld_102_17, ld_102_19, ld_102_20, ld_102_21, ld_102_22, ld_102_23, ld_102_25, ld_102_27, ld_102_28, ld_102_30, cK_pl, cK_to, cK_dp, cK_dt, cK_un, cK_ke, ld_pl, ld_to, ld_dp, ld_dt, ld_un, ld_ke, hw, z0, nI_eq, pk_sub, gI_s, pk_mul, nI_clamp, gI_n, hc, e1]
  · rw [e3.1 _ _ (by rintro ⟨h1, h2⟩; omega), gI_s]
  · rw [e2 f (by omega) hf, gI_n _ _ _ _ _ _ (by omega)]
theorem sp_keepL {v : Nat} (hv : v ≤ 1) : ∀ (r k N : Nat) (m : ba_M), 20 - k = r → k ≤ 20 → r < N → gI m 102 29 = nI v →
    ∃ m', fx (fun _ _ _ => none) (b_Mo_keep_13 SF) N 102 (nI k) m = some (nI (v + 1), m') ∧ gI m' 102 29 = nI (v + 1) ∧ (∀ j, k ≤ j → j < 20 → gI m' 121 (20 * v + j) = gI m 104 j) ∧ Fr (fun o j => o = 102 ∧ j = 29 ∨ o = 121 ∧ 20 * v + k ≤ j ∧ j < 20 * v + 20) m m' := by
  intro r
  induction r with
  | zero =>
    intro k N m hr hk hN hw
    obtain ⟨N, rfl⟩ : ∃ z, N = z + 1 := ⟨N - 1, by omega⟩
    refine ⟨wI m 102 29 (nI (v + 1)), ?_, gI_s _ _ _ _, fun j h1 h2 => by omega, Fr.rf.w (Or.inl ⟨rfl, rfl⟩)⟩
    rw [fx_s]
    generalize fx (fun _ _ _ => none) (b_Mo_keep_13 SF) N = K
    unfold b_Mo_keep_13
    rw [if_pos (by rw [nI_leI (by omega) (by omega)]; omega), hw, nI_add, gI_s]
  | succ r ih =>
    intro k N m hr hk hN hw
    obtain ⟨N, rfl⟩ : ∃ z, N = z + 1 := ⟨N - 1, by omega⟩
    obtain ⟨m', e1, e0, e2, e3⟩ := ih (k + 1) N (wI m 121 (20 * v + k) (gI m 104 k)) (by omega) (by omega) (by omega) (by rw [gI_n _ _ _ _ _ _ (by omega)]; exact hw)
    have hF : Fr (fun o j => o = 102 ∧ j = 29 ∨ o = 121 ∧ 20 * v + k ≤ j ∧ j < 20 * v + 20) m (wI m 121 (20 * v + k) (gI m 104 k)) := Fr.rf.w (by omega)
    refine ⟨m', ?_, e0, fun j h1 h2 => ?_, hF.tr (e3.up (by intro o j ho; omega))⟩
    · rw [fx_s]
      generalize fx (fun _ _ _ => none) (b_Mo_keep_13 SF) N = K at e1 ⊢
      unfold b_Mo_keep_13
      simp (disch := omega) only [oN, Option.bind_some, ↓reduceIte, ifT, ifF, eq_self, reduceCtorEq, cK_0, cK_1, cK_2, kl_2, bd_2, cK_3, cK_4, kl_4, bd_4, cK_5, cK_6, cK_7, kl_7, bd_7, cK_8, cK_25, cK_20, kl_20, bd_20, cK_21, kl_21, bd_21, cK_22, kl_22, bd_22, cK_23, cK_24, kl_24, bd_24, cK_37, cK_38, cK_39, kl_39, bd_39, cK_40, kl_40, bd_40, cK_41, kl_41, bd_41, cK_42, kl_42, bd_42, cK_43, kl_43, bd_43, cK_44, cK_45, kl_45, bd_45, cK_46, kl_46, bd_46, cK_47, kl_47, bd_47, cK_48, cK_49, kl_49, bd_49, cK_90, cK_91, kl_91, bd_91, cK_102, cK_103, kl_103, bd_103, cK_104, kl_104, bd_104, cK_105, kl_105, bd_105, cK_106, kl_106, bd_106, cK_107, kl_107, bd_107, cK_108, kl_108, bd_108, cK_109, kl_109, bd_109, cK_110, kl_110, bd_110, cK_111, kl_111, bd_111, cK_112, kl_112, bd_112, cK_113, kl_113, bd_113, cK_114, kl_114, bd_114, cK_115, kl_115, bd_115, cK_116, kl_116, bd_116, cK_117, kl_117, bd_117, cK_118, kl_118, bd_118, cK_119, kl_119, bd_119, cK_120, kl_120, bd_120, cK_121, kl_121, bd_121, ld_0_0, ld_0_1, ld_0_2, ld_0_3, ld_0_4, ld_0_5, ld_0_6, ld_0_7, ld_0_8, ld_0_9, ld_1_0, ld_3_0, ld_5_0, ld_5_1, ld_5_2, ld_5_3, ld_6_0, ld_6_1, ld_23_0, ld_23_1, ld_38_0, ld_38_1, ld_38_2, ld_38_3, ld_38_4, ld_44_0, ld_44_1, ld_44_2, ld_48_1, ld_90_1, ld_102_3, ld_102_4, ld_102_5, ld_102_8, ld_102_12, ld_102_13, ld_102_14, ld_102_15, ld_102_16, ld_102_17, ld_102_19, ld_102_20, ld_102_21, ld_102_22, ld_102_23, ld_102_25, ld_102_27, ld_102_28, ld_102_30, cK_pl, cK_to, cK_dp, cK_dt, cK_un, cK_ke, ld_pl, ld_to, ld_dp, ld_dt, ld_un, ld_ke, nI_leI, nI_add, pk_mul, nI_clamp, hw, e1]
    · by_cases hf : j = k
      · subst hf
        rw [e3.1 _ _ (by omega), gI_s]
      · rw [e2 j (by omega) h2, gI_n _ _ _ _ _ _ (by omega)]
theorem sp_backL {v : Nat} (hv : v ≤ 1) : ∀ (r k N : Nat) (m : ba_M), 20 - k = r → k ≤ 20 → r < N → gI m 102 29 = nI v →
    ∃ m', fx (fun _ _ _ => none) (b_Mo_back_22 SF) N 102 (nI k) m = some (nI v, m') ∧ gI m' 102 29 = nI v ∧ gI m' 102 24 = nI 0 ∧ (∀ j, k ≤ j → j < 20 → gI m' 104 j = gI m 121 (20 * v + j)) ∧ Fr (fun o j => o = 102 ∧ j = 24 ∨ o = 104 ∧ k ≤ j) m m' := by
  intro r
  induction r with
  | zero =>
    intro k N m hr hk hN hw
    obtain ⟨N, rfl⟩ : ∃ z, N = z + 1 := ⟨N - 1, by omega⟩
    refine ⟨wI m 102 24 (nI 0), ?_, by rw [gI_n _ _ _ _ _ _ (by omega)]; exact hw, gI_s _ _ _ _, fun j h1 h2 => by omega, Fr.rf.w (Or.inl ⟨rfl, rfl⟩)⟩
    rw [fx_s]
    generalize fx (fun _ _ _ => none) (b_Mo_back_22 SF) N = K
    unfold b_Mo_back_22
    rw [if_pos (by rw [nI_leI (by omega) (by omega)]; omega), gI_n _ _ _ _ _ _ (by omega), hw]
  | succ r ih =>
    intro k N m hr hk hN hw
    obtain ⟨N, rfl⟩ : ∃ z, N = z + 1 := ⟨N - 1, by omega⟩
    obtain ⟨m', e1, e0, e4, e2, e3⟩ := ih (k + 1) N (wI m 104 k (gI m 121 (20 * v + k))) (by omega) (by omega) (by omega) (by rw [gI_n _ _ _ _ _ _ (by omega)]; exact hw)
    have hF : Fr (fun o j => o = 102 ∧ j = 24 ∨ o = 104 ∧ k ≤ j) m (wI m 104 k (gI m 121 (20 * v + k))) := Fr.rf.w (by omega)
    refine ⟨m', ?_, e0, e4, fun j h1 h2 => ?_, hF.tr (e3.up (by intro o j ho; omega))⟩
    · rw [fx_s]
      generalize fx (fun _ _ _ => none) (b_Mo_back_22 SF) N = K at e1 ⊢
      unfold b_Mo_back_22
      simp (disch := omega) only [oN, Option.bind_some, ↓reduceIte, ifT, ifF, eq_self, reduceCtorEq, cK_0, cK_1, cK_2, kl_2, bd_2, cK_3, cK_4, kl_4, bd_4, cK_5, cK_6, cK_7, kl_7, bd_7, cK_8, cK_25, cK_20, kl_20, bd_20, cK_21, kl_21, bd_21, cK_22, kl_22, bd_22, cK_23, cK_24, kl_24, bd_24, cK_37, cK_38, cK_39, kl_39, bd_39, cK_40, kl_40, bd_40, cK_41, kl_41, bd_41, cK_42, kl_42, bd_42, cK_43, kl_43, bd_43, cK_44, cK_45, kl_45, bd_45, cK_46, kl_46, bd_46, cK_47, kl_47, bd_47, cK_48, cK_49, kl_49, bd_49, cK_90, cK_91, kl_91, bd_91, cK_102, cK_103, kl_103, bd_103, cK_104, kl_104, bd_104, cK_105, kl_105, bd_105, cK_106, kl_106, bd_106, cK_107, kl_107, bd_107, cK_108, kl_108, bd_108, cK_109, kl_109, bd_109, cK_110, kl_110, bd_110, cK_111, kl_111, bd_111, cK_112, kl_112, bd_112, cK_113, kl_113, bd_113, cK_114, kl_114, bd_114, cK_115, kl_115, bd_115, cK_116, kl_116, bd_116, cK_117, kl_117, bd_117, cK_118, kl_118, bd_118, cK_119, kl_119, bd_119, cK_120, kl_120, bd_120, cK_121, kl_121, bd_121, ld_0_0, ld_0_1, ld_0_2, ld_0_3, ld_0_4, ld_0_5, ld_0_6, ld_0_7, ld_0_8, ld_0_9, ld_1_0, ld_3_0, ld_5_0, ld_5_1, ld_5_2, ld_5_3, ld_6_0, ld_6_1, ld_23_0, ld_23_1, ld_38_0, ld_38_1, ld_38_2, ld_38_3, ld_38_4, ld_44_0, ld_44_1, ld_44_2, ld_48_1, ld_90_1, ld_102_3, ld_102_4, ld_102_5, ld_102_8, ld_102_12, ld_102_13, ld_102_14, ld_102_15, ld_102_16, ld_102_17, ld_102_19, ld_102_20, ld_102_21, ld_102_22, ld_102_23, ld_102_25, ld_102_27, ld_102_28, ld_102_30, cK_pl, cK_to, cK_dp, cK_dt, cK_un, cK_ke, ld_pl, ld_to, ld_dp, ld_dt, ld_un, ld_ke, nI_leI, nI_add, pk_mul, nI_clamp, hw, e1]
    · by_cases hf : j = k
      · subst hf
        rw [e3.1 _ _ (by omega), gI_s]
      · rw [e2 j (by omega) h2, gI_n _ _ _ _ _ _ (by omega)]
