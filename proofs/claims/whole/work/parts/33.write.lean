/-! promise 2 -/
/-- the byte of v with k bytes behind it -/
def bC (v : Int64) (k : Nat) : Int32 := Int64.toInt32 ((v >>> (Int32.toInt64 (nI 8 * nI k) &&& 63)) &&& (lN 255))
theorem b255 (w i : Nat) (hw : 8 ≤ w) : (BitVec.ofNat w 255).getLsbD i = decide (i < 8) := by
  rw [BitVec.getLsbD_ofNat, show (255 : Nat) = 2 ^ 8 - 1 from rfl, Nat.testBit_two_pow_sub_one]
  by_cases h : i < 8
  · simp [h]
    omega
  · simp [h]
theorem byte_bv (x : BitVec 64) (j : Nat) (hj : j ≤ 56) : (x >>> j).signExtend 32 &&& 255#32 = ((x.sshiftRight j) &&& 255#64).signExtend 32 := by
  apply BitVec.eq_of_getLsbD_eq
  intro i hi
  have h64 : i < 64 := by omega
  rw [BitVec.getLsbD_and, BitVec.getLsbD_signExtend, BitVec.getLsbD_signExtend, if_pos h64, if_pos h64, BitVec.getLsbD_and, BitVec.getLsbD_ushiftRight, BitVec.getLsbD_sshiftRight, b255 32 i (by omega), b255 64 i (by omega)]
  by_cases h : i < 8
  · have h1 : j + i < 64 := by omega
    have h2 : ¬ 64 ≤ i := by omega
    simp [h, h1, h2, hi]
  · simp [h]
theorem byte_at (v : Int64) (j : Nat) (hj : j ≤ 56) (s : UInt64) (hs : s = UInt64.ofNat j) (d : Int64) (hd : (d.toBitVec.smod 64).toNat = j) : (Int64.toInt32 ((Int64.toUInt64 v >>> s).toInt64)) &&& (nI 255) = Int64.toInt32 ((v >>> d) &&& (lN 255)) := by
  subst hs
  apply Int32.toBitVec_inj.mp
  have h1 : (Int64.toUInt64 v >>> UInt64.ofNat j).toBitVec = v.toBitVec >>> j := by
    rw [UInt64.toBitVec_shiftRight]
    show v.toBitVec >>> ((UInt64.ofNat j).toBitVec % 64) = _
    rw [BitVec.ushiftRight_eq']
    congr 1
    simp
    omega
  have h2 : (v >>> d).toBitVec = v.toBitVec.sshiftRight j := by
    rw [← hd]
    rfl
  rw [Int32.toBitVec_and, Int64.toBitVec_toInt32, Int64.toBitVec_toInt32, Int64.toBitVec_and, h2]
  show BitVec.signExtend 32 (Int64.toUInt64 v >>> UInt64.ofNat j).toBitVec &&& 255#32 = BitVec.signExtend 32 (v.toBitVec.sshiftRight j &&& 255#64)
  rw [h1]
  exact byte_bv _ _ hj
theorem byte_eq (v : Int64) {k : Nat} (hk : k < 8) : (Int64.toInt32 ((Int64.toUInt64 v >>> ((Int32.toInt64 ((nI 8) * nI k)).toUInt64 &&& Int64.toUInt64 63)).toInt64)) &&& (nI 255) = bC v k := by
  unfold bC
  match k, hk with
  | 0, _ => exact byte_at v 0 (by omega) _ (by decide) _ (by decide)
  | 1, _ => exact byte_at v 8 (by omega) _ (by decide) _ (by decide)
  | 2, _ => exact byte_at v 16 (by omega) _ (by decide) _ (by decide)
  | 3, _ => exact byte_at v 24 (by omega) _ (by decide) _ (by decide)
  | 4, _ => exact byte_at v 32 (by omega) _ (by decide) _ (by decide)
  | 5, _ => exact byte_at v 40 (by omega) _ (by decide) _ (by decide)
  | 6, _ => exact byte_at v 48 (by omega) _ (by decide) _ (by decide)
  | 7, _ => exact byte_at v 56 (by omega) _ (by decide) _ (by decide)
theorem nI_m1 (x : Int32) : x + (-1 : Int32) = x - nI 1 := by
  rw [Int32.sub_eq_add_neg]
  rfl
theorem nI_s1 (r : Nat) : nI (r + 1) - nI 1 = nI r := by
  rw [pk_sub (by omega)]
  rfl
theorem sp_append (v : Int64) : ∀ (r N l : Nat) (m : ba_M), r ≤ 8 → r < N → l + r ≤ 300 → gI m 1 1 = nI l →
    ∃ m', fx (fun _ _ _ _ => none) (b_Te_append_5 SF) N 1 v (nI r - nI 1) m = some (nI (l + r), m') ∧ gI m' 1 1 = nI (l + r) ∧ (∀ t, t < r → gI m' 2 (l + t) = bC v (r - 1 - t)) ∧ (∀ j, j < l → gI m' 2 j = gI m 2 j) ∧ Fr (fun o _ => o = 1 ∨ o = 2) m m' := by
  intro r
  induction r with
  | zero =>
    intro N l m hr hN hl h1
    obtain ⟨N, rfl⟩ : ∃ z, N = z + 1 := ⟨N - 1, by omega⟩
    refine ⟨m, ?_, h1, fun t ht => by omega, fun _ _ => rfl, Fr.rf⟩
    rw [fx_s]
    generalize fx (fun _ _ _ _ => none) (b_Te_append_5 SF) N = K
    unfold b_Te_append_5
    rw [if_pos (by decide), h1]
    rfl
  | succ r ih =>
    intro N l m hr hN hl h1
    obtain ⟨N, rfl⟩ : ∃ z, N = z + 1 := ⟨N - 1, by omega⟩
    have hF : Fr (fun o _ => o = 1 ∨ o = 2) m (wI (wI m 2 l (bC v r)) 1 1 (nI (l + 1))) := (Fr.rf.w (by omega)).w (by omega)
    obtain ⟨m', e1, e2, e3, e4, e5⟩ := ih N (l + 1) (wI (wI m 2 l (bC v r)) 1 1 (nI (l + 1))) (by omega) (by omega) (by omega) (gI_s _ _ _ _)
    refine ⟨m', ?_, by rw [e2]; congr 1; omega, fun t ht => ?_, fun j hj => ?_, hF.tr e5⟩
    · rw [fx_s]
      generalize fx (fun _ _ _ _ => none) (b_Te_append_5 SF) N = K at e1 ⊢
      unfold b_Te_append_5
      rw [nI_s1]
      simp (disch := omega) only [oN, Option.bind_some, ↓reduceIte, ifT, ifF, eq_self, reduceCtorEq, cK_0, cK_1, cK_2, kl_2, bd_2, cK_3, cK_4, kl_4, bd_4, cK_5, cK_6, cK_7, kl_7, bd_7, cK_8, cK_25, cK_20, kl_20, bd_20, cK_21, kl_21, bd_21, cK_22, kl_22, bd_22, cK_23, cK_24, kl_24, bd_24, cK_37, cK_38, cK_39, kl_39, bd_39, cK_40, kl_40, bd_40, cK_41, kl_41, bd_41, cK_42, kl_42, bd_42, cK_43, kl_43, bd_43, cK_44, cK_45, kl_45, bd_45, cK_46, kl_46, bd_46, cK_47, kl_47, bd_47, cK_48, cK_49, kl_49, bd_49, cK_90, cK_91, kl_91, bd_91, cK_102, cK_103, kl_103, bd_103, cK_104, kl_104, bd_104, cK_105, kl_105, bd_105, cK_106, kl_106, bd_106, cK_107, kl_107, bd_107, cK_108, kl_108, bd_108, cK_109, kl_109, bd_109, cK_110, kl_110, bd_110, cK_111, kl_111, bd_111, cK_112, kl_112, bd_112, cK_113, kl_113, bd_113, cK_114, kl_114, bd_114, cK_115, kl_115, bd_115, cK_116, kl_116, bd_116, cK_117, kl_117, bd_117, cK_118, kl_118, bd_118, cK_119, kl_119, bd_119, cK_120, kl_120, bd_120, cK_121, kl_121, bd_121, ld_0_0, ld_0_1, ld_0_2, ld_0_3, ld_0_4, ld_0_5, ld_0_6, ld_0_7, ld_0_8, ld_0_9, ld_1_0, ld_3_0, ld_5_0, ld_5_1, ld_5_2, ld_5_3, ld_6_0, ld_6_1, ld_23_0, ld_23_1, ld_38_0, ld_38_1, ld_38_2, ld_38_3, ld_38_4, ld_44_0, ld_44_1, ld_44_2, ld_48_1, ld_90_1, ld_102_3, ld_102_4, ld_102_5, ld_102_8, ld_102_12, ld_102_13, ld_102_14, ld_102_15, ld_102_16, ld_102_17, ld_102_19, ld_102_20, ld_102_21, ld_102_22, ld_102_23, ld_102_25, ld_102_27, ld_102_28, ld_102_30, cK_pl, cK_to, cK_dp, cK_dt, cK_un, cK_ke, ld_pl, ld_to, ld_dp, ld_dt, ld_un, ld_ke, z0, nI_ltI, byte_eq, h1, sp_put ck_2 kl_2, gI_n, nI_add, nI_m1]
      rw [e1, show l + 1 + r = l + (r + 1) by omega]
    · by_cases h0 : t = 0
      · subst h0
        rw [Nat.add_zero, e4 l (by omega), gI_n _ _ _ _ _ _ (by omega), gI_s]
        rfl
      · have := e3 (t - 1) (by omega)
        rw [show l + 1 + (t - 1) = l + t by omega] at this
        rw [this]
        congr 1
        omega
    · rw [e4 j (by omega), gI_n _ _ _ _ _ _ (by omega), gI_n _ _ _ _ _ _ (by omega)]
theorem sp_mwrite (v : Int64) : ∀ (r N l : Nat) (m : ba_M), r ≤ 8 → r < N → l + r ≤ 300 → gI m 102 6 = nI l →
    ∃ m', fx (fun _ _ _ _ => none) (b_Mo_write_32 SF) N 102 v (nI r - nI 1) m = some (nI (l + r), m') ∧ gI m' 102 6 = nI (l + r) ∧ (∀ t, t < r → gI m' 105 (l + t) = bC v (r - 1 - t)) ∧ (∀ j, j < l → gI m' 105 j = gI m 105 j) ∧ Fr (fun o k => o = 105 ∨ o = 102 ∧ k = 6) m m' := by
  intro r
  induction r with
  | zero =>
    intro N l m hr hN hl h1
    obtain ⟨N, rfl⟩ : ∃ z, N = z + 1 := ⟨N - 1, by omega⟩
    refine ⟨m, ?_, h1, fun t ht => by omega, fun _ _ => rfl, Fr.rf⟩
    rw [fx_s]
    generalize fx (fun _ _ _ _ => none) (b_Mo_write_32 SF) N = K
    unfold b_Mo_write_32
    rw [if_pos (by decide), h1]
    rfl
  | succ r ih =>
    intro N l m hr hN hl h1
    obtain ⟨N, rfl⟩ : ∃ z, N = z + 1 := ⟨N - 1, by omega⟩
    have hF : Fr (fun o k => o = 105 ∨ o = 102 ∧ k = 6) m (wI (wI m 105 l (bC v r)) 102 6 (nI (l + 1))) := (Fr.rf.w (by omega)).w (by omega)
    obtain ⟨m', e1, e2, e3, e4, e5⟩ := ih N (l + 1) (wI (wI m 105 l (bC v r)) 102 6 (nI (l + 1))) (by omega) (by omega) (by omega) (gI_s _ _ _ _)
    refine ⟨m', ?_, by rw [e2]; congr 1; omega, fun t ht => ?_, fun j hj => ?_, hF.tr e5⟩
    · rw [fx_s]
      generalize fx (fun _ _ _ _ => none) (b_Mo_write_32 SF) N = K at e1 ⊢
      unfold b_Mo_write_32
      rw [nI_s1]
      have hb : Int64.toInt32 ((v >>> (Int32.toInt64 (nI 8 * nI r) &&& 63)) &&& (lN 255)) = bC v r := rfl
      simp (disch := omega) only [oN, Option.bind_some, ↓reduceIte, ifT, ifF, eq_self, reduceCtorEq, cK_0, cK_1, cK_2, kl_2, bd_2, cK_3, cK_4, kl_4, bd_4, cK_5, cK_6, cK_7, kl_7, bd_7, cK_8, cK_25, cK_20, kl_20, bd_20, cK_21, kl_21, bd_21, cK_22, kl_22, bd_22, cK_23, cK_24, kl_24, bd_24, cK_37, cK_38, cK_39, kl_39, bd_39, cK_40, kl_40, bd_40, cK_41, kl_41, bd_41, cK_42, kl_42, bd_42, cK_43, kl_43, bd_43, cK_44, cK_45, kl_45, bd_45, cK_46, kl_46, bd_46, cK_47, kl_47, bd_47, cK_48, cK_49, kl_49, bd_49, cK_90, cK_91, kl_91, bd_91, cK_102, cK_103, kl_103, bd_103, cK_104, kl_104, bd_104, cK_105, kl_105, bd_105, cK_106, kl_106, bd_106, cK_107, kl_107, bd_107, cK_108, kl_108, bd_108, cK_109, kl_109, bd_109, cK_110, kl_110, bd_110, cK_111, kl_111, bd_111, cK_112, kl_112, bd_112, cK_113, kl_113, bd_113, cK_114, kl_114, bd_114, cK_115, kl_115, bd_115, cK_116, kl_116, bd_116, cK_117, kl_117, bd_117, cK_118, kl_118, bd_118, cK_119, kl_119, bd_119, cK_120, kl_120, bd_120, cK_121, kl_121, bd_121, ld_0_0, ld_0_1, ld_0_2, ld_0_3, ld_0_4, ld_0_5, ld_0_6, ld_0_7, ld_0_8, ld_0_9, ld_1_0, ld_3_0, ld_5_0, ld_5_1, ld_5_2, ld_5_3, ld_6_0, ld_6_1, ld_23_0, ld_23_1, ld_38_0, ld_38_1, ld_38_2, ld_38_3, ld_38_4, ld_44_0, ld_44_1, ld_44_2, ld_48_1, ld_90_1, ld_102_3, ld_102_4, ld_102_5, ld_102_8, ld_102_12, ld_102_13, ld_102_14, ld_102_15, ld_102_16, ld_102_17, ld_102_19, ld_102_20, ld_102_21, ld_102_22, ld_102_23, ld_102_25, ld_102_27, ld_102_28, ld_102_30, cK_pl, cK_to, cK_dp, cK_dt, cK_un, cK_ke, ld_pl, ld_to, ld_dp, ld_dt, ld_un, ld_ke, z0, nI_ltI, hb, h1, gI_n, nI_clamp, nI_add, nI_m1]
      rw [e1, show l + 1 + r = l + (r + 1) by omega]
    · by_cases h0 : t = 0
      · subst h0
        rw [Nat.add_zero, e4 l (by omega), gI_n _ _ _ _ _ _ (by omega), gI_s]
        rfl
      · have := e3 (t - 1) (by omega)
        rw [show l + 1 + (t - 1) = l + t by omega] at this
        rw [this]
        congr 1
        omega
    · rw [e4 j (by omega), gI_n _ _ _ _ _ _ (by omega), gI_n _ _ _ _ _ _ (by omega)]
theorem ag_write {m : ba_M} (hv : Inv m) (x : Int32) (v : Int64) : Ag (f_Ba_write SF 0 x v m) (f_Mo_write SF 102 x v) := by
  obtain ⟨c, n, d, P, T, h1, h2, h3, ⟨l, h4⟩, -⟩ := id hv
  obtain ⟨t1, t2, t3, t4⟩ := id h4
  by_cases hx : ∃ r, 1 ≤ r ∧ r ≤ 8 ∧ x = nI r
  · obtain ⟨r, r1, r2, rfl⟩ := hx
    by_cases hl : l + r ≤ 300
    · obtain ⟨m1, a1, a2, a3, a4, a5⟩ := sp_append v r FU l m r2 (by unfold FU; omega) hl t2
      obtain ⟨m2, b1, b2, b3, b4, b5⟩ := sp_mwrite v r FU l m1 r2 (by unfold FU; omega) hl (by rw [a5.1 _ _ (by omega)]; exact t3)
      refine ⟨nI (l + r), m1, m2, ?_, ?_, hv.text ((a5.up (by intro o k ho; unfold tTX; omega)).tr (b5.up (by intro o k ho; unfold tTX; omega))) (l := l + r) ⟨hl, by rw [b5.1 _ _ (by omega)]; exact a2, b2, fun j hj => ?_⟩⟩
      · unfold f_Ba_write f_Ba_write_37 f_Te_hasRoomFor f_Te_hasRoomFor_17 f_Te_append f_Te_append_5
        simp (disch := omega) only [oN, Option.bind_some, ↓reduceIte, ifT, ifF, eq_self, reduceCtorEq, cK_0, cK_1, cK_2, kl_2, bd_2, cK_3, cK_4, kl_4, bd_4, cK_5, cK_6, cK_7, kl_7, bd_7, cK_8, cK_25, cK_20, kl_20, bd_20, cK_21, kl_21, bd_21, cK_22, kl_22, bd_22, cK_23, cK_24, kl_24, bd_24, cK_37, cK_38, cK_39, kl_39, bd_39, cK_40, kl_40, bd_40, cK_41, kl_41, bd_41, cK_42, kl_42, bd_42, cK_43, kl_43, bd_43, cK_44, cK_45, kl_45, bd_45, cK_46, kl_46, bd_46, cK_47, kl_47, bd_47, cK_48, cK_49, kl_49, bd_49, cK_90, cK_91, kl_91, bd_91, cK_102, cK_103, kl_103, bd_103, cK_104, kl_104, bd_104, cK_105, kl_105, bd_105, cK_106, kl_106, bd_106, cK_107, kl_107, bd_107, cK_108, kl_108, bd_108, cK_109, kl_109, bd_109, cK_110, kl_110, bd_110, cK_111, kl_111, bd_111, cK_112, kl_112, bd_112, cK_113, kl_113, bd_113, cK_114, kl_114, bd_114, cK_115, kl_115, bd_115, cK_116, kl_116, bd_116, cK_117, kl_117, bd_117, cK_118, kl_118, bd_118, cK_119, kl_119, bd_119, cK_120, kl_120, bd_120, cK_121, kl_121, bd_121, ld_0_0, ld_0_1, ld_0_2, ld_0_3, ld_0_4, ld_0_5, ld_0_6, ld_0_7, ld_0_8, ld_0_9, ld_1_0, ld_3_0, ld_5_0, ld_5_1, ld_5_2, ld_5_3, ld_6_0, ld_6_1, ld_23_0, ld_23_1, ld_38_0, ld_38_1, ld_38_2, ld_38_3, ld_38_4, ld_44_0, ld_44_1, ld_44_2, ld_48_1, ld_90_1, ld_102_3, ld_102_4, ld_102_5, ld_102_8, ld_102_12, ld_102_13, ld_102_14, ld_102_15, ld_102_16, ld_102_17, ld_102_19, ld_102_20, ld_102_21, ld_102_22, ld_102_23, ld_102_25, ld_102_27, ld_102_28, ld_102_30, cK_pl, cK_to, cK_dp, cK_dt, cK_un, cK_ke, ld_pl, ld_to, ld_dp, ld_dt, ld_un, ld_ke, nI_add, nI_ltI, sp_within_t, t2, a1]
      · have t3' : gI m1 102 6 = nI l := by rw [a5.1 _ _ (by omega)]; exact t3
        unfold f_Mo_write f_Mo_write_32
        simp (disch := omega) only [oN, Option.bind_some, ↓reduceIte, ifT, ifF, eq_self, reduceCtorEq, cK_0, cK_1, cK_2, kl_2, bd_2, cK_3, cK_4, kl_4, bd_4, cK_5, cK_6, cK_7, kl_7, bd_7, cK_8, cK_25, cK_20, kl_20, bd_20, cK_21, kl_21, bd_21, cK_22, kl_22, bd_22, cK_23, cK_24, kl_24, bd_24, cK_37, cK_38, cK_39, kl_39, bd_39, cK_40, kl_40, bd_40, cK_41, kl_41, bd_41, cK_42, kl_42, bd_42, cK_43, kl_43, bd_43, cK_44, cK_45, kl_45, bd_45, cK_46, kl_46, bd_46, cK_47, kl_47, bd_47, cK_48, cK_49, kl_49, bd_49, cK_90, cK_91, kl_91, bd_91, cK_102, cK_103, kl_103, bd_103, cK_104, kl_104, bd_104, cK_105, kl_105, bd_105, cK_106, kl_106, bd_106, cK_107, kl_107, bd_107, cK_108, kl_108, bd_108, cK_109, kl_109, bd_109, cK_110, kl_110, bd_110, cK_111, kl_111, bd_111, cK_112, kl_112, bd_112, cK_113, kl_113, bd_113, cK_114, kl_114, bd_114, cK_115, kl_115, bd_115, cK_116, kl_116, bd_116, cK_117, kl_117, bd_117, cK_118, kl_118, bd_118, cK_119, kl_119, bd_119, cK_120, kl_120, bd_120, cK_121, kl_121, bd_121, ld_0_0, ld_0_1, ld_0_2, ld_0_3, ld_0_4, ld_0_5, ld_0_6, ld_0_7, ld_0_8, ld_0_9, ld_1_0, ld_3_0, ld_5_0, ld_5_1, ld_5_2, ld_5_3, ld_6_0, ld_6_1, ld_23_0, ld_23_1, ld_38_0, ld_38_1, ld_38_2, ld_38_3, ld_38_4, ld_44_0, ld_44_1, ld_44_2, ld_48_1, ld_90_1, ld_102_3, ld_102_4, ld_102_5, ld_102_8, ld_102_12, ld_102_13, ld_102_14, ld_102_15, ld_102_16, ld_102_17, ld_102_19, ld_102_20, ld_102_21, ld_102_22, ld_102_23, ld_102_25, ld_102_27, ld_102_28, ld_102_30, cK_pl, cK_to, cK_dp, cK_dt, cK_un, cK_ke, ld_pl, ld_to, ld_dp, ld_dt, ld_un, ld_ke, nI_add, nI_leI, sp_in_t, t3', b1]
      · rw [b5.1 2 j (by omega)]
        by_cases hj2 : j < l
        · rw [b4 j hj2, a4 j hj2, a5.1 105 j (by omega)]
          exact t4 j hj2
        · have e1 := a3 (j - l) (by omega)
          have e2 := b3 (j - l) (by omega)
          rw [show l + (j - l) = j by omega] at e1 e2
          rw [e1, e2]
    · refine ⟨-3, m, m, ?_, ?_, hv⟩
      · unfold f_Ba_write f_Ba_write_37 f_Te_hasRoomFor f_Te_hasRoomFor_17
        simp (disch := omega) only [oN, Option.bind_some, ↓reduceIte, ifT, ifF, eq_self, reduceCtorEq, cK_0, cK_1, cK_2, kl_2, bd_2, cK_3, cK_4, kl_4, bd_4, cK_5, cK_6, cK_7, kl_7, bd_7, cK_8, cK_25, cK_20, kl_20, bd_20, cK_21, kl_21, bd_21, cK_22, kl_22, bd_22, cK_23, cK_24, kl_24, bd_24, cK_37, cK_38, cK_39, kl_39, bd_39, cK_40, kl_40, bd_40, cK_41, kl_41, bd_41, cK_42, kl_42, bd_42, cK_43, kl_43, bd_43, cK_44, cK_45, kl_45, bd_45, cK_46, kl_46, bd_46, cK_47, kl_47, bd_47, cK_48, cK_49, kl_49, bd_49, cK_90, cK_91, kl_91, bd_91, cK_102, cK_103, kl_103, bd_103, cK_104, kl_104, bd_104, cK_105, kl_105, bd_105, cK_106, kl_106, bd_106, cK_107, kl_107, bd_107, cK_108, kl_108, bd_108, cK_109, kl_109, bd_109, cK_110, kl_110, bd_110, cK_111, kl_111, bd_111, cK_112, kl_112, bd_112, cK_113, kl_113, bd_113, cK_114, kl_114, bd_114, cK_115, kl_115, bd_115, cK_116, kl_116, bd_116, cK_117, kl_117, bd_117, cK_118, kl_118, bd_118, cK_119, kl_119, bd_119, cK_120, kl_120, bd_120, cK_121, kl_121, bd_121, ld_0_0, ld_0_1, ld_0_2, ld_0_3, ld_0_4, ld_0_5, ld_0_6, ld_0_7, ld_0_8, ld_0_9, ld_1_0, ld_3_0, ld_5_0, ld_5_1, ld_5_2, ld_5_3, ld_6_0, ld_6_1, ld_23_0, ld_23_1, ld_38_0, ld_38_1, ld_38_2, ld_38_3, ld_38_4, ld_44_0, ld_44_1, ld_44_2, ld_48_1, ld_90_1, ld_102_3, ld_102_4, ld_102_5, ld_102_8, ld_102_12, ld_102_13, ld_102_14, ld_102_15, ld_102_16, ld_102_17, ld_102_19, ld_102_20, ld_102_21, ld_102_22, ld_102_23, ld_102_25, ld_102_27, ld_102_28, ld_102_30, cK_pl, cK_to, cK_dp, cK_dt, cK_un, cK_ke, ld_pl, ld_to, ld_dp, ld_dt, ld_un, ld_ke, nI_add, nI_ltI, sp_within_t, t2, Bool.false_eq_true]
      · unfold f_Mo_write
        simp (disch := omega) only [oN, Option.bind_some, ↓reduceIte, ifT, ifF, eq_self, reduceCtorEq, cK_0, cK_1, cK_2, kl_2, bd_2, cK_3, cK_4, kl_4, bd_4, cK_5, cK_6, cK_7, kl_7, bd_7, cK_8, cK_25, cK_20, kl_20, bd_20, cK_21, kl_21, bd_21, cK_22, kl_22, bd_22, cK_23, cK_24, kl_24, bd_24, cK_37, cK_38, cK_39, kl_39, bd_39, cK_40, kl_40, bd_40, cK_41, kl_41, bd_41, cK_42, kl_42, bd_42, cK_43, kl_43, bd_43, cK_44, cK_45, kl_45, bd_45, cK_46, kl_46, bd_46, cK_47, kl_47, bd_47, cK_48, cK_49, kl_49, bd_49, cK_90, cK_91, kl_91, bd_91, cK_102, cK_103, kl_103, bd_103, cK_104, kl_104, bd_104, cK_105, kl_105, bd_105, cK_106, kl_106, bd_106, cK_107, kl_107, bd_107, cK_108, kl_108, bd_108, cK_109, kl_109, bd_109, cK_110, kl_110, bd_110, cK_111, kl_111, bd_111, cK_112, kl_112, bd_112, cK_113, kl_113, bd_113, cK_114, kl_114, bd_114, cK_115, kl_115, bd_115, cK_116, kl_116, bd_116, cK_117, kl_117, bd_117, cK_118, kl_118, bd_118, cK_119, kl_119, bd_119, cK_120, kl_120, bd_120, cK_121, kl_121, bd_121, ld_0_0, ld_0_1, ld_0_2, ld_0_3, ld_0_4, ld_0_5, ld_0_6, ld_0_7, ld_0_8, ld_0_9, ld_1_0, ld_3_0, ld_5_0, ld_5_1, ld_5_2, ld_5_3, ld_6_0, ld_6_1, ld_23_0, ld_23_1, ld_38_0, ld_38_1, ld_38_2, ld_38_3, ld_38_4, ld_44_0, ld_44_1, ld_44_2, ld_48_1, ld_90_1, ld_102_3, ld_102_4, ld_102_5, ld_102_8, ld_102_12, ld_102_13, ld_102_14, ld_102_15, ld_102_16, ld_102_17, ld_102_19, ld_102_20, ld_102_21, ld_102_22, ld_102_23, ld_102_25, ld_102_27, ld_102_28, ld_102_30, cK_pl, cK_to, cK_dp, cK_dt, cK_un, cK_ke, ld_pl, ld_to, ld_dp, ld_dt, ld_un, ld_ke, nI_add, nI_leI, sp_in_t, t3, Bool.false_eq_true]
  · have hx' : ∀ i, 1 ≤ i → i ≤ 8 → x ≠ nI i := fun i a b e => hx ⟨i, a, b, e⟩
    refine ⟨-1, m, m, ?_, ?_, hv⟩
    · unfold f_Ba_write
      simp (disch := omega) only [oN, Option.bind_some, ↓reduceIte, ifT, ifF, eq_self, reduceCtorEq, cK_0, cK_1, cK_2, kl_2, bd_2, cK_3, cK_4, kl_4, bd_4, cK_5, cK_6, cK_7, kl_7, bd_7, cK_8, cK_25, cK_20, kl_20, bd_20, cK_21, kl_21, bd_21, cK_22, kl_22, bd_22, cK_23, cK_24, kl_24, bd_24, cK_37, cK_38, cK_39, kl_39, bd_39, cK_40, kl_40, bd_40, cK_41, kl_41, bd_41, cK_42, kl_42, bd_42, cK_43, kl_43, bd_43, cK_44, cK_45, kl_45, bd_45, cK_46, kl_46, bd_46, cK_47, kl_47, bd_47, cK_48, cK_49, kl_49, bd_49, cK_90, cK_91, kl_91, bd_91, cK_102, cK_103, kl_103, bd_103, cK_104, kl_104, bd_104, cK_105, kl_105, bd_105, cK_106, kl_106, bd_106, cK_107, kl_107, bd_107, cK_108, kl_108, bd_108, cK_109, kl_109, bd_109, cK_110, kl_110, bd_110, cK_111, kl_111, bd_111, cK_112, kl_112, bd_112, cK_113, kl_113, bd_113, cK_114, kl_114, bd_114, cK_115, kl_115, bd_115, cK_116, kl_116, bd_116, cK_117, kl_117, bd_117, cK_118, kl_118, bd_118, cK_119, kl_119, bd_119, cK_120, kl_120, bd_120, cK_121, kl_121, bd_121, ld_0_0, ld_0_1, ld_0_2, ld_0_3, ld_0_4, ld_0_5, ld_0_6, ld_0_7, ld_0_8, ld_0_9, ld_1_0, ld_3_0, ld_5_0, ld_5_1, ld_5_2, ld_5_3, ld_6_0, ld_6_1, ld_23_0, ld_23_1, ld_38_0, ld_38_1, ld_38_2, ld_38_3, ld_38_4, ld_44_0, ld_44_1, ld_44_2, ld_48_1, ld_90_1, ld_102_3, ld_102_4, ld_102_5, ld_102_8, ld_102_12, ld_102_13, ld_102_14, ld_102_15, ld_102_16, ld_102_17, ld_102_19, ld_102_20, ld_102_21, ld_102_22, ld_102_23, ld_102_25, ld_102_27, ld_102_28, ld_102_30, cK_pl, cK_to, cK_dp, cK_dt, cK_un, cK_ke, ld_pl, ld_to, ld_dp, ld_dt, ld_un, ld_ke, sp_within_f (S := SF) (a := 1) (b := 8) (by omega) (by omega) hx', Bool.false_eq_true]
    · unfold f_Mo_write
      simp (disch := omega) only [oN, Option.bind_some, ↓reduceIte, ifT, ifF, eq_self, reduceCtorEq, cK_0, cK_1, cK_2, kl_2, bd_2, cK_3, cK_4, kl_4, bd_4, cK_5, cK_6, cK_7, kl_7, bd_7, cK_8, cK_25, cK_20, kl_20, bd_20, cK_21, kl_21, bd_21, cK_22, kl_22, bd_22, cK_23, cK_24, kl_24, bd_24, cK_37, cK_38, cK_39, kl_39, bd_39, cK_40, kl_40, bd_40, cK_41, kl_41, bd_41, cK_42, kl_42, bd_42, cK_43, kl_43, bd_43, cK_44, cK_45, kl_45, bd_45, cK_46, kl_46, bd_46, cK_47, kl_47, bd_47, cK_48, cK_49, kl_49, bd_49, cK_90, cK_91, kl_91, bd_91, cK_102, cK_103, kl_103, bd_103, cK_104, kl_104, bd_104, cK_105, kl_105, bd_105, cK_106, kl_106, bd_106, cK_107, kl_107, bd_107, cK_108, kl_108, bd_108, cK_109, kl_109, bd_109, cK_110, kl_110, bd_110, cK_111, kl_111, bd_111, cK_112, kl_112, bd_112, cK_113, kl_113, bd_113, cK_114, kl_114, bd_114, cK_115, kl_115, bd_115, cK_116, kl_116, bd_116, cK_117, kl_117, bd_117, cK_118, kl_118, bd_118, cK_119, kl_119, bd_119, cK_120, kl_120, bd_120, cK_121, kl_121, bd_121, ld_0_0, ld_0_1, ld_0_2, ld_0_3, ld_0_4, ld_0_5, ld_0_6, ld_0_7, ld_0_8, ld_0_9, ld_1_0, ld_3_0, ld_5_0, ld_5_1, ld_5_2, ld_5_3, ld_6_0, ld_6_1, ld_23_0, ld_23_1, ld_38_0, ld_38_1, ld_38_2, ld_38_3, ld_38_4, ld_44_0, ld_44_1, ld_44_2, ld_48_1, ld_90_1, ld_102_3, ld_102_4, ld_102_5, ld_102_8, ld_102_12, ld_102_13, ld_102_14, ld_102_15, ld_102_16, ld_102_17, ld_102_19, ld_102_20, ld_102_21, ld_102_22, ld_102_23, ld_102_25, ld_102_27, ld_102_28, ld_102_30, cK_pl, cK_to, cK_dp, cK_dt, cK_un, cK_ke, ld_pl, ld_to, ld_dp, ld_dt, ld_un, ld_ke, sp_in_f (S := SF) (a := 1) (b := 8) (by omega) (by omega) hx', Bool.false_eq_true]
