/-! afternoons -/
theorem lN_toI {n : Nat} (h : n < 2 ^ 63) : (lN n).toInt = (n : Int) := lg_ofNat_toInt h
theorem lN_div {a d : Nat} (ha : a < 2 ^ 63) (h0 : 0 < d) (hd : d < 2 ^ 63) : lN a / lN d = lN (a / d) := by
  have h1 : a / d ≤ a := Nat.div_le_self _ _
  apply Int64.toInt_inj.mp
  rw [lN_toI (by omega), Int64.toInt_div_of_ne_right, lN_toI ha, lN_toI hd]
  · rw [Int.tdiv_eq_ediv_of_nonneg (by omega)]; rfl
  · intro h
    have := congrArg Int64.toInt h
    rw [lN_toI hd] at this
    simp at this
def drN (z t : Nat) : Nat := (7919 * z + 6151 * t + 1) * (7919 * z + 6151 * t + 1) % 65521 % 10
theorem drN_lt (z t : Nat) : drN z t < 10 := Nat.mod_lt _ (by omega)
theorem sp_drL {z t : Nat} (hz : z ≤ 9999) (ht : t ≤ 16) :
    ((((((((lN 7919) * (Int32.toInt64 (nI z))) + ((lN 6151) * (Int32.toInt64 (nI t)))) + (lN 1)) * ((((lN 7919) * (Int32.toInt64 (nI z))) + ((lN 6151) * (Int32.toInt64 (nI t)))) + (lN 1))) - (((((lN 7919) * (Int32.toInt64 (nI z))) + ((lN 6151) * (Int32.toInt64 (nI t)))) + (lN 1)) * ((((lN 7919) * (Int32.toInt64 (nI z))) + ((lN 6151) * (Int32.toInt64 (nI t)))) + (lN 1))) / (lN 65521) * (lN 65521)) - ((((((lN 7919) * (Int32.toInt64 (nI z))) + ((lN 6151) * (Int32.toInt64 (nI t)))) + (lN 1)) * ((((lN 7919) * (Int32.toInt64 (nI z))) + ((lN 6151) * (Int32.toInt64 (nI t)))) + (lN 1))) - (((((lN 7919) * (Int32.toInt64 (nI z))) + ((lN 6151) * (Int32.toInt64 (nI t)))) + (lN 1)) * ((((lN 7919) * (Int32.toInt64 (nI z))) + ((lN 6151) * (Int32.toInt64 (nI t)))) + (lN 1))) / (lN 65521) * (lN 65521)) / (lN 10) * (lN 10))) = lN (drN z t) := by
  rw [nI_l (show z < 2 ^ 31 by omega), nI_l (show t < 2 ^ 31 by omega)]
  simp only [lN_mul, lN_add]
  unfold drN
  have h1 : (7919 * z + 6151 * t + 1) * (7919 * z + 6151 * t + 1) ≤ 80000000 * 80000000 := Nat.mul_le_mul (by omega) (by omega)
  generalize (7919 * z + 6151 * t + 1) * (7919 * z + 6151 * t + 1) = X at h1 ⊢
  rw [lN_div (by omega) (by omega) (by omega), lN_mul, lN_sub (by omega), lN_div (by omega) (by omega) (by omega), lN_mul, lN_sub (by omega)]
  congr 1
  omega
theorem lN_n0 {d : Nat} (h0 : 0 < d) (hd : d < 2 ^ 31) : ¬ lN d = 0 := by
  intro h
  have := (lN_eq hd (show 0 < 2 ^ 31 by omega)).mp h
  omega
theorem sp_draw {S : ba_S} {z t : Nat} (hz : z ≤ 9999) (ht : t ≤ 16) (m : ba_M) : f_Mr_draw S (nI z) (nI t) m = some (nI (drN z t), m) := by
  unfold f_Mr_draw
  rw [if_neg (lN_n0 (by omega) (by omega)), if_neg (lN_n0 (by omega) (by omega)), sp_drL hz ht, lN_i]
def tgG (c n d : Nat) (P T : ba_T) (i : Nat) : Nat := (tgN (cgF c n d P (T i 0) (T i 1) (btT P T i)) (T i 0) c).getD 0
def chG (c n d : Nat) (P T : ba_T) (i : Nat) : Nat := cgF c n d P (T i 0) (T i 1) (btT P T i) (tgG c n d P T i)
theorem tgG_in {c n d : Nat} {P T : ba_T} (hok : okG c n d P T) {i : Nat} (hi : i < c) : tgN (cgF c n d P (T i 0) (T i 1) (btT P T i)) (T i 0) c = some (tgG c n d P T i) ∧ tgG c n d P T i < c ∧ tgG c n d P T i ≠ T i 0 ∧ chG c n d P T i ≤ 10 := by
  obtain ⟨t, g1, g2, g3⟩ := tg_of hok (j := T i 0) (b := T i 1) (bt := btT P T i)
  have e : tgG c n d P T i = t := by unfold tgG; rw [g1]; rfl
  exact ⟨by rw [e]; exact g1, by rw [e]; exact g2, by rw [e]; exact g3, by unfold chG; exact chF_le⟩
def oPr : Nat → Nat → Prop := fun o k => oRo o k ∨ o = 39 ∨ o = 40 ∨ o = 41
def TBl (m : ba_M) (c n d : Nat) (P T : ba_T) (i : Nat) : Prop := ∀ k, k < i → gI m 39 k = nI (T k 0) ∧ gI m 40 k = nI (tgG c n d P T k) ∧ gI m 41 k = nI (chG c n d P T k)
theorem RA.of {m m' : ba_M} {c j : Nat} {Kd st tc : Nat → Nat} (h : RA m c j Kd st tc) (e : ∀ o k, o = 5 ∨ 20 ≤ o ∧ o ≤ 22 → gI m' o k = gI m o k) : RA m' c j Kd st tc := by
  refine ⟨by rw [e _ _ (by omega)]; exact h.1, fun k hk => ?_⟩
  rw [e _ _ (by omega), e _ _ (by omega), e _ _ (by omega)]
  exact h.2 k hk
theorem sp_prep {c n d : Nat} {P T : ba_T} (hok : okG c n d P T) : ∀ (r i N : Nat) (m : ba_M), c - i = r → i ≤ c → r < N → GC m c n d P T → TBl m c n d P T i →
    ∃ m', fx (fun _ _ _ _ => none) (b_Mr_prepareThrows_2 SF) N 38 5 (nI i) m = some m' ∧ Fr oPr m m' ∧ TBl m' c n d P T c := by
  obtain ⟨⟨o1, o2, o3, o4, o5⟩, o6, o7⟩ := id hok
  intro r
  induction r with
  | zero =>
    intro i N m hr hi hN hG hT
    obtain ⟨N, rfl⟩ : ∃ z, N = z + 1 := ⟨N - 1, by omega⟩
    obtain rfl : i = c := by omega
    refine ⟨m, ?_, Fr.rf, hT⟩
    rw [fx_s]
    generalize fx (fun _ _ _ _ => none) (b_Mr_prepareThrows_2 SF) N = K
    unfold b_Mr_prepareThrows_2
    simp only [cK_0, cK_1, cK_2, kl_2, bd_2, cK_3, cK_4, kl_4, bd_4, cK_5, cK_6, cK_7, kl_7, bd_7, cK_8, cK_25, cK_20, kl_20, bd_20, cK_21, kl_21, bd_21, cK_22, kl_22, bd_22, cK_23, cK_24, kl_24, bd_24, cK_37, cK_38, cK_39, kl_39, bd_39, cK_40, kl_40, bd_40, cK_41, kl_41, bd_41, cK_42, kl_42, bd_42, cK_43, kl_43, bd_43, cK_44, cK_45, kl_45, bd_45, cK_46, kl_46, bd_46, cK_47, kl_47, bd_47, cK_48, cK_49, kl_49, bd_49, cK_90, cK_91, kl_91, bd_91, cK_102, cK_103, kl_103, bd_103, cK_104, kl_104, bd_104, cK_105, kl_105, bd_105, cK_106, kl_106, bd_106, cK_107, kl_107, bd_107, cK_108, kl_108, bd_108, cK_109, kl_109, bd_109, cK_110, kl_110, bd_110, cK_111, kl_111, bd_111, cK_112, kl_112, bd_112, cK_113, kl_113, bd_113, cK_114, kl_114, bd_114, cK_115, kl_115, bd_115, cK_116, kl_116, bd_116, cK_117, kl_117, bd_117, cK_118, kl_118, bd_118, cK_119, kl_119, bd_119, cK_120, kl_120, bd_120, cK_121, kl_121, bd_121, ld_0_0, ld_0_1, ld_0_2, ld_0_3, ld_0_4, ld_0_5, ld_0_6, ld_0_7, ld_0_8, ld_0_9, ld_1_0, ld_3_0, ld_5_0, ld_5_1, ld_5_2, ld_5_3, ld_6_0, ld_6_1, ld_23_0, ld_23_1, ld_38_0, ld_38_1, ld_38_2, ld_38_3, ld_38_4, ld_44_0, ld_44_1, ld_44_2, ld_48_1, ld_90_1, ld_102_3, ld_102_4, ld_102_5, ld_102_8, ld_102_12, ld_102_13, ld_102_14, ld_102_15, ld_102_16, ld_102_17, ld_102_19, ld_102_20, ld_102_21, ld_102_22, ld_102_23, ld_102_25, ld_102_27, ld_102_28, ld_102_30, cK_pl, cK_to, cK_dp, cK_dt, cK_un, cK_ke, ld_pl, ld_to, ld_dp, ld_dt, ld_un, ld_ke, hG.1]
    rw [if_pos (by rw [nI_leI (by omega) (by omega)]; omega)]
  | succ r ih =>
    intro i N m hr hi hN hG hT
    obtain ⟨N, rfl⟩ : ∃ z, N = z + 1 := ⟨N - 1, by omega⟩
    have hlt : ¬ nI c ≤ nI i := by rw [nI_leI (by omega) (by omega)]; omega
    have hi5 : i < 5 := by omega
    obtain ⟨t1, t2, t3, t4, t5, t6⟩ := o7 i (by omega)
    obtain ⟨m1, e1, e2, e3⟩ := sp_playAsTold hG hok (i := i) (by omega)
    have e3' : RD m1 c n d P (T i 0) (T i 1) (btT P T i) := e3
    obtain ⟨g1, g2, g3, g4⟩ := tgG_in hok (i := i) (by omega)
    have hG1 := hG.ro o2 e2
    have hR := okR_of hok (bt := btT P T i) t1 (show T i 1 ≤ 40 by omega)
    have htg := sp_target hG1 hok e3'.ra hR
    rw [show tgN (chF c P (fun k => P k 4) (stF n d P (T i 0) (T i 1) (btT P T i)) (tcF n d P (T i 0) (T i 1) (btT P T i)) (T i 0)) (T i 0) c = some (tgG c n d P T i) from g1] at htg
    have htg' : f_Ro_target SF 5 m1 = some (nI (tgG c n d P T i), m1) := htg
    have h54 : gI m1 5 4 = nI (T i 0) := e3.1
    have hF2 : Fr oPr m1 (wI (wI m1 39 i (nI (T i 0))) 40 i (nI (tgG c n d P T i))) := (Fr.rf.w (Or.inr (Or.inl rfl))).w (Or.inr (Or.inr (Or.inl rfl)))
    have hG2 := hG1.fr o2 hF2 (by intro o k ho; simp only [oPr, oRo] at ho; omega)
    have hR2 := e3'.ra.of (m' := wI (wI m1 39 i (nI (T i 0))) 40 i (nI (tgG c n d P T i))) (fun o k ho => by rw [gI_n _ _ _ _ _ _ (by omega), gI_n _ _ _ _ _ _ (by omega)])
    have hch : f_Ro_chanceOf SF 5 (nI (tgG c n d P T i)) (wI (wI m1 39 i (nI (T i 0))) 40 i (nI (tgG c n d P T i))) = some (nI (chG c n d P T i), wI (wI m1 39 i (nI (T i 0))) 40 i (nI (tgG c n d P T i))) := sp_chance hG2 hok hR2 hR g2
    have p1 := sp_put (x := nI (T i 0)) ck_39 kl_39 hi5 (by omega) m1
    have p2 := sp_put (x := nI (tgG c n d P T i)) ck_40 kl_40 hi5 (by omega) (wI m1 39 i (nI (T i 0)))
    have p3 := sp_put (x := nI (chG c n d P T i)) ck_41 kl_41 hi5 (by omega) (wI (wI m1 39 i (nI (T i 0))) 40 i (nI (tgG c n d P T i)))
    have hF3 : Fr oPr m (wI (wI (wI m1 39 i (nI (T i 0))) 40 i (nI (tgG c n d P T i))) 41 i (nI (chG c n d P T i))) := ((e2.up (fun o k h => Or.inl h)).tr hF2).w (Or.inr (Or.inr (Or.inr rfl)))
    have hT3 : TBl (wI (wI (wI m1 39 i (nI (T i 0))) 40 i (nI (tgG c n d P T i))) 41 i (nI (chG c n d P T i))) c n d P T (i + 1) := by
      intro k hk
      by_cases hki : k = i
      · subst hki
        refine ⟨?_, ?_, gI_s _ _ _ _⟩
        · rw [gI_n _ _ _ _ _ _ (by omega), gI_n _ _ _ _ _ _ (by omega), gI_s]
        · rw [gI_n _ _ _ _ _ _ (by omega), gI_s]
      · obtain ⟨y1, y2, y3⟩ := hT k (by omega)
        have f1 : ∀ o, 39 ≤ o → o ≤ 41 → gI m1 o k = gI m o k := fun o h1 h2 => e2.1 _ _ (by simp only [oRo]; omega)
        refine ⟨?_, ?_, ?_⟩
        · rw [gI_n _ _ _ _ _ _ (by omega), gI_n _ _ _ _ _ _ (by omega), gI_n _ _ _ _ _ _ (by omega), f1 _ (by omega) (by omega)]; exact y1
        · rw [gI_n _ _ _ _ _ _ (by omega), gI_n _ _ _ _ _ _ (by omega), gI_n _ _ _ _ _ _ (by omega), f1 _ (by omega) (by omega)]; exact y2
        · rw [gI_n _ _ _ _ _ _ (by omega), gI_n _ _ _ _ _ _ (by omega), gI_n _ _ _ _ _ _ (by omega), f1 _ (by omega) (by omega)]; exact y3
    obtain ⟨m', u1, u2, u3⟩ := ih (i + 1) N (wI (wI (wI m1 39 i (nI (T i 0))) 40 i (nI (tgG c n d P T i))) 41 i (nI (chG c n d P T i))) (by omega) (by omega) (by omega) (hG.fr o2 hF3 (by intro o k ho; simp only [oPr, oRo] at ho; omega)) hT3
    refine ⟨m', ?_, hF3.tr u2, u3⟩
    rw [fx_s]
    generalize fx (fun _ _ _ _ => none) (b_Mr_prepareThrows_2 SF) N = K at u1 ⊢
    unfold b_Mr_prepareThrows_2
    simp only [oN, Option.bind_some, ↓reduceIte, ifT, ifF, eq_self, reduceCtorEq, cK_0, cK_1, cK_2, kl_2, bd_2, cK_3, cK_4, kl_4, bd_4, cK_5, cK_6, cK_7, kl_7, bd_7, cK_8, cK_25, cK_20, kl_20, bd_20, cK_21, kl_21, bd_21, cK_22, kl_22, bd_22, cK_23, cK_24, kl_24, bd_24, cK_37, cK_38, cK_39, kl_39, bd_39, cK_40, kl_40, bd_40, cK_41, kl_41, bd_41, cK_42, kl_42, bd_42, cK_43, kl_43, bd_43, cK_44, cK_45, kl_45, bd_45, cK_46, kl_46, bd_46, cK_47, kl_47, bd_47, cK_48, cK_49, kl_49, bd_49, cK_90, cK_91, kl_91, bd_91, cK_102, cK_103, kl_103, bd_103, cK_104, kl_104, bd_104, cK_105, kl_105, bd_105, cK_106, kl_106, bd_106, cK_107, kl_107, bd_107, cK_108, kl_108, bd_108, cK_109, kl_109, bd_109, cK_110, kl_110, bd_110, cK_111, kl_111, bd_111, cK_112, kl_112, bd_112, cK_113, kl_113, bd_113, cK_114, kl_114, bd_114, cK_115, kl_115, bd_115, cK_116, kl_116, bd_116, cK_117, kl_117, bd_117, cK_118, kl_118, bd_118, cK_119, kl_119, bd_119, cK_120, kl_120, bd_120, cK_121, kl_121, bd_121, ld_0_0, ld_0_1, ld_0_2, ld_0_3, ld_0_4, ld_0_5, ld_0_6, ld_0_7, ld_0_8, ld_0_9, ld_1_0, ld_3_0, ld_5_0, ld_5_1, ld_5_2, ld_5_3, ld_6_0, ld_6_1, ld_23_0, ld_23_1, ld_38_0, ld_38_1, ld_38_2, ld_38_3, ld_38_4, ld_44_0, ld_44_1, ld_44_2, ld_48_1, ld_90_1, ld_102_3, ld_102_4, ld_102_5, ld_102_8, ld_102_12, ld_102_13, ld_102_14, ld_102_15, ld_102_16, ld_102_17, ld_102_19, ld_102_20, ld_102_21, ld_102_22, ld_102_23, ld_102_25, ld_102_27, ld_102_28, ld_102_30, cK_pl, cK_to, cK_dp, cK_dt, cK_un, cK_ke, ld_pl, ld_to, ld_dp, ld_dt, ld_un, ld_ke, hG.1, hlt, e1, htg', h54, p1, p2, hch, p3, nI_add, u1]
