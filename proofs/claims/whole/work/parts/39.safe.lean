/-! safe -/
abbrev sfT : Type := Option (Nat × Nat × Nat × Nat)
def tkS (x : sfT) (i t j b h ch : Nat) : sfT := if t = i then x else match x with
  | none => some (j, b, h, ch)
  | some y => if y.2.2.2 ≤ ch then x else some (j, b, h, ch)
def BC (m : ba_M) : sfT → Prop
  | none => gI m 37 0 = nI 0
  | some y => gI m 37 0 = nI 1 ∧ gI m 37 1 = nI y.1 ∧ gI m 37 2 = nI y.2.1 ∧ gI m 37 3 = nI y.2.2.1 ∧ gI m 37 4 = nI y.2.2.2 ∧ y.1 < 5 ∧ y.2.2.2 ≤ 10
def BM (m : ba_M) : sfT → Prop
  | none => gI m 113 0 = -4
  | some y => gI m 113 0 = nI y.1 ∧ gI m 113 1 = nI y.2.1 ∧ gI m 113 2 = nI y.2.2.1 ∧ gI m 113 3 = nI y.2.2.2 ∧ y.1 < 5 ∧ y.2.2.2 ≤ 10
/-- at whom, and with what chance, by the call of j, b, h -/
def tgS (c n d : Nat) (P : ba_T) (j b h : Nat) : Option Nat := tgN (cgF c n d P j b (bts (P j 0) (P j 1) b h)) j c
def stS (c n d : Nat) (P : ba_T) (i : Nat) (x : sfT) (j b h : Nat) : sfT := match tgS c n d P j b h with
  | none => x
  | some t => tkS x i t j b h (cgF c n d P j b (bts (P j 0) (P j 1) b h) t)
theorem BC.fr {m m' : ba_M} {x : sfT} (h : BC m x) (hF : Fr oRo m m') : BC m' x := by
  have e : ∀ k, gI m' 37 k = gI m 37 k := fun k => hF.1 _ _ (by simp only [oRo]; omega)
  cases x with
  | none => unfold BC at h ⊢; rw [e]; exact h
  | some y => unfold BC at h ⊢; rw [e, e, e, e, e]; exact h
theorem BM.fr {m m' : ba_M} {x : sfT} (h : BM m x) (hF : Fr oMo m m') : BM m' x := by
  have e : ∀ k, gI m' 113 k = gI m 113 k := fun k => hF.1 _ _ (by simp only [oMo]; omega)
  cases x with
  | none => unfold BM at h ⊢; rw [e]; exact h
  | some y => unfold BM at h ⊢; rw [e, e, e, e]; exact h
def oSc : Nat → Nat → Prop := fun o k => oRo o k ∨ o = 37
theorem bc_new {m : ba_M} {j b h ch : Nat} (hj : j < 5) (hc : ch ≤ 10) : BC (wI (wI (wI (wI (wI m 37 0 (nI 1)) 37 1 (nI j)) 37 2 (nI b)) 37 3 (nI h)) 37 4 (nI ch)) (some (j, b, h, ch)) := by
  refine ⟨?_, ?_, ?_, ?_, ?_, hj, hc⟩
  · rw [gI_n _ _ _ _ _ _ (by omega), gI_n _ _ _ _ _ _ (by omega), gI_n _ _ _ _ _ _ (by omega), gI_n _ _ _ _ _ _ (by omega), gI_s]
  · rw [gI_n _ _ _ _ _ _ (by omega), gI_n _ _ _ _ _ _ (by omega), gI_n _ _ _ _ _ _ (by omega), gI_s]
  · rw [gI_n _ _ _ _ _ _ (by omega), gI_n _ _ _ _ _ _ (by omega), gI_s]
  · rw [gI_n _ _ _ _ _ _ (by omega), gI_s]
  · rw [gI_s]
theorem sp_tryCall {m : ba_M} {c n d i j b h : Nat} {P T : ba_T} {x : sfT} (hG : GC m c n d P T) (hok : okG c n d P T) (hi : i < c) (hj : j < c) (hb : b ≤ n) (hh : 1 ≤ h ∧ h ≤ 9) (hx : BC m x) :
    ∃ m', f_Sc_tryCall SF 37 5 (nI i) (nI j) (nI b) (nI h) m = some m' ∧ Fr oSc m m' ∧ BC m' (if j = i then x else stS c n d P i x j b h) := by
  obtain ⟨⟨o1, o2, o3, o4, o5⟩, o6, o7⟩ := id hok
  obtain ⟨q1, q2, q3, q4, q5, q6, q7⟩ := o6 j hj
  obtain ⟨m1, e1, e2, e3⟩ := sp_playCall hG hok hj (show b ≤ 40 by omega) hh
  obtain ⟨t, g1, g2, g3⟩ := tg_of hok (j := j) (b := b) (bt := bts (P j 0) (P j 1) b h)
  have hG1 := hG.ro o2 e2
  have hR := okR_of hok (bt := bts (P j 0) (P j 1) b h) hj (show b ≤ 40 by omega)
  have htg := sp_target hG1 hok e3.ra hR
  have hch := sp_chance hG1 hok e3.ra hR g2
  rw [show tgN (chF c P (fun k => P k 4) (stF n d P j b (bts (P j 0) (P j 1) b h)) (tcF n d P j b (bts (P j 0) (P j 1) b h)) j) j c = some t from g1] at htg
  have htg' : f_Ro_target SF 5 m1 = some (nI t, m1) := htg
  have hch' : f_Ro_chanceOf SF 5 (nI t) m1 = some (nI (cgF c n d P j b (bts (P j 0) (P j 1) b h) t), m1) := hch
  have hst : stS c n d P i x j b h = tkS x i t j b h (cgF c n d P j b (bts (P j 0) (P j 1) b h) t) := by
    unfold stS tgS; rw [g1]
  have hc10 : cgF c n d P j b (bts (P j 0) (P j 1) b h) t ≤ 10 := chF_le
  rw [hst]
  clear hst hch htg g1 e3 hR
  generalize cgF c n d P j b (bts (P j 0) (P j 1) b h) t = ch at hch' hc10 ⊢
  have hx1 := hx.fr e2
  have hF1 : Fr oSc m m1 := e2.up (fun o k h => Or.inl h)
  have hF2 : Fr oSc m (wI (wI (wI (wI (wI m1 37 0 (nI 1)) 37 1 (nI j)) 37 2 (nI b)) 37 3 (nI h)) 37 4 (nI ch)) := ((((hF1.w (Or.inr rfl)).w (Or.inr rfl)).w (Or.inr rfl)).w (Or.inr rfl)).w (Or.inr rfl)
  have hij : (nI i = nI j) ↔ j = i := by rw [nI_eq (by omega) (by omega)]; exact ⟨fun h => h.symm, fun h => h.symm⟩
  have hti : (nI t = nI i) ↔ t = i := nI_eq (by omega) (by omega)
  cases x with
  | none =>
    have a1 : gI m 37 0 = nI 0 := hx
    have a2 : gI m1 37 0 = nI 0 := hx1
    by_cases hji : j = i
    · refine ⟨m, ?_, Fr.rf, by rw [if_pos hji]; exact hx⟩
      unfold f_Sc_tryCall f_Sc_tryCall_18 f_Sc_tryCall_19 f_Sc_tryCall_31
      simp (disch := omega) only [oN, Option.bind_some, ↓reduceIte, ifT, ifF, eq_self, reduceCtorEq, cK_0, cK_1, cK_2, kl_2, bd_2, cK_3, cK_4, kl_4, bd_4, cK_5, cK_6, cK_7, kl_7, bd_7, cK_8, cK_25, cK_20, kl_20, bd_20, cK_21, kl_21, bd_21, cK_22, kl_22, bd_22, cK_23, cK_24, kl_24, bd_24, cK_37, cK_38, cK_39, kl_39, bd_39, cK_40, kl_40, bd_40, cK_41, kl_41, bd_41, cK_42, kl_42, bd_42, cK_43, kl_43, bd_43, cK_44, cK_45, kl_45, bd_45, cK_46, kl_46, bd_46, cK_47, kl_47, bd_47, cK_48, cK_49, kl_49, bd_49, cK_90, cK_91, kl_91, bd_91, cK_102, cK_103, kl_103, bd_103, cK_104, kl_104, bd_104, cK_105, kl_105, bd_105, cK_106, kl_106, bd_106, cK_107, kl_107, bd_107, cK_108, kl_108, bd_108, cK_109, kl_109, bd_109, cK_110, kl_110, bd_110, cK_111, kl_111, bd_111, cK_112, kl_112, bd_112, cK_113, kl_113, bd_113, cK_114, kl_114, bd_114, cK_115, kl_115, bd_115, cK_116, kl_116, bd_116, cK_117, kl_117, bd_117, cK_118, kl_118, bd_118, cK_119, kl_119, bd_119, cK_120, kl_120, bd_120, cK_121, kl_121, bd_121, ld_0_0, ld_0_1, ld_0_2, ld_0_3, ld_0_4, ld_0_5, ld_0_6, ld_0_7, ld_0_8, ld_0_9, ld_1_0, ld_3_0, ld_5_0, ld_5_1, ld_5_2, ld_5_3, ld_6_0, ld_6_1, ld_23_0, ld_23_1, ld_38_0, ld_38_1, ld_38_2, ld_38_3, ld_38_4, ld_44_0, ld_44_1, ld_44_2, ld_48_1, ld_90_1, ld_102_3, ld_102_4, ld_102_5, ld_102_8, ld_102_12, ld_102_13, ld_102_14, ld_102_15, ld_102_16, ld_102_17, ld_102_19, ld_102_20, ld_102_21, ld_102_22, ld_102_23, ld_102_25, ld_102_27, ld_102_28, ld_102_30, cK_pl, cK_to, cK_dp, cK_dt, cK_un, cK_ke, ld_pl, ld_to, ld_dp, ld_dt, ld_un, ld_ke, a1, z0, hji]
    · by_cases ht : t = i
      · refine ⟨m1, ?_, hF1, by rw [if_neg hji]; unfold tkS; rw [if_pos ht]; exact hx1⟩
        subst ht
        unfold f_Sc_tryCall f_Sc_tryCall_18 f_Sc_tryCall_19 f_Sc_tryCall_71 f_Sc_tryCall_76 f_Sc_tryCall_117
        simp (disch := omega) only [oN, Option.bind_some, ↓reduceIte, ifT, ifF, eq_self, reduceCtorEq, cK_0, cK_1, cK_2, kl_2, bd_2, cK_3, cK_4, kl_4, bd_4, cK_5, cK_6, cK_7, kl_7, bd_7, cK_8, cK_25, cK_20, kl_20, bd_20, cK_21, kl_21, bd_21, cK_22, kl_22, bd_22, cK_23, cK_24, kl_24, bd_24, cK_37, cK_38, cK_39, kl_39, bd_39, cK_40, kl_40, bd_40, cK_41, kl_41, bd_41, cK_42, kl_42, bd_42, cK_43, kl_43, bd_43, cK_44, cK_45, kl_45, bd_45, cK_46, kl_46, bd_46, cK_47, kl_47, bd_47, cK_48, cK_49, kl_49, bd_49, cK_90, cK_91, kl_91, bd_91, cK_102, cK_103, kl_103, bd_103, cK_104, kl_104, bd_104, cK_105, kl_105, bd_105, cK_106, kl_106, bd_106, cK_107, kl_107, bd_107, cK_108, kl_108, bd_108, cK_109, kl_109, bd_109, cK_110, kl_110, bd_110, cK_111, kl_111, bd_111, cK_112, kl_112, bd_112, cK_113, kl_113, bd_113, cK_114, kl_114, bd_114, cK_115, kl_115, bd_115, cK_116, kl_116, bd_116, cK_117, kl_117, bd_117, cK_118, kl_118, bd_118, cK_119, kl_119, bd_119, cK_120, kl_120, bd_120, cK_121, kl_121, bd_121, ld_0_0, ld_0_1, ld_0_2, ld_0_3, ld_0_4, ld_0_5, ld_0_6, ld_0_7, ld_0_8, ld_0_9, ld_1_0, ld_3_0, ld_5_0, ld_5_1, ld_5_2, ld_5_3, ld_6_0, ld_6_1, ld_23_0, ld_23_1, ld_38_0, ld_38_1, ld_38_2, ld_38_3, ld_38_4, ld_44_0, ld_44_1, ld_44_2, ld_48_1, ld_90_1, ld_102_3, ld_102_4, ld_102_5, ld_102_8, ld_102_12, ld_102_13, ld_102_14, ld_102_15, ld_102_16, ld_102_17, ld_102_19, ld_102_20, ld_102_21, ld_102_22, ld_102_23, ld_102_25, ld_102_27, ld_102_28, ld_102_30, cK_pl, cK_to, cK_dp, cK_dt, cK_un, cK_ke, ld_pl, ld_to, ld_dp, ld_dt, ld_un, ld_ke, a1, a2, z0, hij, hji, e1, htg', hch']
      · refine ⟨wI (wI (wI (wI (wI m1 37 0 (nI 1)) 37 1 (nI j)) 37 2 (nI b)) 37 3 (nI h)) 37 4 (nI ch), ?_, hF2, by rw [if_neg hji]; unfold tkS; rw [if_neg ht]; exact bc_new (by omega) hc10⟩
        unfold f_Sc_tryCall f_Sc_tryCall_18 f_Sc_tryCall_19 f_Sc_tryCall_71 f_Sc_tryCall_76 f_Sc_tryCall_117
        simp (disch := omega) only [oN, Option.bind_some, ↓reduceIte, ifT, ifF, eq_self, reduceCtorEq, cK_0, cK_1, cK_2, kl_2, bd_2, cK_3, cK_4, kl_4, bd_4, cK_5, cK_6, cK_7, kl_7, bd_7, cK_8, cK_25, cK_20, kl_20, bd_20, cK_21, kl_21, bd_21, cK_22, kl_22, bd_22, cK_23, cK_24, kl_24, bd_24, cK_37, cK_38, cK_39, kl_39, bd_39, cK_40, kl_40, bd_40, cK_41, kl_41, bd_41, cK_42, kl_42, bd_42, cK_43, kl_43, bd_43, cK_44, cK_45, kl_45, bd_45, cK_46, kl_46, bd_46, cK_47, kl_47, bd_47, cK_48, cK_49, kl_49, bd_49, cK_90, cK_91, kl_91, bd_91, cK_102, cK_103, kl_103, bd_103, cK_104, kl_104, bd_104, cK_105, kl_105, bd_105, cK_106, kl_106, bd_106, cK_107, kl_107, bd_107, cK_108, kl_108, bd_108, cK_109, kl_109, bd_109, cK_110, kl_110, bd_110, cK_111, kl_111, bd_111, cK_112, kl_112, bd_112, cK_113, kl_113, bd_113, cK_114, kl_114, bd_114, cK_115, kl_115, bd_115, cK_116, kl_116, bd_116, cK_117, kl_117, bd_117, cK_118, kl_118, bd_118, cK_119, kl_119, bd_119, cK_120, kl_120, bd_120, cK_121, kl_121, bd_121, ld_0_0, ld_0_1, ld_0_2, ld_0_3, ld_0_4, ld_0_5, ld_0_6, ld_0_7, ld_0_8, ld_0_9, ld_1_0, ld_3_0, ld_5_0, ld_5_1, ld_5_2, ld_5_3, ld_6_0, ld_6_1, ld_23_0, ld_23_1, ld_38_0, ld_38_1, ld_38_2, ld_38_3, ld_38_4, ld_44_0, ld_44_1, ld_44_2, ld_48_1, ld_90_1, ld_102_3, ld_102_4, ld_102_5, ld_102_8, ld_102_12, ld_102_13, ld_102_14, ld_102_15, ld_102_16, ld_102_17, ld_102_19, ld_102_20, ld_102_21, ld_102_22, ld_102_23, ld_102_25, ld_102_27, ld_102_28, ld_102_30, cK_pl, cK_to, cK_dp, cK_dt, cK_un, cK_ke, ld_pl, ld_to, ld_dp, ld_dt, ld_un, ld_ke, a1, a2, z0, hij, hji, e1, htg', hch', hti, ht]
  | some y =>
    obtain ⟨a1, a3, a4, a5, a6, a7, a8⟩ := id hx
    obtain ⟨b1, b3, b4, b5, b6, b7, b8⟩ := id hx1
    by_cases hji : j = i
    · refine ⟨m, ?_, Fr.rf, by rw [if_pos hji]; exact hx⟩
      unfold f_Sc_tryCall f_Sc_tryCall_18 f_Sc_tryCall_19 f_Sc_tryCall_31
      simp (disch := omega) only [oN, Option.bind_some, ↓reduceIte, ifT, ifF, eq_self, reduceCtorEq, cK_0, cK_1, cK_2, kl_2, bd_2, cK_3, cK_4, kl_4, bd_4, cK_5, cK_6, cK_7, kl_7, bd_7, cK_8, cK_25, cK_20, kl_20, bd_20, cK_21, kl_21, bd_21, cK_22, kl_22, bd_22, cK_23, cK_24, kl_24, bd_24, cK_37, cK_38, cK_39, kl_39, bd_39, cK_40, kl_40, bd_40, cK_41, kl_41, bd_41, cK_42, kl_42, bd_42, cK_43, kl_43, bd_43, cK_44, cK_45, kl_45, bd_45, cK_46, kl_46, bd_46, cK_47, kl_47, bd_47, cK_48, cK_49, kl_49, bd_49, cK_90, cK_91, kl_91, bd_91, cK_102, cK_103, kl_103, bd_103, cK_104, kl_104, bd_104, cK_105, kl_105, bd_105, cK_106, kl_106, bd_106, cK_107, kl_107, bd_107, cK_108, kl_108, bd_108, cK_109, kl_109, bd_109, cK_110, kl_110, bd_110, cK_111, kl_111, bd_111, cK_112, kl_112, bd_112, cK_113, kl_113, bd_113, cK_114, kl_114, bd_114, cK_115, kl_115, bd_115, cK_116, kl_116, bd_116, cK_117, kl_117, bd_117, cK_118, kl_118, bd_118, cK_119, kl_119, bd_119, cK_120, kl_120, bd_120, cK_121, kl_121, bd_121, ld_0_0, ld_0_1, ld_0_2, ld_0_3, ld_0_4, ld_0_5, ld_0_6, ld_0_7, ld_0_8, ld_0_9, ld_1_0, ld_3_0, ld_5_0, ld_5_1, ld_5_2, ld_5_3, ld_6_0, ld_6_1, ld_23_0, ld_23_1, ld_38_0, ld_38_1, ld_38_2, ld_38_3, ld_38_4, ld_44_0, ld_44_1, ld_44_2, ld_48_1, ld_90_1, ld_102_3, ld_102_4, ld_102_5, ld_102_8, ld_102_12, ld_102_13, ld_102_14, ld_102_15, ld_102_16, ld_102_17, ld_102_19, ld_102_20, ld_102_21, ld_102_22, ld_102_23, ld_102_25, ld_102_27, ld_102_28, ld_102_30, cK_pl, cK_to, cK_dp, cK_dt, cK_un, cK_ke, ld_pl, ld_to, ld_dp, ld_dt, ld_un, ld_ke, a1, a6, z0, nI_eq, hji]
      split <;> rfl
    · by_cases h0 : y.2.2.2 = 0
      · have e : tkS (some y) i t j b h ch = some y := by
          unfold tkS
          split
          · rfl
          · exact if_pos (by omega)
        refine ⟨m, ?_, Fr.rf, by rw [if_neg hji, e]; exact hx⟩
        unfold f_Sc_tryCall f_Sc_tryCall_19 f_Sc_tryCall_31
        simp (disch := omega) only [oN, Option.bind_some, ↓reduceIte, ifT, ifF, eq_self, reduceCtorEq, cK_0, cK_1, cK_2, kl_2, bd_2, cK_3, cK_4, kl_4, bd_4, cK_5, cK_6, cK_7, kl_7, bd_7, cK_8, cK_25, cK_20, kl_20, bd_20, cK_21, kl_21, bd_21, cK_22, kl_22, bd_22, cK_23, cK_24, kl_24, bd_24, cK_37, cK_38, cK_39, kl_39, bd_39, cK_40, kl_40, bd_40, cK_41, kl_41, bd_41, cK_42, kl_42, bd_42, cK_43, kl_43, bd_43, cK_44, cK_45, kl_45, bd_45, cK_46, kl_46, bd_46, cK_47, kl_47, bd_47, cK_48, cK_49, kl_49, bd_49, cK_90, cK_91, kl_91, bd_91, cK_102, cK_103, kl_103, bd_103, cK_104, kl_104, bd_104, cK_105, kl_105, bd_105, cK_106, kl_106, bd_106, cK_107, kl_107, bd_107, cK_108, kl_108, bd_108, cK_109, kl_109, bd_109, cK_110, kl_110, bd_110, cK_111, kl_111, bd_111, cK_112, kl_112, bd_112, cK_113, kl_113, bd_113, cK_114, kl_114, bd_114, cK_115, kl_115, bd_115, cK_116, kl_116, bd_116, cK_117, kl_117, bd_117, cK_118, kl_118, bd_118, cK_119, kl_119, bd_119, cK_120, kl_120, bd_120, cK_121, kl_121, bd_121, ld_0_0, ld_0_1, ld_0_2, ld_0_3, ld_0_4, ld_0_5, ld_0_6, ld_0_7, ld_0_8, ld_0_9, ld_1_0, ld_3_0, ld_5_0, ld_5_1, ld_5_2, ld_5_3, ld_6_0, ld_6_1, ld_23_0, ld_23_1, ld_38_0, ld_38_1, ld_38_2, ld_38_3, ld_38_4, ld_44_0, ld_44_1, ld_44_2, ld_48_1, ld_90_1, ld_102_3, ld_102_4, ld_102_5, ld_102_8, ld_102_12, ld_102_13, ld_102_14, ld_102_15, ld_102_16, ld_102_17, ld_102_19, ld_102_20, ld_102_21, ld_102_22, ld_102_23, ld_102_25, ld_102_27, ld_102_28, ld_102_30, cK_pl, cK_to, cK_dp, cK_dt, cK_un, cK_ke, ld_pl, ld_to, ld_dp, ld_dt, ld_un, ld_ke, a1, a6, z0, nI_eq, h0, hij, hji]
      · by_cases ht : t = i
        · refine ⟨m1, ?_, hF1, by rw [if_neg hji]; unfold tkS; rw [if_pos ht]; exact hx1⟩
          subst ht
          unfold f_Sc_tryCall f_Sc_tryCall_18 f_Sc_tryCall_19 f_Sc_tryCall_71 f_Sc_tryCall_76 f_Sc_tryCall_117
          simp (disch := omega) only [oN, Option.bind_some, ↓reduceIte, ifT, ifF, eq_self, reduceCtorEq, cK_0, cK_1, cK_2, kl_2, bd_2, cK_3, cK_4, kl_4, bd_4, cK_5, cK_6, cK_7, kl_7, bd_7, cK_8, cK_25, cK_20, kl_20, bd_20, cK_21, kl_21, bd_21, cK_22, kl_22, bd_22, cK_23, cK_24, kl_24, bd_24, cK_37, cK_38, cK_39, kl_39, bd_39, cK_40, kl_40, bd_40, cK_41, kl_41, bd_41, cK_42, kl_42, bd_42, cK_43, kl_43, bd_43, cK_44, cK_45, kl_45, bd_45, cK_46, kl_46, bd_46, cK_47, kl_47, bd_47, cK_48, cK_49, kl_49, bd_49, cK_90, cK_91, kl_91, bd_91, cK_102, cK_103, kl_103, bd_103, cK_104, kl_104, bd_104, cK_105, kl_105, bd_105, cK_106, kl_106, bd_106, cK_107, kl_107, bd_107, cK_108, kl_108, bd_108, cK_109, kl_109, bd_109, cK_110, kl_110, bd_110, cK_111, kl_111, bd_111, cK_112, kl_112, bd_112, cK_113, kl_113, bd_113, cK_114, kl_114, bd_114, cK_115, kl_115, bd_115, cK_116, kl_116, bd_116, cK_117, kl_117, bd_117, cK_118, kl_118, bd_118, cK_119, kl_119, bd_119, cK_120, kl_120, bd_120, cK_121, kl_121, bd_121, ld_0_0, ld_0_1, ld_0_2, ld_0_3, ld_0_4, ld_0_5, ld_0_6, ld_0_7, ld_0_8, ld_0_9, ld_1_0, ld_3_0, ld_5_0, ld_5_1, ld_5_2, ld_5_3, ld_6_0, ld_6_1, ld_23_0, ld_23_1, ld_38_0, ld_38_1, ld_38_2, ld_38_3, ld_38_4, ld_44_0, ld_44_1, ld_44_2, ld_48_1, ld_90_1, ld_102_3, ld_102_4, ld_102_5, ld_102_8, ld_102_12, ld_102_13, ld_102_14, ld_102_15, ld_102_16, ld_102_17, ld_102_19, ld_102_20, ld_102_21, ld_102_22, ld_102_23, ld_102_25, ld_102_27, ld_102_28, ld_102_30, cK_pl, cK_to, cK_dp, cK_dt, cK_un, cK_ke, ld_pl, ld_to, ld_dp, ld_dt, ld_un, ld_ke, a1, a6, b1, b6, z0, nI_eq, h0, hij, hji, e1, htg', hch']
          split <;> rfl
        · by_cases hle : y.2.2.2 ≤ ch
          · refine ⟨m1, ?_, hF1, by rw [if_neg hji]; unfold tkS; rw [if_neg ht]; simp only [if_pos hle]; exact hx1⟩
            unfold f_Sc_tryCall f_Sc_tryCall_18 f_Sc_tryCall_19 f_Sc_tryCall_71 f_Sc_tryCall_76 f_Sc_tryCall_117
            simp (disch := omega) only [oN, Option.bind_some, ↓reduceIte, ifT, ifF, eq_self, reduceCtorEq, cK_0, cK_1, cK_2, kl_2, bd_2, cK_3, cK_4, kl_4, bd_4, cK_5, cK_6, cK_7, kl_7, bd_7, cK_8, cK_25, cK_20, kl_20, bd_20, cK_21, kl_21, bd_21, cK_22, kl_22, bd_22, cK_23, cK_24, kl_24, bd_24, cK_37, cK_38, cK_39, kl_39, bd_39, cK_40, kl_40, bd_40, cK_41, kl_41, bd_41, cK_42, kl_42, bd_42, cK_43, kl_43, bd_43, cK_44, cK_45, kl_45, bd_45, cK_46, kl_46, bd_46, cK_47, kl_47, bd_47, cK_48, cK_49, kl_49, bd_49, cK_90, cK_91, kl_91, bd_91, cK_102, cK_103, kl_103, bd_103, cK_104, kl_104, bd_104, cK_105, kl_105, bd_105, cK_106, kl_106, bd_106, cK_107, kl_107, bd_107, cK_108, kl_108, bd_108, cK_109, kl_109, bd_109, cK_110, kl_110, bd_110, cK_111, kl_111, bd_111, cK_112, kl_112, bd_112, cK_113, kl_113, bd_113, cK_114, kl_114, bd_114, cK_115, kl_115, bd_115, cK_116, kl_116, bd_116, cK_117, kl_117, bd_117, cK_118, kl_118, bd_118, cK_119, kl_119, bd_119, cK_120, kl_120, bd_120, cK_121, kl_121, bd_121, ld_0_0, ld_0_1, ld_0_2, ld_0_3, ld_0_4, ld_0_5, ld_0_6, ld_0_7, ld_0_8, ld_0_9, ld_1_0, ld_3_0, ld_5_0, ld_5_1, ld_5_2, ld_5_3, ld_6_0, ld_6_1, ld_23_0, ld_23_1, ld_38_0, ld_38_1, ld_38_2, ld_38_3, ld_38_4, ld_44_0, ld_44_1, ld_44_2, ld_48_1, ld_90_1, ld_102_3, ld_102_4, ld_102_5, ld_102_8, ld_102_12, ld_102_13, ld_102_14, ld_102_15, ld_102_16, ld_102_17, ld_102_19, ld_102_20, ld_102_21, ld_102_22, ld_102_23, ld_102_25, ld_102_27, ld_102_28, ld_102_30, cK_pl, cK_to, cK_dp, cK_dt, cK_un, cK_ke, ld_pl, ld_to, ld_dp, ld_dt, ld_un, ld_ke, a1, a6, b1, b6, z0, nI_eq, nI_leI, h0, hij, hji, e1, htg', hch', ht, hle, Bool.false_eq_true]
          · refine ⟨wI (wI (wI (wI (wI m1 37 0 (nI 1)) 37 1 (nI j)) 37 2 (nI b)) 37 3 (nI h)) 37 4 (nI ch), ?_, hF2, by rw [if_neg hji]; unfold tkS; rw [if_neg ht]; simp only [if_neg hle]; exact bc_new (by omega) hc10⟩
            unfold f_Sc_tryCall f_Sc_tryCall_18 f_Sc_tryCall_19 f_Sc_tryCall_71 f_Sc_tryCall_76 f_Sc_tryCall_117
            simp (disch := omega) only [oN, Option.bind_some, ↓reduceIte, ifT, ifF, eq_self, reduceCtorEq, cK_0, cK_1, cK_2, kl_2, bd_2, cK_3, cK_4, kl_4, bd_4, cK_5, cK_6, cK_7, kl_7, bd_7, cK_8, cK_25, cK_20, kl_20, bd_20, cK_21, kl_21, bd_21, cK_22, kl_22, bd_22, cK_23, cK_24, kl_24, bd_24, cK_37, cK_38, cK_39, kl_39, bd_39, cK_40, kl_40, bd_40, cK_41, kl_41, bd_41, cK_42, kl_42, bd_42, cK_43, kl_43, bd_43, cK_44, cK_45, kl_45, bd_45, cK_46, kl_46, bd_46, cK_47, kl_47, bd_47, cK_48, cK_49, kl_49, bd_49, cK_90, cK_91, kl_91, bd_91, cK_102, cK_103, kl_103, bd_103, cK_104, kl_104, bd_104, cK_105, kl_105, bd_105, cK_106, kl_106, bd_106, cK_107, kl_107, bd_107, cK_108, kl_108, bd_108, cK_109, kl_109, bd_109, cK_110, kl_110, bd_110, cK_111, kl_111, bd_111, cK_112, kl_112, bd_112, cK_113, kl_113, bd_113, cK_114, kl_114, bd_114, cK_115, kl_115, bd_115, cK_116, kl_116, bd_116, cK_117, kl_117, bd_117, cK_118, kl_118, bd_118, cK_119, kl_119, bd_119, cK_120, kl_120, bd_120, cK_121, kl_121, bd_121, ld_0_0, ld_0_1, ld_0_2, ld_0_3, ld_0_4, ld_0_5, ld_0_6, ld_0_7, ld_0_8, ld_0_9, ld_1_0, ld_3_0, ld_5_0, ld_5_1, ld_5_2, ld_5_3, ld_6_0, ld_6_1, ld_23_0, ld_23_1, ld_38_0, ld_38_1, ld_38_2, ld_38_3, ld_38_4, ld_44_0, ld_44_1, ld_44_2, ld_48_1, ld_90_1, ld_102_3, ld_102_4, ld_102_5, ld_102_8, ld_102_12, ld_102_13, ld_102_14, ld_102_15, ld_102_16, ld_102_17, ld_102_19, ld_102_20, ld_102_21, ld_102_22, ld_102_23, ld_102_25, ld_102_27, ld_102_28, ld_102_30, cK_pl, cK_to, cK_dp, cK_dt, cK_un, cK_ke, ld_pl, ld_to, ld_dp, ld_dt, ld_un, ld_ke, a1, a6, b1, b6, z0, nI_eq, nI_leI, h0, hij, hji, e1, htg', hch', ht, hle]
/-- behind the first q calls to j -/
def qS (c n d : Nat) (P : ba_T) (i j : Nat) (x : sfT) : Nat → sfT
  | 0 => x
  | q + 1 => stS c n d P i (qS c n d P i j x q) j (q / 9) (1 + (q - q / 9 * 9))
def jS (c n d : Nat) (P : ba_T) (i : Nat) : Nat → sfT
  | 0 => none
  | j + 1 => if j = i then jS c n d P i j else qS c n d P i j (jS c n d P i j) (9 * (n + 1))
theorem GC.sc {m m' : ba_M} {c n d : Nat} {P T : ba_T} (hG : GC m c n d P T) (hc : c ≤ 5) (h : Fr oSc m m') : GC m' c n d P T := hG.fr hc h (by intro o k ho; simp only [oSc, oRo] at ho; omega)
theorem sp_sc36 {c n d i j b : Nat} {P T : ba_T} (hok : okG c n d P T) (hi : i < c) (hj : j < c) (hb : b ≤ n) {x0 : sfT} (k7 : Nat → Nat → Int32 → Int32 → ba_M → Option (ba_M)) (k21 : Nat → Nat → Int32 → Int32 → Int32 → ba_M → Option (ba_M)) : ∀ (r h N : Nat) (m : ba_M), 10 - h = r → 1 ≤ h → h ≤ 10 → r < N → GC m c n d P T → BC m (if j = i then x0 else qS c n d P i j x0 (9 * b + (h - 1))) →
    ∃ m', fx (fun _ _ _ _ _ _ _ => none) (b_Sc_search_36 SF k7 k21) N 37 5 (nI i) (nI j) (nI b) (nI h) m = k21 37 5 (nI i) (nI j) (nI (b + 1)) m' ∧ Fr oSc m m' ∧ BC m' (if j = i then x0 else qS c n d P i j x0 (9 * (b + 1))) := by
  have hc := hok.1.2.1
  have hn := hok.1.2.2.2.1
  intro r
  induction r with
  | zero =>
    intro h N m hr h1 hh hN hG hx
    obtain ⟨N, rfl⟩ : ∃ z, N = z + 1 := ⟨N - 1, by omega⟩
    obtain rfl : h = 10 := by omega
    refine ⟨m, ?_, Fr.rf, by rw [show 9 * (b + 1) = 9 * b + (10 - 1) by omega]; exact hx⟩
    rw [fx_s]
    generalize fx (fun _ _ _ _ _ _ _ => none) (b_Sc_search_36 SF k7 k21) N = K
    unfold b_Sc_search_36
    rw [if_pos (by rw [nI_ltI (by omega) (by omega)]; omega), nI_add]
  | succ r ih =>
    intro h N m hr h1 hh hN hG hx
    obtain ⟨N, rfl⟩ : ∃ z, N = z + 1 := ⟨N - 1, by omega⟩
    obtain ⟨m1, e1, e2, e3⟩ := sp_tryCall (b := b) (h := h) hG hok hi hj hb ⟨h1, by omega⟩ hx
    obtain ⟨m', u1, u2, u3⟩ := ih (h + 1) N m1 (by omega) (by omega) (by omega) (by omega) (hG.sc hc e2) (by
      by_cases hji : j = i
      · rw [if_pos hji] at e3 ⊢; rw [if_pos hji] at e3; exact e3
      · rw [if_neg hji] at e3 ⊢
        rw [if_neg hji] at e3
        rw [show 9 * b + (h + 1 - 1) = 9 * b + (h - 1) + 1 by omega]
        unfold qS
        rw [show (9 * b + (h - 1)) / 9 = b by omega, show 1 + (9 * b + (h - 1) - b * 9) = h by omega]
        exact e3)
    refine ⟨m', ?_, e2.tr u2, u3⟩
    rw [fx_s]
    generalize fx (fun _ _ _ _ _ _ _ => none) (b_Sc_search_36 SF k7 k21) N = K at u1 ⊢
    have hlt : ¬ nI 9 < nI h := by rw [nI_ltI (by omega) (by omega)]; omega
    unfold b_Sc_search_36
    simp (disch := omega) only [oN, Option.bind_some, ↓reduceIte, ifT, ifF, eq_self, reduceCtorEq, cK_0, cK_1, cK_2, kl_2, bd_2, cK_3, cK_4, kl_4, bd_4, cK_5, cK_6, cK_7, kl_7, bd_7, cK_8, cK_25, cK_20, kl_20, bd_20, cK_21, kl_21, bd_21, cK_22, kl_22, bd_22, cK_23, cK_24, kl_24, bd_24, cK_37, cK_38, cK_39, kl_39, bd_39, cK_40, kl_40, bd_40, cK_41, kl_41, bd_41, cK_42, kl_42, bd_42, cK_43, kl_43, bd_43, cK_44, cK_45, kl_45, bd_45, cK_46, kl_46, bd_46, cK_47, kl_47, bd_47, cK_48, cK_49, kl_49, bd_49, cK_90, cK_91, kl_91, bd_91, cK_102, cK_103, kl_103, bd_103, cK_104, kl_104, bd_104, cK_105, kl_105, bd_105, cK_106, kl_106, bd_106, cK_107, kl_107, bd_107, cK_108, kl_108, bd_108, cK_109, kl_109, bd_109, cK_110, kl_110, bd_110, cK_111, kl_111, bd_111, cK_112, kl_112, bd_112, cK_113, kl_113, bd_113, cK_114, kl_114, bd_114, cK_115, kl_115, bd_115, cK_116, kl_116, bd_116, cK_117, kl_117, bd_117, cK_118, kl_118, bd_118, cK_119, kl_119, bd_119, cK_120, kl_120, bd_120, cK_121, kl_121, bd_121, ld_0_0, ld_0_1, ld_0_2, ld_0_3, ld_0_4, ld_0_5, ld_0_6, ld_0_7, ld_0_8, ld_0_9, ld_1_0, ld_3_0, ld_5_0, ld_5_1, ld_5_2, ld_5_3, ld_6_0, ld_6_1, ld_23_0, ld_23_1, ld_38_0, ld_38_1, ld_38_2, ld_38_3, ld_38_4, ld_44_0, ld_44_1, ld_44_2, ld_48_1, ld_90_1, ld_102_3, ld_102_4, ld_102_5, ld_102_8, ld_102_12, ld_102_13, ld_102_14, ld_102_15, ld_102_16, ld_102_17, ld_102_19, ld_102_20, ld_102_21, ld_102_22, ld_102_23, ld_102_25, ld_102_27, ld_102_28, ld_102_30, cK_pl, cK_to, cK_dp, cK_dt, cK_un, cK_ke, ld_pl, ld_to, ld_dp, ld_dt, ld_un, ld_ke, hlt, e1, nI_add, u1]
theorem sp_sc21 {c n d i j : Nat} {P T : ba_T} (hok : okG c n d P T) (hi : i < c) (hj : j < c) {x0 : sfT} (k7 : Nat → Nat → Int32 → Int32 → ba_M → Option (ba_M)) : ∀ (r b N : Nat) (m : ba_M), n + 1 - b = r → b ≤ n + 1 → r < N → GC m c n d P T → BC m (if j = i then x0 else qS c n d P i j x0 (9 * b)) →
    ∃ m', fx (fun _ _ _ _ _ _ => none) (b_Sc_search_21 SF k7) N 37 5 (nI i) (nI j) (nI b) m = k7 37 5 (nI i) (nI (j + 1)) m' ∧ Fr oSc m m' ∧ BC m' (if j = i then x0 else qS c n d P i j x0 (9 * (n + 1))) := by
  have hc := hok.1.2.1
  have hn := hok.1.2.2.2.1
  intro r
  induction r with
  | zero =>
    intro b N m hr hh hN hG hx
    obtain ⟨N, rfl⟩ : ∃ z, N = z + 1 := ⟨N - 1, by omega⟩
    obtain rfl : b = n + 1 := by omega
    refine ⟨m, ?_, Fr.rf, hx⟩
    rw [fx_s]
    generalize fx (fun _ _ _ _ _ _ => none) (b_Sc_search_21 SF k7) N = K
    unfold b_Sc_search_21
    simp only [cK_0, cK_1, cK_2, kl_2, bd_2, cK_3, cK_4, kl_4, bd_4, cK_5, cK_6, cK_7, kl_7, bd_7, cK_8, cK_25, cK_20, kl_20, bd_20, cK_21, kl_21, bd_21, cK_22, kl_22, bd_22, cK_23, cK_24, kl_24, bd_24, cK_37, cK_38, cK_39, kl_39, bd_39, cK_40, kl_40, bd_40, cK_41, kl_41, bd_41, cK_42, kl_42, bd_42, cK_43, kl_43, bd_43, cK_44, cK_45, kl_45, bd_45, cK_46, kl_46, bd_46, cK_47, kl_47, bd_47, cK_48, cK_49, kl_49, bd_49, cK_90, cK_91, kl_91, bd_91, cK_102, cK_103, kl_103, bd_103, cK_104, kl_104, bd_104, cK_105, kl_105, bd_105, cK_106, kl_106, bd_106, cK_107, kl_107, bd_107, cK_108, kl_108, bd_108, cK_109, kl_109, bd_109, cK_110, kl_110, bd_110, cK_111, kl_111, bd_111, cK_112, kl_112, bd_112, cK_113, kl_113, bd_113, cK_114, kl_114, bd_114, cK_115, kl_115, bd_115, cK_116, kl_116, bd_116, cK_117, kl_117, bd_117, cK_118, kl_118, bd_118, cK_119, kl_119, bd_119, cK_120, kl_120, bd_120, cK_121, kl_121, bd_121, ld_0_0, ld_0_1, ld_0_2, ld_0_3, ld_0_4, ld_0_5, ld_0_6, ld_0_7, ld_0_8, ld_0_9, ld_1_0, ld_3_0, ld_5_0, ld_5_1, ld_5_2, ld_5_3, ld_6_0, ld_6_1, ld_23_0, ld_23_1, ld_38_0, ld_38_1, ld_38_2, ld_38_3, ld_38_4, ld_44_0, ld_44_1, ld_44_2, ld_48_1, ld_90_1, ld_102_3, ld_102_4, ld_102_5, ld_102_8, ld_102_12, ld_102_13, ld_102_14, ld_102_15, ld_102_16, ld_102_17, ld_102_19, ld_102_20, ld_102_21, ld_102_22, ld_102_23, ld_102_25, ld_102_27, ld_102_28, ld_102_30, cK_pl, cK_to, cK_dp, cK_dt, cK_un, cK_ke, ld_pl, ld_to, ld_dp, ld_dt, ld_un, ld_ke, hG.2.1]
    rw [if_pos (by rw [nI_ltI (by omega) (by omega)]; omega), nI_add]
  | succ r ih =>
    intro b N m hr hh hN hG hx
    obtain ⟨N, rfl⟩ : ∃ z, N = z + 1 := ⟨N - 1, by omega⟩
    obtain ⟨m1, e1, e2, e3⟩ := sp_sc36 hok hi hj (show b ≤ n by omega) (x0 := x0) k7 (fx (fun _ _ _ _ _ _ => none) (b_Sc_search_21 SF k7) N) 9 1 FU m rfl (by omega) (by omega) (by unfold FU; omega) hG hx
    obtain ⟨m', u1, u2, u3⟩ := ih (b + 1) N m1 (by omega) (by omega) (by omega) (hG.sc hc e2) e3
    refine ⟨m', ?_, e2.tr u2, u3⟩
    rw [fx_s]
    generalize fx (fun _ _ _ _ _ _ => none) (b_Sc_search_21 SF k7) N = K at e1 u1 ⊢
    have hlt : ¬ nI n < nI b := by rw [nI_ltI (by omega) (by omega)]; omega
    unfold b_Sc_search_21 f_Sc_search_36
    simp (disch := omega) only [oN, Option.bind_some, ↓reduceIte, ifT, ifF, eq_self, reduceCtorEq, cK_0, cK_1, cK_2, kl_2, bd_2, cK_3, cK_4, kl_4, bd_4, cK_5, cK_6, cK_7, kl_7, bd_7, cK_8, cK_25, cK_20, kl_20, bd_20, cK_21, kl_21, bd_21, cK_22, kl_22, bd_22, cK_23, cK_24, kl_24, bd_24, cK_37, cK_38, cK_39, kl_39, bd_39, cK_40, kl_40, bd_40, cK_41, kl_41, bd_41, cK_42, kl_42, bd_42, cK_43, kl_43, bd_43, cK_44, cK_45, kl_45, bd_45, cK_46, kl_46, bd_46, cK_47, kl_47, bd_47, cK_48, cK_49, kl_49, bd_49, cK_90, cK_91, kl_91, bd_91, cK_102, cK_103, kl_103, bd_103, cK_104, kl_104, bd_104, cK_105, kl_105, bd_105, cK_106, kl_106, bd_106, cK_107, kl_107, bd_107, cK_108, kl_108, bd_108, cK_109, kl_109, bd_109, cK_110, kl_110, bd_110, cK_111, kl_111, bd_111, cK_112, kl_112, bd_112, cK_113, kl_113, bd_113, cK_114, kl_114, bd_114, cK_115, kl_115, bd_115, cK_116, kl_116, bd_116, cK_117, kl_117, bd_117, cK_118, kl_118, bd_118, cK_119, kl_119, bd_119, cK_120, kl_120, bd_120, cK_121, kl_121, bd_121, ld_0_0, ld_0_1, ld_0_2, ld_0_3, ld_0_4, ld_0_5, ld_0_6, ld_0_7, ld_0_8, ld_0_9, ld_1_0, ld_3_0, ld_5_0, ld_5_1, ld_5_2, ld_5_3, ld_6_0, ld_6_1, ld_23_0, ld_23_1, ld_38_0, ld_38_1, ld_38_2, ld_38_3, ld_38_4, ld_44_0, ld_44_1, ld_44_2, ld_48_1, ld_90_1, ld_102_3, ld_102_4, ld_102_5, ld_102_8, ld_102_12, ld_102_13, ld_102_14, ld_102_15, ld_102_16, ld_102_17, ld_102_19, ld_102_20, ld_102_21, ld_102_22, ld_102_23, ld_102_25, ld_102_27, ld_102_28, ld_102_30, cK_pl, cK_to, cK_dp, cK_dt, cK_un, cK_ke, ld_pl, ld_to, ld_dp, ld_dt, ld_un, ld_ke, hG.2.1, hlt, e1, u1]
theorem sp_sc7 {c n d i : Nat} {P T : ba_T} (hok : okG c n d P T) (hi : i < c) : ∀ (r j N : Nat) (m : ba_M), c - j = r → j ≤ c → r < N → GC m c n d P T → BC m (jS c n d P i j) →
    ∃ m', fx (fun _ _ _ _ _ => none) (b_Sc_search_7 SF) N 37 5 (nI i) (nI j) m = some m' ∧ Fr oSc m m' ∧ BC m' (jS c n d P i c) := by
  have hc := hok.1.2.1
  have hn := hok.1.2.2.2.1
  intro r
  induction r with
  | zero =>
    intro b N m hr hh hN hG hx
    obtain ⟨N, rfl⟩ : ∃ z, N = z + 1 := ⟨N - 1, by omega⟩
    obtain rfl : b = c := by omega
    refine ⟨m, ?_, Fr.rf, hx⟩
    rw [fx_s]
    generalize fx (fun _ _ _ _ _ => none) (b_Sc_search_7 SF) N = K
    unfold b_Sc_search_7
    simp only [cK_0, cK_1, cK_2, kl_2, bd_2, cK_3, cK_4, kl_4, bd_4, cK_5, cK_6, cK_7, kl_7, bd_7, cK_8, cK_25, cK_20, kl_20, bd_20, cK_21, kl_21, bd_21, cK_22, kl_22, bd_22, cK_23, cK_24, kl_24, bd_24, cK_37, cK_38, cK_39, kl_39, bd_39, cK_40, kl_40, bd_40, cK_41, kl_41, bd_41, cK_42, kl_42, bd_42, cK_43, kl_43, bd_43, cK_44, cK_45, kl_45, bd_45, cK_46, kl_46, bd_46, cK_47, kl_47, bd_47, cK_48, cK_49, kl_49, bd_49, cK_90, cK_91, kl_91, bd_91, cK_102, cK_103, kl_103, bd_103, cK_104, kl_104, bd_104, cK_105, kl_105, bd_105, cK_106, kl_106, bd_106, cK_107, kl_107, bd_107, cK_108, kl_108, bd_108, cK_109, kl_109, bd_109, cK_110, kl_110, bd_110, cK_111, kl_111, bd_111, cK_112, kl_112, bd_112, cK_113, kl_113, bd_113, cK_114, kl_114, bd_114, cK_115, kl_115, bd_115, cK_116, kl_116, bd_116, cK_117, kl_117, bd_117, cK_118, kl_118, bd_118, cK_119, kl_119, bd_119, cK_120, kl_120, bd_120, cK_121, kl_121, bd_121, ld_0_0, ld_0_1, ld_0_2, ld_0_3, ld_0_4, ld_0_5, ld_0_6, ld_0_7, ld_0_8, ld_0_9, ld_1_0, ld_3_0, ld_5_0, ld_5_1, ld_5_2, ld_5_3, ld_6_0, ld_6_1, ld_23_0, ld_23_1, ld_38_0, ld_38_1, ld_38_2, ld_38_3, ld_38_4, ld_44_0, ld_44_1, ld_44_2, ld_48_1, ld_90_1, ld_102_3, ld_102_4, ld_102_5, ld_102_8, ld_102_12, ld_102_13, ld_102_14, ld_102_15, ld_102_16, ld_102_17, ld_102_19, ld_102_20, ld_102_21, ld_102_22, ld_102_23, ld_102_25, ld_102_27, ld_102_28, ld_102_30, cK_pl, cK_to, cK_dp, cK_dt, cK_un, cK_ke, ld_pl, ld_to, ld_dp, ld_dt, ld_un, ld_ke, hG.1]
    rw [if_pos (by rw [nI_leI (by omega) (by omega)]; omega)]
  | succ r ih =>
    intro j N m hr hh hN hG hx
    obtain ⟨N, rfl⟩ : ∃ z, N = z + 1 := ⟨N - 1, by omega⟩
    obtain ⟨m1, e1, e2, e3⟩ := sp_sc21 hok hi (show j < c by omega) (x0 := jS c n d P i j) (fx (fun _ _ _ _ _ => none) (b_Sc_search_7 SF) N) (n + 1) 0 FU m rfl (by omega) (by unfold FU; omega) hG (by
      by_cases hji : j = i
      · rw [if_pos hji]; exact hx
      · rw [if_neg hji]; exact hx)
    obtain ⟨m', u1, u2, u3⟩ := ih (j + 1) N m1 (by omega) (by omega) (by omega) (hG.sc hc e2) e3
    refine ⟨m', ?_, e2.tr u2, u3⟩
    rw [fx_s]
    generalize fx (fun _ _ _ _ _ => none) (b_Sc_search_7 SF) N = K at e1 u1 ⊢
    have hlt : ¬ nI c ≤ nI j := by rw [nI_leI (by omega) (by omega)]; omega
    unfold b_Sc_search_7 f_Sc_search_21
    simp (disch := omega) only [oN, Option.bind_some, ↓reduceIte, ifT, ifF, eq_self, reduceCtorEq, cK_0, cK_1, cK_2, kl_2, bd_2, cK_3, cK_4, kl_4, bd_4, cK_5, cK_6, cK_7, kl_7, bd_7, cK_8, cK_25, cK_20, kl_20, bd_20, cK_21, kl_21, bd_21, cK_22, kl_22, bd_22, cK_23, cK_24, kl_24, bd_24, cK_37, cK_38, cK_39, kl_39, bd_39, cK_40, kl_40, bd_40, cK_41, kl_41, bd_41, cK_42, kl_42, bd_42, cK_43, kl_43, bd_43, cK_44, cK_45, kl_45, bd_45, cK_46, kl_46, bd_46, cK_47, kl_47, bd_47, cK_48, cK_49, kl_49, bd_49, cK_90, cK_91, kl_91, bd_91, cK_102, cK_103, kl_103, bd_103, cK_104, kl_104, bd_104, cK_105, kl_105, bd_105, cK_106, kl_106, bd_106, cK_107, kl_107, bd_107, cK_108, kl_108, bd_108, cK_109, kl_109, bd_109, cK_110, kl_110, bd_110, cK_111, kl_111, bd_111, cK_112, kl_112, bd_112, cK_113, kl_113, bd_113, cK_114, kl_114, bd_114, cK_115, kl_115, bd_115, cK_116, kl_116, bd_116, cK_117, kl_117, bd_117, cK_118, kl_118, bd_118, cK_119, kl_119, bd_119, cK_120, kl_120, bd_120, cK_121, kl_121, bd_121, ld_0_0, ld_0_1, ld_0_2, ld_0_3, ld_0_4, ld_0_5, ld_0_6, ld_0_7, ld_0_8, ld_0_9, ld_1_0, ld_3_0, ld_5_0, ld_5_1, ld_5_2, ld_5_3, ld_6_0, ld_6_1, ld_23_0, ld_23_1, ld_38_0, ld_38_1, ld_38_2, ld_38_3, ld_38_4, ld_44_0, ld_44_1, ld_44_2, ld_48_1, ld_90_1, ld_102_3, ld_102_4, ld_102_5, ld_102_8, ld_102_12, ld_102_13, ld_102_14, ld_102_15, ld_102_16, ld_102_17, ld_102_19, ld_102_20, ld_102_21, ld_102_22, ld_102_23, ld_102_25, ld_102_27, ld_102_28, ld_102_30, cK_pl, cK_to, cK_dp, cK_dt, cK_un, cK_ke, ld_pl, ld_to, ld_dp, ld_dt, ld_un, ld_ke, hG.1, hlt, e1, u1]
/-! the reference's -/
theorem b2iT : b2i true = nI 1 := rfl
theorem b2iF : b2i false = nI 0 := rfl
def oMs : Nat → Nat → Prop := fun o k => oMo o k ∨ o = 113
theorem sp_ms_t {m : ba_M} {n d c i w j q t ch : Nat} {x : sfT} (hq : q < 400) (ht : t < 5) (hj : j < 5) (hc : ch ≤ 10) (h18 : gI m 102 18 = nI t) (h111 : gI m 111 t = nI ch) (k29 : Nat → Int32 → Int32 → Int32 → ba_M → Option (Int32 × ba_M)) (k40 : Nat → Int32 → Int32 → Int32 → Int32 → ba_M → Option (Int32 × ba_M)) :
    ∃ m', f_Mo_safe_113 SF k29 k40 102 (nI i) (nI w) (nI j) (nI q) m = k40 102 (nI i) (nI w) (nI j) (nI (q + 1)) m' ∧ Fr (fun o _ => o = 113) m m' ∧ BM m' (some (j, q / 9, 1 + (q - q / 9 * 9), ch)) := by
  refine ⟨wI (wI (wI (wI m 113 0 (nI j)) 113 1 (nI (q / 9))) 113 2 (nI (1 + (q - q / 9 * 9)))) 113 3 (nI ch), ?_, (((Fr.rf.w (by rfl)).w (by rfl)).w (by rfl)).w (by rfl), ?_, ?_, ?_, ?_, hj, hc⟩
  · unfold f_Mo_safe_113 f_Mo_safe_118 f_Mo_safe_140 f_Mo_safe_165 f_Mo_safe_192 f_Mo_safe_221
    simp (disch := omega) only [oN, Option.bind_some, ↓reduceIte, ifT, ifF, eq_self, reduceCtorEq, cK_0, cK_1, cK_2, kl_2, bd_2, cK_3, cK_4, kl_4, bd_4, cK_5, cK_6, cK_7, kl_7, bd_7, cK_8, cK_25, cK_20, kl_20, bd_20, cK_21, kl_21, bd_21, cK_22, kl_22, bd_22, cK_23, cK_24, kl_24, bd_24, cK_37, cK_38, cK_39, kl_39, bd_39, cK_40, kl_40, bd_40, cK_41, kl_41, bd_41, cK_42, kl_42, bd_42, cK_43, kl_43, bd_43, cK_44, cK_45, kl_45, bd_45, cK_46, kl_46, bd_46, cK_47, kl_47, bd_47, cK_48, cK_49, kl_49, bd_49, cK_90, cK_91, kl_91, bd_91, cK_102, cK_103, kl_103, bd_103, cK_104, kl_104, bd_104, cK_105, kl_105, bd_105, cK_106, kl_106, bd_106, cK_107, kl_107, bd_107, cK_108, kl_108, bd_108, cK_109, kl_109, bd_109, cK_110, kl_110, bd_110, cK_111, kl_111, bd_111, cK_112, kl_112, bd_112, cK_113, kl_113, bd_113, cK_114, kl_114, bd_114, cK_115, kl_115, bd_115, cK_116, kl_116, bd_116, cK_117, kl_117, bd_117, cK_118, kl_118, bd_118, cK_119, kl_119, bd_119, cK_120, kl_120, bd_120, cK_121, kl_121, bd_121, ld_0_0, ld_0_1, ld_0_2, ld_0_3, ld_0_4, ld_0_5, ld_0_6, ld_0_7, ld_0_8, ld_0_9, ld_1_0, ld_3_0, ld_5_0, ld_5_1, ld_5_2, ld_5_3, ld_6_0, ld_6_1, ld_23_0, ld_23_1, ld_38_0, ld_38_1, ld_38_2, ld_38_3, ld_38_4, ld_44_0, ld_44_1, ld_44_2, ld_48_1, ld_90_1, ld_102_3, ld_102_4, ld_102_5, ld_102_8, ld_102_12, ld_102_13, ld_102_14, ld_102_15, ld_102_16, ld_102_17, ld_102_19, ld_102_20, ld_102_21, ld_102_22, ld_102_23, ld_102_25, ld_102_27, ld_102_28, ld_102_30, cK_pl, cK_to, cK_dp, cK_dt, cK_un, cK_ke, ld_pl, ld_to, ld_dp, ld_dt, ld_un, ld_ke, b2iT, b2iF, z0, nI_eq, pk_div, pk_mul, pk_sub, nI_add, nI_clamp, gI_n, h18, h111]
  · rw [gI_n _ _ _ _ _ _ (by omega), gI_n _ _ _ _ _ _ (by omega), gI_n _ _ _ _ _ _ (by omega), gI_s]
  · rw [gI_n _ _ _ _ _ _ (by omega), gI_n _ _ _ _ _ _ (by omega), gI_s]
  · rw [gI_n _ _ _ _ _ _ (by omega), gI_s]
  · rw [gI_s]
theorem own_w {m : ba_M} {o k a b : Nat} : gI (wI m o k (gI m o k)) a b = gI m a b := by
  by_cases h : o = a ∧ k = b
  · obtain ⟨rfl, rfl⟩ := h; rw [gI_s]
  · exact gI_n _ _ _ _ _ _ (by omega)
theorem sp_ms_f {m : ba_M} {i w j q : Nat} {x : sfT} (hx : BM m x) (k29 : Nat → Int32 → Int32 → Int32 → ba_M → Option (Int32 × ba_M)) (k40 : Nat → Int32 → Int32 → Int32 → Int32 → ba_M → Option (Int32 × ba_M)) :
    ∃ m', f_Mo_safe_117 SF k29 k40 102 (nI i) (nI w) (nI j) (nI q) m = k40 102 (nI i) (nI w) (nI j) (nI (q + 1)) m' ∧ Fr (fun o _ => o = 113) m m' ∧ BM m' x := by
  obtain ⟨m1, h1⟩ : ∃ m1, m1 = wI m 113 0 (gI m 113 0) := ⟨_, rfl⟩
  obtain ⟨m2, h2⟩ : ∃ m2, m2 = wI m1 113 1 (gI m1 113 1) := ⟨_, rfl⟩
  obtain ⟨m3, h3⟩ : ∃ m3, m3 = wI m2 113 2 (gI m2 113 2) := ⟨_, rfl⟩
  have e1 : ∀ a b, gI m1 a b = gI m a b := fun a b => by rw [h1]; exact own_w
  have e2 : ∀ a b, gI m2 a b = gI m a b := fun a b => by rw [h2, own_w]; exact e1 a b
  have e3 : ∀ a b, gI m3 a b = gI m a b := fun a b => by rw [h3, own_w]; exact e2 a b
  have e4 : ∀ a b, gI (wI m3 113 3 (gI m3 113 3)) a b = gI m a b := fun a b => by rw [own_w]; exact e3 a b
  refine ⟨wI m3 113 3 (gI m3 113 3), ?_, ?_, ?_⟩
  · unfold f_Mo_safe_117 f_Mo_safe_118 f_Mo_safe_140 f_Mo_safe_165 f_Mo_safe_192 f_Mo_safe_221
    simp (disch := omega) only [oN, Option.bind_some, ↓reduceIte, ifT, ifF, eq_self, reduceCtorEq, cK_0, cK_1, cK_2, kl_2, bd_2, cK_3, cK_4, kl_4, bd_4, cK_5, cK_6, cK_7, kl_7, bd_7, cK_8, cK_25, cK_20, kl_20, bd_20, cK_21, kl_21, bd_21, cK_22, kl_22, bd_22, cK_23, cK_24, kl_24, bd_24, cK_37, cK_38, cK_39, kl_39, bd_39, cK_40, kl_40, bd_40, cK_41, kl_41, bd_41, cK_42, kl_42, bd_42, cK_43, kl_43, bd_43, cK_44, cK_45, kl_45, bd_45, cK_46, kl_46, bd_46, cK_47, kl_47, bd_47, cK_48, cK_49, kl_49, bd_49, cK_90, cK_91, kl_91, bd_91, cK_102, cK_103, kl_103, bd_103, cK_104, kl_104, bd_104, cK_105, kl_105, bd_105, cK_106, kl_106, bd_106, cK_107, kl_107, bd_107, cK_108, kl_108, bd_108, cK_109, kl_109, bd_109, cK_110, kl_110, bd_110, cK_111, kl_111, bd_111, cK_112, kl_112, bd_112, cK_113, kl_113, bd_113, cK_114, kl_114, bd_114, cK_115, kl_115, bd_115, cK_116, kl_116, bd_116, cK_117, kl_117, bd_117, cK_118, kl_118, bd_118, cK_119, kl_119, bd_119, cK_120, kl_120, bd_120, cK_121, kl_121, bd_121, ld_0_0, ld_0_1, ld_0_2, ld_0_3, ld_0_4, ld_0_5, ld_0_6, ld_0_7, ld_0_8, ld_0_9, ld_1_0, ld_3_0, ld_5_0, ld_5_1, ld_5_2, ld_5_3, ld_6_0, ld_6_1, ld_23_0, ld_23_1, ld_38_0, ld_38_1, ld_38_2, ld_38_3, ld_38_4, ld_44_0, ld_44_1, ld_44_2, ld_48_1, ld_90_1, ld_102_3, ld_102_4, ld_102_5, ld_102_8, ld_102_12, ld_102_13, ld_102_14, ld_102_15, ld_102_16, ld_102_17, ld_102_19, ld_102_20, ld_102_21, ld_102_22, ld_102_23, ld_102_25, ld_102_27, ld_102_28, ld_102_30, cK_pl, cK_to, cK_dp, cK_dt, cK_un, cK_ke, ld_pl, ld_to, ld_dp, ld_dt, ld_un, ld_ke, Bool.false_eq_true, b2iT, b2iF, z0, nI_clamp, nI_add, ← h1, ← h2, ← h3]
  · rw [h3, h2, h1]
    exact (((Fr.rf.w (by rfl)).w (by rfl)).w (by rfl)).w (by rfl)
  · cases x with
    | none => unfold BM at hx ⊢; rw [e4]; exact hx
    | some y => unfold BM at hx ⊢; rw [e4, e4, e4, e4]; exact hx
theorem GM.ms {m m' : ba_M} {c n d : Nat} {P T : ba_T} (hG : GM m c n d P T) (hc : c ≤ 5) (h : Fr oMs m m') : GM m' c n d P T := hG.fr hc h (by intro o k ho; simp only [oMs, oMo] at ho; omega)
theorem sp_ms40 {c n d i w j : Nat} {P T : ba_T} (hok : okG c n d P T) (hi : i < c) (hj : j < c) {x0 : sfT} (hji : j ≠ i) (k29 : Nat → Int32 → Int32 → Int32 → ba_M → Option (Int32 × ba_M)) : ∀ (r q N : Nat) (m : ba_M), 9 * (n + 1) - q = r → q ≤ 9 * (n + 1) → r < N → GM m c n d P T → BM m (qS c n d P i j x0 q) →
    ∃ m', fx (fun _ _ _ _ _ _ => none) (b_Mo_safe_40 SF k29) N 102 (nI i) (nI w) (nI j) (nI q) m = k29 102 (nI i) (nI w) (nI (j + 1)) m' ∧ Fr oMs m m' ∧ BM m' (qS c n d P i j x0 (9 * (n + 1))) := by
  obtain ⟨⟨o1, o2, o3, o4, o5⟩, o6, o7⟩ := id hok
  have hne : ¬ nI j = nI i := fun e => hji (nI_inj (by omega) (by omega) e)
  intro r
  induction r with
  | zero =>
    intro q N m hr hh hN hG hx
    obtain ⟨N, rfl⟩ : ∃ z, N = z + 1 := ⟨N - 1, by omega⟩
    obtain rfl : q = 9 * (n + 1) := by omega
    refine ⟨m, ?_, Fr.rf, hx⟩
    rw [fx_s]
    generalize fx (fun _ _ _ _ _ _ => none) (b_Mo_safe_40 SF k29) N = K
    unfold b_Mo_safe_40 f_Mo_safe_228
    have hle : nI (9 * (n + 1)) ≤ nI (9 * (n + 1)) := by rw [nI_leI (by omega) (by omega)]; omega
    simp (disch := omega) only [oN, Option.bind_some, ↓reduceIte, ifT, ifF, eq_self, reduceCtorEq, hG.2.1, nI_add, pk_mul, hne, hle]
  | succ r ih =>
    intro q N m hr hh hN hG hx
    obtain ⟨N, rfl⟩ : ∃ z, N = z + 1 := ⟨N - 1, by omega⟩
    have hle : ¬ nI (9 * (n + 1)) ≤ nI q := by rw [nI_leI (by omega) (by omega)]; omega
    obtain ⟨m1, e1, e2, e3⟩ := sp_goBy hG hok hj (b := q / 9) (h := 1 + (q - q / 9 * 9)) (by omega) (by omega)
    obtain ⟨t, g1, g2, g3⟩ := tg_of hok (j := j) (b := q / 9) (bt := bts (P j 0) (P j 1) (q / 9) (1 + (q - q / 9 * 9)))
    have r3 := e3.2.2
    rw [g1] at r3
    have h18 : gI m1 102 18 = nI t := r3
    have h111 := (e3.2.1 t g2 g3).1
    have hst : qS c n d P i j x0 (q + 1) = tkS (qS c n d P i j x0 q) i t j (q / 9) (1 + (q - q / 9 * 9)) (cgF c n d P j (q / 9) (bts (P j 0) (P j 1) (q / 9) (1 + (q - q / 9 * 9))) t) := by
      show stS c n d P i (qS c n d P i j x0 q) j (q / 9) (1 + (q - q / 9 * 9)) = _
      unfold stS tgS; rw [g1]
    have hc10 : cgF c n d P j (q / 9) (bts (P j 0) (P j 1) (q / 9) (1 + (q - q / 9 * 9))) t ≤ 10 := chF_le
    have hih := ih (q + 1) N
    rw [hst] at hih
    have hx1 := hx.fr e2
    clear g1 e3 hst hx r3
    generalize cgF c n d P j (q / 9) (bts (P j 0) (P j 1) (q / 9) (1 + (q - q / 9 * 9))) t = ch at h111 hc10 hih
    have hF1 : Fr oMs m m1 := e2.up (fun o k h => Or.inl h)
    generalize qS c n d P i j x0 q = x at hx1 hih
    rw [fx_s]
    generalize fx (fun _ _ _ _ _ _ => none) (b_Mo_safe_40 SF k29) N = K at hih ⊢
    have base : ∀ R, (if gI m1 102 18 = nI i then f_Mo_safe_117 SF k29 K 102 (nI i) (nI w) (nI j) (nI q) m1 else if gI m1 113 0 = (-4 : Int32) then f_Mo_safe_113 SF k29 K 102 (nI i) (nI w) (nI j) (nI q) m1 else if gI m1 113 3 ≤ nI ch then f_Mo_safe_117 SF k29 K 102 (nI i) (nI w) (nI j) (nI q) m1 else f_Mo_safe_113 SF k29 K 102 (nI i) (nI w) (nI j) (nI q) m1) = R → b_Mo_safe_40 SF k29 K 102 (nI i) (nI w) (nI j) (nI q) m = R := by
      intro R hR
      rw [← hR]
      unfold b_Mo_safe_40
      simp (disch := omega) only [oN, Option.bind_some, ↓reduceIte, ifT, ifF, eq_self, reduceCtorEq, cK_0, cK_1, cK_2, kl_2, bd_2, cK_3, cK_4, kl_4, bd_4, cK_5, cK_6, cK_7, kl_7, bd_7, cK_8, cK_25, cK_20, kl_20, bd_20, cK_21, kl_21, bd_21, cK_22, kl_22, bd_22, cK_23, cK_24, kl_24, bd_24, cK_37, cK_38, cK_39, kl_39, bd_39, cK_40, kl_40, bd_40, cK_41, kl_41, bd_41, cK_42, kl_42, bd_42, cK_43, kl_43, bd_43, cK_44, cK_45, kl_45, bd_45, cK_46, kl_46, bd_46, cK_47, kl_47, bd_47, cK_48, cK_49, kl_49, bd_49, cK_90, cK_91, kl_91, bd_91, cK_102, cK_103, kl_103, bd_103, cK_104, kl_104, bd_104, cK_105, kl_105, bd_105, cK_106, kl_106, bd_106, cK_107, kl_107, bd_107, cK_108, kl_108, bd_108, cK_109, kl_109, bd_109, cK_110, kl_110, bd_110, cK_111, kl_111, bd_111, cK_112, kl_112, bd_112, cK_113, kl_113, bd_113, cK_114, kl_114, bd_114, cK_115, kl_115, bd_115, cK_116, kl_116, bd_116, cK_117, kl_117, bd_117, cK_118, kl_118, bd_118, cK_119, kl_119, bd_119, cK_120, kl_120, bd_120, cK_121, kl_121, bd_121, ld_0_0, ld_0_1, ld_0_2, ld_0_3, ld_0_4, ld_0_5, ld_0_6, ld_0_7, ld_0_8, ld_0_9, ld_1_0, ld_3_0, ld_5_0, ld_5_1, ld_5_2, ld_5_3, ld_6_0, ld_6_1, ld_23_0, ld_23_1, ld_38_0, ld_38_1, ld_38_2, ld_38_3, ld_38_4, ld_44_0, ld_44_1, ld_44_2, ld_48_1, ld_90_1, ld_102_3, ld_102_4, ld_102_5, ld_102_8, ld_102_12, ld_102_13, ld_102_14, ld_102_15, ld_102_16, ld_102_17, ld_102_19, ld_102_20, ld_102_21, ld_102_22, ld_102_23, ld_102_25, ld_102_27, ld_102_28, ld_102_30, cK_pl, cK_to, cK_dp, cK_dt, cK_un, cK_ke, ld_pl, ld_to, ld_dp, ld_dt, ld_un, ld_ke, hne, hG.2.1, nI_add, pk_mul, hle, z0, nI_eq, pk_div, pk_sub, e1, nI_clamp, h18, h111]
    have tk : ∀ x', tkS x i t j (q / 9) (1 + (q - q / 9 * 9)) ch = x' → (∃ m2, (if gI m1 102 18 = nI i then f_Mo_safe_117 SF k29 K 102 (nI i) (nI w) (nI j) (nI q) m1 else if gI m1 113 0 = (-4 : Int32) then f_Mo_safe_113 SF k29 K 102 (nI i) (nI w) (nI j) (nI q) m1 else if gI m1 113 3 ≤ nI ch then f_Mo_safe_117 SF k29 K 102 (nI i) (nI w) (nI j) (nI q) m1 else f_Mo_safe_113 SF k29 K 102 (nI i) (nI w) (nI j) (nI q) m1) = K 102 (nI i) (nI w) (nI j) (nI (q + 1)) m2 ∧ Fr (fun o _ => o = 113) m1 m2 ∧ BM m2 x') := by
      intro x' hx'
      by_cases ht : t = i
      · obtain ⟨m2, y1, y2, y3⟩ := sp_ms_f (i := i) (w := w) (j := j) (q := q) hx1 k29 K
        refine ⟨m2, ?_, y2, ?_⟩
        · rw [if_pos (by rw [h18, ht]), y1]
        · rw [← hx']; unfold tkS; rw [if_pos ht]; exact y3
      · have hnt : ¬ gI m1 102 18 = nI i := by rw [h18]; exact fun e => ht (nI_inj (by omega) (by omega) e)
        rw [if_neg hnt]
        cases x with
        | none =>
          obtain ⟨m2, y1, y2, y3⟩ := sp_ms_t (n := n) (d := d) (c := c) (i := i) (w := w) (x := none) (show q < 400 by omega) (show t < 5 by omega) (show j < 5 by omega) hc10 h18 h111 k29 K
          refine ⟨m2, ?_, y2, ?_⟩
          · rw [if_pos (show gI m1 113 0 = -4 from hx1), y1]
          · rw [← hx']; unfold tkS; rw [if_neg ht]; exact y3
        | some y =>
          obtain ⟨a1, a2, a3, a4, a5, a6⟩ := id hx1
          have hnn : ¬ gI m1 113 0 = (-4 : Int32) := by rw [a1]; exact nI_nneg (by omega) _ (by decide)
          rw [if_neg hnn, a4]
          by_cases hl : y.2.2.2 ≤ ch
          · obtain ⟨m2, y1, y2, y3⟩ := sp_ms_f (i := i) (w := w) (j := j) (q := q) hx1 k29 K
            refine ⟨m2, ?_, y2, ?_⟩
            · rw [if_pos ((nI_leI (by omega) (by omega)).mpr hl), y1]
            · rw [← hx']; unfold tkS; rw [if_neg ht]; simp only [if_pos hl]; exact y3
          · obtain ⟨m2, y1, y2, y3⟩ := sp_ms_t (n := n) (d := d) (c := c) (i := i) (w := w) (x := none) (show q < 400 by omega) (show t < 5 by omega) (show j < 5 by omega) hc10 h18 h111 k29 K
            refine ⟨m2, ?_, y2, ?_⟩
            · rw [if_neg (fun h => hl ((nI_leI (by omega) (by omega)).mp h)), y1]
            · rw [← hx']; unfold tkS; rw [if_neg ht]; simp only [if_neg hl]; exact y3
    obtain ⟨m2, y1, y2, y3⟩ := tk _ rfl
    have hF2 : Fr oMs m m2 := hF1.tr (y2.up (fun o k h => Or.inr h))
    obtain ⟨m', u1, u2, u3⟩ := hih m2 (by omega) (by omega) (by omega) (hG.ms o2 hF2) y3
    exact ⟨m', (base _ y1).trans u1, hF2.tr u2, u3⟩
def sfA (x : sfT) (w : Nat) : Int32 := match x with
  | none => -4
  | some y => if w = 0 then nI y.1 else if w = 1 then nI y.2.1 else if w = 2 then nI y.2.2.1 else nI y.2.2.2
theorem sp_ms29 {c n d i w : Nat} {P T : ba_T} (hok : okG c n d P T) (hi : i < c) (hw : w < 4) : ∀ (r j N : Nat) (m : ba_M), c - j = r → j ≤ c → r < N → GM m c n d P T → BM m (jS c n d P i j) →
    ∃ m', fx (fun _ _ _ _ _ => none) (b_Mo_safe_29 SF) N 102 (nI i) (nI w) (nI j) m = some (sfA (jS c n d P i c) w, m') ∧ Fr oMs m m' := by
  obtain ⟨⟨o1, o2, o3, o4, o5⟩, o6, o7⟩ := id hok
  intro r
  induction r with
  | zero =>
    intro j N m hr hh hN hG hx
    obtain ⟨N, rfl⟩ : ∃ z, N = z + 1 := ⟨N - 1, by omega⟩
    obtain rfl : j = c := by omega
    refine ⟨m, ?_, Fr.rf⟩
    rw [fx_s]
    generalize fx (fun _ _ _ _ _ => none) (b_Mo_safe_29 SF) N = K
    unfold b_Mo_safe_29 f_Mo_safe_256
    rw [hG.1, if_pos (by rw [nI_leI (by omega) (by omega)]; omega)]
    cases hjs : jS j n d P i j with
    | none =>
      rw [hjs] at hx
      have hx' : gI m 113 0 = -4 := hx
      simp (disch := omega) only [oN, Option.bind_some, ↓reduceIte, ifT, ifF, eq_self, reduceCtorEq, cK_0, cK_1, cK_2, kl_2, bd_2, cK_3, cK_4, kl_4, bd_4, cK_5, cK_6, cK_7, kl_7, bd_7, cK_8, cK_25, cK_20, kl_20, bd_20, cK_21, kl_21, bd_21, cK_22, kl_22, bd_22, cK_23, cK_24, kl_24, bd_24, cK_37, cK_38, cK_39, kl_39, bd_39, cK_40, kl_40, bd_40, cK_41, kl_41, bd_41, cK_42, kl_42, bd_42, cK_43, kl_43, bd_43, cK_44, cK_45, kl_45, bd_45, cK_46, kl_46, bd_46, cK_47, kl_47, bd_47, cK_48, cK_49, kl_49, bd_49, cK_90, cK_91, kl_91, bd_91, cK_102, cK_103, kl_103, bd_103, cK_104, kl_104, bd_104, cK_105, kl_105, bd_105, cK_106, kl_106, bd_106, cK_107, kl_107, bd_107, cK_108, kl_108, bd_108, cK_109, kl_109, bd_109, cK_110, kl_110, bd_110, cK_111, kl_111, bd_111, cK_112, kl_112, bd_112, cK_113, kl_113, bd_113, cK_114, kl_114, bd_114, cK_115, kl_115, bd_115, cK_116, kl_116, bd_116, cK_117, kl_117, bd_117, cK_118, kl_118, bd_118, cK_119, kl_119, bd_119, cK_120, kl_120, bd_120, cK_121, kl_121, bd_121, ld_0_0, ld_0_1, ld_0_2, ld_0_3, ld_0_4, ld_0_5, ld_0_6, ld_0_7, ld_0_8, ld_0_9, ld_1_0, ld_3_0, ld_5_0, ld_5_1, ld_5_2, ld_5_3, ld_6_0, ld_6_1, ld_23_0, ld_23_1, ld_38_0, ld_38_1, ld_38_2, ld_38_3, ld_38_4, ld_44_0, ld_44_1, ld_44_2, ld_48_1, ld_90_1, ld_102_3, ld_102_4, ld_102_5, ld_102_8, ld_102_12, ld_102_13, ld_102_14, ld_102_15, ld_102_16, ld_102_17, ld_102_19, ld_102_20, ld_102_21, ld_102_22, ld_102_23, ld_102_25, ld_102_27, ld_102_28, ld_102_30, cK_pl, cK_to, cK_dp, cK_dt, cK_un, cK_ke, ld_pl, ld_to, ld_dp, ld_dt, ld_un, ld_ke, nI_clamp, hx', sfA]
    | some y =>
      rw [hjs] at hx
      obtain ⟨a1, a2, a3, a4, a5, a6⟩ := id hx
      have hnn : ¬ nI y.1 = (-4 : Int32) := nI_nneg (by omega) _ (by decide)
      match w, hw with
      | 0, _ => simp (disch := omega) only [oN, Option.bind_some, ↓reduceIte, ifT, ifF, eq_self, reduceCtorEq, cK_0, cK_1, cK_2, kl_2, bd_2, cK_3, cK_4, kl_4, bd_4, cK_5, cK_6, cK_7, kl_7, bd_7, cK_8, cK_25, cK_20, kl_20, bd_20, cK_21, kl_21, bd_21, cK_22, kl_22, bd_22, cK_23, cK_24, kl_24, bd_24, cK_37, cK_38, cK_39, kl_39, bd_39, cK_40, kl_40, bd_40, cK_41, kl_41, bd_41, cK_42, kl_42, bd_42, cK_43, kl_43, bd_43, cK_44, cK_45, kl_45, bd_45, cK_46, kl_46, bd_46, cK_47, kl_47, bd_47, cK_48, cK_49, kl_49, bd_49, cK_90, cK_91, kl_91, bd_91, cK_102, cK_103, kl_103, bd_103, cK_104, kl_104, bd_104, cK_105, kl_105, bd_105, cK_106, kl_106, bd_106, cK_107, kl_107, bd_107, cK_108, kl_108, bd_108, cK_109, kl_109, bd_109, cK_110, kl_110, bd_110, cK_111, kl_111, bd_111, cK_112, kl_112, bd_112, cK_113, kl_113, bd_113, cK_114, kl_114, bd_114, cK_115, kl_115, bd_115, cK_116, kl_116, bd_116, cK_117, kl_117, bd_117, cK_118, kl_118, bd_118, cK_119, kl_119, bd_119, cK_120, kl_120, bd_120, cK_121, kl_121, bd_121, ld_0_0, ld_0_1, ld_0_2, ld_0_3, ld_0_4, ld_0_5, ld_0_6, ld_0_7, ld_0_8, ld_0_9, ld_1_0, ld_3_0, ld_5_0, ld_5_1, ld_5_2, ld_5_3, ld_6_0, ld_6_1, ld_23_0, ld_23_1, ld_38_0, ld_38_1, ld_38_2, ld_38_3, ld_38_4, ld_44_0, ld_44_1, ld_44_2, ld_48_1, ld_90_1, ld_102_3, ld_102_4, ld_102_5, ld_102_8, ld_102_12, ld_102_13, ld_102_14, ld_102_15, ld_102_16, ld_102_17, ld_102_19, ld_102_20, ld_102_21, ld_102_22, ld_102_23, ld_102_25, ld_102_27, ld_102_28, ld_102_30, cK_pl, cK_to, cK_dp, cK_dt, cK_un, cK_ke, ld_pl, ld_to, ld_dp, ld_dt, ld_un, ld_ke, nI_clamp, a1, hnn, sfA]
      | 1, _ => simp (disch := omega) only [oN, Option.bind_some, ↓reduceIte, ifT, ifF, eq_self, reduceCtorEq, cK_0, cK_1, cK_2, kl_2, bd_2, cK_3, cK_4, kl_4, bd_4, cK_5, cK_6, cK_7, kl_7, bd_7, cK_8, cK_25, cK_20, kl_20, bd_20, cK_21, kl_21, bd_21, cK_22, kl_22, bd_22, cK_23, cK_24, kl_24, bd_24, cK_37, cK_38, cK_39, kl_39, bd_39, cK_40, kl_40, bd_40, cK_41, kl_41, bd_41, cK_42, kl_42, bd_42, cK_43, kl_43, bd_43, cK_44, cK_45, kl_45, bd_45, cK_46, kl_46, bd_46, cK_47, kl_47, bd_47, cK_48, cK_49, kl_49, bd_49, cK_90, cK_91, kl_91, bd_91, cK_102, cK_103, kl_103, bd_103, cK_104, kl_104, bd_104, cK_105, kl_105, bd_105, cK_106, kl_106, bd_106, cK_107, kl_107, bd_107, cK_108, kl_108, bd_108, cK_109, kl_109, bd_109, cK_110, kl_110, bd_110, cK_111, kl_111, bd_111, cK_112, kl_112, bd_112, cK_113, kl_113, bd_113, cK_114, kl_114, bd_114, cK_115, kl_115, bd_115, cK_116, kl_116, bd_116, cK_117, kl_117, bd_117, cK_118, kl_118, bd_118, cK_119, kl_119, bd_119, cK_120, kl_120, bd_120, cK_121, kl_121, bd_121, ld_0_0, ld_0_1, ld_0_2, ld_0_3, ld_0_4, ld_0_5, ld_0_6, ld_0_7, ld_0_8, ld_0_9, ld_1_0, ld_3_0, ld_5_0, ld_5_1, ld_5_2, ld_5_3, ld_6_0, ld_6_1, ld_23_0, ld_23_1, ld_38_0, ld_38_1, ld_38_2, ld_38_3, ld_38_4, ld_44_0, ld_44_1, ld_44_2, ld_48_1, ld_90_1, ld_102_3, ld_102_4, ld_102_5, ld_102_8, ld_102_12, ld_102_13, ld_102_14, ld_102_15, ld_102_16, ld_102_17, ld_102_19, ld_102_20, ld_102_21, ld_102_22, ld_102_23, ld_102_25, ld_102_27, ld_102_28, ld_102_30, cK_pl, cK_to, cK_dp, cK_dt, cK_un, cK_ke, ld_pl, ld_to, ld_dp, ld_dt, ld_un, ld_ke, nI_clamp, a1, a2, hnn, sfA]
      | 2, _ => simp (disch := omega) only [oN, Option.bind_some, ↓reduceIte, ifT, ifF, eq_self, reduceCtorEq, cK_0, cK_1, cK_2, kl_2, bd_2, cK_3, cK_4, kl_4, bd_4, cK_5, cK_6, cK_7, kl_7, bd_7, cK_8, cK_25, cK_20, kl_20, bd_20, cK_21, kl_21, bd_21, cK_22, kl_22, bd_22, cK_23, cK_24, kl_24, bd_24, cK_37, cK_38, cK_39, kl_39, bd_39, cK_40, kl_40, bd_40, cK_41, kl_41, bd_41, cK_42, kl_42, bd_42, cK_43, kl_43, bd_43, cK_44, cK_45, kl_45, bd_45, cK_46, kl_46, bd_46, cK_47, kl_47, bd_47, cK_48, cK_49, kl_49, bd_49, cK_90, cK_91, kl_91, bd_91, cK_102, cK_103, kl_103, bd_103, cK_104, kl_104, bd_104, cK_105, kl_105, bd_105, cK_106, kl_106, bd_106, cK_107, kl_107, bd_107, cK_108, kl_108, bd_108, cK_109, kl_109, bd_109, cK_110, kl_110, bd_110, cK_111, kl_111, bd_111, cK_112, kl_112, bd_112, cK_113, kl_113, bd_113, cK_114, kl_114, bd_114, cK_115, kl_115, bd_115, cK_116, kl_116, bd_116, cK_117, kl_117, bd_117, cK_118, kl_118, bd_118, cK_119, kl_119, bd_119, cK_120, kl_120, bd_120, cK_121, kl_121, bd_121, ld_0_0, ld_0_1, ld_0_2, ld_0_3, ld_0_4, ld_0_5, ld_0_6, ld_0_7, ld_0_8, ld_0_9, ld_1_0, ld_3_0, ld_5_0, ld_5_1, ld_5_2, ld_5_3, ld_6_0, ld_6_1, ld_23_0, ld_23_1, ld_38_0, ld_38_1, ld_38_2, ld_38_3, ld_38_4, ld_44_0, ld_44_1, ld_44_2, ld_48_1, ld_90_1, ld_102_3, ld_102_4, ld_102_5, ld_102_8, ld_102_12, ld_102_13, ld_102_14, ld_102_15, ld_102_16, ld_102_17, ld_102_19, ld_102_20, ld_102_21, ld_102_22, ld_102_23, ld_102_25, ld_102_27, ld_102_28, ld_102_30, cK_pl, cK_to, cK_dp, cK_dt, cK_un, cK_ke, ld_pl, ld_to, ld_dp, ld_dt, ld_un, ld_ke, nI_clamp, a1, a3, hnn, sfA]
      | 3, _ => simp (disch := omega) only [oN, Option.bind_some, ↓reduceIte, ifT, ifF, eq_self, reduceCtorEq, cK_0, cK_1, cK_2, kl_2, bd_2, cK_3, cK_4, kl_4, bd_4, cK_5, cK_6, cK_7, kl_7, bd_7, cK_8, cK_25, cK_20, kl_20, bd_20, cK_21, kl_21, bd_21, cK_22, kl_22, bd_22, cK_23, cK_24, kl_24, bd_24, cK_37, cK_38, cK_39, kl_39, bd_39, cK_40, kl_40, bd_40, cK_41, kl_41, bd_41, cK_42, kl_42, bd_42, cK_43, kl_43, bd_43, cK_44, cK_45, kl_45, bd_45, cK_46, kl_46, bd_46, cK_47, kl_47, bd_47, cK_48, cK_49, kl_49, bd_49, cK_90, cK_91, kl_91, bd_91, cK_102, cK_103, kl_103, bd_103, cK_104, kl_104, bd_104, cK_105, kl_105, bd_105, cK_106, kl_106, bd_106, cK_107, kl_107, bd_107, cK_108, kl_108, bd_108, cK_109, kl_109, bd_109, cK_110, kl_110, bd_110, cK_111, kl_111, bd_111, cK_112, kl_112, bd_112, cK_113, kl_113, bd_113, cK_114, kl_114, bd_114, cK_115, kl_115, bd_115, cK_116, kl_116, bd_116, cK_117, kl_117, bd_117, cK_118, kl_118, bd_118, cK_119, kl_119, bd_119, cK_120, kl_120, bd_120, cK_121, kl_121, bd_121, ld_0_0, ld_0_1, ld_0_2, ld_0_3, ld_0_4, ld_0_5, ld_0_6, ld_0_7, ld_0_8, ld_0_9, ld_1_0, ld_3_0, ld_5_0, ld_5_1, ld_5_2, ld_5_3, ld_6_0, ld_6_1, ld_23_0, ld_23_1, ld_38_0, ld_38_1, ld_38_2, ld_38_3, ld_38_4, ld_44_0, ld_44_1, ld_44_2, ld_48_1, ld_90_1, ld_102_3, ld_102_4, ld_102_5, ld_102_8, ld_102_12, ld_102_13, ld_102_14, ld_102_15, ld_102_16, ld_102_17, ld_102_19, ld_102_20, ld_102_21, ld_102_22, ld_102_23, ld_102_25, ld_102_27, ld_102_28, ld_102_30, cK_pl, cK_to, cK_dp, cK_dt, cK_un, cK_ke, ld_pl, ld_to, ld_dp, ld_dt, ld_un, ld_ke, nI_clamp, a1, a4, hnn, sfA]
  | succ r ih =>
    intro j N m hr hh hN hG hx
    obtain ⟨N, rfl⟩ : ∃ z, N = z + 1 := ⟨N - 1, by omega⟩
    have hlt : ¬ nI c ≤ nI j := by rw [nI_leI (by omega) (by omega)]; omega
    by_cases hji : j = i
    · obtain ⟨m', u1, u2⟩ := ih (j + 1) N m (by omega) (by omega) (by omega) hG (by unfold jS; rw [if_pos hji]; exact hx)
      refine ⟨m', ?_, u2⟩
      rw [fx_s]
      generalize fx (fun _ _ _ _ _ => none) (b_Mo_safe_29 SF) N = K at u1 ⊢
      unfold b_Mo_safe_29 f_Mo_safe_40
      rw [hG.1, if_neg hlt, FU_s, fx_s]
      generalize fx (fun _ _ _ _ _ _ => none) (b_Mo_safe_40 SF K) 9999 = K2
      unfold b_Mo_safe_40 f_Mo_safe_228
      rw [if_pos (by rw [hji]), nI_add, u1]
    · obtain ⟨m1, e1, e2, e3⟩ := sp_ms40 (w := w) hok hi (show j < c by omega) (x0 := jS c n d P i j) hji (fx (fun _ _ _ _ _ => none) (b_Mo_safe_29 SF) N) (9 * (n + 1)) 0 FU m rfl (by omega) (by unfold FU; omega) hG hx
      obtain ⟨m', u1, u2⟩ := ih (j + 1) N m1 (by omega) (by omega) (by omega) (hG.ms o2 e2) (by unfold jS; rw [if_neg hji]; exact e3)
      refine ⟨m', ?_, e2.tr u2⟩
      rw [fx_s]
      generalize fx (fun _ _ _ _ _ => none) (b_Mo_safe_29 SF) N = K at e1 u1 ⊢
      unfold b_Mo_safe_29 f_Mo_safe_40
      rw [hG.1, if_neg hlt, e1, u1]
