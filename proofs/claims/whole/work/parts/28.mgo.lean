/-- where all stand, from where it is thrown -/
abbrev stF (n d : Nat) (P : ba_T) (j b bt : Nat) : Nat → Nat := fun k => st1 n d P j b bt (P k 4) k
abbrev tcF (n d : Nat) (P : ba_T) (j b bt : Nat) : Nat → Nat := fun k => tw (stF n d P j b bt k) b 3
abbrev cgF (c n d : Nat) (P : ba_T) (j b bt : Nat) : Nat → Nat := chF c P (fun k => P k 4) (stF n d P j b bt) (tcF n d P j b bt) j
def RM (m : ba_M) (c n d : Nat) (P : ba_T) (j b bt : Nat) : Prop := (∀ k, k < c → gI m 110 k = nI (stF n d P j b bt k)) ∧ (∀ k, k < c → k ≠ j → gI m 111 k = nI (cgF c n d P j b bt k) ∧ gI m 112 k = hI (hdF (hdP P (stF n d P j b bt) (tcF n d P j b bt) j k) c 0)) ∧ gI m 102 18 = hI (tgN (cgF c n d P j b bt) j c)
theorem stF_le {c n d : Nat} {P T : ba_T} (hok : okG c n d P T) {j b bt k : Nat} (hk : k < c) (hb : b ≤ 40) : stF n d P j b bt k ≤ 40 := by
  obtain ⟨⟨o1, o2, o3, o4, o5⟩, o6, o7⟩ := id hok
  obtain ⟨q1, q2, q3, q4, q5, q6, q7⟩ := o6 k hk
  show (if k = j then b else _) ≤ 40
  split
  · exact hb
  · unfold stp
    refine tw_le ?_ (by omega)
    split
    · exact hb
    · split <;> omega
theorem sp_go1 {c n d : Nat} {P T : ba_T} (hok : okG c n d P T) {j b bt : Nat} (hj : j < c) (hb : b ≤ 40) (hbt : 1 ≤ bt ∧ bt ≤ 100) : ∀ (r i N : Nat) (m : ba_M), c - i = r → i ≤ c → r < N → GM m c n d P T → (∀ k, k < i → gI m 110 k = nI (stF n d P j b bt k)) →
    ∃ m', fx (fun _ _ _ _ _ _ => none) (b_Mo_goBy_12 SF) N 102 (nI j) (nI b) (nI bt) (nI i) m = f_Mo_goBy_73 SF 102 (nI j) (nI b) (nI 0) (wI m' 102 18 (-4)) ∧ Fr oMo m m' ∧ ∀ k, k < c → gI m' 110 k = nI (stF n d P j b bt k) := by
  intro r
  induction r with
  | zero =>
    intro i N m hr hi hN hG hk
    obtain ⟨N, rfl⟩ : ∃ z, N = z + 1 := ⟨N - 1, by omega⟩
    obtain ⟨⟨o1, o2, o3, o4, o5⟩, o6, o7⟩ := id hok
    have hic : i = c := by omega
    subst hic
    refine ⟨m, ?_, Fr.rf, hk⟩
    rw [fx_s]
    generalize fx (fun _ _ _ _ _ _ => none) (b_Mo_goBy_12 SF) N = K
    unfold b_Mo_goBy_12
    simp (disch := omega) only [oN, Option.bind_some, ↓reduceIte, ifT, ifF, eq_self, reduceCtorEq, cK_0, cK_1, cK_2, kl_2, bd_2, cK_3, cK_4, kl_4, bd_4, cK_5, cK_6, cK_7, kl_7, bd_7, cK_8, cK_25, cK_20, kl_20, bd_20, cK_21, kl_21, bd_21, cK_22, kl_22, bd_22, cK_23, cK_24, kl_24, bd_24, cK_37, cK_38, cK_39, kl_39, bd_39, cK_40, kl_40, bd_40, cK_41, kl_41, bd_41, cK_42, kl_42, bd_42, cK_43, kl_43, bd_43, cK_44, cK_45, kl_45, bd_45, cK_46, kl_46, bd_46, cK_47, kl_47, bd_47, cK_48, cK_49, kl_49, bd_49, cK_90, cK_91, kl_91, bd_91, cK_102, cK_103, kl_103, bd_103, cK_104, kl_104, bd_104, cK_105, kl_105, bd_105, cK_106, kl_106, bd_106, cK_107, kl_107, bd_107, cK_108, kl_108, bd_108, cK_109, kl_109, bd_109, cK_110, kl_110, bd_110, cK_111, kl_111, bd_111, cK_112, kl_112, bd_112, cK_113, kl_113, bd_113, cK_114, kl_114, bd_114, cK_115, kl_115, bd_115, cK_116, kl_116, bd_116, cK_117, kl_117, bd_117, cK_118, kl_118, bd_118, cK_119, kl_119, bd_119, cK_120, kl_120, bd_120, cK_121, kl_121, bd_121, ld_0_0, ld_0_1, ld_0_2, ld_0_3, ld_0_4, ld_0_5, ld_0_6, ld_0_7, ld_0_8, ld_0_9, ld_1_0, ld_3_0, ld_5_0, ld_5_1, ld_5_2, ld_5_3, ld_6_0, ld_6_1, ld_23_0, ld_23_1, ld_38_0, ld_38_1, ld_38_2, ld_38_3, ld_38_4, ld_44_0, ld_44_1, ld_44_2, ld_48_1, ld_90_1, ld_102_3, ld_102_4, ld_102_5, ld_102_8, ld_102_12, ld_102_13, ld_102_14, ld_102_15, ld_102_16, ld_102_17, ld_102_19, ld_102_20, ld_102_21, ld_102_22, ld_102_23, ld_102_25, ld_102_27, ld_102_28, ld_102_30, cK_pl, cK_to, cK_dp, cK_dt, cK_un, cK_ke, ld_pl, ld_to, ld_dp, ld_dt, ld_un, ld_ke, hG.1, nI_leI]
  | succ r ih =>
    intro i N m hr hi hN hG hk
    obtain ⟨N, rfl⟩ : ∃ z, N = z + 1 := ⟨N - 1, by omega⟩
    obtain ⟨⟨o1, o2, o3, o4, o5⟩, o6, o7⟩ := id hok
    have hic : i < c := by omega
    obtain ⟨q1, q2, q3, q4, q5, q6, q7⟩ := o6 i hic
    obtain ⟨p1, p2, p3, p4, p5⟩ := hG.2.2.2.1 i hic
    have hs := sp_mstands hG hok hic (kd := P i 4) (b := b) (bt := bt) q7 hb hbt
    have hF : Fr oMo m (wI m 110 i (nI (stF n d P j b bt i))) := Fr.rf.w (Or.inl ⟨by omega, by omega⟩)
    obtain ⟨m', e1, e2, e3⟩ := ih (i + 1) N (wI m 110 i (nI (stF n d P j b bt i))) (by omega) (by omega) (by omega) (hG.fr (by omega) hF (by intro o k ho; simp only [oMo] at ho; omega)) (fun k hk2 => by
      by_cases hki : k = i
      · subst hki
        rw [gI_s]
      · rw [gI_n _ _ _ _ _ _ (by omega)]
        exact hk k (by omega))
    refine ⟨m', ?_, hF.tr e2, e3⟩
    rw [fx_s]
    generalize fx (fun _ _ _ _ _ _ => none) (b_Mo_goBy_12 SF) N = K at e1 ⊢
    unfold b_Mo_goBy_12 f_Mo_goBy_57
    simp (disch := omega) only [oN, Option.bind_some, ↓reduceIte, ifT, ifF, eq_self, reduceCtorEq, cK_0, cK_1, cK_2, kl_2, bd_2, cK_3, cK_4, kl_4, bd_4, cK_5, cK_6, cK_7, kl_7, bd_7, cK_8, cK_25, cK_20, kl_20, bd_20, cK_21, kl_21, bd_21, cK_22, kl_22, bd_22, cK_23, cK_24, kl_24, bd_24, cK_37, cK_38, cK_39, kl_39, bd_39, cK_40, kl_40, bd_40, cK_41, kl_41, bd_41, cK_42, kl_42, bd_42, cK_43, kl_43, bd_43, cK_44, cK_45, kl_45, bd_45, cK_46, kl_46, bd_46, cK_47, kl_47, bd_47, cK_48, cK_49, kl_49, bd_49, cK_90, cK_91, kl_91, bd_91, cK_102, cK_103, kl_103, bd_103, cK_104, kl_104, bd_104, cK_105, kl_105, bd_105, cK_106, kl_106, bd_106, cK_107, kl_107, bd_107, cK_108, kl_108, bd_108, cK_109, kl_109, bd_109, cK_110, kl_110, bd_110, cK_111, kl_111, bd_111, cK_112, kl_112, bd_112, cK_113, kl_113, bd_113, cK_114, kl_114, bd_114, cK_115, kl_115, bd_115, cK_116, kl_116, bd_116, cK_117, kl_117, bd_117, cK_118, kl_118, bd_118, cK_119, kl_119, bd_119, cK_120, kl_120, bd_120, cK_121, kl_121, bd_121, ld_0_0, ld_0_1, ld_0_2, ld_0_3, ld_0_4, ld_0_5, ld_0_6, ld_0_7, ld_0_8, ld_0_9, ld_1_0, ld_3_0, ld_5_0, ld_5_1, ld_5_2, ld_5_3, ld_6_0, ld_6_1, ld_23_0, ld_23_1, ld_38_0, ld_38_1, ld_38_2, ld_38_3, ld_38_4, ld_44_0, ld_44_1, ld_44_2, ld_48_1, ld_90_1, ld_102_3, ld_102_4, ld_102_5, ld_102_8, ld_102_12, ld_102_13, ld_102_14, ld_102_15, ld_102_16, ld_102_17, ld_102_19, ld_102_20, ld_102_21, ld_102_22, ld_102_23, ld_102_25, ld_102_27, ld_102_28, ld_102_30, cK_pl, cK_to, cK_dp, cK_dt, cK_un, cK_ke, ld_pl, ld_to, ld_dp, ld_dt, ld_un, ld_ke, hG.1, nI_leI, nI_eq, nI_add, pk_mul, nI_clamp, p5, hs]
    by_cases c1 : i = j
    · rw [show stF n d P j b bt i = b from if_pos c1] at e1
      rw [if_pos c1]
      exact e1
    · rw [show stF n d P j b bt i = stp n d (P i 0) (P i 1) (P i 4) b bt from if_neg c1] at e1
      rw [if_neg c1]
      exact e1
theorem hI_nn {x : Option Nat} {t : Nat} (h : x = some t) (ht : t < 2 ^ 31) : ¬ hI x = -4 := by
  rw [h]
  exact nI_nneg ht _ (by decide)
theorem sp_go2 {c n d : Nat} {P T : ba_T} (hok : okG c n d P T) {j b bt : Nat} (hj : j < c) (hb : b ≤ 40) : ∀ (r i N : Nat) (m : ba_M), c - i = r → i ≤ c → r < N → GM m c n d P T → (∀ k, k < c → gI m 110 k = nI (stF n d P j b bt k)) →
    (∀ k, k < i → k ≠ j → gI m 111 k = nI (cgF c n d P j b bt k) ∧ gI m 112 k = hI (hdF (hdP P (stF n d P j b bt) (tcF n d P j b bt) j k) c 0)) → gI m 102 18 = hI (tgN (cgF c n d P j b bt) j i) →
    ∃ m', fx (fun _ _ _ _ _ => none) (b_Mo_goBy_73 SF) N 102 (nI j) (nI b) (nI i) m = some m' ∧ Fr oMo m m' ∧ RM m' c n d P j b bt := by
  intro r
  induction r with
  | zero =>
    intro i N m hr hi hN hG hs hk ht
    obtain ⟨N, rfl⟩ : ∃ z, N = z + 1 := ⟨N - 1, by omega⟩
    obtain ⟨⟨o1, o2, o3, o4, o5⟩, o6, o7⟩ := id hok
    have hic : i = c := by omega
    subst hic
    refine ⟨m, ?_, Fr.rf, hs, hk, ht⟩
    rw [fx_s]
    generalize fx (fun _ _ _ _ _ => none) (b_Mo_goBy_73 SF) N = K
    unfold b_Mo_goBy_73
    simp (disch := omega) only [oN, Option.bind_some, ↓reduceIte, ifT, ifF, eq_self, reduceCtorEq, cK_0, cK_1, cK_2, kl_2, bd_2, cK_3, cK_4, kl_4, bd_4, cK_5, cK_6, cK_7, kl_7, bd_7, cK_8, cK_25, cK_20, kl_20, bd_20, cK_21, kl_21, bd_21, cK_22, kl_22, bd_22, cK_23, cK_24, kl_24, bd_24, cK_37, cK_38, cK_39, kl_39, bd_39, cK_40, kl_40, bd_40, cK_41, kl_41, bd_41, cK_42, kl_42, bd_42, cK_43, kl_43, bd_43, cK_44, cK_45, kl_45, bd_45, cK_46, kl_46, bd_46, cK_47, kl_47, bd_47, cK_48, cK_49, kl_49, bd_49, cK_90, cK_91, kl_91, bd_91, cK_102, cK_103, kl_103, bd_103, cK_104, kl_104, bd_104, cK_105, kl_105, bd_105, cK_106, kl_106, bd_106, cK_107, kl_107, bd_107, cK_108, kl_108, bd_108, cK_109, kl_109, bd_109, cK_110, kl_110, bd_110, cK_111, kl_111, bd_111, cK_112, kl_112, bd_112, cK_113, kl_113, bd_113, cK_114, kl_114, bd_114, cK_115, kl_115, bd_115, cK_116, kl_116, bd_116, cK_117, kl_117, bd_117, cK_118, kl_118, bd_118, cK_119, kl_119, bd_119, cK_120, kl_120, bd_120, cK_121, kl_121, bd_121, ld_0_0, ld_0_1, ld_0_2, ld_0_3, ld_0_4, ld_0_5, ld_0_6, ld_0_7, ld_0_8, ld_0_9, ld_1_0, ld_3_0, ld_5_0, ld_5_1, ld_5_2, ld_5_3, ld_6_0, ld_6_1, ld_23_0, ld_23_1, ld_38_0, ld_38_1, ld_38_2, ld_38_3, ld_38_4, ld_44_0, ld_44_1, ld_44_2, ld_48_1, ld_90_1, ld_102_3, ld_102_4, ld_102_5, ld_102_8, ld_102_12, ld_102_13, ld_102_14, ld_102_15, ld_102_16, ld_102_17, ld_102_19, ld_102_20, ld_102_21, ld_102_22, ld_102_23, ld_102_25, ld_102_27, ld_102_28, ld_102_30, cK_pl, cK_to, cK_dp, cK_dt, cK_un, cK_ke, ld_pl, ld_to, ld_dp, ld_dt, ld_un, ld_ke, hG.1, nI_leI]
  | succ r ih =>
    intro i N m hr hi hN hG hs hk ht
    obtain ⟨N, rfl⟩ : ∃ z, N = z + 1 := ⟨N - 1, by omega⟩
    obtain ⟨⟨o1, o2, o3, o4, o5⟩, o6, o7⟩ := id hok
    have hic : i < c := by omega
    have ih' := ih (i + 1) N
    rw [fx_s]
    generalize fx (fun _ _ _ _ _ => none) (b_Mo_goBy_73 SF) N = K at ih' ⊢
    have hstep : tgN (cgF c n d P j b bt) j (i + 1) = if i = j then tgN (cgF c n d P j b bt) j i else match tgN (cgF c n d P j b bt) j i with
      | none => some i
      | some t => if cgF c n d P j b bt t < cgF c n d P j b bt i then some i else some t := rfl
    by_cases c1 : i = j
    · rw [if_pos c1] at hstep
      obtain ⟨m', e1, e2, e3⟩ := ih' m (by omega) (by omega) (by omega) hG hs (fun k h1 h2 => hk k (by omega) h2) (by rw [hstep]; exact ht)
      refine ⟨m', ?_, e2, e3⟩
      unfold b_Mo_goBy_73 f_Mo_goBy_137
      simp (disch := omega) only [oN, Option.bind_some, ↓reduceIte, ifT, ifF, eq_self, reduceCtorEq, cK_0, cK_1, cK_2, kl_2, bd_2, cK_3, cK_4, kl_4, bd_4, cK_5, cK_6, cK_7, kl_7, bd_7, cK_8, cK_25, cK_20, kl_20, bd_20, cK_21, kl_21, bd_21, cK_22, kl_22, bd_22, cK_23, cK_24, kl_24, bd_24, cK_37, cK_38, cK_39, kl_39, bd_39, cK_40, kl_40, bd_40, cK_41, kl_41, bd_41, cK_42, kl_42, bd_42, cK_43, kl_43, bd_43, cK_44, cK_45, kl_45, bd_45, cK_46, kl_46, bd_46, cK_47, kl_47, bd_47, cK_48, cK_49, kl_49, bd_49, cK_90, cK_91, kl_91, bd_91, cK_102, cK_103, kl_103, bd_103, cK_104, kl_104, bd_104, cK_105, kl_105, bd_105, cK_106, kl_106, bd_106, cK_107, kl_107, bd_107, cK_108, kl_108, bd_108, cK_109, kl_109, bd_109, cK_110, kl_110, bd_110, cK_111, kl_111, bd_111, cK_112, kl_112, bd_112, cK_113, kl_113, bd_113, cK_114, kl_114, bd_114, cK_115, kl_115, bd_115, cK_116, kl_116, bd_116, cK_117, kl_117, bd_117, cK_118, kl_118, bd_118, cK_119, kl_119, bd_119, cK_120, kl_120, bd_120, cK_121, kl_121, bd_121, ld_0_0, ld_0_1, ld_0_2, ld_0_3, ld_0_4, ld_0_5, ld_0_6, ld_0_7, ld_0_8, ld_0_9, ld_1_0, ld_3_0, ld_5_0, ld_5_1, ld_5_2, ld_5_3, ld_6_0, ld_6_1, ld_23_0, ld_23_1, ld_38_0, ld_38_1, ld_38_2, ld_38_3, ld_38_4, ld_44_0, ld_44_1, ld_44_2, ld_48_1, ld_90_1, ld_102_3, ld_102_4, ld_102_5, ld_102_8, ld_102_12, ld_102_13, ld_102_14, ld_102_15, ld_102_16, ld_102_17, ld_102_19, ld_102_20, ld_102_21, ld_102_22, ld_102_23, ld_102_25, ld_102_27, ld_102_28, ld_102_30, cK_pl, cK_to, cK_dp, cK_dt, cK_un, cK_ke, ld_pl, ld_to, ld_dp, ld_dt, ld_un, ld_ke, hG.1, nI_leI, c1, nI_add]
      rw [c1] at e1
      exact e1
    · rw [if_neg c1] at hstep
      have ha := sp_aims hG hok (st := stF n d P j b bt) (fun k h => ⟨hs k h, stF_le hok h hb⟩) hj hic hb
      have hF1 : Fr oMo m (amR m c P (stF n d P j b bt) j b i) := (Fr.rf.w (Or.inl ⟨by omega, by omega⟩)).w (Or.inl ⟨by omega, by omega⟩)
      have hG1 := hG.fr (by omega) hF1 (by intro o k ho; simp only [oMo] at ho; omega)
      have a18 : gI (amR m c P (stF n d P j b bt) j b i) 102 18 = hI (tgN (cgF c n d P j b bt) j i) := by
        unfold amR
        rw [gI_n _ _ _ _ _ _ (by omega), gI_n _ _ _ _ _ _ (by omega)]
        exact ht
      have a110 : ∀ k, k < c → gI (amR m c P (stF n d P j b bt) j b i) 110 k = nI (stF n d P j b bt k) := fun k h => by
        unfold amR
        rw [gI_n _ _ _ _ _ _ (by omega), gI_n _ _ _ _ _ _ (by omega)]
        exact hs k h
      have aK : ∀ k, k < i + 1 → k ≠ j → gI (amR m c P (stF n d P j b bt) j b i) 111 k = nI (cgF c n d P j b bt k) ∧ gI (amR m c P (stF n d P j b bt) j b i) 112 k = hI (hdF (hdP P (stF n d P j b bt) (tcF n d P j b bt) j k) c 0) := by
        intro k h1 h2
        unfold amR
        by_cases hki : k = i
        · subst hki
          rw [gI_s, gI_n _ _ _ _ _ _ (by omega), gI_s]
          exact ⟨rfl, rfl⟩
        · rw [gI_n _ _ _ _ _ _ (by omega), gI_n _ _ _ _ _ _ (by omega), gI_n _ _ _ _ _ _ (by omega), gI_n _ _ _ _ _ _ (by omega)]
          exact hk k (by omega) h2
      generalize amR m c P (stF n d P j b bt) j b i = m1 at ha hF1 hG1 a18 a110 aK
      have go : ∀ x : Option Nat, tgN (cgF c n d P j b bt) j (i + 1) = x → ∃ m', f_Mo_goBy_134 SF K 102 (nI j) (nI b) (nI i) 102 (hI x) m1 = some m' ∧ Fr oMo m m' ∧ RM m' c n d P j b bt := by
        intro x hx
        have hF2 : Fr oMo m1 (wI m1 102 18 (hI x)) := Fr.rf.w (Or.inr ⟨rfl, rfl⟩)
        obtain ⟨m', e1, e2, e3⟩ := ih' (wI m1 102 18 (hI x)) (by omega) (by omega) (by omega) (hG1.fr (by omega) hF2 (by intro o k ho; simp only [oMo] at ho; omega)) (fun k h => by rw [gI_n _ _ _ _ _ _ (by omega)]; exact a110 k h) (fun k h1 h2 => by rw [gI_n _ _ _ _ _ _ (by omega), gI_n _ _ _ _ _ _ (by omega)]; exact aK k h1 h2) (by rw [gI_s, hx])
        refine ⟨m', ?_, (hF1.tr hF2).tr e2, e3⟩
        unfold f_Mo_goBy_134 f_Mo_goBy_137
        rw [nI_add]
        exact e1
      have hch : ∀ t, cgF c n d P j b bt t ≤ 10 := fun t => chF_le
      unfold b_Mo_goBy_73 f_Mo_goBy_125
      cases hq : tgN (cgF c n d P j b bt) j i with
      | none =>
        rw [hq] at hstep a18
        obtain ⟨m', e1, e2⟩ := go (some i) hstep
        refine ⟨m', ?_, e2⟩
        simp (disch := omega) only [oN, Option.bind_some, ↓reduceIte, ifT, ifF, eq_self, reduceCtorEq, cK_0, cK_1, cK_2, kl_2, bd_2, cK_3, cK_4, kl_4, bd_4, cK_5, cK_6, cK_7, kl_7, bd_7, cK_8, cK_25, cK_20, kl_20, bd_20, cK_21, kl_21, bd_21, cK_22, kl_22, bd_22, cK_23, cK_24, kl_24, bd_24, cK_37, cK_38, cK_39, kl_39, bd_39, cK_40, kl_40, bd_40, cK_41, kl_41, bd_41, cK_42, kl_42, bd_42, cK_43, kl_43, bd_43, cK_44, cK_45, kl_45, bd_45, cK_46, kl_46, bd_46, cK_47, kl_47, bd_47, cK_48, cK_49, kl_49, bd_49, cK_90, cK_91, kl_91, bd_91, cK_102, cK_103, kl_103, bd_103, cK_104, kl_104, bd_104, cK_105, kl_105, bd_105, cK_106, kl_106, bd_106, cK_107, kl_107, bd_107, cK_108, kl_108, bd_108, cK_109, kl_109, bd_109, cK_110, kl_110, bd_110, cK_111, kl_111, bd_111, cK_112, kl_112, bd_112, cK_113, kl_113, bd_113, cK_114, kl_114, bd_114, cK_115, kl_115, bd_115, cK_116, kl_116, bd_116, cK_117, kl_117, bd_117, cK_118, kl_118, bd_118, cK_119, kl_119, bd_119, cK_120, kl_120, bd_120, cK_121, kl_121, bd_121, ld_0_0, ld_0_1, ld_0_2, ld_0_3, ld_0_4, ld_0_5, ld_0_6, ld_0_7, ld_0_8, ld_0_9, ld_1_0, ld_3_0, ld_5_0, ld_5_1, ld_5_2, ld_5_3, ld_6_0, ld_6_1, ld_23_0, ld_23_1, ld_38_0, ld_38_1, ld_38_2, ld_38_3, ld_38_4, ld_44_0, ld_44_1, ld_44_2, ld_48_1, ld_90_1, ld_102_3, ld_102_4, ld_102_5, ld_102_8, ld_102_12, ld_102_13, ld_102_14, ld_102_15, ld_102_16, ld_102_17, ld_102_19, ld_102_20, ld_102_21, ld_102_22, ld_102_23, ld_102_25, ld_102_27, ld_102_28, ld_102_30, cK_pl, cK_to, cK_dp, cK_dt, cK_un, cK_ke, ld_pl, ld_to, ld_dp, ld_dt, ld_un, ld_ke, hG.1, nI_leI, nI_eq, c1, ha, a18]
        exact e1
      | some t =>
        rw [hq] at hstep a18
        have htl := tgN_lt _ _ hq
        have a2 : gI m1 102 18 = nI t := a18
        have a3 : ¬ nI t = -4 := hI_nn (x := some t) rfl (by omega)
        obtain ⟨w1, w2⟩ := aK i (by omega) c1
        obtain ⟨w3, w4⟩ := aK t (by omega) htl.2
        have b1 := hch i
        have b2 := hch t
        simp (disch := omega) only [oN, Option.bind_some, ↓reduceIte, ifT, ifF, eq_self, reduceCtorEq, cK_0, cK_1, cK_2, kl_2, bd_2, cK_3, cK_4, kl_4, bd_4, cK_5, cK_6, cK_7, kl_7, bd_7, cK_8, cK_25, cK_20, kl_20, bd_20, cK_21, kl_21, bd_21, cK_22, kl_22, bd_22, cK_23, cK_24, kl_24, bd_24, cK_37, cK_38, cK_39, kl_39, bd_39, cK_40, kl_40, bd_40, cK_41, kl_41, bd_41, cK_42, kl_42, bd_42, cK_43, kl_43, bd_43, cK_44, cK_45, kl_45, bd_45, cK_46, kl_46, bd_46, cK_47, kl_47, bd_47, cK_48, cK_49, kl_49, bd_49, cK_90, cK_91, kl_91, bd_91, cK_102, cK_103, kl_103, bd_103, cK_104, kl_104, bd_104, cK_105, kl_105, bd_105, cK_106, kl_106, bd_106, cK_107, kl_107, bd_107, cK_108, kl_108, bd_108, cK_109, kl_109, bd_109, cK_110, kl_110, bd_110, cK_111, kl_111, bd_111, cK_112, kl_112, bd_112, cK_113, kl_113, bd_113, cK_114, kl_114, bd_114, cK_115, kl_115, bd_115, cK_116, kl_116, bd_116, cK_117, kl_117, bd_117, cK_118, kl_118, bd_118, cK_119, kl_119, bd_119, cK_120, kl_120, bd_120, cK_121, kl_121, bd_121, ld_0_0, ld_0_1, ld_0_2, ld_0_3, ld_0_4, ld_0_5, ld_0_6, ld_0_7, ld_0_8, ld_0_9, ld_1_0, ld_3_0, ld_5_0, ld_5_1, ld_5_2, ld_5_3, ld_6_0, ld_6_1, ld_23_0, ld_23_1, ld_38_0, ld_38_1, ld_38_2, ld_38_3, ld_38_4, ld_44_0, ld_44_1, ld_44_2, ld_48_1, ld_90_1, ld_102_3, ld_102_4, ld_102_5, ld_102_8, ld_102_12, ld_102_13, ld_102_14, ld_102_15, ld_102_16, ld_102_17, ld_102_19, ld_102_20, ld_102_21, ld_102_22, ld_102_23, ld_102_25, ld_102_27, ld_102_28, ld_102_30, cK_pl, cK_to, cK_dp, cK_dt, cK_un, cK_ke, ld_pl, ld_to, ld_dp, ld_dt, ld_un, ld_ke, hG.1, nI_leI, nI_eq, c1, ha, a2, a3, nI_clamp, w1, w3]
        by_cases c2 : cgF c n d P j b bt t < cgF c n d P j b bt i
        · rw [if_neg (by omega)]
          exact go (some i) (by rw [hstep]; simp only [c2, ↓reduceIte])
        · rw [if_pos (by omega)]
          exact go (some t) (by rw [hstep]; simp only [c2, ↓reduceIte])
theorem sp_goBy {m : ba_M} {c n d : Nat} {P T : ba_T} (hG : GM m c n d P T) (hok : okG c n d P T) {j b h : Nat} (hj : j < c) (hb : b ≤ 40) (hh : 1 ≤ h ∧ h ≤ 9) :
    ∃ m', f_Mo_goBy SF 102 (nI j) (nI b) (nI h) m = some m' ∧ Fr oMo m m' ∧ RM m' c n d P j b (bts (P j 0) (P j 1) b h) := by
  obtain ⟨⟨o1, o2, o3, o4, o5⟩, o6, o7⟩ := id hok
  obtain ⟨q1, q2, q3, q4, q5, q6, q7⟩ := o6 j hj
  have hbt := bts_in (n := n) (X := P j 0) (V := P j 1) (by omega) hb ⟨q2, q3⟩ hh
  have hB := sp_mbeats hG hok hj hb hh.2
  generalize bts (P j 0) (P j 1) b h = bt at hbt hB ⊢
  obtain ⟨m1, e1, e2, e3⟩ := sp_go1 hok hj hb hbt c 0 FU m rfl (by omega) (by unfold FU; omega) hG (fun k hk => by omega)
  have hF2 : Fr oMo m1 (wI m1 102 18 (-4)) := Fr.rf.w (Or.inr ⟨rfl, rfl⟩)
  have hG1 := hG.fr (by omega) e2 (by intro o k ho; simp only [oMo] at ho; omega)
  obtain ⟨m2, u1, u2, u3⟩ := sp_go2 hok (bt := bt) hj hb c 0 FU (wI m1 102 18 (-4)) rfl (by omega) (by unfold FU; omega) (hG1.fr (by omega) hF2 (by intro o k ho; simp only [oMo] at ho; omega)) (fun k hk => by rw [gI_n _ _ _ _ _ _ (by omega)]; exact e3 k hk) (fun k hk => by omega) (by rw [gI_s]; rfl)
  refine ⟨m2, ?_, (e2.tr hF2).tr u2, u3⟩
  unfold f_Mo_goBy f_Mo_goBy_12
  simp only [oN, Option.bind_some, ↓reduceIte, ifT, ifF, eq_self, reduceCtorEq, cK_0, cK_1, cK_2, kl_2, bd_2, cK_3, cK_4, kl_4, bd_4, cK_5, cK_6, cK_7, kl_7, bd_7, cK_8, cK_25, cK_20, kl_20, bd_20, cK_21, kl_21, bd_21, cK_22, kl_22, bd_22, cK_23, cK_24, kl_24, bd_24, cK_37, cK_38, cK_39, kl_39, bd_39, cK_40, kl_40, bd_40, cK_41, kl_41, bd_41, cK_42, kl_42, bd_42, cK_43, kl_43, bd_43, cK_44, cK_45, kl_45, bd_45, cK_46, kl_46, bd_46, cK_47, kl_47, bd_47, cK_48, cK_49, kl_49, bd_49, cK_90, cK_91, kl_91, bd_91, cK_102, cK_103, kl_103, bd_103, cK_104, kl_104, bd_104, cK_105, kl_105, bd_105, cK_106, kl_106, bd_106, cK_107, kl_107, bd_107, cK_108, kl_108, bd_108, cK_109, kl_109, bd_109, cK_110, kl_110, bd_110, cK_111, kl_111, bd_111, cK_112, kl_112, bd_112, cK_113, kl_113, bd_113, cK_114, kl_114, bd_114, cK_115, kl_115, bd_115, cK_116, kl_116, bd_116, cK_117, kl_117, bd_117, cK_118, kl_118, bd_118, cK_119, kl_119, bd_119, cK_120, kl_120, bd_120, cK_121, kl_121, bd_121, ld_0_0, ld_0_1, ld_0_2, ld_0_3, ld_0_4, ld_0_5, ld_0_6, ld_0_7, ld_0_8, ld_0_9, ld_1_0, ld_3_0, ld_5_0, ld_5_1, ld_5_2, ld_5_3, ld_6_0, ld_6_1, ld_23_0, ld_23_1, ld_38_0, ld_38_1, ld_38_2, ld_38_3, ld_38_4, ld_44_0, ld_44_1, ld_44_2, ld_48_1, ld_90_1, ld_102_3, ld_102_4, ld_102_5, ld_102_8, ld_102_12, ld_102_13, ld_102_14, ld_102_15, ld_102_16, ld_102_17, ld_102_19, ld_102_20, ld_102_21, ld_102_22, ld_102_23, ld_102_25, ld_102_27, ld_102_28, ld_102_30, cK_pl, cK_to, cK_dp, cK_dt, cK_un, cK_ke, ld_pl, ld_to, ld_dp, ld_dt, ld_un, ld_ke, hB, e1]
  unfold f_Mo_goBy_73
  exact u1
theorem sp_go {m : ba_M} {c n d : Nat} {P T : ba_T} (hG : GM m c n d P T) (hok : okG c n d P T) {i : Nat} (hi : i < c) :
    ∃ m', f_Mo_go SF 102 (nI i) m = some m' ∧ Fr oMo m m' ∧ RM m' c n d P (T i 0) (T i 1) (bts (P (T i 0) 0) (P (T i 0) 1) (T i 1) (T i 2)) := by
  obtain ⟨⟨o1, o2, o3, o4, o5⟩, o6, o7⟩ := id hok
  obtain ⟨t1, t2, t3, t4, t5, t6⟩ := o7 i hi
  obtain ⟨m', e1, e2, e3⟩ := sp_goBy hG hok (j := T i 0) (b := T i 1) (h := T i 2) t1 (by omega) ⟨t4, t5⟩
  obtain ⟨p1, p2, p3, p4⟩ := hG.2.2.2.2 i hi
  refine ⟨m', ?_, e2, e3⟩
  unfold f_Mo_go
  simp (disch := omega) only [oN, Option.bind_some, ↓reduceIte, ifT, ifF, eq_self, reduceCtorEq, cK_0, cK_1, cK_2, kl_2, bd_2, cK_3, cK_4, kl_4, bd_4, cK_5, cK_6, cK_7, kl_7, bd_7, cK_8, cK_25, cK_20, kl_20, bd_20, cK_21, kl_21, bd_21, cK_22, kl_22, bd_22, cK_23, cK_24, kl_24, bd_24, cK_37, cK_38, cK_39, kl_39, bd_39, cK_40, kl_40, bd_40, cK_41, kl_41, bd_41, cK_42, kl_42, bd_42, cK_43, kl_43, bd_43, cK_44, cK_45, kl_45, bd_45, cK_46, kl_46, bd_46, cK_47, kl_47, bd_47, cK_48, cK_49, kl_49, bd_49, cK_90, cK_91, kl_91, bd_91, cK_102, cK_103, kl_103, bd_103, cK_104, kl_104, bd_104, cK_105, kl_105, bd_105, cK_106, kl_106, bd_106, cK_107, kl_107, bd_107, cK_108, kl_108, bd_108, cK_109, kl_109, bd_109, cK_110, kl_110, bd_110, cK_111, kl_111, bd_111, cK_112, kl_112, bd_112, cK_113, kl_113, bd_113, cK_114, kl_114, bd_114, cK_115, kl_115, bd_115, cK_116, kl_116, bd_116, cK_117, kl_117, bd_117, cK_118, kl_118, bd_118, cK_119, kl_119, bd_119, cK_120, kl_120, bd_120, cK_121, kl_121, bd_121, ld_0_0, ld_0_1, ld_0_2, ld_0_3, ld_0_4, ld_0_5, ld_0_6, ld_0_7, ld_0_8, ld_0_9, ld_1_0, ld_3_0, ld_5_0, ld_5_1, ld_5_2, ld_5_3, ld_6_0, ld_6_1, ld_23_0, ld_23_1, ld_38_0, ld_38_1, ld_38_2, ld_38_3, ld_38_4, ld_44_0, ld_44_1, ld_44_2, ld_48_1, ld_90_1, ld_102_3, ld_102_4, ld_102_5, ld_102_8, ld_102_12, ld_102_13, ld_102_14, ld_102_15, ld_102_16, ld_102_17, ld_102_19, ld_102_20, ld_102_21, ld_102_22, ld_102_23, ld_102_25, ld_102_27, ld_102_28, ld_102_30, cK_pl, cK_to, cK_dp, cK_dt, cK_un, cK_ke, ld_pl, ld_to, ld_dp, ld_dt, ld_un, ld_ke, nI_add, nI_clamp, p1, p2, p3, e1]
