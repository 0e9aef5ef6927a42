/-! the kinds by which all that was seen is so -/
abbrev bN (b : Bool) (k : Nat) : Nat := if b = true then k else 0
def mk4 (f : Nat → Bool) : Int32 := nI (bN (f 0) 1 + bN (f 1) 2 + bN (f 2) 4 + bN (f 3) 8)
theorem mk4_or {f g : Nat → Bool} {k : Nat} (hk : k < 4) (hg : ∀ q, q < 4 → g q = (f q || decide (q = k))) : mk4 f ||| ((nI 1) <<< (nI k &&& 31)) = mk4 g := by
  unfold mk4
  rw [hg 0 (by omega), hg 1 (by omega), hg 2 (by omega), hg 3 (by omega)]
  generalize f 0 = a; generalize f 1 = b; generalize f 2 = c; generalize f 3 = d
  match k, hk with
  | 0, _ => cases a <;> cases b <;> cases c <;> cases d <;> decide
  | 1, _ => cases a <;> cases b <;> cases c <;> cases d <;> decide
  | 2, _ => cases a <;> cases b <;> cases c <;> cases d <;> decide
  | 3, _ => cases a <;> cases b <;> cases c <;> cases d <;> decide
theorem mk4_cl {f g : Nat → Bool} {k : Nat} (hk : k < 4) (hg : ∀ q, q < 4 → g q = (f q && decide (q ≠ k))) : mk4 f &&& (((nI 1) <<< (nI k &&& 31)) ^^^ (-1 : Int32)) = mk4 g := by
  unfold mk4
  rw [hg 0 (by omega), hg 1 (by omega), hg 2 (by omega), hg 3 (by omega)]
  generalize f 0 = a; generalize f 1 = b; generalize f 2 = c; generalize f 3 = d
  match k, hk with
  | 0, _ => cases a <;> cases b <;> cases c <;> cases d <;> decide
  | 1, _ => cases a <;> cases b <;> cases c <;> cases d <;> decide
  | 2, _ => cases a <;> cases b <;> cases c <;> cases d <;> decide
  | 3, _ => cases a <;> cases b <;> cases c <;> cases d <;> decide
theorem mk4_15 (f : Nat → Bool) : mk4 f &&& (nI 15) = mk4 f := by
  unfold mk4
  generalize f 0 = a; generalize f 1 = b; generalize f 2 = c; generalize f 3 = d
  cases a <;> cases b <;> cases c <;> cases d <;> decide
theorem mk4_cg {f g : Nat → Bool} (h : ∀ q, q < 4 → f q = g q) : mk4 f = mk4 g := by
  unfold mk4
  rw [h 0 (by omega), h 1 (by omega), h 2 (by omega), h 3 (by omega)]
/-- sighting t is so by kind kd -/
def qB (n d : Nat) (P T : ba_T) (k : Nat) (sg : ba_T) (t kd : Nat) : Bool := decide (sg t 1 = k → st1 n d P (T (sg t 0) 0) (T (sg t 0) 1) (btT P T (sg t 0)) kd k = sg t 2)
def allB (f : Nat → Bool) : Nat → Nat → Bool
  | 0, _ => true
  | r + 1, t => f t && allB f r (t + 1)
theorem sp_allSo {c n d k kd s : Nat} {P T : ba_T} {sg : ba_T} (hok : okG c n d P T) (hk : k < c) (hkd : kd < 4) : ∀ (r t N : Nat) (m : ba_M), s - t = r → t ≤ s → r < N → GC m c n d P T → SG m c n s sg →
    ∃ m', fx (fun _ _ _ _ _ _ => none) (b_Si_allAreSo_3 SF) N 44 (nI k) (nI kd) 5 (nI t) m = some (allB (fun t => qB n d P T k sg t kd) r t, m') ∧ Fr oRo m m' := by
  obtain ⟨⟨o1, o2, o3, o4, o5⟩, o6, o7⟩ := id hok
  intro r
  induction r with
  | zero =>
    intro t N m hr ht hN hC hS
    obtain ⟨N, rfl⟩ : ∃ z, N = z + 1 := ⟨N - 1, by omega⟩
    have hs := hS.1
    refine ⟨m, ?_, Fr.rf⟩
    rw [fx_s]
    generalize fx (fun _ _ _ _ _ _ => none) (b_Si_allAreSo_3 SF) N = K
    unfold b_Si_allAreSo_3
    rw [hS.2.1, if_pos (by rw [nI_leI (by omega) (by omega)]; omega)]
    rfl
  | succ r ih =>
    intro t N m hr ht hN hC hS
    obtain ⟨N, rfl⟩ : ∃ z, N = z + 1 := ⟨N - 1, by omega⟩
    have hs := hS.1
    obtain ⟨⟨s1, s2, s3, -⟩, s4, s5, s6⟩ := hS.2.2.2 t (by omega)
    have hle : ¬ nI s ≤ nI t := by rw [nI_leI (by omega) (by omega)]; omega
    have a1 := sp_at ck_46 kl_46 (i := t) (by omega) (by omega) m
    by_cases hk1 : sg t 1 = k
    · obtain ⟨m1, e1, e2, e3⟩ := sp_playAsTold hC hok s4
      obtain ⟨t1, t2, t3, t4, t5, t6⟩ := o7 (sg t 0) s4
      obtain ⟨q1, q2, q3, q4, q5, q6, q7⟩ := o6 _ t1
      have hbt := bts_in (n := n) (X := P (T (sg t 0) 0) 0) (V := P (T (sg t 0) 0) 1) (b := T (sg t 0) 1) (h := T (sg t 0) 2) (by omega) (by omega) ⟨q2, q3⟩ ⟨t4, t5⟩
      have hsu := sp_suppose (hC.ro o2 e2) hok hk t1 (by omega) hbt (show kd ≤ 3 by omega) e3.1 e3.2.1 e3.2.2.1
      obtain ⟨y, hy⟩ : ∃ y, y = (if k = T (sg t 0) 0 then T (sg t 0) 1 else stp n d (P k 0) (P k 1) kd (T (sg t 0) 1) (bts (P (T (sg t 0) 0) 0) (P (T (sg t 0) 0) 1) (T (sg t 0) 1) (T (sg t 0) 2))) := ⟨_, rfl⟩
      rw [← hy] at hsu
      have hle40 : y ≤ 40 := by
        rw [hy]
        split
        · omega
        · refine tw_le ?_ (by have := (o6 k hk).1; omega)
          split
          · omega
          · split <;> omega
      have hq : qB n d P T k sg t kd = decide (y = sg t 2) := by
        unfold qB st1
        rw [hy]
        apply decide_eq_decide.mpr
        exact ⟨fun h => h hk1, fun h _ => h⟩
      have hF : Fr oRo m1 (wI (wI (wI m1 20 k (nI kd)) 21 k (nI y)) 22 k (nI (tw y (T (sg t 0) 1) 3))) := ((Fr.rf.w (by simp [oRo])).w (by simp [oRo])).w (by simp [oRo])
      have hg2 : gI (wI (wI (wI m1 20 k (nI kd)) 21 k (nI y)) 22 k (nI (tw y (T (sg t 0) 1) 3))) 21 k = nI y := by rw [gI_n _ _ _ _ _ _ (by omega), gI_s]
      generalize wI (wI (wI m1 20 k (nI kd)) 21 k (nI y)) 22 k (nI (tw y (T (sg t 0) 1) 3)) = m2 at hsu hF hg2
      have hF2 := e2.tr hF
      have b1 := sp_at ck_45 kl_45 (i := t) (by omega) (by omega) m
      have b2 := sp_at ck_47 kl_47 (i := t) (by omega) (by omega) m2
      have b3 := sp_standOf (m := m2) (show k < 5 by omega)
      have hS2 := hS.frO hF2 (by intro o k ho; simp only [oRo, tSG] at *; omega)
      by_cases hy2 : y = sg t 2
      · obtain ⟨m', u1, u2⟩ := ih (t + 1) N m2 (by omega) (by omega) (by omega) (hC.ro o2 hF2) hS2
        refine ⟨m', ?_, hF2.tr u2⟩
        rw [fx_s]
        generalize fx (fun _ _ _ _ _ _ => none) (b_Si_allAreSo_3 SF) N = K at u1 ⊢
        unfold b_Si_allAreSo_3 f_Si_allAreSo_63
        simp (disch := omega) only [oN, Option.bind_some, ↓reduceIte, ifT, ifF, eq_self, reduceCtorEq, cK_0, cK_1, cK_2, kl_2, bd_2, cK_3, cK_4, kl_4, bd_4, cK_5, cK_6, cK_7, kl_7, bd_7, cK_8, cK_25, cK_20, kl_20, bd_20, cK_21, kl_21, bd_21, cK_22, kl_22, bd_22, cK_23, cK_24, kl_24, bd_24, cK_37, cK_38, cK_39, kl_39, bd_39, cK_40, kl_40, bd_40, cK_41, kl_41, bd_41, cK_42, kl_42, bd_42, cK_43, kl_43, bd_43, cK_44, cK_45, kl_45, bd_45, cK_46, kl_46, bd_46, cK_47, kl_47, bd_47, cK_48, cK_49, kl_49, bd_49, cK_90, cK_91, kl_91, bd_91, cK_102, cK_103, kl_103, bd_103, cK_104, kl_104, bd_104, cK_105, kl_105, bd_105, cK_106, kl_106, bd_106, cK_107, kl_107, bd_107, cK_108, kl_108, bd_108, cK_109, kl_109, bd_109, cK_110, kl_110, bd_110, cK_111, kl_111, bd_111, cK_112, kl_112, bd_112, cK_113, kl_113, bd_113, cK_114, kl_114, bd_114, cK_115, kl_115, bd_115, cK_116, kl_116, bd_116, cK_117, kl_117, bd_117, cK_118, kl_118, bd_118, cK_119, kl_119, bd_119, cK_120, kl_120, bd_120, cK_121, kl_121, bd_121, ld_0_0, ld_0_1, ld_0_2, ld_0_3, ld_0_4, ld_0_5, ld_0_6, ld_0_7, ld_0_8, ld_0_9, ld_1_0, ld_3_0, ld_5_0, ld_5_1, ld_5_2, ld_5_3, ld_6_0, ld_6_1, ld_23_0, ld_23_1, ld_38_0, ld_38_1, ld_38_2, ld_38_3, ld_38_4, ld_44_0, ld_44_1, ld_44_2, ld_48_1, ld_90_1, ld_102_3, ld_102_4, ld_102_5, ld_102_8, ld_102_12, ld_102_13, ld_102_14, ld_102_15, ld_102_16, ld_102_17, ld_102_19, ld_102_20, ld_102_21, ld_102_22, ld_102_23, ld_102_25, ld_102_27, ld_102_28, ld_102_30, cK_pl, cK_to, cK_dp, cK_dt, cK_un, cK_ke, ld_pl, ld_to, ld_dp, ld_dt, ld_un, ld_ke, hS.2.1, hle, a1, s2, hk1, b1, s1, e1, hsu, b3, hg2, b2, hS2.2.2.2 t (show t < s by omega), hy2, nI_add, u1, allB, hq, decide_true, Bool.true_and]
      · have hne : ¬ nI y = nI (sg t 2) := fun e => hy2 (nI_inj (by omega) (by omega) e)
        refine ⟨m2, ?_, hF2⟩
        rw [fx_s]
        generalize fx (fun _ _ _ _ _ _ => none) (b_Si_allAreSo_3 SF) N = K
        unfold b_Si_allAreSo_3
        simp (disch := omega) only [oN, Option.bind_some, ↓reduceIte, ifT, ifF, eq_self, reduceCtorEq, cK_0, cK_1, cK_2, kl_2, bd_2, cK_3, cK_4, kl_4, bd_4, cK_5, cK_6, cK_7, kl_7, bd_7, cK_8, cK_25, cK_20, kl_20, bd_20, cK_21, kl_21, bd_21, cK_22, kl_22, bd_22, cK_23, cK_24, kl_24, bd_24, cK_37, cK_38, cK_39, kl_39, bd_39, cK_40, kl_40, bd_40, cK_41, kl_41, bd_41, cK_42, kl_42, bd_42, cK_43, kl_43, bd_43, cK_44, cK_45, kl_45, bd_45, cK_46, kl_46, bd_46, cK_47, kl_47, bd_47, cK_48, cK_49, kl_49, bd_49, cK_90, cK_91, kl_91, bd_91, cK_102, cK_103, kl_103, bd_103, cK_104, kl_104, bd_104, cK_105, kl_105, bd_105, cK_106, kl_106, bd_106, cK_107, kl_107, bd_107, cK_108, kl_108, bd_108, cK_109, kl_109, bd_109, cK_110, kl_110, bd_110, cK_111, kl_111, bd_111, cK_112, kl_112, bd_112, cK_113, kl_113, bd_113, cK_114, kl_114, bd_114, cK_115, kl_115, bd_115, cK_116, kl_116, bd_116, cK_117, kl_117, bd_117, cK_118, kl_118, bd_118, cK_119, kl_119, bd_119, cK_120, kl_120, bd_120, cK_121, kl_121, bd_121, ld_0_0, ld_0_1, ld_0_2, ld_0_3, ld_0_4, ld_0_5, ld_0_6, ld_0_7, ld_0_8, ld_0_9, ld_1_0, ld_3_0, ld_5_0, ld_5_1, ld_5_2, ld_5_3, ld_6_0, ld_6_1, ld_23_0, ld_23_1, ld_38_0, ld_38_1, ld_38_2, ld_38_3, ld_38_4, ld_44_0, ld_44_1, ld_44_2, ld_48_1, ld_90_1, ld_102_3, ld_102_4, ld_102_5, ld_102_8, ld_102_12, ld_102_13, ld_102_14, ld_102_15, ld_102_16, ld_102_17, ld_102_19, ld_102_20, ld_102_21, ld_102_22, ld_102_23, ld_102_25, ld_102_27, ld_102_28, ld_102_30, cK_pl, cK_to, cK_dp, cK_dt, cK_un, cK_ke, ld_pl, ld_to, ld_dp, ld_dt, ld_un, ld_ke, hS.2.1, hle, a1, s2, hk1, b1, s1, e1, hsu, b3, hg2, b2, hS2.2.2.2 t (show t < s by omega), hne, allB, hq, hy2, decide_false, Bool.false_and]
    · have hne : ¬ nI (sg t 1) = nI k := fun e => hk1 (nI_inj (by omega) (by omega) e)
      have hq : qB n d P T k sg t kd = true := by unfold qB; exact decide_eq_true (fun h => absurd h hk1)
      obtain ⟨m', u1, u2⟩ := ih (t + 1) N m (by omega) (by omega) (by omega) hC hS
      refine ⟨m', ?_, u2⟩
      rw [fx_s]
      generalize fx (fun _ _ _ _ _ _ => none) (b_Si_allAreSo_3 SF) N = K at u1 ⊢
      unfold b_Si_allAreSo_3 f_Si_allAreSo_63
      simp (disch := omega) only [oN, Option.bind_some, ↓reduceIte, ifT, ifF, eq_self, reduceCtorEq, cK_0, cK_1, cK_2, kl_2, bd_2, cK_3, cK_4, kl_4, bd_4, cK_5, cK_6, cK_7, kl_7, bd_7, cK_8, cK_25, cK_20, kl_20, bd_20, cK_21, kl_21, bd_21, cK_22, kl_22, bd_22, cK_23, cK_24, kl_24, bd_24, cK_37, cK_38, cK_39, kl_39, bd_39, cK_40, kl_40, bd_40, cK_41, kl_41, bd_41, cK_42, kl_42, bd_42, cK_43, kl_43, bd_43, cK_44, cK_45, kl_45, bd_45, cK_46, kl_46, bd_46, cK_47, kl_47, bd_47, cK_48, cK_49, kl_49, bd_49, cK_90, cK_91, kl_91, bd_91, cK_102, cK_103, kl_103, bd_103, cK_104, kl_104, bd_104, cK_105, kl_105, bd_105, cK_106, kl_106, bd_106, cK_107, kl_107, bd_107, cK_108, kl_108, bd_108, cK_109, kl_109, bd_109, cK_110, kl_110, bd_110, cK_111, kl_111, bd_111, cK_112, kl_112, bd_112, cK_113, kl_113, bd_113, cK_114, kl_114, bd_114, cK_115, kl_115, bd_115, cK_116, kl_116, bd_116, cK_117, kl_117, bd_117, cK_118, kl_118, bd_118, cK_119, kl_119, bd_119, cK_120, kl_120, bd_120, cK_121, kl_121, bd_121, ld_0_0, ld_0_1, ld_0_2, ld_0_3, ld_0_4, ld_0_5, ld_0_6, ld_0_7, ld_0_8, ld_0_9, ld_1_0, ld_3_0, ld_5_0, ld_5_1, ld_5_2, ld_5_3, ld_6_0, ld_6_1, ld_23_0, ld_23_1, ld_38_0, ld_38_1, ld_38_2, ld_38_3, ld_38_4, ld_44_0, ld_44_1, ld_44_2, ld_48_1, ld_90_1, ld_102_3, ld_102_4, ld_102_5, ld_102_8, ld_102_12, ld_102_13, ld_102_14, ld_102_15, ld_102_16, ld_102_17, ld_102_19, ld_102_20, ld_102_21, ld_102_22, ld_102_23, ld_102_25, ld_102_27, ld_102_28, ld_102_30, cK_pl, cK_to, cK_dp, cK_dt, cK_un, cK_ke, ld_pl, ld_to, ld_dp, ld_dt, ld_un, ld_ke, hS.2.1, hle, a1, s2, hne, nI_add, u1, allB, hq, Bool.true_and]
theorem sp_kindsOf {c n d k s : Nat} {P T : ba_T} {sg : ba_T} (hok : okG c n d P T) (hk : k < c) : ∀ (r kd N : Nat) (m : ba_M) (f : Nat → Bool), 4 - kd = r → kd ≤ 4 → r < N → GC m c n d P T → SG m c n s sg → (∀ q, kd ≤ q → f q = false) →
    ∃ m', fx (fun _ _ _ _ _ _ => none) (b_Si_kindsOf_5 SF) N 44 (nI k) 5 (mk4 f) (nI kd) m = some (mk4 (fun q => f q || (decide (kd ≤ q) && allB (fun t => qB n d P T k sg t q) s 0)), m') ∧ Fr oRo m m' := by
  obtain ⟨⟨o1, o2, o3, o4, o5⟩, o6, o7⟩ := id hok
  intro r
  induction r with
  | zero =>
    intro kd N m f hr ht hN hC hS hf
    obtain ⟨N, rfl⟩ : ∃ z, N = z + 1 := ⟨N - 1, by omega⟩
    refine ⟨m, ?_, Fr.rf⟩
    rw [fx_s]
    generalize fx (fun _ _ _ _ _ _ => none) (b_Si_kindsOf_5 SF) N = K
    unfold b_Si_kindsOf_5
    rw [if_pos (by rw [nI_leI (by omega) (by omega)]; omega)]
    refine congrArg (fun z => some (z, m)) (mk4_cg fun q hq => ?_)
    rw [decide_eq_false (by omega), Bool.false_and, Bool.or_false]
  | succ r ih =>
    intro kd N m f hr ht hN hC hS hf
    obtain ⟨N, rfl⟩ : ∃ z, N = z + 1 := ⟨N - 1, by omega⟩
    obtain ⟨m1, e1, e2⟩ := sp_allSo (s := s) (sg := sg) (kd := kd) hok hk (by omega) s 0 FU m (by omega) (by omega) (by have := hS.1; unfold FU; omega) hC hS
    have hle : ¬ nI 4 ≤ nI kd := by rw [nI_leI (by omega) (by omega)]; omega
    have e1' : f_Si_allAreSo SF 44 (nI k) (nI kd) 5 m = some (allB (fun t => qB n d P T k sg t kd) s 0, m1) := by
      unfold f_Si_allAreSo f_Si_allAreSo_3
      simp only [cK_0, cK_1, cK_2, kl_2, bd_2, cK_3, cK_4, kl_4, bd_4, cK_5, cK_6, cK_7, kl_7, bd_7, cK_8, cK_25, cK_20, kl_20, bd_20, cK_21, kl_21, bd_21, cK_22, kl_22, bd_22, cK_23, cK_24, kl_24, bd_24, cK_37, cK_38, cK_39, kl_39, bd_39, cK_40, kl_40, bd_40, cK_41, kl_41, bd_41, cK_42, kl_42, bd_42, cK_43, kl_43, bd_43, cK_44, cK_45, kl_45, bd_45, cK_46, kl_46, bd_46, cK_47, kl_47, bd_47, cK_48, cK_49, kl_49, bd_49, cK_90, cK_91, kl_91, bd_91, cK_102, cK_103, kl_103, bd_103, cK_104, kl_104, bd_104, cK_105, kl_105, bd_105, cK_106, kl_106, bd_106, cK_107, kl_107, bd_107, cK_108, kl_108, bd_108, cK_109, kl_109, bd_109, cK_110, kl_110, bd_110, cK_111, kl_111, bd_111, cK_112, kl_112, bd_112, cK_113, kl_113, bd_113, cK_114, kl_114, bd_114, cK_115, kl_115, bd_115, cK_116, kl_116, bd_116, cK_117, kl_117, bd_117, cK_118, kl_118, bd_118, cK_119, kl_119, bd_119, cK_120, kl_120, bd_120, cK_121, kl_121, bd_121, ld_0_0, ld_0_1, ld_0_2, ld_0_3, ld_0_4, ld_0_5, ld_0_6, ld_0_7, ld_0_8, ld_0_9, ld_1_0, ld_3_0, ld_5_0, ld_5_1, ld_5_2, ld_5_3, ld_6_0, ld_6_1, ld_23_0, ld_23_1, ld_38_0, ld_38_1, ld_38_2, ld_38_3, ld_38_4, ld_44_0, ld_44_1, ld_44_2, ld_48_1, ld_90_1, ld_102_3, ld_102_4, ld_102_5, ld_102_8, ld_102_12, ld_102_13, ld_102_14, ld_102_15, ld_102_16, ld_102_17, ld_102_19, ld_102_20, ld_102_21, ld_102_22, ld_102_23, ld_102_25, ld_102_27, ld_102_28, ld_102_30, cK_pl, cK_to, cK_dp, cK_dt, cK_un, cK_ke, ld_pl, ld_to, ld_dp, ld_dt, ld_un, ld_ke]
      exact e1
    have hC1 := hC.ro o2 e2
    have hS1 := hS.frO e2 (by intro o k ho; simp only [oRo, tSG] at *; omega)
    cases hA : allB (fun t => qB n d P T k sg t kd) s 0 with
    | true =>
      rw [hA] at e1'
      have hor := mk4_or (f := f) (g := fun q => f q || decide (q = kd)) (k := kd) (by omega) (fun q _ => rfl)
      obtain ⟨m', u1, u2⟩ := ih (kd + 1) N m1 (fun q => f q || decide (q = kd)) (by omega) (by omega) (by omega) hC1 hS1 (fun q hq => by simp only [hf q (by omega), Bool.false_or]; exact decide_eq_false (by omega))
      refine ⟨m', ?_, e2.tr u2⟩
      rw [fx_s]
      generalize fx (fun _ _ _ _ _ _ => none) (b_Si_kindsOf_5 SF) N = K at u1 ⊢
      unfold b_Si_kindsOf_5 f_Si_kindsOf_29
      simp (disch := omega) only [oN, Option.bind_some, ↓reduceIte, ifT, ifF, eq_self, reduceCtorEq, cK_0, cK_1, cK_2, kl_2, bd_2, cK_3, cK_4, kl_4, bd_4, cK_5, cK_6, cK_7, kl_7, bd_7, cK_8, cK_25, cK_20, kl_20, bd_20, cK_21, kl_21, bd_21, cK_22, kl_22, bd_22, cK_23, cK_24, kl_24, bd_24, cK_37, cK_38, cK_39, kl_39, bd_39, cK_40, kl_40, bd_40, cK_41, kl_41, bd_41, cK_42, kl_42, bd_42, cK_43, kl_43, bd_43, cK_44, cK_45, kl_45, bd_45, cK_46, kl_46, bd_46, cK_47, kl_47, bd_47, cK_48, cK_49, kl_49, bd_49, cK_90, cK_91, kl_91, bd_91, cK_102, cK_103, kl_103, bd_103, cK_104, kl_104, bd_104, cK_105, kl_105, bd_105, cK_106, kl_106, bd_106, cK_107, kl_107, bd_107, cK_108, kl_108, bd_108, cK_109, kl_109, bd_109, cK_110, kl_110, bd_110, cK_111, kl_111, bd_111, cK_112, kl_112, bd_112, cK_113, kl_113, bd_113, cK_114, kl_114, bd_114, cK_115, kl_115, bd_115, cK_116, kl_116, bd_116, cK_117, kl_117, bd_117, cK_118, kl_118, bd_118, cK_119, kl_119, bd_119, cK_120, kl_120, bd_120, cK_121, kl_121, bd_121, ld_0_0, ld_0_1, ld_0_2, ld_0_3, ld_0_4, ld_0_5, ld_0_6, ld_0_7, ld_0_8, ld_0_9, ld_1_0, ld_3_0, ld_5_0, ld_5_1, ld_5_2, ld_5_3, ld_6_0, ld_6_1, ld_23_0, ld_23_1, ld_38_0, ld_38_1, ld_38_2, ld_38_3, ld_38_4, ld_44_0, ld_44_1, ld_44_2, ld_48_1, ld_90_1, ld_102_3, ld_102_4, ld_102_5, ld_102_8, ld_102_12, ld_102_13, ld_102_14, ld_102_15, ld_102_16, ld_102_17, ld_102_19, ld_102_20, ld_102_21, ld_102_22, ld_102_23, ld_102_25, ld_102_27, ld_102_28, ld_102_30, cK_pl, cK_to, cK_dp, cK_dt, cK_un, cK_ke, ld_pl, ld_to, ld_dp, ld_dt, ld_un, ld_ke, hle, e1', hor, nI_add, u1]
      refine congrArg (fun z => some (z, m')) (mk4_cg fun q hq => ?_)
      by_cases hqk : q = kd
      · subst hqk; rw [hA]; simp
      · rw [decide_eq_false hqk, show decide (kd + 1 ≤ q) = decide (kd ≤ q) from decide_eq_decide.mpr (by omega), Bool.or_false]
    | false =>
      rw [hA] at e1'
      obtain ⟨m', u1, u2⟩ := ih (kd + 1) N m1 f (by omega) (by omega) (by omega) hC1 hS1 (fun q hq => hf q (by omega))
      refine ⟨m', ?_, e2.tr u2⟩
      rw [fx_s]
      generalize fx (fun _ _ _ _ _ _ => none) (b_Si_kindsOf_5 SF) N = K at u1 ⊢
      unfold b_Si_kindsOf_5 f_Si_kindsOf_29
      simp (disch := omega) only [oN, Option.bind_some, ↓reduceIte, ifT, ifF, eq_self, reduceCtorEq, cK_0, cK_1, cK_2, kl_2, bd_2, cK_3, cK_4, kl_4, bd_4, cK_5, cK_6, cK_7, kl_7, bd_7, cK_8, cK_25, cK_20, kl_20, bd_20, cK_21, kl_21, bd_21, cK_22, kl_22, bd_22, cK_23, cK_24, kl_24, bd_24, cK_37, cK_38, cK_39, kl_39, bd_39, cK_40, kl_40, bd_40, cK_41, kl_41, bd_41, cK_42, kl_42, bd_42, cK_43, kl_43, bd_43, cK_44, cK_45, kl_45, bd_45, cK_46, kl_46, bd_46, cK_47, kl_47, bd_47, cK_48, cK_49, kl_49, bd_49, cK_90, cK_91, kl_91, bd_91, cK_102, cK_103, kl_103, bd_103, cK_104, kl_104, bd_104, cK_105, kl_105, bd_105, cK_106, kl_106, bd_106, cK_107, kl_107, bd_107, cK_108, kl_108, bd_108, cK_109, kl_109, bd_109, cK_110, kl_110, bd_110, cK_111, kl_111, bd_111, cK_112, kl_112, bd_112, cK_113, kl_113, bd_113, cK_114, kl_114, bd_114, cK_115, kl_115, bd_115, cK_116, kl_116, bd_116, cK_117, kl_117, bd_117, cK_118, kl_118, bd_118, cK_119, kl_119, bd_119, cK_120, kl_120, bd_120, cK_121, kl_121, bd_121, ld_0_0, ld_0_1, ld_0_2, ld_0_3, ld_0_4, ld_0_5, ld_0_6, ld_0_7, ld_0_8, ld_0_9, ld_1_0, ld_3_0, ld_5_0, ld_5_1, ld_5_2, ld_5_3, ld_6_0, ld_6_1, ld_23_0, ld_23_1, ld_38_0, ld_38_1, ld_38_2, ld_38_3, ld_38_4, ld_44_0, ld_44_1, ld_44_2, ld_48_1, ld_90_1, ld_102_3, ld_102_4, ld_102_5, ld_102_8, ld_102_12, ld_102_13, ld_102_14, ld_102_15, ld_102_16, ld_102_17, ld_102_19, ld_102_20, ld_102_21, ld_102_22, ld_102_23, ld_102_25, ld_102_27, ld_102_28, ld_102_30, cK_pl, cK_to, cK_dp, cK_dt, cK_un, cK_ke, ld_pl, ld_to, ld_dp, ld_dt, ld_un, ld_ke, hle, e1', Bool.false_eq_true, nI_add, u1]
      refine congrArg (fun z => some (z, m')) (mk4_cg fun q hq => ?_)
      by_cases hqk : q = kd
      · subst hqk; rw [hA]; simp
      · rw [show decide (kd + 1 ≤ q) = decide (kd ≤ q) from decide_eq_decide.mpr (by omega)]
theorem ltI {a b : Nat} (ha : a < 2 ^ 31) (hb : b < 2 ^ 31) : nI a < nI b ↔ a < b := nI_ltI ha hb
theorem sp_mkIn {m : ba_M} {c n d k s t : Nat} {P T : ba_T} {sg : ba_T} (hM : GM m c n d P T) (hok : okG c n d P T) (hk : k < c) (hS : SG m c n s sg) (ht : t < s) (k15 : Nat → Int32 → Int32 → Int32 → ba_M → Option (Int32 × ba_M)) :
    ∀ (r kd N : Nat) (f : Nat → Bool), 4 - kd = r → kd ≤ 4 → r < N →
    fx (fun _ _ _ _ _ _ _ _ => none) (b_Mo_kinds_68 SF k15) N 102 (nI k) (mk4 f) (nI t) (nI (sg t 0)) (nI (btT P T (sg t 0))) (nI kd) m = k15 102 (nI k) (mk4 (fun q => f q && (decide (q < kd) || qB n d P T k sg t q))) (nI (t + 1)) m := by
  obtain ⟨⟨o1, o2, o3, o4, o5⟩, o6, o7⟩ := id hok
  have hs := hS.1
  obtain ⟨⟨s1, s2, s3, s7, s8, s9⟩, s4, s5, s6⟩ := hS.2.2.2 t ht
  obtain ⟨t1, t2, t3, t4, t5, t6⟩ := o7 (sg t 0) s4
  obtain ⟨q1, q2, q3, q4, q5, q6, q7⟩ := o6 _ t1
  obtain ⟨w1, w2, w3, w4⟩ := hM.2.2.2.2 _ s4
  have hbt := bts_in (n := n) (X := P (T (sg t 0) 0) 0) (V := P (T (sg t 0) 0) 1) (b := T (sg t 0) 1) (h := T (sg t 0) 2) (by omega) (by omega) ⟨q2, q3⟩ ⟨t4, t5⟩
  intro r
  induction r with
  | zero =>
    intro kd N f hr hkd hN
    obtain ⟨N, rfl⟩ : ∃ z, N = z + 1 := ⟨N - 1, by omega⟩
    rw [fx_s]
    generalize fx (fun _ _ _ _ _ _ _ _ => none) (b_Mo_kinds_68 SF k15) N = K
    unfold b_Mo_kinds_68
    rw [if_pos (by rw [nI_ltI (by omega) (by omega)]; omega), nI_add]
    refine congrArg (fun z => k15 102 (nI k) z (nI (t + 1)) m) (mk4_cg fun q hq => ?_)
    rw [decide_eq_true (by omega), Bool.true_or, Bool.and_true]
  | succ r ih =>
    intro kd N f hr hkd hN
    obtain ⟨N, rfl⟩ : ∃ z, N = z + 1 := ⟨N - 1, by omega⟩
    have hlt : ¬ nI 3 < nI kd := by rw [nI_ltI (by omega) (by omega)]; omega
    have hsp := sp_mstands hM hok (k := k) (kd := kd) (b := T (sg t 0) 1) hk (by omega) (by omega) hbt
    obtain ⟨y, hy⟩ : ∃ y, y = st1 n d P (T (sg t 0) 0) (T (sg t 0) 1) (btT P T (sg t 0)) kd k := ⟨_, rfl⟩
    have hle40 : y ≤ 40 := by
      rw [hy]
      unfold st1
      split
      · omega
      · refine tw_le ?_ (by have := (o6 k hk).1; omega)
        split
        · omega
        · split <;> omega
    have key : ∀ K : Nat → Int32 → Int32 → Int32 → Int32 → Int32 → Int32 → ba_M → Option (Int32 × ba_M), b_Mo_kinds_68 SF k15 K 102 (nI k) (mk4 f) (nI t) (nI (sg t 0)) (nI (btT P T (sg t 0))) (nI kd) m = f_Mo_kinds_115 SF k15 K 102 (nI k) (mk4 f) (nI t) (nI (sg t 0)) (nI (btT P T (sg t 0))) (nI kd) (nI y) m := by
      intro K
      unfold b_Mo_kinds_68
      by_cases hkj : k = T (sg t 0) 0
      · have e : nI (T (sg t 0) 0) = nI k := by rw [← hkj]
        have hy2 : y = T (sg t 0) 1 := by rw [hy]; exact if_pos hkj
        simp (disch := omega) only [oN, Option.bind_some, ↓reduceIte, ifT, ifF, eq_self, reduceCtorEq, cK_0, cK_1, cK_2, kl_2, bd_2, cK_3, cK_4, kl_4, bd_4, cK_5, cK_6, cK_7, kl_7, bd_7, cK_8, cK_25, cK_20, kl_20, bd_20, cK_21, kl_21, bd_21, cK_22, kl_22, bd_22, cK_23, cK_24, kl_24, bd_24, cK_37, cK_38, cK_39, kl_39, bd_39, cK_40, kl_40, bd_40, cK_41, kl_41, bd_41, cK_42, kl_42, bd_42, cK_43, kl_43, bd_43, cK_44, cK_45, kl_45, bd_45, cK_46, kl_46, bd_46, cK_47, kl_47, bd_47, cK_48, cK_49, kl_49, bd_49, cK_90, cK_91, kl_91, bd_91, cK_102, cK_103, kl_103, bd_103, cK_104, kl_104, bd_104, cK_105, kl_105, bd_105, cK_106, kl_106, bd_106, cK_107, kl_107, bd_107, cK_108, kl_108, bd_108, cK_109, kl_109, bd_109, cK_110, kl_110, bd_110, cK_111, kl_111, bd_111, cK_112, kl_112, bd_112, cK_113, kl_113, bd_113, cK_114, kl_114, bd_114, cK_115, kl_115, bd_115, cK_116, kl_116, bd_116, cK_117, kl_117, bd_117, cK_118, kl_118, bd_118, cK_119, kl_119, bd_119, cK_120, kl_120, bd_120, cK_121, kl_121, bd_121, ld_0_0, ld_0_1, ld_0_2, ld_0_3, ld_0_4, ld_0_5, ld_0_6, ld_0_7, ld_0_8, ld_0_9, ld_1_0, ld_3_0, ld_5_0, ld_5_1, ld_5_2, ld_5_3, ld_6_0, ld_6_1, ld_23_0, ld_23_1, ld_38_0, ld_38_1, ld_38_2, ld_38_3, ld_38_4, ld_44_0, ld_44_1, ld_44_2, ld_48_1, ld_90_1, ld_102_3, ld_102_4, ld_102_5, ld_102_8, ld_102_12, ld_102_13, ld_102_14, ld_102_15, ld_102_16, ld_102_17, ld_102_19, ld_102_20, ld_102_21, ld_102_22, ld_102_23, ld_102_25, ld_102_27, ld_102_28, ld_102_30, cK_pl, cK_to, cK_dp, cK_dt, cK_un, cK_ke, ld_pl, ld_to, ld_dp, ld_dt, ld_un, ld_ke, hlt, nI_clamp, nI_add, w1, e, w2, hy2]
      · have e : ¬ nI (T (sg t 0) 0) = nI k := fun e => hkj (nI_inj (by omega) (by omega) e).symm
        have hy2 : y = stp n d (P k 0) (P k 1) kd (T (sg t 0) 1) (btT P T (sg t 0)) := by rw [hy]; exact if_neg hkj
        simp (disch := omega) only [oN, Option.bind_some, ↓reduceIte, ifT, ifF, eq_self, reduceCtorEq, cK_0, cK_1, cK_2, kl_2, bd_2, cK_3, cK_4, kl_4, bd_4, cK_5, cK_6, cK_7, kl_7, bd_7, cK_8, cK_25, cK_20, kl_20, bd_20, cK_21, kl_21, bd_21, cK_22, kl_22, bd_22, cK_23, cK_24, kl_24, bd_24, cK_37, cK_38, cK_39, kl_39, bd_39, cK_40, kl_40, bd_40, cK_41, kl_41, bd_41, cK_42, kl_42, bd_42, cK_43, kl_43, bd_43, cK_44, cK_45, kl_45, bd_45, cK_46, kl_46, bd_46, cK_47, kl_47, bd_47, cK_48, cK_49, kl_49, bd_49, cK_90, cK_91, kl_91, bd_91, cK_102, cK_103, kl_103, bd_103, cK_104, kl_104, bd_104, cK_105, kl_105, bd_105, cK_106, kl_106, bd_106, cK_107, kl_107, bd_107, cK_108, kl_108, bd_108, cK_109, kl_109, bd_109, cK_110, kl_110, bd_110, cK_111, kl_111, bd_111, cK_112, kl_112, bd_112, cK_113, kl_113, bd_113, cK_114, kl_114, bd_114, cK_115, kl_115, bd_115, cK_116, kl_116, bd_116, cK_117, kl_117, bd_117, cK_118, kl_118, bd_118, cK_119, kl_119, bd_119, cK_120, kl_120, bd_120, cK_121, kl_121, bd_121, ld_0_0, ld_0_1, ld_0_2, ld_0_3, ld_0_4, ld_0_5, ld_0_6, ld_0_7, ld_0_8, ld_0_9, ld_1_0, ld_3_0, ld_5_0, ld_5_1, ld_5_2, ld_5_3, ld_6_0, ld_6_1, ld_23_0, ld_23_1, ld_38_0, ld_38_1, ld_38_2, ld_38_3, ld_38_4, ld_44_0, ld_44_1, ld_44_2, ld_48_1, ld_90_1, ld_102_3, ld_102_4, ld_102_5, ld_102_8, ld_102_12, ld_102_13, ld_102_14, ld_102_15, ld_102_16, ld_102_17, ld_102_19, ld_102_20, ld_102_21, ld_102_22, ld_102_23, ld_102_25, ld_102_27, ld_102_28, ld_102_30, cK_pl, cK_to, cK_dp, cK_dt, cK_un, cK_ke, ld_pl, ld_to, ld_dp, ld_dt, ld_un, ld_ke, hlt, nI_clamp, nI_add, w1, e, w2, hsp, hy2]
    have key2 : ∀ K : Nat → Int32 → Int32 → Int32 → Int32 → Int32 → Int32 → ba_M → Option (Int32 × ba_M), f_Mo_kinds_115 SF k15 K 102 (nI k) (mk4 f) (nI t) (nI (sg t 0)) (nI (btT P T (sg t 0))) (nI kd) (nI y) m = K 102 (nI k) (mk4 (fun q => f q && (decide (q ≠ kd) || qB n d P T k sg t kd))) (nI t) (nI (sg t 0)) (nI (btT P T (sg t 0))) (nI (kd + 1)) m := by
      intro K
      unfold f_Mo_kinds_115 f_Mo_kinds_156 f_Mo_kinds_158
      by_cases hk1 : sg t 1 = k
      · by_cases hy2 : y = sg t 2
        · have hq : qB n d P T k sg t kd = true := by unfold qB; rw [← hy]; exact decide_eq_true (fun _ => hy2)
          have e : mk4 (fun q => f q && (decide (q ≠ kd) || qB n d P T k sg t kd)) = mk4 f := mk4_cg (fun q _ => by rw [hq, Bool.or_true, Bool.and_true])
          rw [e]
          simp (disch := omega) only [oN, Option.bind_some, ↓reduceIte, ifT, ifF, eq_self, reduceCtorEq, cK_0, cK_1, cK_2, kl_2, bd_2, cK_3, cK_4, kl_4, bd_4, cK_5, cK_6, cK_7, kl_7, bd_7, cK_8, cK_25, cK_20, kl_20, bd_20, cK_21, kl_21, bd_21, cK_22, kl_22, bd_22, cK_23, cK_24, kl_24, bd_24, cK_37, cK_38, cK_39, kl_39, bd_39, cK_40, kl_40, bd_40, cK_41, kl_41, bd_41, cK_42, kl_42, bd_42, cK_43, kl_43, bd_43, cK_44, cK_45, kl_45, bd_45, cK_46, kl_46, bd_46, cK_47, kl_47, bd_47, cK_48, cK_49, kl_49, bd_49, cK_90, cK_91, kl_91, bd_91, cK_102, cK_103, kl_103, bd_103, cK_104, kl_104, bd_104, cK_105, kl_105, bd_105, cK_106, kl_106, bd_106, cK_107, kl_107, bd_107, cK_108, kl_108, bd_108, cK_109, kl_109, bd_109, cK_110, kl_110, bd_110, cK_111, kl_111, bd_111, cK_112, kl_112, bd_112, cK_113, kl_113, bd_113, cK_114, kl_114, bd_114, cK_115, kl_115, bd_115, cK_116, kl_116, bd_116, cK_117, kl_117, bd_117, cK_118, kl_118, bd_118, cK_119, kl_119, bd_119, cK_120, kl_120, bd_120, cK_121, kl_121, bd_121, ld_0_0, ld_0_1, ld_0_2, ld_0_3, ld_0_4, ld_0_5, ld_0_6, ld_0_7, ld_0_8, ld_0_9, ld_1_0, ld_3_0, ld_5_0, ld_5_1, ld_5_2, ld_5_3, ld_6_0, ld_6_1, ld_23_0, ld_23_1, ld_38_0, ld_38_1, ld_38_2, ld_38_3, ld_38_4, ld_44_0, ld_44_1, ld_44_2, ld_48_1, ld_90_1, ld_102_3, ld_102_4, ld_102_5, ld_102_8, ld_102_12, ld_102_13, ld_102_14, ld_102_15, ld_102_16, ld_102_17, ld_102_19, ld_102_20, ld_102_21, ld_102_22, ld_102_23, ld_102_25, ld_102_27, ld_102_28, ld_102_30, cK_pl, cK_to, cK_dp, cK_dt, cK_un, cK_ke, ld_pl, ld_to, ld_dp, ld_dt, ld_un, ld_ke, pk_mul, nI_clamp, nI_add, s8, hk1, s9, hy2, mk4_15]
        · have hne : ¬ nI y = nI (sg t 2) := fun e => hy2 (nI_inj (by omega) (by omega) e)
          have hq : qB n d P T k sg t kd = false := by unfold qB; rw [← hy]; exact decide_eq_false (fun h => hy2 (h hk1))
          have e := mk4_cl (f := f) (g := fun q => f q && (decide (q ≠ kd) || qB n d P T k sg t kd)) (k := kd) (by omega) (fun q _ => by rw [hq, Bool.or_false])
          simp (disch := omega) only [oN, Option.bind_some, ↓reduceIte, ifT, ifF, eq_self, reduceCtorEq, cK_0, cK_1, cK_2, kl_2, bd_2, cK_3, cK_4, kl_4, bd_4, cK_5, cK_6, cK_7, kl_7, bd_7, cK_8, cK_25, cK_20, kl_20, bd_20, cK_21, kl_21, bd_21, cK_22, kl_22, bd_22, cK_23, cK_24, kl_24, bd_24, cK_37, cK_38, cK_39, kl_39, bd_39, cK_40, kl_40, bd_40, cK_41, kl_41, bd_41, cK_42, kl_42, bd_42, cK_43, kl_43, bd_43, cK_44, cK_45, kl_45, bd_45, cK_46, kl_46, bd_46, cK_47, kl_47, bd_47, cK_48, cK_49, kl_49, bd_49, cK_90, cK_91, kl_91, bd_91, cK_102, cK_103, kl_103, bd_103, cK_104, kl_104, bd_104, cK_105, kl_105, bd_105, cK_106, kl_106, bd_106, cK_107, kl_107, bd_107, cK_108, kl_108, bd_108, cK_109, kl_109, bd_109, cK_110, kl_110, bd_110, cK_111, kl_111, bd_111, cK_112, kl_112, bd_112, cK_113, kl_113, bd_113, cK_114, kl_114, bd_114, cK_115, kl_115, bd_115, cK_116, kl_116, bd_116, cK_117, kl_117, bd_117, cK_118, kl_118, bd_118, cK_119, kl_119, bd_119, cK_120, kl_120, bd_120, cK_121, kl_121, bd_121, ld_0_0, ld_0_1, ld_0_2, ld_0_3, ld_0_4, ld_0_5, ld_0_6, ld_0_7, ld_0_8, ld_0_9, ld_1_0, ld_3_0, ld_5_0, ld_5_1, ld_5_2, ld_5_3, ld_6_0, ld_6_1, ld_23_0, ld_23_1, ld_38_0, ld_38_1, ld_38_2, ld_38_3, ld_38_4, ld_44_0, ld_44_1, ld_44_2, ld_48_1, ld_90_1, ld_102_3, ld_102_4, ld_102_5, ld_102_8, ld_102_12, ld_102_13, ld_102_14, ld_102_15, ld_102_16, ld_102_17, ld_102_19, ld_102_20, ld_102_21, ld_102_22, ld_102_23, ld_102_25, ld_102_27, ld_102_28, ld_102_30, cK_pl, cK_to, cK_dp, cK_dt, cK_un, cK_ke, ld_pl, ld_to, ld_dp, ld_dt, ld_un, ld_ke, pk_mul, nI_clamp, nI_add, s8, hk1, s9, hne, e]
      · have hne : ¬ nI (sg t 1) = nI k := fun e => hk1 (nI_inj (by omega) (by omega) e)
        have hq : qB n d P T k sg t kd = true := by unfold qB; exact decide_eq_true (fun h => absurd h hk1)
        have e : mk4 (fun q => f q && (decide (q ≠ kd) || qB n d P T k sg t kd)) = mk4 f := mk4_cg (fun q _ => by rw [hq, Bool.or_true, Bool.and_true])
        rw [e]
        simp (disch := omega) only [oN, Option.bind_some, ↓reduceIte, ifT, ifF, eq_self, reduceCtorEq, cK_0, cK_1, cK_2, kl_2, bd_2, cK_3, cK_4, kl_4, bd_4, cK_5, cK_6, cK_7, kl_7, bd_7, cK_8, cK_25, cK_20, kl_20, bd_20, cK_21, kl_21, bd_21, cK_22, kl_22, bd_22, cK_23, cK_24, kl_24, bd_24, cK_37, cK_38, cK_39, kl_39, bd_39, cK_40, kl_40, bd_40, cK_41, kl_41, bd_41, cK_42, kl_42, bd_42, cK_43, kl_43, bd_43, cK_44, cK_45, kl_45, bd_45, cK_46, kl_46, bd_46, cK_47, kl_47, bd_47, cK_48, cK_49, kl_49, bd_49, cK_90, cK_91, kl_91, bd_91, cK_102, cK_103, kl_103, bd_103, cK_104, kl_104, bd_104, cK_105, kl_105, bd_105, cK_106, kl_106, bd_106, cK_107, kl_107, bd_107, cK_108, kl_108, bd_108, cK_109, kl_109, bd_109, cK_110, kl_110, bd_110, cK_111, kl_111, bd_111, cK_112, kl_112, bd_112, cK_113, kl_113, bd_113, cK_114, kl_114, bd_114, cK_115, kl_115, bd_115, cK_116, kl_116, bd_116, cK_117, kl_117, bd_117, cK_118, kl_118, bd_118, cK_119, kl_119, bd_119, cK_120, kl_120, bd_120, cK_121, kl_121, bd_121, ld_0_0, ld_0_1, ld_0_2, ld_0_3, ld_0_4, ld_0_5, ld_0_6, ld_0_7, ld_0_8, ld_0_9, ld_1_0, ld_3_0, ld_5_0, ld_5_1, ld_5_2, ld_5_3, ld_6_0, ld_6_1, ld_23_0, ld_23_1, ld_38_0, ld_38_1, ld_38_2, ld_38_3, ld_38_4, ld_44_0, ld_44_1, ld_44_2, ld_48_1, ld_90_1, ld_102_3, ld_102_4, ld_102_5, ld_102_8, ld_102_12, ld_102_13, ld_102_14, ld_102_15, ld_102_16, ld_102_17, ld_102_19, ld_102_20, ld_102_21, ld_102_22, ld_102_23, ld_102_25, ld_102_27, ld_102_28, ld_102_30, cK_pl, cK_to, cK_dp, cK_dt, cK_un, cK_ke, ld_pl, ld_to, ld_dp, ld_dt, ld_un, ld_ke, pk_mul, nI_clamp, nI_add, s8, hne, mk4_15]
    rw [fx_s, key, key2, ih (kd + 1) N _ (by omega) (by omega) (by omega)]
    refine congrArg (fun z => k15 102 (nI k) z (nI (t + 1)) m) (mk4_cg fun q hq => ?_)
    by_cases hqk : q = kd
    · subst hqk
      rw [decide_eq_true (show q < q + 1 by omega), decide_eq_false (show ¬ q < q by omega), decide_eq_false (show ¬ q ≠ q from fun h => h rfl), Bool.true_or, Bool.and_true, Bool.false_or]
    · rw [decide_eq_true hqk, Bool.true_or, Bool.and_true, show decide (q < kd + 1) = decide (q < kd) from decide_eq_decide.mpr (by omega)]
theorem sp_mkOut {m : ba_M} {c n d k s : Nat} {P T : ba_T} {sg : ba_T} (hM : GM m c n d P T) (hok : okG c n d P T) (hk : k < c) (hS : SG m c n s sg) :
    ∀ (r t N : Nat) (f : Nat → Bool), s - t = r → t ≤ s → r < N →
    fx (fun _ _ _ _ _ => none) (b_Mo_kinds_15 SF) N 102 (nI k) (mk4 f) (nI t) m = some (mk4 (fun q => f q && allB (fun t => qB n d P T k sg t q) r t), m) := by
  obtain ⟨⟨o1, o2, o3, o4, o5⟩, o6, o7⟩ := id hok
  have hs := hS.1
  intro r
  induction r with
  | zero =>
    intro t N f hr ht hN
    obtain ⟨N, rfl⟩ : ∃ z, N = z + 1 := ⟨N - 1, by omega⟩
    rw [fx_s]
    generalize fx (fun _ _ _ _ _ => none) (b_Mo_kinds_15 SF) N = K
    unfold b_Mo_kinds_15
    rw [hS.2.2.1, if_pos (by rw [nI_leI (by omega) (by omega)]; omega)]
    exact congrArg (fun z => some (z, m)) (mk4_cg fun q hq => (Bool.and_true _).symm)
  | succ r ih =>
    intro t N f hr ht hN
    obtain ⟨N, rfl⟩ : ∃ z, N = z + 1 := ⟨N - 1, by omega⟩
    obtain ⟨⟨s1, s2, s3, s7, s8, s9⟩, s4, s5, s6⟩ := hS.2.2.2 t (by omega)
    obtain ⟨t1, t2, t3, t4, t5, t6⟩ := o7 (sg t 0) s4
    obtain ⟨w1, w2, w3, w4⟩ := hM.2.2.2.2 _ s4
    have hle : ¬ nI s ≤ nI t := by rw [nI_leI (by omega) (by omega)]; omega
    have hbe := sp_mbeats hM hok t1 (b := T (sg t 0) 1) (h := T (sg t 0) 2) (by omega) t5
    have hin := sp_mkIn hM hok hk hS (show t < s by omega) (fx (fun _ _ _ _ _ => none) (b_Mo_kinds_15 SF) N) 4 0 FU f rfl (by omega) (by unfold FU; omega)
    rw [ih (t + 1) N _ (by omega) (by omega) (by omega)] at hin
    rw [fx_s]
    generalize fx (fun _ _ _ _ _ => none) (b_Mo_kinds_15 SF) N = K at hin ⊢
    unfold b_Mo_kinds_15 f_Mo_kinds_68
    simp (disch := omega) only [oN, Option.bind_some, ↓reduceIte, ifT, ifF, eq_self, reduceCtorEq, cK_0, cK_1, cK_2, kl_2, bd_2, cK_3, cK_4, kl_4, bd_4, cK_5, cK_6, cK_7, kl_7, bd_7, cK_8, cK_25, cK_20, kl_20, bd_20, cK_21, kl_21, bd_21, cK_22, kl_22, bd_22, cK_23, cK_24, kl_24, bd_24, cK_37, cK_38, cK_39, kl_39, bd_39, cK_40, kl_40, bd_40, cK_41, kl_41, bd_41, cK_42, kl_42, bd_42, cK_43, kl_43, bd_43, cK_44, cK_45, kl_45, bd_45, cK_46, kl_46, bd_46, cK_47, kl_47, bd_47, cK_48, cK_49, kl_49, bd_49, cK_90, cK_91, kl_91, bd_91, cK_102, cK_103, kl_103, bd_103, cK_104, kl_104, bd_104, cK_105, kl_105, bd_105, cK_106, kl_106, bd_106, cK_107, kl_107, bd_107, cK_108, kl_108, bd_108, cK_109, kl_109, bd_109, cK_110, kl_110, bd_110, cK_111, kl_111, bd_111, cK_112, kl_112, bd_112, cK_113, kl_113, bd_113, cK_114, kl_114, bd_114, cK_115, kl_115, bd_115, cK_116, kl_116, bd_116, cK_117, kl_117, bd_117, cK_118, kl_118, bd_118, cK_119, kl_119, bd_119, cK_120, kl_120, bd_120, cK_121, kl_121, bd_121, ld_0_0, ld_0_1, ld_0_2, ld_0_3, ld_0_4, ld_0_5, ld_0_6, ld_0_7, ld_0_8, ld_0_9, ld_1_0, ld_3_0, ld_5_0, ld_5_1, ld_5_2, ld_5_3, ld_6_0, ld_6_1, ld_23_0, ld_23_1, ld_38_0, ld_38_1, ld_38_2, ld_38_3, ld_38_4, ld_44_0, ld_44_1, ld_44_2, ld_48_1, ld_90_1, ld_102_3, ld_102_4, ld_102_5, ld_102_8, ld_102_12, ld_102_13, ld_102_14, ld_102_15, ld_102_16, ld_102_17, ld_102_19, ld_102_20, ld_102_21, ld_102_22, ld_102_23, ld_102_25, ld_102_27, ld_102_28, ld_102_30, cK_pl, cK_to, cK_dp, cK_dt, cK_un, cK_ke, ld_pl, ld_to, ld_dp, ld_dt, ld_un, ld_ke, hS.2.2.1, hle, pk_mul, nI_clamp, s7, nI_add, w1, w2, w3, hbe, hin]
    refine congrArg (fun z => some (z, m)) (mk4_cg fun q hq => ?_)
    rw [decide_eq_false (by omega), Bool.false_or, Bool.and_assoc]
    rfl
theorem ag_kinds {m : ba_M} (hv : Inv m) (x : Int32) : Ag (f_Ba_kinds SF 0 x m) (f_Mo_kinds SF 102 x) := by
  obtain ⟨c, n, d, P, T, hC, hM, hok, h4, ⟨s, sg, h5⟩, h6, h7, h8⟩ := id hv
  obtain ⟨⟨o1, o2, o3, o4, o5⟩, o6, o7⟩ := id hok
  rcases has_cases x c with ⟨k, hk, rfl⟩ | hx
  · obtain ⟨m1, e1, e2⟩ := sp_kindsOf (s := s) (sg := sg) hok hk 4 0 FU m (fun _ => false) rfl (by omega) (by unfold FU; omega) hC h5 (fun _ _ => rfl)
    have hM1 := hM.ro o2 e2
    have hS1 := h5.frO e2 (by intro o k ho; simp only [oRo, tSG] at *; omega)
    have g := sp_mkOut hM1 hok hk hS1 s 0 FU (fun _ => true) (by omega) (by omega) (by have := h5.1; unfold FU; omega)
    refine ⟨mk4 (fun q => true && allB (fun t => qB n d P T k sg t q) s 0), m1, m1, ?_, ?_, hv.fr (e2.up scr_Ro)⟩
    · have e3 : f_Si_kindsOf SF 44 (nI k) 5 m = some (mk4 (fun q => true && allB (fun t => qB n d P T k sg t q) s 0), m1) := by
        unfold f_Si_kindsOf f_Si_kindsOf_5
        simp only [cK_0, cK_1, cK_2, kl_2, bd_2, cK_3, cK_4, kl_4, bd_4, cK_5, cK_6, cK_7, kl_7, bd_7, cK_8, cK_25, cK_20, kl_20, bd_20, cK_21, kl_21, bd_21, cK_22, kl_22, bd_22, cK_23, cK_24, kl_24, bd_24, cK_37, cK_38, cK_39, kl_39, bd_39, cK_40, kl_40, bd_40, cK_41, kl_41, bd_41, cK_42, kl_42, bd_42, cK_43, kl_43, bd_43, cK_44, cK_45, kl_45, bd_45, cK_46, kl_46, bd_46, cK_47, kl_47, bd_47, cK_48, cK_49, kl_49, bd_49, cK_90, cK_91, kl_91, bd_91, cK_102, cK_103, kl_103, bd_103, cK_104, kl_104, bd_104, cK_105, kl_105, bd_105, cK_106, kl_106, bd_106, cK_107, kl_107, bd_107, cK_108, kl_108, bd_108, cK_109, kl_109, bd_109, cK_110, kl_110, bd_110, cK_111, kl_111, bd_111, cK_112, kl_112, bd_112, cK_113, kl_113, bd_113, cK_114, kl_114, bd_114, cK_115, kl_115, bd_115, cK_116, kl_116, bd_116, cK_117, kl_117, bd_117, cK_118, kl_118, bd_118, cK_119, kl_119, bd_119, cK_120, kl_120, bd_120, cK_121, kl_121, bd_121, ld_0_0, ld_0_1, ld_0_2, ld_0_3, ld_0_4, ld_0_5, ld_0_6, ld_0_7, ld_0_8, ld_0_9, ld_1_0, ld_3_0, ld_5_0, ld_5_1, ld_5_2, ld_5_3, ld_6_0, ld_6_1, ld_23_0, ld_23_1, ld_38_0, ld_38_1, ld_38_2, ld_38_3, ld_38_4, ld_44_0, ld_44_1, ld_44_2, ld_48_1, ld_90_1, ld_102_3, ld_102_4, ld_102_5, ld_102_8, ld_102_12, ld_102_13, ld_102_14, ld_102_15, ld_102_16, ld_102_17, ld_102_19, ld_102_20, ld_102_21, ld_102_22, ld_102_23, ld_102_25, ld_102_27, ld_102_28, ld_102_30, cK_pl, cK_to, cK_dp, cK_dt, cK_un, cK_ke, ld_pl, ld_to, ld_dp, ld_dt, ld_un, ld_ke]
        rw [show nI 0 = mk4 (fun _ => false) from rfl, ]
        refine e1.trans (congrArg (fun z => some (z, m1)) (mk4_cg fun q hq => ?_))
        rw [decide_eq_true (by omega), Bool.false_or]
      unfold f_Ba_kinds f_Ba_kinds_27
      simp (disch := omega) only [oN, Option.bind_some, ↓reduceIte, ifT, ifF, eq_self, reduceCtorEq, cK_0, cK_1, cK_2, kl_2, bd_2, cK_3, cK_4, kl_4, bd_4, cK_5, cK_6, cK_7, kl_7, bd_7, cK_8, cK_25, cK_20, kl_20, bd_20, cK_21, kl_21, bd_21, cK_22, kl_22, bd_22, cK_23, cK_24, kl_24, bd_24, cK_37, cK_38, cK_39, kl_39, bd_39, cK_40, kl_40, bd_40, cK_41, kl_41, bd_41, cK_42, kl_42, bd_42, cK_43, kl_43, bd_43, cK_44, cK_45, kl_45, bd_45, cK_46, kl_46, bd_46, cK_47, kl_47, bd_47, cK_48, cK_49, kl_49, bd_49, cK_90, cK_91, kl_91, bd_91, cK_102, cK_103, kl_103, bd_103, cK_104, kl_104, bd_104, cK_105, kl_105, bd_105, cK_106, kl_106, bd_106, cK_107, kl_107, bd_107, cK_108, kl_108, bd_108, cK_109, kl_109, bd_109, cK_110, kl_110, bd_110, cK_111, kl_111, bd_111, cK_112, kl_112, bd_112, cK_113, kl_113, bd_113, cK_114, kl_114, bd_114, cK_115, kl_115, bd_115, cK_116, kl_116, bd_116, cK_117, kl_117, bd_117, cK_118, kl_118, bd_118, cK_119, kl_119, bd_119, cK_120, kl_120, bd_120, cK_121, kl_121, bd_121, ld_0_0, ld_0_1, ld_0_2, ld_0_3, ld_0_4, ld_0_5, ld_0_6, ld_0_7, ld_0_8, ld_0_9, ld_1_0, ld_3_0, ld_5_0, ld_5_1, ld_5_2, ld_5_3, ld_6_0, ld_6_1, ld_23_0, ld_23_1, ld_38_0, ld_38_1, ld_38_2, ld_38_3, ld_38_4, ld_44_0, ld_44_1, ld_44_2, ld_48_1, ld_90_1, ld_102_3, ld_102_4, ld_102_5, ld_102_8, ld_102_12, ld_102_13, ld_102_14, ld_102_15, ld_102_16, ld_102_17, ld_102_19, ld_102_20, ld_102_21, ld_102_22, ld_102_23, ld_102_25, ld_102_27, ld_102_28, ld_102_30, cK_pl, cK_to, cK_dp, cK_dt, cK_un, cK_ke, ld_pl, ld_to, ld_dp, ld_dt, ld_un, ld_ke, sp_has_t hC.1 hk o2, e3]
    · unfold f_Mo_kinds f_Mo_kinds_15
      simp (disch := omega) only [oN, Option.bind_some, ↓reduceIte, ifT, ifF, eq_self, reduceCtorEq, cK_0, cK_1, cK_2, kl_2, bd_2, cK_3, cK_4, kl_4, bd_4, cK_5, cK_6, cK_7, kl_7, bd_7, cK_8, cK_25, cK_20, kl_20, bd_20, cK_21, kl_21, bd_21, cK_22, kl_22, bd_22, cK_23, cK_24, kl_24, bd_24, cK_37, cK_38, cK_39, kl_39, bd_39, cK_40, kl_40, bd_40, cK_41, kl_41, bd_41, cK_42, kl_42, bd_42, cK_43, kl_43, bd_43, cK_44, cK_45, kl_45, bd_45, cK_46, kl_46, bd_46, cK_47, kl_47, bd_47, cK_48, cK_49, kl_49, bd_49, cK_90, cK_91, kl_91, bd_91, cK_102, cK_103, kl_103, bd_103, cK_104, kl_104, bd_104, cK_105, kl_105, bd_105, cK_106, kl_106, bd_106, cK_107, kl_107, bd_107, cK_108, kl_108, bd_108, cK_109, kl_109, bd_109, cK_110, kl_110, bd_110, cK_111, kl_111, bd_111, cK_112, kl_112, bd_112, cK_113, kl_113, bd_113, cK_114, kl_114, bd_114, cK_115, kl_115, bd_115, cK_116, kl_116, bd_116, cK_117, kl_117, bd_117, cK_118, kl_118, bd_118, cK_119, kl_119, bd_119, cK_120, kl_120, bd_120, cK_121, kl_121, bd_121, ld_0_0, ld_0_1, ld_0_2, ld_0_3, ld_0_4, ld_0_5, ld_0_6, ld_0_7, ld_0_8, ld_0_9, ld_1_0, ld_3_0, ld_5_0, ld_5_1, ld_5_2, ld_5_3, ld_6_0, ld_6_1, ld_23_0, ld_23_1, ld_38_0, ld_38_1, ld_38_2, ld_38_3, ld_38_4, ld_44_0, ld_44_1, ld_44_2, ld_48_1, ld_90_1, ld_102_3, ld_102_4, ld_102_5, ld_102_8, ld_102_12, ld_102_13, ld_102_14, ld_102_15, ld_102_16, ld_102_17, ld_102_19, ld_102_20, ld_102_21, ld_102_22, ld_102_23, ld_102_25, ld_102_27, ld_102_28, ld_102_30, cK_pl, cK_to, cK_dp, cK_dt, cK_un, cK_ke, ld_pl, ld_to, ld_dp, ld_dt, ld_un, ld_ke, sp_isP_t hM1.1 hk o2]
      exact g
  · refine ⟨-1, m, m, ?_, ?_, hv⟩
    · unfold f_Ba_kinds f_Ba_kinds_27
      simp (disch := omega) only [oN, Option.bind_some, ↓reduceIte, ifT, ifF, eq_self, reduceCtorEq, cK_0, cK_1, cK_2, kl_2, bd_2, cK_3, cK_4, kl_4, bd_4, cK_5, cK_6, cK_7, kl_7, bd_7, cK_8, cK_25, cK_20, kl_20, bd_20, cK_21, kl_21, bd_21, cK_22, kl_22, bd_22, cK_23, cK_24, kl_24, bd_24, cK_37, cK_38, cK_39, kl_39, bd_39, cK_40, kl_40, bd_40, cK_41, kl_41, bd_41, cK_42, kl_42, bd_42, cK_43, kl_43, bd_43, cK_44, cK_45, kl_45, bd_45, cK_46, kl_46, bd_46, cK_47, kl_47, bd_47, cK_48, cK_49, kl_49, bd_49, cK_90, cK_91, kl_91, bd_91, cK_102, cK_103, kl_103, bd_103, cK_104, kl_104, bd_104, cK_105, kl_105, bd_105, cK_106, kl_106, bd_106, cK_107, kl_107, bd_107, cK_108, kl_108, bd_108, cK_109, kl_109, bd_109, cK_110, kl_110, bd_110, cK_111, kl_111, bd_111, cK_112, kl_112, bd_112, cK_113, kl_113, bd_113, cK_114, kl_114, bd_114, cK_115, kl_115, bd_115, cK_116, kl_116, bd_116, cK_117, kl_117, bd_117, cK_118, kl_118, bd_118, cK_119, kl_119, bd_119, cK_120, kl_120, bd_120, cK_121, kl_121, bd_121, ld_0_0, ld_0_1, ld_0_2, ld_0_3, ld_0_4, ld_0_5, ld_0_6, ld_0_7, ld_0_8, ld_0_9, ld_1_0, ld_3_0, ld_5_0, ld_5_1, ld_5_2, ld_5_3, ld_6_0, ld_6_1, ld_23_0, ld_23_1, ld_38_0, ld_38_1, ld_38_2, ld_38_3, ld_38_4, ld_44_0, ld_44_1, ld_44_2, ld_48_1, ld_90_1, ld_102_3, ld_102_4, ld_102_5, ld_102_8, ld_102_12, ld_102_13, ld_102_14, ld_102_15, ld_102_16, ld_102_17, ld_102_19, ld_102_20, ld_102_21, ld_102_22, ld_102_23, ld_102_25, ld_102_27, ld_102_28, ld_102_30, cK_pl, cK_to, cK_dp, cK_dt, cK_un, cK_ke, ld_pl, ld_to, ld_dp, ld_dt, ld_un, ld_ke, sp_has_f hC.1 hx o2, Bool.false_eq_true]
    · unfold f_Mo_kinds
      simp (disch := omega) only [oN, Option.bind_some, ↓reduceIte, ifT, ifF, eq_self, reduceCtorEq, cK_0, cK_1, cK_2, kl_2, bd_2, cK_3, cK_4, kl_4, bd_4, cK_5, cK_6, cK_7, kl_7, bd_7, cK_8, cK_25, cK_20, kl_20, bd_20, cK_21, kl_21, bd_21, cK_22, kl_22, bd_22, cK_23, cK_24, kl_24, bd_24, cK_37, cK_38, cK_39, kl_39, bd_39, cK_40, kl_40, bd_40, cK_41, kl_41, bd_41, cK_42, kl_42, bd_42, cK_43, kl_43, bd_43, cK_44, cK_45, kl_45, bd_45, cK_46, kl_46, bd_46, cK_47, kl_47, bd_47, cK_48, cK_49, kl_49, bd_49, cK_90, cK_91, kl_91, bd_91, cK_102, cK_103, kl_103, bd_103, cK_104, kl_104, bd_104, cK_105, kl_105, bd_105, cK_106, kl_106, bd_106, cK_107, kl_107, bd_107, cK_108, kl_108, bd_108, cK_109, kl_109, bd_109, cK_110, kl_110, bd_110, cK_111, kl_111, bd_111, cK_112, kl_112, bd_112, cK_113, kl_113, bd_113, cK_114, kl_114, bd_114, cK_115, kl_115, bd_115, cK_116, kl_116, bd_116, cK_117, kl_117, bd_117, cK_118, kl_118, bd_118, cK_119, kl_119, bd_119, cK_120, kl_120, bd_120, cK_121, kl_121, bd_121, ld_0_0, ld_0_1, ld_0_2, ld_0_3, ld_0_4, ld_0_5, ld_0_6, ld_0_7, ld_0_8, ld_0_9, ld_1_0, ld_3_0, ld_5_0, ld_5_1, ld_5_2, ld_5_3, ld_6_0, ld_6_1, ld_23_0, ld_23_1, ld_38_0, ld_38_1, ld_38_2, ld_38_3, ld_38_4, ld_44_0, ld_44_1, ld_44_2, ld_48_1, ld_90_1, ld_102_3, ld_102_4, ld_102_5, ld_102_8, ld_102_12, ld_102_13, ld_102_14, ld_102_15, ld_102_16, ld_102_17, ld_102_19, ld_102_20, ld_102_21, ld_102_22, ld_102_23, ld_102_25, ld_102_27, ld_102_28, ld_102_30, cK_pl, cK_to, cK_dp, cK_dt, cK_un, cK_ke, ld_pl, ld_to, ld_dp, ld_dt, ld_un, ld_ke, sp_isP_f hM.1 hx o2 (show 1 ≤ c by omega), Bool.false_eq_true]
