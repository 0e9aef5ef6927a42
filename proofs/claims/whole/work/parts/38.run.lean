/-! how one should run -/
def upP (P : ba_T) (k kd : Nat) : ba_T := fun x f => match f with
  | 4 => if x = k then kd else P x 4
  | f => P x f
theorem upP_k {P : ba_T} {k kd : Nat} : upP P k kd k 4 = kd := if_pos rfl
theorem upP_ne {P : ba_T} {k kd x : Nat} (h : x ≠ k) : upP P k kd x 4 = P x 4 := if_neg h
theorem upP_f {P : ba_T} {k kd x f : Nat} (h : f ≠ 4) : upP P k kd x f = P x f := by
  unfold upP
  split
  · exact absurd rfl h
  · rfl
theorem upP_id {P : ba_T} {k : Nat} : upP P k (P k 4) = P := by
  funext x f
  by_cases h : f = 4
  · subst h
    by_cases hx : x = k
    · subst hx; exact upP_k
    · exact upP_ne hx
  · exact upP_f h
theorem okG_up {c n d k kd : Nat} {P T : ba_T} (h : okG c n d P T) (hkd : kd ≤ 3) : okG c n d (upP P k kd) T := by
  refine ⟨h.1, fun i hi => ?_, h.2.2⟩
  obtain ⟨q1, q2, q3, q4, q5, q6, q7⟩ := h.2.1 i hi
  refine ⟨q1, q2, q3, q4, q5, q6, ?_⟩
  by_cases hx : i = k
  · subst hx; rw [upP_k]; exact hkd
  · rw [upP_ne hx]; exact q7
theorem RD.up {m : ba_M} {c n d k kd0 kd j b bt : Nat} {P T : ba_T} (hG : GC m c n d P T) (hok : okG c n d P T) (hk : k < c) (hj : j < c) (hb : b ≤ 40) (hbt : 1 ≤ bt ∧ bt ≤ 100) (hkd : kd ≤ 3) (hR : RD m c n d (upP P k kd0) j b bt) :
    ∃ m', f_Ro_suppose SF 5 (nI k) (nI kd) m = some m' ∧ Fr oRo m m' ∧ RD m' c n d (upP P k kd) j b bt := by
  have hc := hok.1.2.1
  obtain ⟨r1, r2, r3, r4⟩ := hR
  have hsu := sp_suppose hG hok hk hj hb hbt hkd r1 r2 r3
  refine ⟨_, hsu, ((Fr.rf.w (by simp [oRo])).w (by simp [oRo])).w (by simp [oRo]), ?_, ?_, ?_, fun q hq => ?_⟩
  · rw [gI_n _ _ _ _ _ _ (by omega), gI_n _ _ _ _ _ _ (by omega), gI_n _ _ _ _ _ _ (by omega)]; exact r1
  · rw [gI_n _ _ _ _ _ _ (by omega), gI_n _ _ _ _ _ _ (by omega), gI_n _ _ _ _ _ _ (by omega)]; exact r2
  · rw [gI_n _ _ _ _ _ _ (by omega), gI_n _ _ _ _ _ _ (by omega), gI_n _ _ _ _ _ _ (by omega)]; exact r3
  · by_cases hqk : q = k
    · subst hqk
      rw [upP_k]
      refine ⟨?_, ?_, ?_⟩
      · rw [gI_n _ _ _ _ _ _ (by omega), gI_n _ _ _ _ _ _ (by omega), gI_s]
      · rw [gI_n _ _ _ _ _ _ (by omega), gI_s]; rfl
      · rw [gI_s]; rfl
    · obtain ⟨u1, u2, u3⟩ := r4 q hq
      rw [upP_ne hqk] at u1 u2 u3 ⊢
      refine ⟨?_, ?_, ?_⟩
      · rw [gI_n _ _ _ _ _ _ (by omega), gI_n _ _ _ _ _ _ (by omega), gI_n _ _ _ _ _ _ (by omega)]; exact u1
      · rw [gI_n _ _ _ _ _ _ (by omega), gI_n _ _ _ _ _ _ (by omega), gI_n _ _ _ _ _ _ (by omega)]; exact u2
      · rw [gI_n _ _ _ _ _ _ (by omega), gI_n _ _ _ _ _ _ (by omega), gI_n _ _ _ _ _ _ (by omega)]; exact u3
theorem hdP_up {P : ba_T} {k0 kd : Nat} {st tc : Nat → Nat} {j k : Nat} : hdP (upP P k0 kd) st tc j k = hdP P st tc j k := rfl
theorem chF_up {c k0 kd j k : Nat} {P : ba_T} {Kd st tc : Nat → Nat} : chF c (upP P k0 kd) Kd st tc j k = chF c P Kd st tc j k := rfl
/-- the chance that k is hit, would he be of kind kd -/
def rR (c n d : Nat) (P : ba_T) (j b bt k kd : Nat) : Nat := if tgN (cgF c n d (upP P k kd) j b bt) j c = some k then cgF c n d (upP P k kd) j b bt k else 0
theorem rR_le {c n d : Nat} {P : ba_T} {j b bt k kd : Nat} : rR c n d P j b bt k kd ≤ 10 := by
  unfold rR
  split
  · exact chF_le
  · omega
def bsF (r : Nat → Nat) : Nat → Nat × Nat
  | 0 => (0, 11)
  | kd + 1 => if (bsF r kd).2 ≤ r kd then bsF r kd else (kd, r kd)
theorem bsF_in {r : Nat → Nat} (h : ∀ k, r k ≤ 10) : ∀ kd, (bsF r kd).1 ≤ kd ∧ (bsF r kd).2 ≤ 11 ∧ (1 ≤ kd → (bsF r kd).1 < kd ∧ (bsF r kd).2 ≤ 10) := by
  intro kd
  induction kd with
  | zero => exact ⟨Nat.le_refl _, Nat.le_refl _, fun h => by omega⟩
  | succ kd ih =>
    obtain ⟨h1, h2, h3⟩ := ih
    unfold bsF
    have := h kd
    split
    · exact ⟨by omega, h2, fun _ => ⟨by omega, by omega⟩⟩
    · exact ⟨by show kd ≤ kd + 1; omega, by show r kd ≤ 11; omega, fun _ => ⟨by show kd < kd + 1; omega, this⟩⟩
theorem sp_runL {c n d k j b bt w : Nat} {P T : ba_T} (hok : okG c n d P T) (hk : k < c) (hj : j < c) (hb : b ≤ 40) (hbt : 1 ≤ bt ∧ bt ≤ 100) (hw : w < 2) : ∀ (r kd N : Nat) (m : ba_M), 4 - kd = r → kd ≤ 4 → r < N → GC m c n d P T → (∃ kd0, RD m c n d (upP P k kd0) j b bt) →
    ∃ m', fx (fun _ _ _ _ _ _ _ => none) (b_Ba_run_38 SF) N 0 (nI k) (nI w) (nI (bsF (rR c n d P j b bt k) kd).1) (nI (bsF (rR c n d P j b bt k) kd).2) (nI kd) m = some (if w = 0 then nI (bsF (rR c n d P j b bt k) 4).1 else nI (bsF (rR c n d P j b bt k) 4).2, m') ∧ Fr oRo m m' := by
  have hc := hok.1.2.1
  have hc2 := hok.1.1
  have hbs := bsF_in (r := rR c n d P j b bt k) (fun kd => rR_le)
  intro r
  induction r with
  | zero =>
    intro kd N m hr hkd hN hG hR
    obtain ⟨N, rfl⟩ : ∃ z, N = z + 1 := ⟨N - 1, by omega⟩
    obtain rfl : kd = 4 := by omega
    refine ⟨m, ?_, Fr.rf⟩
    rw [fx_s]
    generalize fx (fun _ _ _ _ _ _ _ => none) (b_Ba_run_38 SF) N = K
    unfold b_Ba_run_38 f_Ba_run_111
    rw [if_pos (by rw [nI_leI (by omega) (by omega)]; omega)]
    simp (disch := omega) only [z0, nI_eq]
    split <;> rfl
  | succ r ih =>
    intro kd N m hr hkd hN hG hR
    obtain ⟨N, rfl⟩ : ∃ z, N = z + 1 := ⟨N - 1, by omega⟩
    obtain ⟨kd0, hR⟩ := hR
    obtain ⟨m1, e1, e2, e3⟩ := hR.up hG hok hk hj hb hbt (show kd ≤ 3 by omega)
    have hle : ¬ nI 4 ≤ nI kd := by rw [nI_leI (by omega) (by omega)]; omega
    have hoku := okG_up (k := k) (kd := kd) hok (by omega)
    have hG1 := hG.ro hc e2
    have hR1 := okR_of hoku (bt := bt) hj hb
    have htg := sp_target hG1 hok e3.ra hR1
    have hch := sp_chance hG1 hok e3.ra hR1 hk
    have hch' : f_Ro_chanceOf SF 5 (nI k) m1 = some (nI (cgF c n d (upP P k kd) j b bt k), m1) := hch
    obtain ⟨t, g1, g2, g3⟩ := tg_of hoku (j := j) (b := b) (bt := bt)
    have htg' : f_Ro_target SF 5 m1 = some (nI t, m1) := by
      have h := htg
      have e : tgN (chF c P (fun q => upP P k kd q 4) (stF n d (upP P k kd) j b bt) (tcF n d (upP P k kd) j b bt) j) j c = some t := g1
      rw [e] at h
      exact h
    obtain ⟨m', u1, u2⟩ := ih (kd + 1) N m1 (by omega) (by omega) (by omega) hG1 ⟨kd, e3⟩
    refine ⟨m', ?_, e2.tr u2⟩
    rw [fx_s]
    generalize fx (fun _ _ _ _ _ _ _ => none) (b_Ba_run_38 SF) N = K at u1 ⊢
    have core : f_Ba_run_77 SF K 0 (nI k) (nI w) (nI (bsF (rR c n d P j b bt k) kd).1) (nI (bsF (rR c n d P j b bt k) kd).2) (nI kd) (nI (rR c n d P j b bt k kd)) m1 = some (if w = 0 then nI (bsF (rR c n d P j b bt k) 4).1 else nI (bsF (rR c n d P j b bt k) 4).2, m') := by
      rw [← u1]
      have h1 := (hbs kd).2.1
      have h2 := rR_le (c := c) (n := n) (d := d) (P := P) (j := j) (b := b) (bt := bt) (k := k) (kd := kd)
      unfold f_Ba_run_77 f_Ba_run_94
      have hL := nI_leI (show (bsF (rR c n d P j b bt k) kd).2 < 2 ^ 31 by omega) (show rR c n d P j b bt k kd < 2 ^ 31 by omega)
      by_cases hq : (bsF (rR c n d P j b bt k) kd).2 ≤ rR c n d P j b bt k kd
      · rw [if_pos (hL.mpr hq), nI_add, show bsF (rR c n d P j b bt k) (kd + 1) = bsF (rR c n d P j b bt k) kd from if_pos hq]
      · rw [if_neg (fun h => hq (hL.mp h)), nI_add, show bsF (rR c n d P j b bt k) (kd + 1) = (kd, rR c n d P j b bt k kd) from if_neg hq]
    unfold b_Ba_run_38
    by_cases ht : t = k
    · have hr : rR c n d P j b bt k kd = cgF c n d (upP P k kd) j b bt k := by unfold rR; rw [g1, ht]; exact if_pos rfl
      rw [hr] at core
      simp (disch := omega) only [oN, Option.bind_some, ↓reduceIte, ifT, ifF, eq_self, reduceCtorEq, cK_0, cK_1, cK_2, kl_2, bd_2, cK_3, cK_4, kl_4, bd_4, cK_5, cK_6, cK_7, kl_7, bd_7, cK_8, cK_25, cK_20, kl_20, bd_20, cK_21, kl_21, bd_21, cK_22, kl_22, bd_22, cK_23, cK_24, kl_24, bd_24, cK_37, cK_38, cK_39, kl_39, bd_39, cK_40, kl_40, bd_40, cK_41, kl_41, bd_41, cK_42, kl_42, bd_42, cK_43, kl_43, bd_43, cK_44, cK_45, kl_45, bd_45, cK_46, kl_46, bd_46, cK_47, kl_47, bd_47, cK_48, cK_49, kl_49, bd_49, cK_90, cK_91, kl_91, bd_91, cK_102, cK_103, kl_103, bd_103, cK_104, kl_104, bd_104, cK_105, kl_105, bd_105, cK_106, kl_106, bd_106, cK_107, kl_107, bd_107, cK_108, kl_108, bd_108, cK_109, kl_109, bd_109, cK_110, kl_110, bd_110, cK_111, kl_111, bd_111, cK_112, kl_112, bd_112, cK_113, kl_113, bd_113, cK_114, kl_114, bd_114, cK_115, kl_115, bd_115, cK_116, kl_116, bd_116, cK_117, kl_117, bd_117, cK_118, kl_118, bd_118, cK_119, kl_119, bd_119, cK_120, kl_120, bd_120, cK_121, kl_121, bd_121, ld_0_0, ld_0_1, ld_0_2, ld_0_3, ld_0_4, ld_0_5, ld_0_6, ld_0_7, ld_0_8, ld_0_9, ld_1_0, ld_3_0, ld_5_0, ld_5_1, ld_5_2, ld_5_3, ld_6_0, ld_6_1, ld_23_0, ld_23_1, ld_38_0, ld_38_1, ld_38_2, ld_38_3, ld_38_4, ld_44_0, ld_44_1, ld_44_2, ld_48_1, ld_90_1, ld_102_3, ld_102_4, ld_102_5, ld_102_8, ld_102_12, ld_102_13, ld_102_14, ld_102_15, ld_102_16, ld_102_17, ld_102_19, ld_102_20, ld_102_21, ld_102_22, ld_102_23, ld_102_25, ld_102_27, ld_102_28, ld_102_30, cK_pl, cK_to, cK_dp, cK_dt, cK_un, cK_ke, ld_pl, ld_to, ld_dp, ld_dt, ld_un, ld_ke, hle, e1, htg', ht, hch', core]
    · have hr : rR c n d P j b bt k kd = 0 := by unfold rR; rw [g1]; exact if_neg (fun h => ht (Option.some.inj h))
      rw [hr] at core
      have hne : ¬ nI t = nI k := fun e => ht (nI_inj (by omega) (by omega) e)
      simp (disch := omega) only [oN, Option.bind_some, ↓reduceIte, ifT, ifF, eq_self, reduceCtorEq, cK_0, cK_1, cK_2, kl_2, bd_2, cK_3, cK_4, kl_4, bd_4, cK_5, cK_6, cK_7, kl_7, bd_7, cK_8, cK_25, cK_20, kl_20, bd_20, cK_21, kl_21, bd_21, cK_22, kl_22, bd_22, cK_23, cK_24, kl_24, bd_24, cK_37, cK_38, cK_39, kl_39, bd_39, cK_40, kl_40, bd_40, cK_41, kl_41, bd_41, cK_42, kl_42, bd_42, cK_43, kl_43, bd_43, cK_44, cK_45, kl_45, bd_45, cK_46, kl_46, bd_46, cK_47, kl_47, bd_47, cK_48, cK_49, kl_49, bd_49, cK_90, cK_91, kl_91, bd_91, cK_102, cK_103, kl_103, bd_103, cK_104, kl_104, bd_104, cK_105, kl_105, bd_105, cK_106, kl_106, bd_106, cK_107, kl_107, bd_107, cK_108, kl_108, bd_108, cK_109, kl_109, bd_109, cK_110, kl_110, bd_110, cK_111, kl_111, bd_111, cK_112, kl_112, bd_112, cK_113, kl_113, bd_113, cK_114, kl_114, bd_114, cK_115, kl_115, bd_115, cK_116, kl_116, bd_116, cK_117, kl_117, bd_117, cK_118, kl_118, bd_118, cK_119, kl_119, bd_119, cK_120, kl_120, bd_120, cK_121, kl_121, bd_121, ld_0_0, ld_0_1, ld_0_2, ld_0_3, ld_0_4, ld_0_5, ld_0_6, ld_0_7, ld_0_8, ld_0_9, ld_1_0, ld_3_0, ld_5_0, ld_5_1, ld_5_2, ld_5_3, ld_6_0, ld_6_1, ld_23_0, ld_23_1, ld_38_0, ld_38_1, ld_38_2, ld_38_3, ld_38_4, ld_44_0, ld_44_1, ld_44_2, ld_48_1, ld_90_1, ld_102_3, ld_102_4, ld_102_5, ld_102_8, ld_102_12, ld_102_13, ld_102_14, ld_102_15, ld_102_16, ld_102_17, ld_102_19, ld_102_20, ld_102_21, ld_102_22, ld_102_23, ld_102_25, ld_102_27, ld_102_28, ld_102_30, cK_pl, cK_to, cK_dp, cK_dt, cK_un, cK_ke, ld_pl, ld_to, ld_dp, ld_dt, ld_un, ld_ke, hle, e1, htg', hne, core]
theorem GM.kd {m : ba_M} {c n d k kd0 kd : Nat} {P T : ba_T} (hG : GM m c n d (upP P k kd0) T) (hc : c ≤ 5) (hk : k < c) : GM (wI m 103 (5 * k + 4) (nI kd)) c n d (upP P k kd) T := by
  obtain ⟨g1, g2, g3, g4, g5⟩ := hG
  refine ⟨by rw [gI_n _ _ _ _ _ _ (by omega)]; exact g1, by rw [gI_n _ _ _ _ _ _ (by omega)]; exact g2, by rw [gI_n _ _ _ _ _ _ (by omega)]; exact g3, fun i hi => ?_, fun i hi => ?_⟩
  · obtain ⟨u1, u2, u3, u4, u5⟩ := g4 i hi
    refine ⟨?_, ?_, ?_, ?_, ?_⟩
    · rw [gI_n _ _ _ _ _ _ (by omega)]; exact u1
    · rw [gI_n _ _ _ _ _ _ (by omega)]; exact u2
    · rw [gI_n _ _ _ _ _ _ (by omega)]; exact u3
    · rw [gI_n _ _ _ _ _ _ (by omega)]; exact u4
    · by_cases hik : i = k
      · subst hik; rw [gI_s, upP_k]
      · rw [gI_n _ _ _ _ _ _ (by omega), upP_ne hik, u5, upP_ne hik]
  · rw [gI_n _ _ _ _ _ _ (by omega), gI_n _ _ _ _ _ _ (by omega), gI_n _ _ _ _ _ _ (by omega), gI_n _ _ _ _ _ _ (by omega)]
    exact g5 i hi
def oRn : Nat → Nat → Prop := fun o k => oMo o k ∨ o = 103
theorem sp_mrunL {c n d i k w : Nat} {P T : ba_T} (hok : okG c n d P T) (hi : i < c) (hk : k < c) (hkj : k ≠ T i 0) (hw : w < 2) : ∀ (r kd N : Nat) (m : ba_M) (v5 v6 : Int32), 4 - kd = r → kd ≤ 4 → r < N → (∃ kd0, GM m c n d (upP P k kd0) T) →
    (kd = 0 ∧ v5 = -4 ∧ v6 = nI 0 ∨ 1 ≤ kd ∧ v5 = nI (bsF (rR c n d P (T i 0) (T i 1) (btT P T i) k) kd).1 ∧ v6 = nI (bsF (rR c n d P (T i 0) (T i 1) (btT P T i) k) kd).2) →
    ∃ m', fx (fun _ _ _ _ _ _ _ _ _ => none) (b_Mo_run_42 SF) N 102 (nI i) (nI k) (nI w) (nI (P k 4)) v5 v6 (nI kd) m = some (if w = 0 then nI (bsF (rR c n d P (T i 0) (T i 1) (btT P T i) k) 4).1 else nI (bsF (rR c n d P (T i 0) (T i 1) (btT P T i) k) 4).2, m') ∧ Fr oRn m m' ∧ GM m' c n d P T := by
  have hc := hok.1.2.1
  have hc2 := hok.1.1
  obtain ⟨t1, t2, t3, t4, t5, t6⟩ := hok.2.2 i hi
  have hbs := bsF_in (r := rR c n d P (T i 0) (T i 1) (btT P T i) k) (fun kd => rR_le)
  intro r
  induction r with
  | zero =>
    intro kd N m v5 v6 hr hkd hN hG hv
    obtain ⟨N, rfl⟩ : ∃ z, N = z + 1 := ⟨N - 1, by omega⟩
    obtain rfl : kd = 4 := by omega
    obtain ⟨kd0, hG⟩ := hG
    rcases hv with ⟨h, -⟩ | ⟨-, rfl, rfl⟩
    · omega
    refine ⟨wI m 103 (5 * k + 4) (nI (P k 4)), ?_, Fr.rf.w (Or.inr rfl), ?_⟩
    · rw [fx_s]
      generalize fx (fun _ _ _ _ _ _ _ _ _ => none) (b_Mo_run_42 SF) N = K
      unfold b_Mo_run_42 f_Mo_run_163
      rw [if_pos (by rw [nI_ltI (by omega) (by omega)]; omega)]
      simp (disch := omega) only [oN, Option.bind_some, ↓reduceIte, ifT, ifF, eq_self, reduceCtorEq, cK_0, cK_1, cK_2, kl_2, bd_2, cK_3, cK_4, kl_4, bd_4, cK_5, cK_6, cK_7, kl_7, bd_7, cK_8, cK_25, cK_20, kl_20, bd_20, cK_21, kl_21, bd_21, cK_22, kl_22, bd_22, cK_23, cK_24, kl_24, bd_24, cK_37, cK_38, cK_39, kl_39, bd_39, cK_40, kl_40, bd_40, cK_41, kl_41, bd_41, cK_42, kl_42, bd_42, cK_43, kl_43, bd_43, cK_44, cK_45, kl_45, bd_45, cK_46, kl_46, bd_46, cK_47, kl_47, bd_47, cK_48, cK_49, kl_49, bd_49, cK_90, cK_91, kl_91, bd_91, cK_102, cK_103, kl_103, bd_103, cK_104, kl_104, bd_104, cK_105, kl_105, bd_105, cK_106, kl_106, bd_106, cK_107, kl_107, bd_107, cK_108, kl_108, bd_108, cK_109, kl_109, bd_109, cK_110, kl_110, bd_110, cK_111, kl_111, bd_111, cK_112, kl_112, bd_112, cK_113, kl_113, bd_113, cK_114, kl_114, bd_114, cK_115, kl_115, bd_115, cK_116, kl_116, bd_116, cK_117, kl_117, bd_117, cK_118, kl_118, bd_118, cK_119, kl_119, bd_119, cK_120, kl_120, bd_120, cK_121, kl_121, bd_121, ld_0_0, ld_0_1, ld_0_2, ld_0_3, ld_0_4, ld_0_5, ld_0_6, ld_0_7, ld_0_8, ld_0_9, ld_1_0, ld_3_0, ld_5_0, ld_5_1, ld_5_2, ld_5_3, ld_6_0, ld_6_1, ld_23_0, ld_23_1, ld_38_0, ld_38_1, ld_38_2, ld_38_3, ld_38_4, ld_44_0, ld_44_1, ld_44_2, ld_48_1, ld_90_1, ld_102_3, ld_102_4, ld_102_5, ld_102_8, ld_102_12, ld_102_13, ld_102_14, ld_102_15, ld_102_16, ld_102_17, ld_102_19, ld_102_20, ld_102_21, ld_102_22, ld_102_23, ld_102_25, ld_102_27, ld_102_28, ld_102_30, cK_pl, cK_to, cK_dp, cK_dt, cK_un, cK_ke, ld_pl, ld_to, ld_dp, ld_dt, ld_un, ld_ke, pk_mul, nI_add, nI_clamp, z0, nI_eq]
      split <;> rfl
    · have := hG.kd (kd := P k 4) hc hk
      rwa [upP_id] at this
  | succ r ih =>
    intro kd N m v5 v6 hr hkd hN hG hv
    obtain ⟨N, rfl⟩ : ∃ z, N = z + 1 := ⟨N - 1, by omega⟩
    obtain ⟨kd0, hG⟩ := hG
    have hle : ¬ nI 3 < nI kd := by rw [nI_ltI (by omega) (by omega)]; omega
    have hoku := okG_up (k := k) (kd := kd) hok (by omega)
    have hG1 := hG.kd (kd := kd) hc hk
    have hF1 : Fr oRn m (wI m 103 (5 * k + 4) (nI kd)) := Fr.rf.w (Or.inr rfl)
    obtain ⟨m1, e1, e2, e3⟩ := sp_go hG1 hoku hi
    have e3' : RM m1 c n d (upP P k kd) (T i 0) (T i 1) (btT P T i) := e3
    obtain ⟨t, g1, g2, g3⟩ := tg_of hoku (j := T i 0) (b := T i 1) (bt := btT P T i)
    have r3 := e3'.2.2
    rw [g1] at r3
    have r3' : gI m1 102 18 = nI t := r3
    have r2 := (e3'.2.1 k hk hkj).1
    have hG2 := hG1.mo hc e2
    have hF2 : Fr oRn m m1 := hF1.tr (e2.up (fun o k h => Or.inl h))
    have h2 := rR_le (c := c) (n := n) (d := d) (P := P) (j := T i 0) (b := T i 1) (bt := btT P T i) (k := k) (kd := kd)
    obtain ⟨m', u1, u2, u3⟩ := ih (kd + 1) N m1 (nI (bsF (rR c n d P (T i 0) (T i 1) (btT P T i) k) (kd + 1)).1) (nI (bsF (rR c n d P (T i 0) (T i 1) (btT P T i) k) (kd + 1)).2) (by omega) (by omega) (by omega) ⟨kd, hG2⟩ (Or.inr ⟨by omega, rfl, rfl⟩)
    refine ⟨m', ?_, hF2.tr u2, u3⟩
    rw [fx_s]
    generalize fx (fun _ _ _ _ _ _ _ _ _ => none) (b_Mo_run_42 SF) N = K at u1 ⊢
    have core : f_Mo_run_83 SF K 102 (nI i) (nI k) (nI w) (nI (P k 4)) v5 v6 (nI kd) (nI (rR c n d P (T i 0) (T i 1) (btT P T i) k kd)) m1 = some (if w = 0 then nI (bsF (rR c n d P (T i 0) (T i 1) (btT P T i) k) 4).1 else nI (bsF (rR c n d P (T i 0) (T i 1) (btT P T i) k) 4).2, m') := by
      rw [← u1]
      unfold f_Mo_run_83 f_Mo_run_99 f_Mo_run_104 f_Mo_run_118 f_Mo_run_132
      rcases hv with ⟨rfl, rfl, rfl⟩ | ⟨h1, rfl, rfl⟩
      · have e : bsF (rR c n d P (T i 0) (T i 1) (btT P T i) k) (0 + 1) = (0, rR c n d P (T i 0) (T i 1) (btT P T i) k 0) := if_neg (Nat.not_le.mpr (Nat.lt_of_le_of_lt h2 (show (10 : Nat) < 11 by omega)))
        rw [e]
        simp (disch := omega) only [oN, Option.bind_some, ↓reduceIte, ifT, ifF, eq_self, reduceCtorEq, nI_add]
      · have hb1 := (hbs kd).1
        have hb2 := ((hbs kd).2.2 h1).2
        have hn : ¬ nI (bsF (rR c n d P (T i 0) (T i 1) (btT P T i) k) kd).1 = -4 := nI_nneg (by omega) _ (by decide)
        by_cases hq : (bsF (rR c n d P (T i 0) (T i 1) (btT P T i) k) kd).2 ≤ rR c n d P (T i 0) (T i 1) (btT P T i) k kd
        · have e : bsF (rR c n d P (T i 0) (T i 1) (btT P T i) k) (kd + 1) = bsF (rR c n d P (T i 0) (T i 1) (btT P T i) k) kd := if_pos hq
          rw [e]
          simp (disch := omega) only [oN, Option.bind_some, ↓reduceIte, ifT, ifF, eq_self, reduceCtorEq, hn, nI_leI, hq, nI_add, Bool.false_eq_true]
        · have e : bsF (rR c n d P (T i 0) (T i 1) (btT P T i) k) (kd + 1) = (kd, rR c n d P (T i 0) (T i 1) (btT P T i) k kd) := if_neg hq
          rw [e]
          simp (disch := omega) only [oN, Option.bind_some, ↓reduceIte, ifT, ifF, eq_self, reduceCtorEq, hn, nI_leI, hq, nI_add]
    unfold b_Mo_run_42
    by_cases ht : t = k
    · have hr : rR c n d P (T i 0) (T i 1) (btT P T i) k kd = cgF c n d (upP P k kd) (T i 0) (T i 1) (btT P T i) k := by unfold rR; rw [g1, ht]; exact if_pos rfl
      rw [hr] at core
      simp (disch := omega) only [oN, Option.bind_some, ↓reduceIte, ifT, ifF, eq_self, reduceCtorEq, cK_0, cK_1, cK_2, kl_2, bd_2, cK_3, cK_4, kl_4, bd_4, cK_5, cK_6, cK_7, kl_7, bd_7, cK_8, cK_25, cK_20, kl_20, bd_20, cK_21, kl_21, bd_21, cK_22, kl_22, bd_22, cK_23, cK_24, kl_24, bd_24, cK_37, cK_38, cK_39, kl_39, bd_39, cK_40, kl_40, bd_40, cK_41, kl_41, bd_41, cK_42, kl_42, bd_42, cK_43, kl_43, bd_43, cK_44, cK_45, kl_45, bd_45, cK_46, kl_46, bd_46, cK_47, kl_47, bd_47, cK_48, cK_49, kl_49, bd_49, cK_90, cK_91, kl_91, bd_91, cK_102, cK_103, kl_103, bd_103, cK_104, kl_104, bd_104, cK_105, kl_105, bd_105, cK_106, kl_106, bd_106, cK_107, kl_107, bd_107, cK_108, kl_108, bd_108, cK_109, kl_109, bd_109, cK_110, kl_110, bd_110, cK_111, kl_111, bd_111, cK_112, kl_112, bd_112, cK_113, kl_113, bd_113, cK_114, kl_114, bd_114, cK_115, kl_115, bd_115, cK_116, kl_116, bd_116, cK_117, kl_117, bd_117, cK_118, kl_118, bd_118, cK_119, kl_119, bd_119, cK_120, kl_120, bd_120, cK_121, kl_121, bd_121, ld_0_0, ld_0_1, ld_0_2, ld_0_3, ld_0_4, ld_0_5, ld_0_6, ld_0_7, ld_0_8, ld_0_9, ld_1_0, ld_3_0, ld_5_0, ld_5_1, ld_5_2, ld_5_3, ld_6_0, ld_6_1, ld_23_0, ld_23_1, ld_38_0, ld_38_1, ld_38_2, ld_38_3, ld_38_4, ld_44_0, ld_44_1, ld_44_2, ld_48_1, ld_90_1, ld_102_3, ld_102_4, ld_102_5, ld_102_8, ld_102_12, ld_102_13, ld_102_14, ld_102_15, ld_102_16, ld_102_17, ld_102_19, ld_102_20, ld_102_21, ld_102_22, ld_102_23, ld_102_25, ld_102_27, ld_102_28, ld_102_30, cK_pl, cK_to, cK_dp, cK_dt, cK_un, cK_ke, ld_pl, ld_to, ld_dp, ld_dt, ld_un, ld_ke, hle, pk_mul, nI_add, nI_clamp, e1, r3', ht, r2, core]
    · have hr : rR c n d P (T i 0) (T i 1) (btT P T i) k kd = 0 := by unfold rR; rw [g1]; exact if_neg (fun h => ht (Option.some.inj h))
      rw [hr] at core
      have hne : ¬ nI t = nI k := fun e => ht (nI_inj (by omega) (by omega) e)
      simp (disch := omega) only [oN, Option.bind_some, ↓reduceIte, ifT, ifF, eq_self, reduceCtorEq, cK_0, cK_1, cK_2, kl_2, bd_2, cK_3, cK_4, kl_4, bd_4, cK_5, cK_6, cK_7, kl_7, bd_7, cK_8, cK_25, cK_20, kl_20, bd_20, cK_21, kl_21, bd_21, cK_22, kl_22, bd_22, cK_23, cK_24, kl_24, bd_24, cK_37, cK_38, cK_39, kl_39, bd_39, cK_40, kl_40, bd_40, cK_41, kl_41, bd_41, cK_42, kl_42, bd_42, cK_43, kl_43, bd_43, cK_44, cK_45, kl_45, bd_45, cK_46, kl_46, bd_46, cK_47, kl_47, bd_47, cK_48, cK_49, kl_49, bd_49, cK_90, cK_91, kl_91, bd_91, cK_102, cK_103, kl_103, bd_103, cK_104, kl_104, bd_104, cK_105, kl_105, bd_105, cK_106, kl_106, bd_106, cK_107, kl_107, bd_107, cK_108, kl_108, bd_108, cK_109, kl_109, bd_109, cK_110, kl_110, bd_110, cK_111, kl_111, bd_111, cK_112, kl_112, bd_112, cK_113, kl_113, bd_113, cK_114, kl_114, bd_114, cK_115, kl_115, bd_115, cK_116, kl_116, bd_116, cK_117, kl_117, bd_117, cK_118, kl_118, bd_118, cK_119, kl_119, bd_119, cK_120, kl_120, bd_120, cK_121, kl_121, bd_121, ld_0_0, ld_0_1, ld_0_2, ld_0_3, ld_0_4, ld_0_5, ld_0_6, ld_0_7, ld_0_8, ld_0_9, ld_1_0, ld_3_0, ld_5_0, ld_5_1, ld_5_2, ld_5_3, ld_6_0, ld_6_1, ld_23_0, ld_23_1, ld_38_0, ld_38_1, ld_38_2, ld_38_3, ld_38_4, ld_44_0, ld_44_1, ld_44_2, ld_48_1, ld_90_1, ld_102_3, ld_102_4, ld_102_5, ld_102_8, ld_102_12, ld_102_13, ld_102_14, ld_102_15, ld_102_16, ld_102_17, ld_102_19, ld_102_20, ld_102_21, ld_102_22, ld_102_23, ld_102_25, ld_102_27, ld_102_28, ld_102_30, cK_pl, cK_to, cK_dp, cK_dt, cK_un, cK_ke, ld_pl, ld_to, ld_dp, ld_dt, ld_un, ld_ke, hle, pk_mul, nI_add, nI_clamp, e1, r3', hne, core]
theorem Inv.gm {m m' : ba_M} {c n d : Nat} {P T : ba_T} (h1 : GC m c n d P T) (h3 : okG c n d P T) (h4 : ∃ l, TX m l) (h5 : ∃ s sg, SG m c n s sg) (h6 : ∃ u w W a, UN m c n T u w W a) (h7 : ∃ v w V, KP m c n v w V) (h8 : PW m) (hF : Fr (fun o k => scr o k ∨ o = 103) m m') (h2 : GM m' c n d P T) : Inv m' := by
  obtain ⟨l, h4⟩ := h4
  obtain ⟨s, sg, h5⟩ := h5
  obtain ⟨u, w, W, a, h6⟩ := h6
  obtain ⟨v, w2, V, h7⟩ := h7
  have hc := h3.1.2.1
  exact ⟨c, n, d, P, T, h1.fr hc hF (by intro o k ho; simp only [scr] at *; omega), h2, h3, ⟨l, h4.frO hF (by intro o k ho; simp only [tTX, scr] at *; omega)⟩, ⟨s, sg, h5.frO hF (by intro o k ho; simp only [tSG, scr] at *; omega)⟩, ⟨u, w, W, a, h6.frO hc hF (by intro o k ho; simp only [scr, tUN] at *; omega)⟩, ⟨v, w2, V, h7.frO hc hF (by intro o k ho; simp only [scr, tKP] at *; omega)⟩, h8.frO hF (by intro o k ho; simp only [scr] at *; omega)⟩
theorem ag_run {m : ba_M} (hv : Inv m) (x y z : Int32) : Ag (f_Ba_run SF 0 x y z m) (f_Mo_run SF 102 x y z) := by
  obtain ⟨c, n, d, P, T, hC, hM, hok, h4, h5, h6, h7, h8⟩ := id hv
  obtain ⟨⟨o1, o2, o3, o4, o5⟩, o6, o7⟩ := id hok
  rcases canHit_cases (c := c) T x y with ⟨i, k, hi, hk, hne, rfl, rfl⟩ | hx
  · rcases has_cases z 2 with ⟨w, hw, rfl⟩ | hz
    · obtain ⟨t1, t2, t3, t4, t5, t6⟩ := o7 i hi
      obtain ⟨q1, q2, q3, q4, q5, q6, q7⟩ := o6 _ t1
      have hbt := bts_in (n := n) (X := P (T i 0) 0) (V := P (T i 0) 1) (b := T i 1) (h := T i 2) (by omega) (by omega) ⟨q2, q3⟩ ⟨t4, t5⟩
      obtain ⟨m1, e1, e2, e3⟩ := sp_playAsTold hC hok hi
      obtain ⟨m2, u1, u2⟩ := sp_runL (w := w) hok hk t1 (show T i 1 ≤ 40 by omega) hbt hw 4 0 FU m1 rfl (by omega) (by unfold FU; omega) (hC.ro o2 e2) ⟨P k 4, by rw [upP_id]; exact e3⟩
      have hF := e2.tr u2
      have hM2 := hM.ro o2 hF
      obtain ⟨m3, w1, w2, w3⟩ := sp_mrunL hok hi hk hne hw 4 0 FU m2 (-4) (nI 0) rfl (by omega) (by unfold FU; omega) ⟨P k 4, by rw [upP_id]; exact hM2⟩ (Or.inl ⟨rfl, rfl, rfl⟩)
      have hF3 : Fr (fun o k => scr o k ∨ o = 103) m m3 := (hF.up (fun o k h => Or.inl (scr_Ro o k h))).tr (w2.up (fun o k h => h.elim (fun h => Or.inl (scr_Mo o k h)) Or.inr))
      refine ⟨if w = 0 then nI (bsF (rR c n d P (T i 0) (T i 1) (btT P T i) k) 4).1 else nI (bsF (rR c n d P (T i 0) (T i 1) (btT P T i) k) 4).2, m2, m3, ?_, ?_, Inv.gm hC hok h4 h5 h6 h7 h8 hF3 w3⟩
      · unfold f_Ba_run f_Ba_run_38
        simp (disch := omega) only [oN, Option.bind_some, ↓reduceIte, ifT, ifF, eq_self, reduceCtorEq, cK_0, cK_1, cK_2, kl_2, bd_2, cK_3, cK_4, kl_4, bd_4, cK_5, cK_6, cK_7, kl_7, bd_7, cK_8, cK_25, cK_20, kl_20, bd_20, cK_21, kl_21, bd_21, cK_22, kl_22, bd_22, cK_23, cK_24, kl_24, bd_24, cK_37, cK_38, cK_39, kl_39, bd_39, cK_40, kl_40, bd_40, cK_41, kl_41, bd_41, cK_42, kl_42, bd_42, cK_43, kl_43, bd_43, cK_44, cK_45, kl_45, bd_45, cK_46, kl_46, bd_46, cK_47, kl_47, bd_47, cK_48, cK_49, kl_49, bd_49, cK_90, cK_91, kl_91, bd_91, cK_102, cK_103, kl_103, bd_103, cK_104, kl_104, bd_104, cK_105, kl_105, bd_105, cK_106, kl_106, bd_106, cK_107, kl_107, bd_107, cK_108, kl_108, bd_108, cK_109, kl_109, bd_109, cK_110, kl_110, bd_110, cK_111, kl_111, bd_111, cK_112, kl_112, bd_112, cK_113, kl_113, bd_113, cK_114, kl_114, bd_114, cK_115, kl_115, bd_115, cK_116, kl_116, bd_116, cK_117, kl_117, bd_117, cK_118, kl_118, bd_118, cK_119, kl_119, bd_119, cK_120, kl_120, bd_120, cK_121, kl_121, bd_121, ld_0_0, ld_0_1, ld_0_2, ld_0_3, ld_0_4, ld_0_5, ld_0_6, ld_0_7, ld_0_8, ld_0_9, ld_1_0, ld_3_0, ld_5_0, ld_5_1, ld_5_2, ld_5_3, ld_6_0, ld_6_1, ld_23_0, ld_23_1, ld_38_0, ld_38_1, ld_38_2, ld_38_3, ld_38_4, ld_44_0, ld_44_1, ld_44_2, ld_48_1, ld_90_1, ld_102_3, ld_102_4, ld_102_5, ld_102_8, ld_102_12, ld_102_13, ld_102_14, ld_102_15, ld_102_16, ld_102_17, ld_102_19, ld_102_20, ld_102_21, ld_102_22, ld_102_23, ld_102_25, ld_102_27, ld_102_28, ld_102_30, cK_pl, cK_to, cK_dp, cK_dt, cK_un, cK_ke, ld_pl, ld_to, ld_dp, ld_dt, ld_un, ld_ke, sp_canHit_t hC hok hi hk hne, sp_within_t, e1]
        exact u1
      · have hk4 := (hM2.2.2.2.1 k hk).2.2.2.2
        unfold f_Mo_run f_Mo_run_42
        simp (disch := omega) only [oN, Option.bind_some, ↓reduceIte, ifT, ifF, eq_self, reduceCtorEq, cK_0, cK_1, cK_2, kl_2, bd_2, cK_3, cK_4, kl_4, bd_4, cK_5, cK_6, cK_7, kl_7, bd_7, cK_8, cK_25, cK_20, kl_20, bd_20, cK_21, kl_21, bd_21, cK_22, kl_22, bd_22, cK_23, cK_24, kl_24, bd_24, cK_37, cK_38, cK_39, kl_39, bd_39, cK_40, kl_40, bd_40, cK_41, kl_41, bd_41, cK_42, kl_42, bd_42, cK_43, kl_43, bd_43, cK_44, cK_45, kl_45, bd_45, cK_46, kl_46, bd_46, cK_47, kl_47, bd_47, cK_48, cK_49, kl_49, bd_49, cK_90, cK_91, kl_91, bd_91, cK_102, cK_103, kl_103, bd_103, cK_104, kl_104, bd_104, cK_105, kl_105, bd_105, cK_106, kl_106, bd_106, cK_107, kl_107, bd_107, cK_108, kl_108, bd_108, cK_109, kl_109, bd_109, cK_110, kl_110, bd_110, cK_111, kl_111, bd_111, cK_112, kl_112, bd_112, cK_113, kl_113, bd_113, cK_114, kl_114, bd_114, cK_115, kl_115, bd_115, cK_116, kl_116, bd_116, cK_117, kl_117, bd_117, cK_118, kl_118, bd_118, cK_119, kl_119, bd_119, cK_120, kl_120, bd_120, cK_121, kl_121, bd_121, ld_0_0, ld_0_1, ld_0_2, ld_0_3, ld_0_4, ld_0_5, ld_0_6, ld_0_7, ld_0_8, ld_0_9, ld_1_0, ld_3_0, ld_5_0, ld_5_1, ld_5_2, ld_5_3, ld_6_0, ld_6_1, ld_23_0, ld_23_1, ld_38_0, ld_38_1, ld_38_2, ld_38_3, ld_38_4, ld_44_0, ld_44_1, ld_44_2, ld_48_1, ld_90_1, ld_102_3, ld_102_4, ld_102_5, ld_102_8, ld_102_12, ld_102_13, ld_102_14, ld_102_15, ld_102_16, ld_102_17, ld_102_19, ld_102_20, ld_102_21, ld_102_22, ld_102_23, ld_102_25, ld_102_27, ld_102_28, ld_102_30, cK_pl, cK_to, cK_dp, cK_dt, cK_un, cK_ke, ld_pl, ld_to, ld_dp, ld_dt, ld_un, ld_ke, sp_apart_t hM2 hok hi hk hne, sp_in_t, pk_mul, nI_add, nI_clamp, hk4]
        exact w1
    · have hz' : ∀ i, 0 ≤ i → i ≤ 1 → z ≠ nI i := fun i _ h => hz i (by omega)
      refine ⟨-1, m, m, ?_, ?_, hv⟩
      · unfold f_Ba_run f_Ba_run_18
        simp (disch := omega) only [oN, Option.bind_some, ↓reduceIte, ifT, ifF, eq_self, reduceCtorEq, cK_0, cK_1, cK_2, kl_2, bd_2, cK_3, cK_4, kl_4, bd_4, cK_5, cK_6, cK_7, kl_7, bd_7, cK_8, cK_25, cK_20, kl_20, bd_20, cK_21, kl_21, bd_21, cK_22, kl_22, bd_22, cK_23, cK_24, kl_24, bd_24, cK_37, cK_38, cK_39, kl_39, bd_39, cK_40, kl_40, bd_40, cK_41, kl_41, bd_41, cK_42, kl_42, bd_42, cK_43, kl_43, bd_43, cK_44, cK_45, kl_45, bd_45, cK_46, kl_46, bd_46, cK_47, kl_47, bd_47, cK_48, cK_49, kl_49, bd_49, cK_90, cK_91, kl_91, bd_91, cK_102, cK_103, kl_103, bd_103, cK_104, kl_104, bd_104, cK_105, kl_105, bd_105, cK_106, kl_106, bd_106, cK_107, kl_107, bd_107, cK_108, kl_108, bd_108, cK_109, kl_109, bd_109, cK_110, kl_110, bd_110, cK_111, kl_111, bd_111, cK_112, kl_112, bd_112, cK_113, kl_113, bd_113, cK_114, kl_114, bd_114, cK_115, kl_115, bd_115, cK_116, kl_116, bd_116, cK_117, kl_117, bd_117, cK_118, kl_118, bd_118, cK_119, kl_119, bd_119, cK_120, kl_120, bd_120, cK_121, kl_121, bd_121, ld_0_0, ld_0_1, ld_0_2, ld_0_3, ld_0_4, ld_0_5, ld_0_6, ld_0_7, ld_0_8, ld_0_9, ld_1_0, ld_3_0, ld_5_0, ld_5_1, ld_5_2, ld_5_3, ld_6_0, ld_6_1, ld_23_0, ld_23_1, ld_38_0, ld_38_1, ld_38_2, ld_38_3, ld_38_4, ld_44_0, ld_44_1, ld_44_2, ld_48_1, ld_90_1, ld_102_3, ld_102_4, ld_102_5, ld_102_8, ld_102_12, ld_102_13, ld_102_14, ld_102_15, ld_102_16, ld_102_17, ld_102_19, ld_102_20, ld_102_21, ld_102_22, ld_102_23, ld_102_25, ld_102_27, ld_102_28, ld_102_30, cK_pl, cK_to, cK_dp, cK_dt, cK_un, cK_ke, ld_pl, ld_to, ld_dp, ld_dt, ld_un, ld_ke, sp_canHit_t hC hok hi hk hne, sp_within_f (a := 0) (b := 1) (by omega) (by omega) hz', Bool.false_eq_true]
      · unfold f_Mo_run f_Mo_run_18
        simp (disch := omega) only [oN, Option.bind_some, ↓reduceIte, ifT, ifF, eq_self, reduceCtorEq, cK_0, cK_1, cK_2, kl_2, bd_2, cK_3, cK_4, kl_4, bd_4, cK_5, cK_6, cK_7, kl_7, bd_7, cK_8, cK_25, cK_20, kl_20, bd_20, cK_21, kl_21, bd_21, cK_22, kl_22, bd_22, cK_23, cK_24, kl_24, bd_24, cK_37, cK_38, cK_39, kl_39, bd_39, cK_40, kl_40, bd_40, cK_41, kl_41, bd_41, cK_42, kl_42, bd_42, cK_43, kl_43, bd_43, cK_44, cK_45, kl_45, bd_45, cK_46, kl_46, bd_46, cK_47, kl_47, bd_47, cK_48, cK_49, kl_49, bd_49, cK_90, cK_91, kl_91, bd_91, cK_102, cK_103, kl_103, bd_103, cK_104, kl_104, bd_104, cK_105, kl_105, bd_105, cK_106, kl_106, bd_106, cK_107, kl_107, bd_107, cK_108, kl_108, bd_108, cK_109, kl_109, bd_109, cK_110, kl_110, bd_110, cK_111, kl_111, bd_111, cK_112, kl_112, bd_112, cK_113, kl_113, bd_113, cK_114, kl_114, bd_114, cK_115, kl_115, bd_115, cK_116, kl_116, bd_116, cK_117, kl_117, bd_117, cK_118, kl_118, bd_118, cK_119, kl_119, bd_119, cK_120, kl_120, bd_120, cK_121, kl_121, bd_121, ld_0_0, ld_0_1, ld_0_2, ld_0_3, ld_0_4, ld_0_5, ld_0_6, ld_0_7, ld_0_8, ld_0_9, ld_1_0, ld_3_0, ld_5_0, ld_5_1, ld_5_2, ld_5_3, ld_6_0, ld_6_1, ld_23_0, ld_23_1, ld_38_0, ld_38_1, ld_38_2, ld_38_3, ld_38_4, ld_44_0, ld_44_1, ld_44_2, ld_48_1, ld_90_1, ld_102_3, ld_102_4, ld_102_5, ld_102_8, ld_102_12, ld_102_13, ld_102_14, ld_102_15, ld_102_16, ld_102_17, ld_102_19, ld_102_20, ld_102_21, ld_102_22, ld_102_23, ld_102_25, ld_102_27, ld_102_28, ld_102_30, cK_pl, cK_to, cK_dp, cK_dt, cK_un, cK_ke, ld_pl, ld_to, ld_dp, ld_dt, ld_un, ld_ke, sp_apart_t hM hok hi hk hne, sp_in_f (a := 0) (b := 1) (by omega) (by omega) hz', Bool.false_eq_true]
  · refine ⟨-1, m, m, ?_, ?_, hv⟩
    · unfold f_Ba_run f_Ba_run_18
      simp (disch := omega) only [oN, Option.bind_some, ↓reduceIte, ifT, ifF, eq_self, reduceCtorEq, cK_0, cK_1, cK_2, kl_2, bd_2, cK_3, cK_4, kl_4, bd_4, cK_5, cK_6, cK_7, kl_7, bd_7, cK_8, cK_25, cK_20, kl_20, bd_20, cK_21, kl_21, bd_21, cK_22, kl_22, bd_22, cK_23, cK_24, kl_24, bd_24, cK_37, cK_38, cK_39, kl_39, bd_39, cK_40, kl_40, bd_40, cK_41, kl_41, bd_41, cK_42, kl_42, bd_42, cK_43, kl_43, bd_43, cK_44, cK_45, kl_45, bd_45, cK_46, kl_46, bd_46, cK_47, kl_47, bd_47, cK_48, cK_49, kl_49, bd_49, cK_90, cK_91, kl_91, bd_91, cK_102, cK_103, kl_103, bd_103, cK_104, kl_104, bd_104, cK_105, kl_105, bd_105, cK_106, kl_106, bd_106, cK_107, kl_107, bd_107, cK_108, kl_108, bd_108, cK_109, kl_109, bd_109, cK_110, kl_110, bd_110, cK_111, kl_111, bd_111, cK_112, kl_112, bd_112, cK_113, kl_113, bd_113, cK_114, kl_114, bd_114, cK_115, kl_115, bd_115, cK_116, kl_116, bd_116, cK_117, kl_117, bd_117, cK_118, kl_118, bd_118, cK_119, kl_119, bd_119, cK_120, kl_120, bd_120, cK_121, kl_121, bd_121, ld_0_0, ld_0_1, ld_0_2, ld_0_3, ld_0_4, ld_0_5, ld_0_6, ld_0_7, ld_0_8, ld_0_9, ld_1_0, ld_3_0, ld_5_0, ld_5_1, ld_5_2, ld_5_3, ld_6_0, ld_6_1, ld_23_0, ld_23_1, ld_38_0, ld_38_1, ld_38_2, ld_38_3, ld_38_4, ld_44_0, ld_44_1, ld_44_2, ld_48_1, ld_90_1, ld_102_3, ld_102_4, ld_102_5, ld_102_8, ld_102_12, ld_102_13, ld_102_14, ld_102_15, ld_102_16, ld_102_17, ld_102_19, ld_102_20, ld_102_21, ld_102_22, ld_102_23, ld_102_25, ld_102_27, ld_102_28, ld_102_30, cK_pl, cK_to, cK_dp, cK_dt, cK_un, cK_ke, ld_pl, ld_to, ld_dp, ld_dt, ld_un, ld_ke, sp_canHit_f hC hok hx, Bool.false_eq_true]
    · unfold f_Mo_run f_Mo_run_18
      simp (disch := omega) only [oN, Option.bind_some, ↓reduceIte, ifT, ifF, eq_self, reduceCtorEq, cK_0, cK_1, cK_2, kl_2, bd_2, cK_3, cK_4, kl_4, bd_4, cK_5, cK_6, cK_7, kl_7, bd_7, cK_8, cK_25, cK_20, kl_20, bd_20, cK_21, kl_21, bd_21, cK_22, kl_22, bd_22, cK_23, cK_24, kl_24, bd_24, cK_37, cK_38, cK_39, kl_39, bd_39, cK_40, kl_40, bd_40, cK_41, kl_41, bd_41, cK_42, kl_42, bd_42, cK_43, kl_43, bd_43, cK_44, cK_45, kl_45, bd_45, cK_46, kl_46, bd_46, cK_47, kl_47, bd_47, cK_48, cK_49, kl_49, bd_49, cK_90, cK_91, kl_91, bd_91, cK_102, cK_103, kl_103, bd_103, cK_104, kl_104, bd_104, cK_105, kl_105, bd_105, cK_106, kl_106, bd_106, cK_107, kl_107, bd_107, cK_108, kl_108, bd_108, cK_109, kl_109, bd_109, cK_110, kl_110, bd_110, cK_111, kl_111, bd_111, cK_112, kl_112, bd_112, cK_113, kl_113, bd_113, cK_114, kl_114, bd_114, cK_115, kl_115, bd_115, cK_116, kl_116, bd_116, cK_117, kl_117, bd_117, cK_118, kl_118, bd_118, cK_119, kl_119, bd_119, cK_120, kl_120, bd_120, cK_121, kl_121, bd_121, ld_0_0, ld_0_1, ld_0_2, ld_0_3, ld_0_4, ld_0_5, ld_0_6, ld_0_7, ld_0_8, ld_0_9, ld_1_0, ld_3_0, ld_5_0, ld_5_1, ld_5_2, ld_5_3, ld_6_0, ld_6_1, ld_23_0, ld_23_1, ld_38_0, ld_38_1, ld_38_2, ld_38_3, ld_38_4, ld_44_0, ld_44_1, ld_44_2, ld_48_1, ld_90_1, ld_102_3, ld_102_4, ld_102_5, ld_102_8, ld_102_12, ld_102_13, ld_102_14, ld_102_15, ld_102_16, ld_102_17, ld_102_19, ld_102_20, ld_102_21, ld_102_22, ld_102_23, ld_102_25, ld_102_27, ld_102_28, ld_102_30, cK_pl, cK_to, cK_dp, cK_dt, cK_un, cK_ke, ld_pl, ld_to, ld_dp, ld_dt, ld_un, ld_ke, sp_apart_f hM hok hx, Bool.false_eq_true]
