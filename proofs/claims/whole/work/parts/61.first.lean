theorem sp_fw {m : ba_M} {c n d i : Nat} {P T : ba_T} (hC : GC m c n d P T) (hok : okG c n d P T) (hi : i < c) : ∃ m1 m2 O pl, f_Mr_prepareThrows SF 38 5 m = some m1 ∧ f_Mr_weigh SF 38 6 (nI i) m1 = some m2 ∧ Fr (fun o k => oPr o k ∨ oWg o k) m m2 ∧ (∀ k, k < 5 → gL m2 43 k = lN (O k)) ∧ gL m2 38 5 = lN pl ∧ ∀ k, k ≤ 5 → rs O pl k = VV c k (fun i => T i 0) (tgG c n d P T) (chG c n d P T) (pkS (fun k => T k 3) c) i * 10 ^ (16 - Lf c (pkS (fun k => T k 3) c)) := by
  have hc5 := hok.1.2.1
  obtain ⟨m1, e1, e2, e3⟩ := sp_prep hok c 0 FU m rfl (Nat.zero_le _) (by unfold FU; omega) hC (fun k hk => absurd hk (Nat.not_lt_zero _))
  have hC1 : GC m1 c n d P T := hC.fr hc5 e2 (by intro o k ho; simp only [oPr, oRo] at ho; omega)
  obtain ⟨m2, O, pl, u1, u2, u3, u4, u5⟩ := sp_weigh hC1 hok hi e3
  refine ⟨m1, m2, O, pl, ?_, u1, (e2.up (fun o k h => Or.inl h)).tr (u2.up (fun o k h => Or.inr h)), u3, u4, u5⟩
  unfold f_Mr_prepareThrows
  rw [cK_38, cK_5]
  exact e1
theorem Vn_le2 {c k : Nat} {ca tg ch : Nat → Nat} (hc : c ≤ 5) (hh : ∀ i, i < c → ch i ≤ 10 ∧ ca i < c ∧ tg i < c) : ∀ n x i, i < c → Vn k ca tg ch n x i ≤ bnV k n := by
  intro n
  induction n with
  | zero => intro x i _; exact Nat.zero_le _
  | succ n ih =>
    intro x i hi
    have th : ∀ p, p < c → (if dg x p = 3 then (if k = p then 10 ^ n else 0) else Vn k ca tg ch n (x + 4 ^ p) p) ≤ bnV k n := by
      intro p hp
      by_cases h : dg x p = 3
      · rw [if_pos h]
        by_cases hk : k = p
        · rw [if_pos hk]
          unfold bnV
          rw [if_neg (by omega)]
          exact Nat.le_refl _
        · rw [if_neg hk]; exact Nat.zero_le _
      · rw [if_neg h]; exact ih _ _ hp
    obtain ⟨c1, c2, c3⟩ := hh i hi
    have t1 := th (tg i) c3
    have t2 := th (ca i) c2
    unfold Vn
    generalize (if dg x (tg i) = 3 then (if k = tg i then 10 ^ n else 0) else Vn k ca tg ch n (x + 4 ^ tg i) (tg i)) = A at t1 ⊢
    generalize (if dg x (ca i) = 3 then (if k = ca i then 10 ^ n else 0) else Vn k ca tg ch n (x + 4 ^ ca i) (ca i)) = B at t2 ⊢
    have h3 : ch i * A + (10 - ch i) * B ≤ 10 * bnV k n := by
      have a1 : ch i * A ≤ ch i * bnV k n := Nat.mul_le_mul_left _ t1
      have a2 : (10 - ch i) * B ≤ (10 - ch i) * bnV k n := Nat.mul_le_mul_left _ t2
      have a3 : ch i * bnV k n + (10 - ch i) * bnV k n = 10 * bnV k n := by
        rw [← Nat.add_mul]
        congr 1
        omega
      omega
    have h4 : (if k = 5 then 10 ^ (n + 1) else 0) + 10 * bnV k n = bnV k (n + 1) := by
      unfold bnV
      by_cases hk : k = 5
      · rw [if_pos hk, if_pos hk, if_pos hk, Nat.pow_succ, Nat.add_mul, Nat.one_mul]
        have : 10 * (n * 10 ^ n) = n * (10 ^ n * 10) := by rw [Nat.mul_comm (10 ^ n) 10, ← Nat.mul_assoc, Nat.mul_comm 10 n, Nat.mul_assoc]
        omega
      · rw [if_neg hk, if_neg hk, if_neg hk, Nat.pow_succ]; omega
    omega
theorem VV_b {c n d k i : Nat} {P T : ba_T} (hok : okG c n d P T) (hi : i < c) (hk : k ≤ 5) : VV c k (fun i => T i 0) (tgG c n d P T) (chG c n d P T) (pkS (fun k => T k 3) c) i * 10 ^ (16 - Lf c (pkS (fun k => T k 3) c)) < 2 ^ 63 ∧ VV c k (fun i => T i 0) (tgG c n d P T) (chG c n d P T) (pkS (fun k => T k 3) c) i < 2 ^ 63 ∧ Lf c (pkS (fun k => T k 3) c) ≤ 16 := by
  obtain ⟨⟨o1, o2, o3, o4, o5⟩, o6, o7⟩ := id hok
  have hT : ∀ k, k < c → T k 3 ≤ 3 := fun k hk => (o7 k hk).2.2.2.2.2
  have hX := pkS_lt (l := fun k => T k 3) c hT
  generalize pkS (fun k => T k 3) c = X at hX ⊢
  obtain ⟨l1, l2⟩ := Lf_in ⟨o1, o2⟩ hX
  have hb := Vn_le2 (k := k) (ca := fun i => T i 0) (tg := tgG c n d P T) (ch := chG c n d P T) o2 (fun i hi => ⟨(tgG_in hok hi).2.2.2, (o7 i hi).1, (tgG_in hok hi).2.1⟩) (Lf c X) X i hi
  have hb : VV c k (fun i => T i 0) (tgG c n d P T) (chG c n d P T) X i ≤ bnV k (Lf c X) := hb
  have hb2 : bnV k (Lf c X) ≤ 16 * 10 ^ Lf c X := by
    unfold bnV
    split
    · exact Nat.mul_le_mul_right _ l2
    · omega
  have hpos : 0 < 10 ^ (16 - Lf c X) := Nat.pow_pos (by omega)
  have h1 : VV c k (fun i => T i 0) (tgG c n d P T) (chG c n d P T) X i * 10 ^ (16 - Lf c X) ≤ 16 * 10 ^ Lf c X * 10 ^ (16 - Lf c X) := Nat.mul_le_mul_right _ (by omega)
  have h2 : 16 * 10 ^ Lf c X * 10 ^ (16 - Lf c X) = 16 * 10 ^ 16 := by rw [Nat.mul_assoc, ← Nat.pow_add, show Lf c X + (16 - Lf c X) = 16 by omega]
  have h3 : 16 * 10 ^ 16 < 2 ^ 63 := by decide
  have h4 : VV c k (fun i => T i 0) (tgG c n d P T) (chG c n d P T) X i ≤ VV c k (fun i => T i 0) (tgG c n d P T) (chG c n d P T) X i * 10 ^ (16 - Lf c X) := Nat.le_mul_of_pos_right _ hpos
  rw [h2] at h1
  generalize 16 * 10 ^ 16 = Z at h1 h3
  exact ⟨Nat.lt_of_le_of_lt h1 h3, Nat.lt_of_le_of_lt (Nat.le_trans h4 h1) h3, l2⟩
theorem fr_scr1 : ∀ o k, (oPr o k ∨ oWg o k) → scr o k := by intro o k h; unfold oPr oRo oWg at h; unfold scr; omega
theorem fr_scr2 : ∀ o k, oPm o k → scr o k := by intro o k h; unfold oPm oMo at h; unfold scr; omega
theorem sp_fm {m : ba_M} {c n d k i w : Nat} {P T : ba_T} (hM : GM m c n d P T) (hok : okG c n d P T) (hP : PW m) (hk : k ≤ 5) (hi : i < c) : ∃ m1, f_Mo_findParts SF 102 (kI k) m = some m1 ∧ f_Mo_part SF 102 (nI i) (nI w) m1 = some (ltQ (VV c k (fun i => T i 0) (tgG c n d P T) (chG c n d P T) (pkS (fun k => T k 3) c) i) (Lf c (pkS (fun k => T k 3) c)) w, m1) ∧ Fr oPm m m1 := by
  have hc5 := hok.1.2.1
  obtain ⟨m1, u1, u2, u3⟩ := sp_fp2 hok hk c 0 FU m rfl (Nat.zero_le _) (by unfold FU; omega) hM hP (fun j hj => absurd hj (Nat.not_lt_zero _))
  refine ⟨m1, ?_, sp_partM (hM.fr hc5 u2 (by intro o j ho; unfold oPm oMo at ho; omega)) hok (hP.frO u2 (by intro o j ho; unfold oPm oMo at ho; omega)) hi u3 (VV_b hok hi hk).2.1, u2⟩
  unfold f_Mo_findParts
  rw [cK_102]
  exact u1
theorem ag_first {m : ba_M} (hv : Inv m) (x y z : Int32) : Ag (f_Ba_first SF 0 x y z m) (f_Mo_first SF 102 x y z) := by
  obtain ⟨c, n, d, P, T, hC, hM, hok, h4, h5, h6, h7, h8⟩ := id hv
  have hc5 := hok.1.2.1
  have hc1 : 1 ≤ c := by have := hok.1.1; omega
  rcases has_cases x c with ⟨i, hi, rfl⟩ | hx
  · rcases has_cases y c with ⟨k, hk, rfl⟩ | hy
    · rcases has_cases z 2 with ⟨w, hw, rfl⟩ | hz
      · obtain ⟨m1, m2, O, pl, u1, u2, u3, u4, u5, u6⟩ := sp_fw hC hok hi
        have hM2 : GM m2 c n d P T := hM.fr hc5 u3 (by intro o j ho; unfold oPr oRo oWg at ho; omega)
        have hP2 : PW m2 := h8.frO u3 (by intro o j ho; unfold oPr oRo oWg at ho; omega)
        obtain ⟨m3, v1, v2, v3⟩ := sp_fm (w := w) hM2 hok hP2 (show k ≤ 5 by omega) hi
        obtain ⟨b1, b2, b3⟩ := VV_b (n := n) (d := d) (P := P) hok hi (show k ≤ 5 by omega)
        have hO : O k = VV c k (fun i => T i 0) (tgG c n d P T) (chG c n d P T) (pkS (fun k => T k 3) c) i * 10 ^ (16 - Lf c (pkS (fun k => T k 3) c)) := by
          have := u6 k (by omega)
          unfold rs at this
          rw [if_neg (by omega)] at this
          exact this
        have hlow := sp_lowC (w := w) (m := m2) b3 hO (by rw [hO]; exact b1)
        have hkI : kI k = nI k := if_neg (by omega)
        rw [hkI] at v1
        refine ⟨ltQ (VV c k (fun i => T i 0) (tgG c n d P T) (chG c n d P T) (pkS (fun k => T k 3) c) i) (Lf c (pkS (fun k => T k 3) c)) w, m2, m3, ?_, ?_, hv.fr ((u3.up fr_scr1).tr (v3.up fr_scr2))⟩
        · have w1 := sp_within_t (S := SF) (a := 0) (b := 1) (i := w) (by omega) (by omega) (by omega) m
          have hat := sp_atL ck_43 kl_43 (show k < 5 by omega) (by omega) m2
          rw [u4 k (by omega)] at hat
          unfold f_Ba_first f_Mr_outWeight
          rw [cK_0, ld_0_3, sp_has_t hC.1 hi hc5, obS, if_pos rfl, ld_0_3, sp_has_t hC.1 hk hc5, obS, if_pos rfl, w1, obS, if_pos rfl, ld_0_6, ld_0_2, u1, obS, ld_0_6, ld_0_3, u2, obS, ld_0_6, cK_38, ld_38_4, hat, obS, obS]
          dsimp only
          rw [hlow, obS]
        · have w1 := sp_in_t (S := SF) (a := 0) (b := 1) (i := w) (by omega) (by omega) (by omega) m2
          unfold f_Mo_first
          rw [cK_102, sp_isP_t hM2.1 hi hc5, obS, if_pos rfl, sp_isP_t hM2.1 hk hc5, obS, if_pos rfl, w1, obS, if_pos rfl, v1, obS, v2, obS]
      · have hz' : ∀ i, 0 ≤ i → i ≤ 1 → z ≠ nI i := fun i _ h => hz i (by omega)
        refine ⟨-1, m, m, ?_, ?_, hv⟩
        · unfold f_Ba_first f_Ba_first_31
          rw [cK_0, ld_0_3, sp_has_t hC.1 hi hc5, obS, if_pos rfl, ld_0_3, sp_has_t hC.1 hk hc5, obS, if_pos rfl, sp_within_f (a := 0) (b := 1) (by omega) (by omega) hz', obS, if_neg Bool.false_ne_true]
        · unfold f_Mo_first f_Mo_first_25
          rw [cK_102, sp_isP_t hM.1 hi hc5, obS, if_pos rfl, sp_isP_t hM.1 hk hc5, obS, if_pos rfl, sp_in_f (a := 0) (b := 1) (by omega) (by omega) hz', obS, if_neg Bool.false_ne_true]
    · refine ⟨-1, m, m, ?_, ?_, hv⟩
      · unfold f_Ba_first f_Ba_first_31
        rw [cK_0, ld_0_3, sp_has_t hC.1 hi hc5, obS, if_pos rfl, ld_0_3, sp_has_f hC.1 hy hc5, obS, if_neg Bool.false_ne_true]
      · unfold f_Mo_first f_Mo_first_25
        rw [cK_102, sp_isP_t hM.1 hi hc5, obS, if_pos rfl, sp_isP_f hM.1 hy hc5 hc1, obS, if_neg Bool.false_ne_true]
  · refine ⟨-1, m, m, ?_, ?_, hv⟩
    · unfold f_Ba_first f_Ba_first_31
      rw [cK_0, ld_0_3, sp_has_f hC.1 hx hc5, obS, if_neg Bool.false_ne_true]
    · unfold f_Mo_first f_Mo_first_25
      rw [cK_102, sp_isP_f hM.1 hx hc5 hc1, obS, if_neg Bool.false_ne_true]
theorem ag_rounds {m : ba_M} (hv : Inv m) (x z : Int32) : Ag (f_Ba_rounds SF 0 x z m) (f_Mo_rounds SF 102 x z) := by
  obtain ⟨c, n, d, P, T, hC, hM, hok, h4, h5, h6, h7, h8⟩ := id hv
  have hc5 := hok.1.2.1
  have hc1 : 1 ≤ c := by have := hok.1.1; omega
  rcases has_cases x c with ⟨i, hi, rfl⟩ | hx
  · rcases has_cases z 2 with ⟨w, hw, rfl⟩ | hz
    · obtain ⟨m1, m2, O, pl, u1, u2, u3, u4, u5, u6⟩ := sp_fw hC hok hi
      have hM2 : GM m2 c n d P T := hM.fr hc5 u3 (by intro o j ho; unfold oPr oRo oWg at ho; omega)
      have hP2 : PW m2 := h8.frO u3 (by intro o j ho; unfold oPr oRo oWg at ho; omega)
      obtain ⟨m3, v1, v2, v3⟩ := sp_fm (w := w) hM2 hok hP2 (show 5 ≤ 5 by omega) hi
      obtain ⟨b1, b2, b3⟩ := VV_b (n := n) (d := d) (P := P) hok hi (show 5 ≤ 5 by omega)
      have hO : pl = VV c 5 (fun i => T i 0) (tgG c n d P T) (chG c n d P T) (pkS (fun k => T k 3) c) i * 10 ^ (16 - Lf c (pkS (fun k => T k 3) c)) := u6 5 (by omega)
      have hlow := sp_lowC (w := w) (m := m2) b3 hO (by rw [hO]; exact b1)
      have v1 : f_Mo_findParts SF 102 (-4) m2 = some m3 := v1
      refine ⟨ltQ (VV c 5 (fun i => T i 0) (tgG c n d P T) (chG c n d P T) (pkS (fun k => T k 3) c) i) (Lf c (pkS (fun k => T k 3) c)) w, m2, m3, ?_, ?_, hv.fr ((u3.up fr_scr1).tr (v3.up fr_scr2))⟩
      · have w1 := sp_within_t (S := SF) (a := 0) (b := 1) (i := w) (by omega) (by omega) (by omega) m
        unfold f_Ba_rounds
        rw [cK_0, ld_0_3, sp_has_t hC.1 hi hc5, obS, if_pos rfl, w1, obS, if_pos rfl, ld_0_6, ld_0_2, u1, obS, ld_0_6, ld_0_3, u2, obS, ld_0_6, u5, hlow, obS]
      · have w1 := sp_in_t (S := SF) (a := 0) (b := 1) (i := w) (by omega) (by omega) (by omega) m2
        unfold f_Mo_rounds
        rw [cK_102, sp_isP_t hM2.1 hi hc5, obS, if_pos rfl, w1, obS, if_pos rfl, v1, obS, v2, obS]
    · have hz' : ∀ i, 0 ≤ i → i ≤ 1 → z ≠ nI i := fun i _ h => hz i (by omega)
      refine ⟨-1, m, m, ?_, ?_, hv⟩
      · unfold f_Ba_rounds f_Ba_rounds_20
        rw [cK_0, ld_0_3, sp_has_t hC.1 hi hc5, obS, if_pos rfl, sp_within_f (a := 0) (b := 1) (by omega) (by omega) hz', obS, if_neg Bool.false_ne_true]
      · unfold f_Mo_rounds f_Mo_rounds_17
        rw [cK_102, sp_isP_t hM.1 hi hc5, obS, if_pos rfl, sp_in_f (a := 0) (b := 1) (by omega) (by omega) hz', obS, if_neg Bool.false_ne_true]
  · refine ⟨-1, m, m, ?_, ?_, hv⟩
    · unfold f_Ba_rounds f_Ba_rounds_20
      rw [cK_0, ld_0_3, sp_has_f hC.1 hx hc5, obS, if_neg Bool.false_ne_true]
    · unfold f_Mo_rounds f_Mo_rounds_17
      rw [cK_102, sp_isP_f hM.1 hx hc5 hc1, obS, if_neg Bool.false_ne_true]
