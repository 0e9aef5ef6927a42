theorem PJ.lt {c : Nat} {ca tg ch C : Nat → Nat} {cur : Nat} {W O : Nat → Nat} {pl : Nat} (h : PJ c ca tg ch C cur W O pl) (hc : cur < 5120) : W cur < 2 ^ 63 := by
  have h1 := h.m
  have h2 := smF_ge (g := W) (f := cur) (5120 - cur) cur (Nat.le_refl _) (by omega)
  have h3 : (10 : Nat) ^ 16 < 2 ^ 63 := by decide
  omega
theorem TBl.wg {m m' : ba_M} {c n d i : Nat} {P T : ba_T} (h : TBl m c n d P T i) (hF : Fr oWg m m') : TBl m' c n d P T i := fun k hk => by
  obtain ⟨h1, h2, h3⟩ := h k hk
  exact ⟨(hF.1 _ _ (by unfold oWg; omega)).trans h1, (hF.1 _ _ (by unfold oWg; omega)).trans h2, (hF.1 _ _ (by unfold oWg; omega)).trans h3⟩
theorem sp_w55 {c n d x : Nat} {P T : ba_T} {C : Nat → Nat} (hok : okG c n d P T) (hx : x < 1024) (K44 : Nat → Nat → Int32 → ba_M → Option (ba_M)) : ∀ (r i N : Nat) (m : ba_M) (W O : Nat → Nat) (pl : Nat), c - i = r → i ≤ c → r < N → gI m 6 2 = nI c → TBl m c n d P T c → WI m W O pl → PJ c (fun i => T i 0) (tgG c n d P T) (chG c n d P T) C (x * 5 + i) W O pl →
    ∃ m' W' O' pl', fx (fun _ _ _ _ _ => none) (b_Mr_weigh_55 SF K44) N 38 6 (nI x) (nI i) m = K44 38 6 (nI (x + 1)) m' ∧ WI m' W' O' pl' ∧ PJ c (fun i => T i 0) (tgG c n d P T) (chG c n d P T) C (x * 5 + 5) W' O' pl' ∧ Fr oWg m m' := by
  obtain ⟨⟨o1, o2, o3, o4, o5⟩, o6, o7⟩ := id hok
  intro r
  induction r with
  | zero =>
    intro i N m W O pl hr hi hN hG hT hW hJ
    obtain ⟨N, rfl⟩ : ∃ z, N = z + 1 := ⟨N - 1, by omega⟩
    obtain rfl : i = c := by omega
    refine ⟨m, W, O, pl, ?_, hW, hJ.wk ⟨o1, o2⟩ hx, Fr.rf⟩
    rw [fx_s]
    generalize fx (fun _ _ _ _ _ => none) (b_Mr_weigh_55 SF K44) N = K
    unfold b_Mr_weigh_55
    rw [hG, if_pos (by rw [nI_leI (by omega) (by omega)]; omega), nI_add]
  | succ r ih =>
    intro i N m W O pl hr hi hN hG hT hW hJ
    obtain ⟨N, rfl⟩ : ∃ z, N = z + 1 := ⟨N - 1, by omega⟩
    have hic : i < c := by omega
    obtain ⟨y1, y2, y3⟩ := hT i hic
    obtain ⟨g1, g2, g3, g4⟩ := tgG_in hok hic
    have hca := (o7 i hic).1
    have hlt := hJ.lt (show x * 5 + i < 5120 by omega)
    have ih' := fun m W O pl => ih (i + 1) N m W O pl (by omega) (by omega) (by omega)
    rw [fx_s]
    generalize fx (fun _ _ _ _ _ => none) (b_Mr_weigh_55 SF K44) N = K at ih' ⊢
    unfold b_Mr_weigh_55
    rw [hG, if_neg (by rw [nI_leI (by omega) (by omega)]; omega)]
    rcases sp_share hW hx (show i < 5 by omega) (show T i 0 < 5 by omega) (show tgG c n d P T i < 5 by omega) g4 y1 y2 y3 hlt with ⟨s1, s2⟩ | ⟨s1, m1, s2, s3, s4⟩
    · obtain ⟨m', W', O', pl', u1, u2⟩ := ih' m W O pl hG hT hW (hJ.w0 s1 (by omega))
      refine ⟨m', W', O', pl', ?_, u2⟩
      rw [s2, obS, nI_add]
      exact u1
    · have hx4 : x < 4 ^ c := by
        rcases Nat.lt_or_ge x (4 ^ c) with q | q
        · exact q
        · exact absurd (hJ.z.z (x * 5 + i) (Or.inl (by omega))) s1
      have hJ2 := hJ.w1 ⟨o1, o2⟩ hx4 hic g2 hca g4
      obtain ⟨m', W', O', pl', u1, u2, u3, u4⟩ := ih' m1 _ _ _ ((s4.1 _ _ (by unfold oWg; omega)).trans hG) (hT.wg s4) s3 hJ2
      refine ⟨m', W', O', pl', ?_, u2, u3, s4.tr u4⟩
      rw [s2, obS, nI_add]
      exact u1
theorem sp_w44 {c n d : Nat} {P T : ba_T} {C : Nat → Nat} (hok : okG c n d P T) : ∀ (r x N : Nat) (m : ba_M) (W O : Nat → Nat) (pl : Nat), 1024 - x = r → x ≤ 1024 → r < N → gI m 6 2 = nI c → TBl m c n d P T c → WI m W O pl → PJ c (fun i => T i 0) (tgG c n d P T) (chG c n d P T) C (x * 5) W O pl →
    ∃ m' W' O' pl', fx (fun _ _ _ _ => none) (b_Mr_weigh_44 SF) N 38 6 (nI x) m = some m' ∧ WI m' W' O' pl' ∧ PJ c (fun i => T i 0) (tgG c n d P T) (chG c n d P T) C 5120 W' O' pl' ∧ Fr oWg m m' := by
  have hc5 := hok.1.2.1
  intro r
  induction r with
  | zero =>
    intro x N m W O pl hr hx hN hG hT hW hJ
    obtain ⟨N, rfl⟩ : ∃ z, N = z + 1 := ⟨N - 1, by omega⟩
    obtain rfl : x = 1024 := by omega
    refine ⟨m, W, O, pl, ?_, hW, hJ, Fr.rf⟩
    rw [fx_s]
    generalize fx (fun _ _ _ _ => none) (b_Mr_weigh_44 SF) N = K
    unfold b_Mr_weigh_44
    rw [if_pos (by rw [nI_leI (by omega) (by omega)]; omega)]
  | succ r ih =>
    intro x N m W O pl hr hx hN hG hT hW hJ
    obtain ⟨N, rfl⟩ : ∃ z, N = z + 1 := ⟨N - 1, by omega⟩
    have ih' := fun m W O pl => ih (x + 1) N m W O pl (by omega) (by omega) (by omega)
    rw [fx_s]
    generalize fx (fun _ _ _ _ => none) (b_Mr_weigh_44 SF) N = K at ih' ⊢
    obtain ⟨m1, W1, O1, pl1, u1, u2, u3, u4⟩ := sp_w55 hok (show x < 1024 by omega) K c 0 FU m W O pl rfl (Nat.zero_le _) (by unfold FU; omega) hG hT hW hJ
    obtain ⟨m', W', O', pl', v1, v2, v3, v4⟩ := ih' m1 W1 O1 pl1 ((u4.1 _ _ (by unfold oWg; omega)).trans hG) (hT.wg u4) u2 (by rw [show (x + 1) * 5 = x * 5 + 5 by omega]; exact u3)
    refine ⟨m', W', O', pl', ?_, v2, v3, u4.tr v4⟩
    have u1 : f_Mr_weigh_55 SF K 38 6 (nI x) (nI 0) m = K 38 6 (nI (x + 1)) m1 := u1
    unfold b_Mr_weigh_44
    rw [if_neg (by rw [nI_leI (by omega) (by omega)]; omega), u1]
    exact v1
theorem sp_fill {o l : Nat} (hk : ck SF o 21 = true) (hl : kL SF o = l) (h2 : l ≤ 5120) : ∀ (r i N : Nat) (m : ba_M), l - i = r → i ≤ l → r < N → (∀ j, j < i → gL m o j = lN 0) →
    ∃ m', fx (fun _ _ _ _ _ => none) (b_Ar_fill_6 SF) N o (lN 0) (nI i) (nI l) m = some m' ∧ Fr (fun a _ => a = o) m m' ∧ ∀ j, j < l → gL m' o j = lN 0 := by
  intro r
  induction r with
  | zero =>
    intro i N m hr hi hN h
    obtain ⟨N, rfl⟩ : ∃ z, N = z + 1 := ⟨N - 1, by omega⟩
    obtain rfl : i = l := by omega
    refine ⟨m, ?_, Fr.rf, h⟩
    rw [fx_s]
    generalize fx (fun _ _ _ _ _ => none) (b_Ar_fill_6 SF) N = K
    unfold b_Ar_fill_6
    rw [if_pos (by rw [nI_leI (by omega) (by omega)]; omega)]
  | succ r ih =>
    intro i N m hr hi hN h
    obtain ⟨N, rfl⟩ : ∃ z, N = z + 1 := ⟨N - 1, by omega⟩
    obtain ⟨m', u1, u2, u3⟩ := ih (i + 1) N (wL m o i (lN 0)) (by omega) (by omega) (by omega) (fun j hj => by
      by_cases e : j = i
      · subst e; exact gL_s _ _ _ _
      · rw [gL_n _ _ _ _ _ _ (by omega)]; exact h j (by omega))
    refine ⟨m', ?_, (Fr.rf.wl (by rfl)).tr u2, u3⟩
    rw [fx_s]
    generalize fx (fun _ _ _ _ _ => none) (b_Ar_fill_6 SF) N = K at u1 ⊢
    unfold b_Ar_fill_6
    rw [if_neg (by rw [nI_leI (by omega) (by omega)]; omega), bd_of hl (by omega) (by omega), nI_clamp (by omega), nI_add]
    exact u1
theorem PJ.st {c X i : Nat} {ca tg ch : Nat → Nat} (hc : 2 ≤ c ∧ c ≤ 5) (hX : X < 4 ^ c) (hi : i < c) : PJ c ca tg ch (fun k => 10 ^ 16 * UU c k ca tg ch (X * 5 + i)) (X * 5) (ad (fun _ => 0) (X * 5 + i) (10 ^ 16)) (fun _ => 0) 0 := by
  obtain ⟨l1, l2⟩ := Lf_in hc hX
  have hx4 : 4 ^ c ≤ 1024 := by rcases p4c hc with h | h | h | h <;> omega
  refine ⟨⟨fun f hf => ad_n (by omega), fun f hf hf4 => ?_⟩, ?_, fun k hk => ?_⟩
  · by_cases e : f = X * 5 + i
    · subst e
      rw [ad_s, Nat.zero_add, show (X * 5 + i) / 5 = X by omega]
      exact Nat.pow_dvd_pow 10 l2
    · rw [ad_n e]; exact Nat.dvd_zero _
  · rw [smF_up (g := fun _ => 0) (fun j hj => ad_n hj) ad_s (5120 - X * 5) (X * 5) (by omega) (by omega), smF_z _ _ (fun j _ _ => rfl), smF_z _ _ (fun j _ _ => rfl)]
    omega
  · rw [smF_up (g := fun _ => 0) (f := X * 5 + i) (d := 10 ^ 16 * UU c k ca tg ch (X * 5 + i)) (fun j hj => by rw [ad_n hj, Nat.zero_mul]) (by rw [ad_s, Nat.zero_add, Nat.zero_add]) (5120 - X * 5) (X * 5) (by omega) (by omega), smF_z _ _ (fun j _ _ => rfl)]
    have hr : rs (fun _ => 0) 0 k = 0 := by unfold rs; split <;> rfl
    rw [hr, Nat.zero_mul, Nat.zero_add, Nat.add_zero]
theorem sp_weigh {m : ba_M} {c n d i : Nat} {P T : ba_T} (hG : GC m c n d P T) (hok : okG c n d P T) (hi : i < c) (hT : TBl m c n d P T c) : ∃ m' O pl, f_Mr_weigh SF 38 6 (nI i) m = some m' ∧ Fr oWg m m' ∧ (∀ k, k < 5 → gL m' 43 k = lN (O k)) ∧ gL m' 38 5 = lN pl ∧ ∀ k, k ≤ 5 → rs O pl k = VV c k (fun i => T i 0) (tgG c n d P T) (chG c n d P T) (pkS (fun k => T k 3) c) i * 10 ^ (16 - Lf c (pkS (fun k => T k 3) c)) := by
  obtain ⟨⟨o1, o2, o3, o4, o5⟩, o6, o7⟩ := id hok
  have hX := pkS_lt (l := fun k => T k 3) c (fun k hk => (o7 k hk).2.2.2.2.2)
  have hx4 : 4 ^ c ≤ 1024 := by rcases p4c ⟨o1, o2⟩ with h | h | h | h <;> omega
  generalize hXe : pkS (fun k => T k 3) c = X at hX ⊢
  obtain ⟨m1, a1, a2, a3⟩ := sp_fill ck_42 kl_42 (by omega) 5120 0 FU m rfl (Nat.zero_le _) (by unfold FU; omega) (fun j hj => absurd hj (Nat.not_lt_zero _))
  obtain ⟨m2, b1, b2, b3⟩ := sp_fill ck_43 kl_43 (by omega) 5 0 FU m1 rfl (Nat.zero_le _) (by unfold FU; omega) (fun j hj => absurd hj (Nat.not_lt_zero _))
  have hF2 : Fr oWg m (wL m2 38 5 (lN 0)) := ((a2.up (fun o k h => Or.inl h)).tr (b2.up (fun o k h => Or.inr (Or.inl h)))).wl (Or.inr (Or.inr ⟨rfl, rfl⟩))
  have hG2 : GC (wL m2 38 5 (lN 0)) c n d P T := hG.fr o2 hF2 (by intro o k ho; unfold oWg at ho; omega)
  have hL := sp_lettersL hG2 o2 c 0 FU rfl (Nat.zero_le _) (by unfold FU; omega)
  rw [hXe] at hL
  have hL : f_Mr_lettersOf_4 SF 6 (nI 0) (nI 0) (wL m2 38 5 (lN 0)) = some (nI X, wL m2 38 5 (lN 0)) := hL
  have hW0 : WI (wL m2 38 5 (lN 0)) (fun _ => 0) (fun _ => 0) 0 := ⟨fun f hf => (gL_n _ _ _ _ _ _ (by omega)).trans ((b2.2 _ _ (by omega)).trans (a3 f hf)), fun k hk => (gL_n _ _ _ _ _ _ (by omega)).trans (b3 k hk), gL_s _ _ _ _⟩
  have hW1 := hW0.g (f := X * 5 + i) (v := 10 ^ 16) (by omega)
  have hadd := sp_addL (v := lN 10000000000000000) ck_42 kl_42 (show X * 5 + i < 5120 by omega) (by omega) (wL m2 38 5 (lN 0))
  have hF3 : Fr oWg m (wL (wL m2 38 5 (lN 0)) 42 (X * 5 + i) (gL (wL m2 38 5 (lN 0)) 42 (X * 5 + i) + lN 10000000000000000)) := hF2.wl (Or.inl rfl)
  have hW1 : WI (wL (wL m2 38 5 (lN 0)) 42 (X * 5 + i) (gL (wL m2 38 5 (lN 0)) 42 (X * 5 + i) + lN 10000000000000000)) (ad (fun _ => 0) (X * 5 + i) (10 ^ 16)) (fun _ => 0) 0 := hW1
  generalize wL (wL m2 38 5 (lN 0)) 42 (X * 5 + i) (gL (wL m2 38 5 (lN 0)) 42 (X * 5 + i) + lN 10000000000000000) = m3 at hadd hF3 hW1
  obtain ⟨m', W', O', pl', u1, u2, u3, u4⟩ := sp_w44 hok (1024 - X) X FU m3 _ _ _ rfl (by omega) (by unfold FU; omega) ((hF3.1 _ _ (by unfold oWg; omega)).trans hG.1) (hT.wg hF3) hW1 (PJ.st ⟨o1, o2⟩ hX hi)
  have u1 : f_Mr_weigh_44 SF 38 6 (nI X) m3 = some m' := u1
  refine ⟨m', O', pl', ?_, hF3.tr u4, u2.2.1, u2.2.2, fun k hk => ?_⟩
  · have f1 : f_Ar_fill SF 42 (lN 0) m = some m1 := by unfold f_Ar_fill; rw [cK_42, kl_42]; exact a1
    have f2 : f_Ar_fill SF 43 (lN 0) m1 = some m2 := by unfold f_Ar_fill; rw [cK_43, kl_43]; exact b1
    unfold f_Mr_weigh f_Mr_lettersOf
    rw [cK_38, cK_6, ld_38_3, f1, obS, ld_38_4, f2, obS, cK_6, hL, obS, ld_38_3]
    dsimp only
    rw [pk_mul, nI_add, hadd, obS, u1]
  · have h5 := u3.u k hk
    have h6 : smF (fun f => W' f * UU c k (fun i => T i 0) (tgG c n d P T) (chG c n d P T) f) (5120 - 5120) 5120 = 0 := rfl
    rw [h6, Nat.zero_add] at h5
    have hU : UU c k (fun i => T i 0) (tgG c n d P T) (chG c n d P T) (X * 5 + i) = VV c k (fun i => T i 0) (tgG c n d P T) (chG c n d P T) X i * 10 ^ (16 - Lf c X) := by
      unfold UU
      rw [show (X * 5 + i) / 5 = X by omega, show (X * 5 + i) % 5 = i by omega]
    rw [hU, Nat.mul_comm (10 ^ 16)] at h5
    exact Nat.eq_of_mul_eq_mul_right (Nat.pow_pos (by omega)) h5
