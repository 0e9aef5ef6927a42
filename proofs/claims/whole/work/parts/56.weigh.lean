/-! the class weighs -/
theorem gL_s (m : ba_M) (o k : Nat) (x : Int64) : gL (wL m o k x) o k = x := by rw [gL_wL, if_pos ⟨rfl, rfl⟩]
theorem gL_n (m : ba_M) (o k a j : Nat) (x : Int64) (h : ¬ (a = o ∧ j = k)) : gL (wL m o k x) a j = gL m a j := by rw [gL_wL, if_neg h]
theorem sp_atL {o l i : Nat} (hk : ck SF o 21 = true) (hl : kL SF o = l) (h : i < l) (h2 : l < 2 ^ 31) (m : ba_M) : f_Rw_longAt SF o (nI i) m = some (gL m o i, m) := by
  unfold f_Rw_longAt f_Rw_longAt_17 f_Rw_longAt_16 cK
  rw [if_pos hk, if_neg (nI_pos (by omega)), hl, if_neg (by rw [nI_leI (by omega) (by omega)]; omega), bd_of hl h h2, nI_clamp (by omega)]
theorem sp_addL {o l i : Nat} {v : Int64} (hk : ck SF o 21 = true) (hl : kL SF o = l) (h : i < l) (h2 : l < 2 ^ 31) (m : ba_M) : f_Rw_addLong SF o (nI i) v m = some (wL m o i (gL m o i + v)) := by
  unfold f_Rw_addLong f_Rw_addLong_17 cK
  rw [if_pos hk, if_neg (nI_pos (by omega)), hl, if_neg (by rw [nI_leI (by omega) (by omega)]; omega), bd_of hl h h2, bd_of hl h h2, nI_clamp (by omega)]
def WI (m : ba_M) (W O : Nat → Nat) (pl : Nat) : Prop := (∀ f, f < 5120 → gL m 42 f = lN (W f)) ∧ (∀ k, k < 5 → gL m 43 k = lN (O k)) ∧ gL m 38 5 = lN pl
def oWg : Nat → Nat → Prop := fun o k => o = 42 ∨ o = 43 ∨ o = 38 ∧ k = 5
theorem WI.g {m : ba_M} {W O : Nat → Nat} {pl f v : Nat} (h : WI m W O pl) (hf : f < 5120) : WI (wL m 42 f (gL m 42 f + lN v)) (ad W f v) O pl := by
  obtain ⟨h1, h2, h3⟩ := h
  refine ⟨fun j hj => ?_, fun k hk => (gL_n _ _ _ _ _ _ (by omega)).trans (h2 k hk), (gL_n _ _ _ _ _ _ (by omega)).trans h3⟩
  by_cases e : j = f
  · subst e
    rw [gL_s, ad_s, h1 _ hj, lN_add]
  · rw [gL_n _ _ _ _ _ _ (by omega), ad_n e]; exact h1 j hj
theorem WI.o {m : ba_M} {W O : Nat → Nat} {pl p v : Nat} (h : WI m W O pl) (hp : p < 5) : WI (wL m 43 p (gL m 43 p + lN v)) W (ad O p v) pl := by
  obtain ⟨h1, h2, h3⟩ := h
  refine ⟨fun k hk => (gL_n _ _ _ _ _ _ (by omega)).trans (h1 k hk), fun j hj => ?_, (gL_n _ _ _ _ _ _ (by omega)).trans h3⟩
  by_cases e : j = p
  · subst e
    rw [gL_s, ad_s, h2 _ hj, lN_add]
  · rw [gL_n _ _ _ _ _ _ (by omega), ad_n e]; exact h2 j hj
theorem WI.p {m : ba_M} {W O : Nat → Nat} {pl v : Nat} (h : WI m W O pl) : WI (wL m 38 5 (gL m 38 5 + lN v)) W O (pl + v) := by
  obtain ⟨h1, h2, h3⟩ := h
  refine ⟨fun k hk => (gL_n _ _ _ _ _ _ (by omega)).trans (h1 k hk), fun k hk => (gL_n _ _ _ _ _ _ (by omega)).trans (h2 k hk), ?_⟩
  rw [gL_s, h3, lN_add]
theorem sp_give {m : ba_M} {W O : Nat → Nat} {pl x p v : Nat} (h : WI m W O pl) (hx : x < 1024) (hp : p < 5) : ∃ m', f_Mr_giveLetter SF 38 (nI x) (nI p) (lN v) m = some m' ∧ WI m' (gvW W x p v) (gvO O x p v) pl ∧ Fr oWg m m' := by
  have hlo := sp_lo2 (S := SF) hx hp m
  have hol := sp_ol (S := SF) hp m
  have hd := dg_lt x p
  unfold f_Mr_giveLetter f_Mr_giveLetter_39 gvW gvO
  rw [cK_38, hlo, obS]
  dsimp only
  by_cases h3 : dg x p = 3
  · have hn : ¬ nI (x / 4 ^ p % 4) < nI 3 := by
      rw [nI_ltI (by unfold dg at hd; omega) (by omega)]
      unfold dg at h3; omega
    rw [if_neg hn, if_pos h3, if_pos h3, ld_38_4, sp_addL ck_43 kl_43 hp (by omega), obS]
    exact ⟨_, rfl, h.o hp, Fr.rf.wl (Or.inr (Or.inl rfl))⟩
  · have hn : nI (x / 4 ^ p % 4) < nI 3 := by
      rw [nI_ltI (by unfold dg at hd; omega) (by omega)]
      unfold dg at h3 hd; omega
    have h5 : x + 4 ^ p < 1024 := up_lt (c := 5) (by omega) (by omega) hp (by omega)
    rw [if_pos hn, if_neg h3, if_neg h3, ld_38_3, hol, obS]
    dsimp only
    rw [nI_add, pk_mul, nI_add, sp_addL ck_42 kl_42 (show (x + 4 ^ p) * 5 + p < 5120 by omega) (by omega), obS]
    exact ⟨_, rfl, h.g (by omega), Fr.rf.wl (Or.inl rfl)⟩
theorem lN_z {w : Nat} (hw : w < 2 ^ 63) : (lg_cmp (lN w) (lN 0) = 0) ↔ w = 0 := by
  rw [lg_cmp_eq]
  constructor
  · intro h
    have h1 := congrArg Int64.toInt h
    rw [lN_toI hw, lN_toI (by omega)] at h1
    omega
  · rintro rfl; rfl
theorem sp_share {m : ba_M} {W O : Nat → Nat} {pl x i a b h : Nat} (hw : WI m W O pl) (hx : x < 1024) (hi : i < 5) (ha : a < 5) (hb : b < 5) (hh : h ≤ 10) (y1 : gI m 39 i = nI a) (y2 : gI m 40 i = nI b) (y3 : gI m 41 i = nI h) (hW : W (x * 5 + i) < 2 ^ 63) :
    (W (x * 5 + i) = 0 ∧ f_Mr_shareOut SF 38 (nI x) (nI i) m = some m) ∨ (W (x * 5 + i) ≠ 0 ∧ ∃ m', f_Mr_shareOut SF 38 (nI x) (nI i) m = some m' ∧ WI m' (gvW (gvW W x b (W (x * 5 + i) / 10 * h)) x a (W (x * 5 + i) / 10 * (10 - h))) (gvO (gvO O x b (W (x * 5 + i) / 10 * h)) x a (W (x * 5 + i) / 10 * (10 - h))) (pl + W (x * 5 + i)) ∧ Fr oWg m m') := by
  have hat := sp_atL ck_42 kl_42 (show x * 5 + i < 5120 by omega) (by omega) m
  rw [hw.1 _ (by omega)] at hat
  have hst : f_Mr_shareOut SF 38 (nI x) (nI i) m = (if (lg_cmp (lN (W (x * 5 + i))) (lN 0)) = 0 then (some m) else (if (lN 10) = 0 then none else (ldR SF 38 2 20 fun r4 => ((f_Rw_at SF r4 (nI i) (wL m 38 5 ((gL m 38 5) + lN (W (x * 5 + i))))).bind fun q6 => (ldR SF 38 1 20 fun r7 => ((f_Rw_at SF r7 (nI i) q6.2).bind fun q9 => ((f_Mr_giveLetter SF 38 (nI x) q9.1 ((lN (W (x * 5 + i)) / (lN 10)) * (Int32.toInt64 q6.1)) q9.2).bind fun q10 => (ldR SF 38 0 20 fun r11 => ((f_Rw_at SF r11 (nI i) q10).bind fun q13 => ((f_Mr_giveLetter SF 38 (nI x) q13.1 ((lN (W (x * 5 + i)) / (lN 10)) * (Int32.toInt64 ((nI 10) - q6.1))) q13.2).bind fun q14 => (some q14))))))))))) := by
    unfold f_Mr_shareOut
    rw [cK_38, ld_38_3, pk_mul, nI_add, hat, obS]
  rw [hst]
  generalize W (x * 5 + i) = w at hW ⊢
  by_cases h0 : w = 0
  · exact Or.inl ⟨h0, if_pos ((lN_z hW).mpr h0)⟩
  · right
    refine ⟨h0, ?_⟩
    have hp1 := hw.p (v := w)
    have hF1 : Fr oWg m (wL m 38 5 (gL m 38 5 + lN w)) := Fr.rf.wl (Or.inr (Or.inr ⟨rfl, rfl⟩))
    have g1 := sp_at ck_41 kl_41 hi (by omega) (wL m 38 5 (gL m 38 5 + lN w))
    have g2 := sp_at ck_40 kl_40 hi (by omega) (wL m 38 5 (gL m 38 5 + lN w))
    rw [gI_wL, y3] at g1
    rw [gI_wL, y2] at g2
    obtain ⟨m2, u1, u2, u3⟩ := sp_give (x := x) (p := b) (v := w / 10 * h) hp1 hx hb
    obtain ⟨m3, v1, v2, v3⟩ := sp_give (x := x) (p := a) (v := w / 10 * (10 - h)) u2 hx ha
    have g3 := sp_at ck_39 kl_39 hi (by omega) m2
    rw [u3.1 39 i (by unfold oWg; omega), gI_wL, y1] at g3
    have e1 : lN w / lN 10 = lN (w / 10) := lN_div hW (by omega) (by omega)
    have e2 : nI 10 - nI h = nI (10 - h) := pk_sub (by omega)
    refine ⟨m3, ?_, v2, (hF1.tr u3).tr v3⟩
    rw [if_neg (fun q => h0 ((lN_z hW).mp q)), if_neg (lN_n0 (by omega) (by omega)), ld_38_2, g1, obS, ld_38_1]
    dsimp only
    rw [g2, obS]
    dsimp only
    rw [e1, nI_l (show h < 2 ^ 31 by omega), lN_mul, u1, obS, ld_38_0, g3, obS]
    dsimp only
    rw [e2, nI_l (show 10 - h < 2 ^ 31 by omega), lN_mul, v1, obS]
def PJ (c : Nat) (ca tg ch : Nat → Nat) (C : Nat → Nat) (cur : Nat) (W O : Nat → Nat) (pl : Nat) : Prop := PZ c cur W ∧ smF W (5120 - cur) cur + smF O 5 0 ≤ 10 ^ 16 ∧ ∀ k, k ≤ 5 → smF (fun f => W f * UU c k ca tg ch f) (5120 - cur) cur + rs O pl k * 10 ^ 16 = C k
theorem PJ.z {c : Nat} {ca tg ch C : Nat → Nat} {cur : Nat} {W O : Nat → Nat} {pl : Nat} (h : PJ c ca tg ch C cur W O pl) : PZ c cur W := And.left h
theorem PJ.m {c : Nat} {ca tg ch C : Nat → Nat} {cur : Nat} {W O : Nat → Nat} {pl : Nat} (h : PJ c ca tg ch C cur W O pl) : smF W (5120 - cur) cur + smF O 5 0 ≤ 10 ^ 16 := And.left (And.right h)
theorem PJ.u {c : Nat} {ca tg ch C : Nat → Nat} {cur : Nat} {W O : Nat → Nat} {pl : Nat} (h : PJ c ca tg ch C cur W O pl) : ∀ k, k ≤ 5 → smF (fun f => W f * UU c k ca tg ch f) (5120 - cur) cur + rs O pl k * 10 ^ 16 = C k := And.right (And.right h)
theorem PJ.w0 {c : Nat} {ca tg ch C : Nat → Nat} {cur : Nat} {W O : Nat → Nat} {pl : Nat} (h : PJ c ca tg ch C cur W O pl) (h0 : W cur = 0) (hc : cur < 5120) : PJ c ca tg ch C (cur + 1) W O pl := by
  obtain ⟨⟨h1, h2⟩, h3, h4⟩ := h
  have e : 5120 - cur = (5120 - (cur + 1)) + 1 := by omega
  refine ⟨⟨h1, fun f hf => h2 f (by omega)⟩, ?_, fun k hk => ?_⟩
  · rw [e, show smF W (5120 - (cur + 1) + 1) cur = W cur + smF W (5120 - (cur + 1)) (cur + 1) from rfl, h0] at h3
    omega
  · have h5 := h4 k hk
    rw [e, show smF (fun f => W f * UU c k ca tg ch f) (5120 - (cur + 1) + 1) cur = W cur * UU c k ca tg ch cur + smF (fun f => W f * UU c k ca tg ch f) (5120 - (cur + 1)) (cur + 1) from rfl, h0, Nat.zero_mul, Nat.zero_add] at h5
    exact h5
theorem PJ.w1 {c : Nat} {ca tg ch C : Nat → Nat} {x i : Nat} {W O : Nat → Nat} {pl : Nat} (hc : 2 ≤ c ∧ c ≤ 5) (hx : x < 4 ^ c) (hi : i < c) (htg : tg i < c) (hca : ca i < c) (hch : ch i ≤ 10) (h : PJ c ca tg ch C (x * 5 + i) W O pl) : PJ c ca tg ch C (x * 5 + i + 1) (gvW (gvW W x (tg i) (W (x * 5 + i) / 10 * ch i)) x (ca i) (W (x * 5 + i) / 10 * (10 - ch i))) (gvO (gvO O x (tg i) (W (x * 5 + i) / 10 * ch i)) x (ca i) (W (x * 5 + i) / 10 * (10 - ch i))) (pl + W (x * 5 + i)) := by
  obtain ⟨h1, h3, h4⟩ := h
  obtain ⟨l1, l2⟩ := Lf_in hc hx
  have hx4 : 4 ^ c ≤ 1024 := by rcases p4c hc with h | h | h | h <;> omega
  have hd : 10 ^ Lf c x ∣ W (x * 5 + i) := by
    have := h1.d (x * 5 + i) (Nat.le_refl _) (by omega)
    rw [show (x * 5 + i) / 5 = x by omega] at this
    exact this
  obtain ⟨q, hq⟩ := hd
  have hp : 10 ^ Lf c x = 10 * 10 ^ (Lf c x - 1) := by
    rw [show Lf c x = (Lf c x - 1) + 1 by omega, Nat.pow_succ, Nat.mul_comm]; rfl
  have ht : W (x * 5 + i) = 10 * (10 ^ (Lf c x - 1) * q) := by rw [hq, hp, Nat.mul_assoc]
  have ht2 : W (x * 5 + i) / 10 = 10 ^ (Lf c x - 1) * q := by rw [ht, Nat.mul_div_cancel_left _ (by omega)]
  have hdv : ∀ b, 10 ^ (Lf c x - 1) ∣ W (x * 5 + i) / 10 * b := fun b => by rw [ht2, Nat.mul_assoc]; exact Nat.dvd_mul_right _ _
  have e : 5120 - (x * 5 + i) = (5120 - (x * 5 + i + 1)) + 1 := by omega
  refine ⟨?_, ?_, fun k hk => ?_⟩
  · have z1 : PZ c (x * 5 + i + 1) W := ⟨h1.z, fun f hf => h1.d f (by omega)⟩
    exact gv_z hc hx hca (gv_z hc hx htg z1 (hdv _)) (hdv _)
  · rw [gv_m hc hx hca (by omega) (by omega), gv_m hc hx htg (by omega) (by omega)]
    rw [e, show smF W (5120 - (x * 5 + i + 1) + 1) (x * 5 + i) = W (x * 5 + i) + smF W (5120 - (x * 5 + i + 1)) (x * 5 + i + 1) from rfl] at h3
    have e2 : W (x * 5 + i) / 10 * ch i + W (x * 5 + i) / 10 * (10 - ch i) = W (x * 5 + i) / 10 * 10 := by
      rw [← Nat.mul_add]
      exact congrArg _ (by omega)
    have e3 : W (x * 5 + i) / 10 * 10 ≤ W (x * 5 + i) := Nat.div_mul_le_self _ _
    omega
  · have h5 := h4 k hk
    have ht3 : W (x * 5 + i) = 10 * (W (x * 5 + i) / 10) := by rw [ht2]; exact ht
    have h6 := sh_u (ca := ca) (tg := tg) (ch := ch) (W := W) (O := O) (pl := pl) (n := 5120 - (x * 5 + i + 1)) hc hk hx hi htg hca (by omega) ht3
    rw [h6, ← e]
    exact h5
theorem PJ.wk {c : Nat} {ca tg ch C : Nat → Nat} {x : Nat} {W O : Nat → Nat} {pl : Nat} (hc : 2 ≤ c ∧ c ≤ 5) (hx : x < 1024) (h : PJ c ca tg ch C (x * 5 + c) W O pl) : PJ c ca tg ch C (x * 5 + 5) W O pl := by
  obtain ⟨⟨h1, h2⟩, h3, h4⟩ := h
  have e : 5120 - (x * 5 + c) = (5 - c) + (5120 - (x * 5 + 5)) := by omega
  have e2 : x * 5 + c + (5 - c) = x * 5 + 5 := by omega
  have hz : ∀ j, x * 5 + c ≤ j → j < x * 5 + c + (5 - c) → W j = 0 := fun j a b => h1 j (Or.inr (by omega))
  refine ⟨⟨h1, fun f hf => h2 f (by omega)⟩, ?_, fun k hk => ?_⟩
  · rw [e, smF_skip (5 - c) _ _ hz, e2] at h3; exact h3
  · have h5 := h4 k hk
    rw [e, smF_skip (5 - c) _ _ (fun j a b => by rw [hz j a b, Nat.zero_mul]), e2] at h5; exact h5
