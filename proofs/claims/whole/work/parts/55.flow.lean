/-! weights that flow: what the class does with its longs -/
def UU (c k : Nat) (ca tg ch : Nat → Nat) (f : Nat) : Nat := VV c k ca tg ch (f / 5) (f % 5) * 10 ^ (16 - Lf c (f / 5))
def rs (O : Nat → Nat) (pl k : Nat) : Nat := if k = 5 then pl else O k
def ad (W : Nat → Nat) (f v : Nat) : Nat → Nat := fun j => if j = f then W j + v else W j
theorem ad_s {W : Nat → Nat} {f v : Nat} : ad W f v f = W f + v := if_pos rfl
theorem ad_n {W : Nat → Nat} {f v j : Nat} (h : j ≠ f) : ad W f v j = W j := if_neg h
/-- a letter for p: the weight v -/
def gvW (W : Nat → Nat) (x p v : Nat) : Nat → Nat := if dg x p = 3 then W else ad W ((x + 4 ^ p) * 5 + p) v
def gvO (O : Nat → Nat) (x p v : Nat) : Nat → Nat := if dg x p = 3 then ad O p v else O
def PZ (c cur : Nat) (W : Nat → Nat) : Prop := (∀ f, (4 ^ c ≤ f / 5 ∨ c ≤ f % 5) → W f = 0) ∧ ∀ f, cur ≤ f → f / 5 < 4 ^ c → 10 ^ Lf c (f / 5) ∣ W f
theorem PZ.z {c cur : Nat} {W : Nat → Nat} (h : PZ c cur W) : ∀ f, (4 ^ c ≤ f / 5 ∨ c ≤ f % 5) → W f = 0 := And.left h
theorem PZ.d {c cur : Nat} {W : Nat → Nat} (h : PZ c cur W) : ∀ f, cur ≤ f → f / 5 < 4 ^ c → 10 ^ Lf c (f / 5) ∣ W f := And.right h
theorem gv_z {c cur x p v : Nat} {W : Nat → Nat} (hc : 2 ≤ c ∧ c ≤ 5) (hx : x < 4 ^ c) (hp : p < c) (h : PZ c cur W) (hv : 10 ^ (Lf c x - 1) ∣ v) : PZ c cur (gvW W x p v) := by
  unfold gvW
  by_cases h3 : dg x p = 3
  · rw [if_pos h3]; exact h
  · rw [if_neg h3]
    have hd : dg x p < 3 := by have := dg_lt x p; omega
    have h1 := up_lt hc hx hp hd
    have h2 := Lf_up hc hx hp hd
    refine ⟨fun f hf => ?_, fun f hf hf4 => ?_⟩
    · rw [ad_n (by omega)]; exact h.z f hf
    · by_cases e : f = (x + 4 ^ p) * 5 + p
      · subst e
        rw [ad_s]
        refine Nat.dvd_add (h.d _ hf hf4) ?_
        rw [show ((x + 4 ^ p) * 5 + p) / 5 = x + 4 ^ p by omega, show Lf c (x + 4 ^ p) = Lf c x - 1 by omega]
        exact hv
      · rw [ad_n e]; exact h.d f hf hf4
theorem gv_m {c x p v : Nat} {W O : Nat → Nat} (hc : 2 ≤ c ∧ c ≤ 5) (hx : x < 4 ^ c) (hp : p < c) {n cur : Nat} (hcur : cur + n = 5120) (hcx : cur ≤ x * 5 + 5) : smF (gvW W x p v) n cur + smF (gvO O x p v) 5 0 = smF W n cur + smF O 5 0 + v := by
  unfold gvW gvO
  by_cases h3 : dg x p = 3
  · rw [if_pos h3, if_pos h3, smF_up (g := O) (fun j hj => ad_n hj) ad_s 5 0 (Nat.zero_le _) (by omega)]
    omega
  · rw [if_neg h3, if_neg h3]
    have hd : dg x p < 3 := by have := dg_lt x p; omega
    have h1 := up_lt hc hx hp hd
    have h4 : 4 ^ c ≤ 1024 := by rcases p4c hc with h | h | h | h <;> omega
    have h5 : 1 ≤ 4 ^ p := Nat.pow_pos (by omega)
    rw [smF_up (g := W) (fun j hj => ad_n hj) ad_s n cur (by omega) (by omega)]
    omega
theorem gv_u {c k x p v : Nat} {ca tg ch : Nat → Nat} {W O : Nat → Nat} {pl : Nat} (hc : 2 ≤ c ∧ c ≤ 5) (hk : k ≤ 5) (hx : x < 4 ^ c) (hp : p < c) {n cur : Nat} (hcur : cur + n = 5120) (hcx : cur ≤ x * 5 + 5) : smF (fun f => gvW W x p v f * UU c k ca tg ch f) n cur + rs (gvO O x p v) pl k * 10 ^ 16 = smF (fun f => W f * UU c k ca tg ch f) n cur + rs O pl k * 10 ^ 16 + v * (TH c k ca tg ch x p * 10 ^ (17 - Lf c x)) := by
  obtain ⟨l1, l2⟩ := Lf_in hc hx
  unfold gvW gvO TH
  by_cases h3 : dg x p = 3
  · rw [if_pos h3, if_pos h3, if_pos h3]
    unfold rs
    by_cases h5 : k = 5
    · rw [if_pos h5, if_pos h5, if_neg (show ¬ k = p by omega), Nat.zero_mul, Nat.mul_zero, Nat.add_zero]
    · rw [if_neg h5, if_neg h5]
      by_cases hkp : k = p
      · subst hkp
        rw [if_pos rfl, ad_s, ← Nat.pow_add, show Lf c x - 1 + (17 - Lf c x) = 16 by omega, Nat.add_mul]
        omega
      · rw [if_neg hkp, ad_n hkp, Nat.zero_mul, Nat.mul_zero, Nat.add_zero]
  · rw [if_neg h3, if_neg h3, if_neg h3]
    have hd : dg x p < 3 := by have := dg_lt x p; omega
    have h1 := up_lt hc hx hp hd
    have h2 := Lf_up hc hx hp hd
    have h4 : 4 ^ c ≤ 1024 := by rcases p4c hc with h | h | h | h <;> omega
    have h5 : 1 ≤ 4 ^ p := Nat.pow_pos (by omega)
    have hU : UU c k ca tg ch ((x + 4 ^ p) * 5 + p) = VV c k ca tg ch (x + 4 ^ p) p * 10 ^ (17 - Lf c x) := by
      unfold UU
      rw [show ((x + 4 ^ p) * 5 + p) / 5 = x + 4 ^ p by omega, show ((x + 4 ^ p) * 5 + p) % 5 = p by omega, show 16 - Lf c (x + 4 ^ p) = 17 - Lf c x by omega]
    rw [smF_up (g := fun f => W f * UU c k ca tg ch f) (f := (x + 4 ^ p) * 5 + p) (d := v * UU c k ca tg ch ((x + 4 ^ p) * 5 + p)) (fun j hj => by rw [ad_n hj]) (by rw [ad_s, Nat.add_mul]) n cur (by omega) (by omega), hU]
    omega
/-- one weight shared out -/
theorem sh_u {c k : Nat} {ca tg ch : Nat → Nat} {W O : Nat → Nat} {pl x i n t : Nat} (hc : 2 ≤ c ∧ c ≤ 5) (hk : k ≤ 5) (hx : x < 4 ^ c) (hi : i < c) (htg : tg i < c) (hca : ca i < c) (hn : x * 5 + i + (n + 1) = 5120) (ht : W (x * 5 + i) = 10 * t) :
    smF (fun f => gvW (gvW W x (tg i) (t * ch i)) x (ca i) (t * (10 - ch i)) f * UU c k ca tg ch f) n (x * 5 + i + 1) + rs (gvO (gvO O x (tg i) (t * ch i)) x (ca i) (t * (10 - ch i))) (pl + W (x * 5 + i)) k * 10 ^ 16 = smF (fun f => W f * UU c k ca tg ch f) (n + 1) (x * 5 + i) + rs O pl k * 10 ^ 16 := by
  obtain ⟨l1, l2⟩ := Lf_in hc hx
  rw [gv_u hc hk hx hca (by omega) (by omega), gv_u hc hk hx htg (by omega) (by omega), show smF (fun f => W f * UU c k ca tg ch f) (n + 1) (x * 5 + i) = W (x * 5 + i) * UU c k ca tg ch (x * 5 + i) + smF (fun f => W f * UU c k ca tg ch f) n (x * 5 + i + 1) from rfl]
  have hU : UU c k ca tg ch (x * 5 + i) = VV c k ca tg ch x i * 10 ^ (16 - Lf c x) := by
    unfold UU
    rw [show (x * 5 + i) / 5 = x by omega, show (x * 5 + i) % 5 = i by omega]
  have hrs : rs O (pl + W (x * 5 + i)) k = rs O pl k + W (x * 5 + i) * (if k = 5 then 1 else 0) := by
    unfold rs
    by_cases h5 : k = 5
    · rw [if_pos h5, if_pos h5, if_pos h5, Nat.mul_one]
    · rw [if_neg h5, if_neg h5, if_neg h5, Nat.mul_zero]; rfl
  rw [hU, VV_eq hc hx htg hca, hrs, ht]
  have hE : 10 ^ (17 - Lf c x) = 10 * 10 ^ (16 - Lf c x) := by rw [show 17 - Lf c x = (16 - Lf c x) + 1 by omega, Nat.pow_succ, Nat.mul_comm]
  have hH : (if k = 5 then 10 ^ Lf c x else 0) * 10 ^ (16 - Lf c x) = (if k = 5 then 1 else 0) * 10 ^ 16 := by
    by_cases h5 : k = 5
    · rw [if_pos h5, if_pos h5, ← Nat.pow_add, Nat.one_mul]; congr 1; omega
    · rw [if_neg h5, if_neg h5, Nat.zero_mul, Nat.zero_mul]
  rw [hE]
  generalize smF (fun f => W f * UU c k ca tg ch f) n (x * 5 + i + 1) = SS
  generalize TH c k ca tg ch x (tg i) = A
  generalize TH c k ca tg ch x (ca i) = B
  generalize (if k = 5 then 10 ^ Lf c x else 0) = HH at hH ⊢
  generalize (if k = 5 then 1 else 0) = dd at hH ⊢
  generalize 10 ^ (16 - Lf c x) = E at hH ⊢
  generalize rs O pl k = R
  generalize ch i = h
  generalize 10 - h = h'
  generalize (10 : Nat) ^ 16 = Z at hH ⊢
  have e1 : 10 * t * ((HH + h * A + h' * B) * E) = 10 * t * (HH * E) + t * h * (A * (10 * E)) + t * h' * (B * (10 * E)) := by
    rw [Nat.add_mul, Nat.add_mul, Nat.mul_add, Nat.mul_add]
    congr 1
    · congr 1
      simp only [Nat.mul_comm, Nat.mul_left_comm, Nat.mul_assoc]
    · simp only [Nat.mul_comm, Nat.mul_left_comm, Nat.mul_assoc]
  rw [e1, hH, Nat.add_mul]
  have e2 : 10 * t * (dd * Z) = 10 * t * dd * Z := by rw [Nat.mul_assoc (10 * t)]
  rw [e2]
  omega
