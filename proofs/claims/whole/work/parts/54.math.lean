/-! many rounds: the numbers -/
def dg (x p : Nat) : Nat := x / 4 ^ p % 4
def dsm : Nat → Nat → Nat
  | 0, _ => 0
  | r + 1, x => x % 4 + dsm r (x / 4)
theorem dsm5 (x : Nat) : dsm 5 x = x % 4 + (x / 4 % 4 + (x / 16 % 4 + (x / 64 % 4 + x / 256 % 4))) := by
  unfold dsm dsm dsm dsm dsm dsm
  simp only [Nat.div_div_eq_div_mul, Nat.reduceMul, Nat.add_zero]
theorem dg_e (x : Nat) : dg x 0 = x % 4 ∧ dg x 1 = x / 4 % 4 ∧ dg x 2 = x / 16 % 4 ∧ dg x 3 = x / 64 % 4 ∧ dg x 4 = x / 256 % 4 := by
  unfold dg
  simp only [Nat.reducePow, Nat.div_one, and_self]
theorem dsm_up {x p : Nat} (hp : p < 5) (h : dg x p < 3) : dsm 5 (x + 4 ^ p) = dsm 5 x + 1 := by
  obtain ⟨e0, e1, e2, e3, e4⟩ := dg_e x
  rw [dsm5, dsm5]
  match p, hp with
  | 0, _ => simp only [Nat.reducePow]; omega
  | 1, _ => simp only [Nat.reducePow]; omega
  | 2, _ => simp only [Nat.reducePow]; omega
  | 3, _ => simp only [Nat.reducePow]; omega
  | 4, _ => simp only [Nat.reducePow]; omega
theorem p4c {c : Nat} (hc : 2 ≤ c ∧ c ≤ 5) : c = 2 ∧ 4 ^ c = 16 ∨ c = 3 ∧ 4 ^ c = 64 ∨ c = 4 ∧ 4 ^ c = 256 ∨ c = 5 ∧ 4 ^ c = 1024 := by
  obtain ⟨h1, h2⟩ := hc
  match c, h1, h2 with
  | 2, _, _ => exact Or.inl ⟨rfl, rfl⟩
  | 3, _, _ => exact Or.inr (Or.inl ⟨rfl, rfl⟩)
  | 4, _, _ => exact Or.inr (Or.inr (Or.inl ⟨rfl, rfl⟩))
  | 5, _, _ => exact Or.inr (Or.inr (Or.inr ⟨rfl, rfl⟩))
theorem dsm_le {x c : Nat} (hc : 2 ≤ c ∧ c ≤ 5) (hx : x < 4 ^ c) : dsm 5 x ≤ 3 * c := by
  rw [dsm5]
  rcases p4c hc with h | h | h | h
  · omega
  · omega
  · omega
  · omega
theorem up_lt {x p c : Nat} (hc : 2 ≤ c ∧ c ≤ 5) (hx : x < 4 ^ c) (hp : p < c) (h : dg x p < 3) : x + 4 ^ p < 4 ^ c := by
  obtain ⟨e0, e1, e2, e3, e4⟩ := dg_e x
  match p, (show p < 5 by omega) with
  | 0, _ => rcases p4c hc with h | h | h | h <;> simp only [Nat.reducePow] <;> omega
  | 1, _ => rcases p4c hc with h | h | h | h <;> simp only [Nat.reducePow] <;> omega
  | 2, _ => rcases p4c hc with h | h | h | h <;> simp only [Nat.reducePow] <;> omega
  | 3, _ => rcases p4c hc with h | h | h | h <;> simp only [Nat.reducePow] <;> omega
  | 4, _ => rcases p4c hc with h | h | h | h <;> simp only [Nat.reducePow] <;> omega
theorem dg_lt (x p : Nat) : dg x p < 4 := Nat.mod_lt _ (by omega)
def Lf (c x : Nat) : Nat := 3 * c + 1 - dsm 5 x
theorem Lf_in {x c : Nat} (hc : 2 ≤ c ∧ c ≤ 5) (hx : x < 4 ^ c) : 1 ≤ Lf c x ∧ Lf c x ≤ 16 := by
  have := dsm_le hc hx
  unfold Lf
  omega
theorem Lf_up {x p c : Nat} (hc : 2 ≤ c ∧ c ≤ 5) (hx : x < 4 ^ c) (hp : p < c) (h : dg x p < 3) : Lf c (x + 4 ^ p) + 1 = Lf c x := by
  have h1 := dsm_up (show p < 5 by omega) h
  have h2 := dsm_le hc (up_lt hc hx hp h)
  unfold Lf
  omega
/-- of 10 to the power of the rounds left: that k is out (k = 5: rounds in the mean) -/
def Vn (k : Nat) (ca tg ch : Nat → Nat) : Nat → Nat → Nat → Nat
  | 0, _, _ => 0
  | n + 1, x, i => (if k = 5 then 10 ^ (n + 1) else 0) + ch i * (if dg x (tg i) = 3 then (if k = tg i then 10 ^ n else 0) else Vn k ca tg ch n (x + 4 ^ tg i) (tg i)) + (10 - ch i) * (if dg x (ca i) = 3 then (if k = ca i then 10 ^ n else 0) else Vn k ca tg ch n (x + 4 ^ ca i) (ca i))
def VV (c k : Nat) (ca tg ch : Nat → Nat) (x i : Nat) : Nat := Vn k ca tg ch (Lf c x) x i
def TH (c k : Nat) (ca tg ch : Nat → Nat) (x p : Nat) : Nat := if dg x p = 3 then (if k = p then 10 ^ (Lf c x - 1) else 0) else VV c k ca tg ch (x + 4 ^ p) p
theorem VV_eq {c k : Nat} {ca tg ch : Nat → Nat} (hc : 2 ≤ c ∧ c ≤ 5) {x i : Nat} (hx : x < 4 ^ c) (h1 : tg i < c) (h2 : ca i < c) : VV c k ca tg ch x i = (if k = 5 then 10 ^ Lf c x else 0) + ch i * TH c k ca tg ch x (tg i) + (10 - ch i) * TH c k ca tg ch x (ca i) := by
  obtain ⟨l1, l2⟩ := Lf_in hc hx
  obtain ⟨n, hn⟩ : ∃ n, Lf c x = n + 1 := ⟨Lf c x - 1, by omega⟩
  have key : ∀ p, p < c → TH c k ca tg ch x p = if dg x p = 3 then (if k = p then 10 ^ n else 0) else Vn k ca tg ch n (x + 4 ^ p) p := by
    intro p hp
    unfold TH
    by_cases h : dg x p = 3
    · rw [if_pos h, if_pos h, hn]; rfl
    · rw [if_neg h, if_neg h]
      have := Lf_up hc hx hp (by have := dg_lt x p; omega)
      unfold VV
      rw [show Lf c (x + 4 ^ p) = n by omega]
  unfold VV
  rw [key _ h1, key _ h2, hn]
  rfl
def bnV (k n : Nat) : Nat := if k = 5 then n * 10 ^ n else 10 ^ n
theorem Vn_le {k : Nat} {ca tg ch : Nat → Nat} (hch : ∀ i, ch i ≤ 10) (hca : ∀ i, ca i ≠ 5) (htg : ∀ i, tg i ≠ 5) : ∀ n x i, Vn k ca tg ch n x i ≤ bnV k n := by
  intro n
  induction n with
  | zero => intro x i; exact Nat.zero_le _
  | succ n ih =>
    intro x i
    have th : ∀ p, p ≠ 5 → (if dg x p = 3 then (if k = p then 10 ^ n else 0) else Vn k ca tg ch n (x + 4 ^ p) p) ≤ bnV k n := by
      intro p hp
      by_cases h : dg x p = 3
      · rw [if_pos h]
        by_cases hk : k = p
        · rw [if_pos hk]
          unfold bnV
          rw [if_neg (by omega)]
          exact Nat.le_refl _
        · rw [if_neg hk]; exact Nat.zero_le _
      · rw [if_neg h]; exact ih _ _
    have t1 := th (tg i) (htg i)
    have t2 := th (ca i) (hca i)
    unfold Vn
    generalize (if dg x (tg i) = 3 then (if k = tg i then 10 ^ n else 0) else Vn k ca tg ch n (x + 4 ^ tg i) (tg i)) = A at t1 ⊢
    generalize (if dg x (ca i) = 3 then (if k = ca i then 10 ^ n else 0) else Vn k ca tg ch n (x + 4 ^ ca i) (ca i)) = B at t2 ⊢
    have h3 : ch i * A + (10 - ch i) * B ≤ 10 * bnV k n := by
      have a1 : ch i * A ≤ ch i * bnV k n := Nat.mul_le_mul_left _ t1
      have a2 : (10 - ch i) * B ≤ (10 - ch i) * bnV k n := Nat.mul_le_mul_left _ t2
      have a3 : ch i * bnV k n + (10 - ch i) * bnV k n = 10 * bnV k n := by
        rw [← Nat.add_mul]
        congr 1
        have := hch i
        omega
      omega
    have h4 : (if k = 5 then 10 ^ (n + 1) else 0) + 10 * bnV k n = bnV k (n + 1) := by
      unfold bnV
      by_cases hk : k = 5
      · rw [if_pos hk, if_pos hk, if_pos hk, Nat.pow_succ, Nat.add_mul, Nat.one_mul]
        have : 10 * (n * 10 ^ n) = n * (10 ^ n * 10) := by rw [Nat.mul_comm (10 ^ n) 10, ← Nat.mul_assoc, Nat.mul_comm 10 n, Nat.mul_assoc]
        omega
      · rw [if_neg hk, if_neg hk, if_neg hk, Nat.pow_succ]; omega
    omega
/-- sums -/
def smF (g : Nat → Nat) : Nat → Nat → Nat
  | 0, _ => 0
  | n + 1, a => g a + smF g n (a + 1)
theorem smF_eq {g g' : Nat → Nat} : ∀ n a, (∀ j, a ≤ j → j < a + n → g' j = g j) → smF g' n a = smF g n a := by
  intro n
  induction n with
  | zero => intro a _; rfl
  | succ n ih =>
    intro a h
    unfold smF
    rw [h a (by omega) (by omega), ih (a + 1) (fun j h1 h2 => h j (by omega) (by omega))]
theorem smF_up {g g' : Nat → Nat} {f d : Nat} (h1 : ∀ j, j ≠ f → g' j = g j) (h2 : g' f = g f + d) : ∀ n a, a ≤ f → f < a + n → smF g' n a = smF g n a + d := by
  intro n
  induction n with
  | zero => intro a h3 h4; omega
  | succ n ih =>
    intro a h3 h4
    unfold smF
    by_cases e : f = a
    · subst e
      rw [h2, smF_eq n (f + 1) (fun j h5 h6 => h1 j (by omega))]
      omega
    · rw [h1 a (by omega), ih (a + 1) (by omega) (by omega)]
      omega
theorem smF_z {g : Nat → Nat} : ∀ n a, (∀ j, a ≤ j → j < a + n → g j = 0) → smF g n a = 0 := by
  intro n
  induction n with
  | zero => intro a _; rfl
  | succ n ih =>
    intro a h
    unfold smF
    rw [h a (by omega) (by omega), ih (a + 1) (fun j h1 h2 => h j (by omega) (by omega))]
theorem smF_ge {g : Nat → Nat} {f : Nat} : ∀ n a, a ≤ f → f < a + n → g f ≤ smF g n a := by
  intro n
  induction n with
  | zero => intro a h3 h4; omega
  | succ n ih =>
    intro a h3 h4
    unfold smF
    by_cases e : f = a
    · subst e; omega
    · have := ih (a + 1) (by omega) (by omega)
      omega
theorem smF_skip {g : Nat → Nat} : ∀ d n a, (∀ j, a ≤ j → j < a + d → g j = 0) → smF g (d + n) a = smF g n (a + d) := by
  intro d
  induction d with
  | zero => intro n a _; rw [Nat.zero_add]; rfl
  | succ d ih =>
    intro n a h
    rw [show d + 1 + n = (d + n) + 1 by omega, show smF g (d + n + 1) a = g a + smF g (d + n) (a + 1) from rfl, h a (by omega) (by omega), ih n (a + 1) (fun j h1 h2 => h j (by omega) (by omega)), Nat.zero_add, show a + 1 + d = a + (d + 1) by omega]
