/-! lowest terms -/
theorem lN_rem {x y : Nat} (hx : x < 2 ^ 63) (h0 : 0 < y) (hy : y < 2 ^ 63) : lN x - lN x / lN y * lN y = lN (x % y) := by
  have h1 : x / y * y ≤ x := Nat.div_mul_le_self _ _
  have h2 : x % y + x / y * y = x := by rw [Nat.mul_comm]; exact Nat.mod_add_div x y
  rw [lN_div hx h0 hy, lN_mul, lN_sub (by omega)]
  exact congrArg lN (by omega)
theorem lN_0 {y : Nat} (hy : y < 2 ^ 63) : (lN y = 0) ↔ y = 0 := by
  rw [← lN_z hy, lg_cmp_eq]; rfl
theorem sp_gcd {w a b : Nat} : ∀ (n x y N : Nat) (m : ba_M), x < 2 ^ 63 → y < 2 ^ 63 → y < 2 ^ n → 2 * n + 1 ≤ N →
    fx (fun _ _ _ _ _ _ => none) (b_Mo_part_37 SF) N (nI w) (lN a) (lN b) (lN x) (lN y) m = if nI w = 0 then f_Mo_part_73 SF (lN (Nat.gcd x y)) (lN a) m else f_Mo_part_73 SF (lN (Nat.gcd x y)) (lN b) m := by
  intro n
  induction n with
  | zero =>
    intro x y N m hx hy hn hN
    obtain ⟨N, rfl⟩ : ∃ z, N = z + 1 := ⟨N - 1, by omega⟩
    obtain rfl : y = 0 := by have : y < 1 := hn; omega
    rw [fx_s]
    generalize fx (fun _ _ _ _ _ _ => none) (b_Mo_part_37 SF) N = K
    unfold b_Mo_part_37
    rw [if_pos ((lN_z (by omega)).mpr rfl), Nat.gcd_zero_right]
  | succ n ih =>
    intro x y N m hx hy hn hN
    obtain ⟨N, rfl⟩ : ∃ z, N = z + 2 := ⟨N - 2, by omega⟩
    have step : ∀ (x y : Nat), x < 2 ^ 63 → y < 2 ^ 63 → ∀ K : Int32 → Int64 → Int64 → Int64 → Int64 → ba_M → Option (Int64 × ba_M), b_Mo_part_37 SF K (nI w) (lN a) (lN b) (lN x) (lN y) m = if y = 0 then (if nI w = 0 then f_Mo_part_73 SF (lN x) (lN a) m else f_Mo_part_73 SF (lN x) (lN b) m) else K (nI w) (lN a) (lN b) (lN y) (lN (x % y)) m := by
      intro x y hx hy K
      unfold b_Mo_part_37
      by_cases h : y = 0
      · rw [if_pos h, if_pos ((lN_z hy).mpr h)]
      · rw [if_neg h, if_neg (fun q => h ((lN_z hy).mp q)), if_neg (fun q => h ((lN_0 hy).mp q)), lN_rem hx (by omega) hy]
    have ih' := fun x y => ih x y N m
    rw [show N + 2 = (N + 1) + 1 from rfl, fx_s, step x y hx hy]
    by_cases h0 : y = 0
    · subst h0
      rw [if_pos rfl, Nat.gcd_zero_right]
    · rw [if_neg h0, fx_s]
      generalize fx (fun _ _ _ _ _ _ => none) (b_Mo_part_37 SF) N = K at ih' ⊢
      have hr : x % y < y := Nat.mod_lt _ (by omega)
      have hg : Nat.gcd x y = Nat.gcd y (x % y) := by rw [Nat.gcd_comm x y, Nat.gcd_rec y x, Nat.gcd_comm]
      rw [step y (x % y) hy (by omega), hg]
      generalize x % y = z at hr ⊢
      by_cases h1 : z = 0
      · subst h1
        rw [if_pos rfl, Nat.gcd_zero_right]
      · rw [if_neg h1]
        have hr2 : y % z < z := Nat.mod_lt _ (by omega)
        have hg2 : Nat.gcd y z = Nat.gcd z (y % z) := by rw [Nat.gcd_comm y z, Nat.gcd_rec z y, Nat.gcd_comm]
        have hh : 2 * (y % z) < y := by
          have h2 : z * (y / z) + y % z = y := Nat.div_add_mod y z
          have h3 : 1 ≤ y / z := (Nat.one_le_div_iff (by omega)).mpr (by omega)
          have h4 : z * 1 ≤ z * (y / z) := Nat.mul_le_mul_left _ h3
          omega
        rw [ih' z (y % z) (by omega) (by omega) (by rw [Nat.pow_succ] at hn; omega) (by omega), hg2]
def lo2 (q : Nat × Nat) : Nat × Nat := if q.1 % 2 = 0 ∧ q.2 % 2 = 0 then (q.1 / 2, q.2 / 2) else q
def lo5 (q : Nat × Nat) : Nat × Nat := if q.1 % 5 = 0 ∧ q.2 % 5 = 0 then (q.1 / 5, q.2 / 5) else q
def loN : Nat → Nat × Nat → Nat × Nat
  | 0, q => q
  | n + 1, q => loN n (lo5 (lo2 q))
theorem lo2_le (q : Nat × Nat) : (lo2 q).1 ≤ q.1 ∧ (lo2 q).2 ≤ q.2 := by
  unfold lo2
  split
  · exact ⟨Nat.div_le_self _ _, Nat.div_le_self _ _⟩
  · exact ⟨Nat.le_refl _, Nat.le_refl _⟩
theorem lo5_le (q : Nat × Nat) : (lo5 q).1 ≤ q.1 ∧ (lo5 q).2 ≤ q.2 := by
  unfold lo5
  split
  · exact ⟨Nat.div_le_self _ _, Nat.div_le_self _ _⟩
  · exact ⟨Nat.le_refl _, Nat.le_refl _⟩
theorem sp_52 {w a b i : Nat} {m : ba_M} (ha : a < 2 ^ 63) (hb : b < 2 ^ 63) (K : Int32 → Int64 → Int64 → Int32 → ba_M → Option (Int64 × ba_M)) : f_Ba_inLowestTerms_52 SF K (nI w) (lN a) (lN b) (nI i) m = K (nI w) (lN (lo5 (a, b)).1) (lN (lo5 (a, b)).2) (nI (i + 1)) m := by
  have h5 : ¬ lN 5 = 0 := lN_n0 (by omega) (by omega)
  unfold f_Ba_inLowestTerms_52 f_Ba_inLowestTerms_87 lo5
  rw [if_neg h5, lN_rem ha (by omega) (by omega), if_neg h5, lN_rem hb (by omega) (by omega), if_neg h5, lN_div ha (by omega) (by omega), lN_div hb (by omega) (by omega), nI_add]
  dsimp only
  by_cases h1 : a % 5 = 0
  · rw [if_pos ((lN_z (by omega)).mpr h1)]
    by_cases h2 : b % 5 = 0
    · rw [if_pos ((lN_z (by omega)).mpr h2), if_neg h5, if_pos ⟨h1, h2⟩]
    · rw [if_neg (fun q => h2 ((lN_z (by omega)).mp q)), if_neg (fun q => h2 q.2)]
  · rw [if_neg (fun q => h1 ((lN_z (by omega)).mp q)), if_neg (fun q => h1 q.1)]
theorem sp_low {w : Nat} : ∀ (r i a b N : Nat) (m : ba_M), i + r = 16 → a < 2 ^ 63 → b < 2 ^ 63 → r < N →
    fx (fun _ _ _ _ _ => none) (b_Ba_inLowestTerms_10 SF) N (nI w) (lN a) (lN b) (nI i) m = some (if nI w = 0 then lN (loN r (a, b)).1 else lN (loN r (a, b)).2, m) := by
  intro r
  induction r with
  | zero =>
    intro i a b N m hi ha hb hN
    obtain ⟨N, rfl⟩ : ∃ z, N = z + 1 := ⟨N - 1, by omega⟩
    obtain rfl : i = 16 := by omega
    rw [fx_s]
    generalize fx (fun _ _ _ _ _ => none) (b_Ba_inLowestTerms_10 SF) N = K
    unfold b_Ba_inLowestTerms_10 f_Ba_inLowestTerms_103
    rw [if_pos (by rw [nI_leI (by omega) (by omega)]; omega)]
    by_cases hw : nI w = 0
    · rw [if_pos hw, if_pos hw]; rfl
    · rw [if_neg hw, if_neg hw]; rfl
  | succ r ih =>
    intro i a b N m hi ha hb hN
    obtain ⟨N, rfl⟩ : ∃ z, N = z + 1 := ⟨N - 1, by omega⟩
    have l2 := lo2_le (a, b)
    have l5 := lo5_le (lo2 (a, b))
    have ih' := ih (i + 1) (lo5 (lo2 (a, b))).1 (lo5 (lo2 (a, b))).2 N m (by omega) (by dsimp only at l2; omega) (by dsimp only at l2; omega) (by omega)
    have h2 : ¬ lN 2 = 0 := lN_n0 (by omega) (by omega)
    have hs : loN (r + 1) (a, b) = loN r (lo5 (lo2 (a, b))) := rfl
    have key : ∀ K : Int32 → Int64 → Int64 → Int32 → ba_M → Option (Int64 × ba_M), b_Ba_inLowestTerms_10 SF K (nI w) (lN a) (lN b) (nI i) m = f_Ba_inLowestTerms_52 SF K (nI w) (lN (lo2 (a, b)).1) (lN (lo2 (a, b)).2) (nI i) m := by
      intro K
      unfold b_Ba_inLowestTerms_10 lo2
      rw [if_neg (by rw [nI_leI (by omega) (by omega)]; omega), if_neg h2, lN_rem ha (by omega) (by omega), if_neg h2, lN_rem hb (by omega) (by omega), if_neg h2, lN_div ha (by omega) (by omega), lN_div hb (by omega) (by omega)]
      dsimp only
      by_cases h1 : a % 2 = 0
      · rw [if_pos ((lN_z (by omega)).mpr h1)]
        by_cases h3 : b % 2 = 0
        · rw [if_pos ((lN_z (by omega)).mpr h3), if_neg h2, if_pos ⟨h1, h3⟩]
        · rw [if_neg (fun q => h3 ((lN_z (by omega)).mp q)), if_neg (fun q => h3 q.2)]
      · rw [if_neg (fun q => h1 ((lN_z (by omega)).mp q)), if_neg (fun q => h1 q.1)]
    rw [fx_s, hs]
    generalize fx (fun _ _ _ _ _ => none) (b_Ba_inLowestTerms_10 SF) N = K at ih' ⊢
    rw [key, sp_52 (by dsimp only at l2; omega) (by dsimp only at l2; omega)]
    exact ih'
