/-! numbers -/
theorem z0 : (0 : Int32) = nI 0 := rfl
theorem nI_int {a : Nat} (h : a < 2 ^ 31) : (nI a).toInt = a := nI_toInt h
theorem nI_nneg {a : Nat} (h : a < 2 ^ 31) (k : Int32) (hk : k.toInt < 0) : ¬ nI a = k := by
  intro e
  have := congrArg Int32.toInt e
  rw [nI_toInt h] at this
  omega
theorem jmax_n {a b : Nat} (ha : a < 2 ^ 31) (hb : b < 2 ^ 31) : jmax (nI a) (nI b) = nI (max a b) := by
  unfold jmax
  simp only [nI_ltI ha hb]
  by_cases h : a < b
  · rw [if_pos h, Nat.max_eq_right (by omega)]
  · rw [if_neg h, Nat.max_eq_left (by omega)]
theorem jmin_n {a b : Nat} (ha : a < 2 ^ 31) (hb : b < 2 ^ 31) : jmin (nI a) (nI b) = nI (min a b) := by
  unfold jmin
  simp only [nI_ltI hb ha]
  by_cases h : b < a
  · rw [if_pos h, Nat.min_eq_right (by omega)]
  · rw [if_neg h, Nat.min_eq_left (by omega)]
theorem i32_lt (x y : Int32) : x < y ↔ x.toInt < y.toInt := Int32.lt_iff_toInt_lt
theorem i32_le (x y : Int32) : x ≤ y ↔ x.toInt ≤ y.toInt := Int32.le_iff_toInt_le
theorem jmax_s {g f r : Nat} (hg : g < 2 ^ 30) (hf : f < 2 ^ 30) (hr : r < 2 ^ 30) : jmax (nI g) (nI f - nI r) = nI (max g (f - r)) := by
  by_cases h : r ≤ f
  · rw [pk_sub h, jmax_n (by omega) (by omega)]
  · unfold jmax
    rw [if_neg, Nat.max_eq_left (by omega)]
    rw [i32_lt, pk_sub_toInt hf hr, nI_toInt (by omega)]
    omega
/-- the distance -/
def ds (a b : Nat) : Nat := (a - b) + (b - a)
theorem jabs_s {a b : Nat} (ha : a < 2 ^ 30) (hb : b < 2 ^ 30) : jabs (nI a - nI b) = nI (ds a b) := by
  unfold jabs ds
  by_cases h : b ≤ a
  · rw [pk_sub h, if_pos (by rw [z0, nI_leI (by omega) (by omega)]; omega)]
    congr 1
    omega
  · rw [if_neg]
    · have e : (0 : Int32) - (nI a - nI b) = nI b - nI a := by
        rw [Int32.zero_sub, Int32.neg_sub]
      rw [e, pk_sub (by omega)]
      congr 1
      omega
    · rw [i32_le, pk_sub_toInt ha hb]
      show ¬ (0 : Int) ≤ _
      omega
theorem jabs_sz {a b : Nat} (ha : a < 2 ^ 30) (hb : b < 2 ^ 30) : (if nI a - nI b < 0 then -(nI a - nI b) else nI a - nI b) = nI (ds a b) := by
  have h := jabs_s ha hb
  unfold jabs at h
  rw [← h]
  by_cases h0 : (0 : Int32) ≤ nI a - nI b
  · rw [if_pos h0, if_neg (by rw [i32_lt]; rw [i32_le] at h0; omega)]
  · rw [if_neg h0, if_pos (by rw [i32_lt]; rw [i32_le] at h0; omega), Int32.sub_eq_add_neg 0, Int32.zero_add]
theorem fx_s {F : Type} (bot : F) (b : F → F) (n : Nat) : fx bot b (n + 1) = b (fx bot b n) := rfl
theorem FU_s : FU = 9999 + 1 := rfl
theorem ifT {α : Type} {c : Prop} [Decidable c] {a b : α} (h : c) : (if c then a else b) = a := if_pos h
theorem ifF {α : Type} {c : Prop} [Decidable c] {a b : α} (h : ¬ c) : (if c then a else b) = b := if_neg h
