theorem p5_2 (q : Nat) : 5 ^ q % 2 = 1 := by
  induction q with
  | zero => rfl
  | succ q ih => rw [Nat.pow_succ]; omega
theorem p2_5 (p : Nat) : 2 ^ p % 5 ≠ 0 := by
  induction p with
  | zero => decide
  | succ p ih => rw [Nat.pow_succ]; omega
def LI (r s a b : Nat) : Prop := ∃ p q, b = 2 ^ p * 5 ^ q ∧ (p = r ∨ ¬ (a % 2 = 0 ∧ b % 2 = 0)) ∧ (q = s ∨ ¬ (a % 5 = 0 ∧ b % 5 = 0))
theorem lo2_i {r s a b A B : Nat} (h : LI (r + 1) s a b) (e : a * B = A * b) : LI r s (lo2 (a, b)).1 (lo2 (a, b)).2 ∧ (lo2 (a, b)).1 * B = A * (lo2 (a, b)).2 := by
  obtain ⟨p, q, h1, h2, h3⟩ := h
  unfold lo2
  dsimp only
  by_cases hE : a % 2 = 0 ∧ b % 2 = 0
  · rw [if_pos hE]
    have hp : p = r + 1 := h2.resolve_right (fun k => k hE)
    subst hp
    obtain ⟨a', rfl⟩ : ∃ a', a = 2 * a' := ⟨a / 2, by omega⟩
    have hb : b = 2 * (2 ^ r * 5 ^ q) := by rw [h1, Nat.pow_succ, Nat.mul_comm (2 ^ r) 2, Nat.mul_assoc]
    have hb2 : b / 2 = 2 ^ r * 5 ^ q := by rw [hb, Nat.mul_div_cancel_left _ (by omega)]
    have ha2 : 2 * a' / 2 = a' := Nat.mul_div_cancel_left _ (by omega)
    dsimp only
    rw [ha2]
    refine ⟨⟨r, q, hb2, Or.inl rfl, h3.imp_right (fun k w => k (by omega))⟩, ?_⟩
    have hbb : b = 2 * (b / 2) := by omega
    generalize b / 2 = b' at hbb ⊢
    subst hbb
    have : 2 * (a' * B) = 2 * (A * b') := by rw [← Nat.mul_assoc, e, Nat.mul_left_comm]
    omega
  · rw [if_neg hE]
    exact ⟨⟨p, q, h1, Or.inr hE, h3⟩, e⟩
theorem lo5_i {r s a b A B : Nat} (h : LI r (s + 1) a b) (e : a * B = A * b) : LI r s (lo5 (a, b)).1 (lo5 (a, b)).2 ∧ (lo5 (a, b)).1 * B = A * (lo5 (a, b)).2 := by
  obtain ⟨p, q, h1, h2, h3⟩ := h
  unfold lo5
  dsimp only
  by_cases hE : a % 5 = 0 ∧ b % 5 = 0
  · rw [if_pos hE]
    have hq : q = s + 1 := h3.resolve_right (fun k => k hE)
    subst hq
    obtain ⟨a', rfl⟩ : ∃ a', a = 5 * a' := ⟨a / 5, by omega⟩
    have hb : b = 5 * (2 ^ p * 5 ^ s) := by rw [h1, Nat.pow_succ, Nat.mul_comm (5 ^ s) 5, Nat.mul_left_comm]
    have hb2 : b / 5 = 2 ^ p * 5 ^ s := by rw [hb, Nat.mul_div_cancel_left _ (by omega)]
    have ha2 : 5 * a' / 5 = a' := Nat.mul_div_cancel_left _ (by omega)
    dsimp only
    rw [ha2]
    refine ⟨⟨p, s, hb2, h2.imp_right (fun k w => k (by omega)), Or.inl rfl⟩, ?_⟩
    have hbb : b = 5 * (b / 5) := by omega
    generalize b / 5 = b' at hbb ⊢
    subst hbb
    have : 5 * (a' * B) = 5 * (A * b') := by rw [← Nat.mul_assoc, e, Nat.mul_left_comm]
    omega
  · rw [if_neg hE]
    exact ⟨⟨p, q, h1, h2, Or.inr hE⟩, e⟩
theorem loN_i {A B : Nat} : ∀ (r a b : Nat), LI r r a b → a * B = A * b → LI 0 0 (loN r (a, b)).1 (loN r (a, b)).2 ∧ (loN r (a, b)).1 * B = A * (loN r (a, b)).2 := by
  intro r
  induction r with
  | zero => intro a b h e; exact ⟨h, e⟩
  | succ r ih =>
    intro a b h e
    obtain ⟨h1, e1⟩ := lo2_i h e
    obtain ⟨h2, e2⟩ := lo5_i h1 e1
    exact ih _ _ h2 e2
theorem cop2 {a : Nat} (h : a % 2 ≠ 0) : Nat.Coprime a 2 := by
  show Nat.gcd a 2 = 1
  rw [Nat.gcd_comm, Nat.gcd_rec, show a % 2 = 1 by omega, Nat.gcd_one_left]
theorem cop5 {a : Nat} (h : a % 5 ≠ 0) : Nat.Coprime a 5 := by
  show Nat.gcd a 5 = 1
  rw [Nat.gcd_comm, Nat.gcd_rec]
  have h5 : a % 5 < 5 := Nat.mod_lt _ (by omega)
  generalize a % 5 = z at h h5
  match z, h, h5 with
  | 1, _, _ => decide
  | 2, _, _ => decide
  | 3, _, _ => decide
  | 4, _, _ => decide
theorem LI.cop {a b : Nat} (h : LI 0 0 a b) : Nat.Coprime a b ∧ 0 < b := by
  obtain ⟨p, q, h1, h2, h3⟩ := h
  have k2 : ¬ (a % 2 = 0 ∧ b % 2 = 0) := by
    rcases h2 with h2 | h2
    · subst h2
      rw [h1, Nat.pow_zero, Nat.one_mul]
      have := p5_2 q
      omega
    · exact h2
  have k3 : ¬ (a % 5 = 0 ∧ b % 5 = 0) := by
    rcases h3 with h3 | h3
    · subst h3
      rw [h1, Nat.pow_zero, Nat.mul_one]
      have := p2_5 p
      omega
    · exact h3
  clear h2 h3
  have c1 : Nat.Coprime a (2 ^ p) := by
    cases p with
    | zero => exact Nat.coprime_one_right a
    | succ p =>
      refine Nat.Coprime.pow_right _ (cop2 (fun e => k2 ⟨e, ?_⟩))
      rw [h1, Nat.pow_succ, Nat.mul_comm (2 ^ p) 2, Nat.mul_assoc]
      exact Nat.mul_mod_right _ _
  have c2 : Nat.Coprime a (5 ^ q) := by
    cases q with
    | zero => exact Nat.coprime_one_right a
    | succ q =>
      refine Nat.Coprime.pow_right _ (cop5 (fun e => k3 ⟨e, ?_⟩))
      rw [h1, Nat.pow_succ, Nat.mul_comm (5 ^ q) 5, Nat.mul_left_comm]
      exact Nat.mul_mod_right _ _
  refine ⟨?_, ?_⟩
  · rw [h1]; exact Nat.Coprime.mul_right c1 c2
  · rw [h1]; exact Nat.mul_pos (Nat.pow_pos (by omega)) (Nat.pow_pos (by omega))
theorem low_u {a b v e : Nat} (h1 : Nat.Coprime a b) (h2 : Nat.Coprime v e) (h : a * e = v * b) : a = v ∧ b = e := by
  refine ⟨Nat.dvd_antisymm ?_ ?_, Nat.dvd_antisymm ?_ ?_⟩
  · exact h1.dvd_of_dvd_mul_right (by rw [← h]; exact Nat.dvd_mul_right _ _)
  · exact h2.dvd_of_dvd_mul_right (by rw [h]; exact Nat.dvd_mul_right _ _)
  · exact h1.symm.dvd_of_dvd_mul_left (by rw [h]; exact Nat.dvd_mul_left _ _)
  · exact h2.symm.dvd_of_dvd_mul_left (by rw [← h]; exact Nat.dvd_mul_left _ _)
theorem low_q {A V D : Nat} (hD : 0 < D) (h : A * D = V * 10 ^ 16) : (loN 16 (A, 10 ^ 16)).1 = V / Nat.gcd V D ∧ (loN 16 (A, 10 ^ 16)).2 = D / Nat.gcd V D := by
  have h0 : LI 16 16 A (10 ^ 16) := ⟨16, 16, by decide, Or.inl rfl, Or.inl rfl⟩
  obtain ⟨h1, h2⟩ := loN_i (A := A) (B := 10 ^ 16) 16 A (10 ^ 16) h0 rfl
  generalize loN 16 (A, 10 ^ 16) = z at h1 h2 ⊢
  obtain ⟨h3, h4⟩ := h1.cop
  have hB : 0 < 10 ^ 16 := by decide
  generalize 10 ^ 16 = B at h h2 hB
  have hg : 0 < Nat.gcd V D := Nat.gcd_pos_of_pos_right _ hD
  have h5 := Nat.coprime_div_gcd_div_gcd hg
  refine low_u h3 h5 ?_
  have e1 : z.1 * D = V * z.2 := by
    refine Nat.eq_of_mul_eq_mul_right hB ?_
    rw [Nat.mul_right_comm, h2, Nat.mul_right_comm, h, Nat.mul_right_comm]
  have g1 : Nat.gcd V D * (D / Nat.gcd V D) = D := Nat.mul_div_cancel' (Nat.gcd_dvd_right _ _)
  have g2 : Nat.gcd V D * (V / Nat.gcd V D) = V := Nat.mul_div_cancel' (Nat.gcd_dvd_left _ _)
  generalize Nat.gcd V D = g at hg g1 g2 ⊢
  generalize D / g = D' at g1 ⊢
  generalize V / g = V' at g2 ⊢
  refine Nat.eq_of_mul_eq_mul_left hg ?_
  rw [← Nat.mul_assoc g V', g2, Nat.mul_left_comm, g1, e1]
def ltQ (V L w : Nat) : Int64 := if nI w = 0 then lN (V / Nat.gcd V (10 ^ L)) else lN (10 ^ L / Nat.gcd V (10 ^ L))
theorem sp_lowC {A V L w : Nat} {m : ba_M} (hL : L ≤ 16) (hA : A = V * 10 ^ (16 - L)) (hA2 : A < 2 ^ 63) : f_Ba_inLowestTerms SF (lN A) (nI w) m = some (ltQ V L w, m) := by
  have h := sp_low (w := w) 16 0 A (10 ^ 16) FU m rfl hA2 (by decide) (by unfold FU; omega)
  have hq := low_q (A := A) (V := V) (D := 10 ^ L) (Nat.pow_pos (by omega)) (by rw [hA, Nat.mul_assoc, ← Nat.pow_add, show 16 - L + L = 16 by omega])
  rw [hq.1, hq.2] at h
  exact h
theorem sp_partM {m : ba_M} {c n d i k w : Nat} {P T : ba_T} {ca tg ch : Nat → Nat} (hG : GM m c n d P T) (hok : okG c n d P T) (hP : PW m) (hi : i < c) (hA : PQ m c k ca tg ch 0) (hV : VV c k ca tg ch (pkS (fun k => T k 3) c) i < 2 ^ 63) : f_Mo_part SF 102 (nI i) (nI w) m = some (ltQ (VV c k ca tg ch (pkS (fun k => T k 3) c) i) (Lf c (pkS (fun k => T k 3) c)) w, m) := by
  obtain ⟨⟨o1, o2, o3, o4, o5⟩, o6, o7⟩ := id hok
  have hT : ∀ k, k < c → T k 3 ≤ 3 := fun k hk => (o7 k hk).2.2.2.2.2
  have hX := pkS_lt (l := fun k => T k 3) c hT
  have hcd := sp_code hG ⟨o1, o2⟩ hT
  have hx4 : 4 ^ c ≤ 1024 := by rcases p4c ⟨o1, o2⟩ with h | h | h | h <;> omega
  generalize pkS (fun k => T k 3) c = X at hX hcd hV ⊢
  obtain ⟨l1, l2⟩ := Lf_in ⟨o1, o2⟩ hX
  have hv := hA X i (Nat.zero_le _) hX hi
  have hp := hP (Lf c X) (by omega)
  have hle : 10 ^ Lf c X ≤ 10 ^ 16 := Nat.pow_le_pow_right (by omega) l2
  have h16 : (10 : Nat) ^ 16 < 2 ^ 63 := by decide
  have hpos : 0 < 10 ^ Lf c X := Nat.pow_pos (by omega)
  unfold f_Mo_part
  rw [cK_102, hcd, obS, ld_102_21]
  dsimp only
  rw [pk_mul, nI_add, bd_115 (show 5 * X + i < 5120 by omega), ld_102_20, sp_left hG ⟨o1, o2⟩ hX, obS]
  dsimp only
  rw [bd_114 (show Lf c X < 18 by omega), nI_clamp (show 5 * X + i < 2 ^ 31 by omega), nI_clamp (show Lf c X < 2 ^ 31 by omega), hv, hp]
  unfold ltQ
  generalize VV c k ca tg ch X i = V at hV ⊢
  generalize 10 ^ Lf c X = D at hle hpos ⊢
  have hD : D < 2 ^ 63 := by omega
  have hg := sp_gcd (w := w) (a := V) (b := D) 63 V D FU m hV hD hD (by unfold FU; omega)
  have hg : f_Mo_part_37 SF (nI w) (lN V) (lN D) (lN V) (lN D) m = if nI w = 0 then f_Mo_part_73 SF (lN (Nat.gcd V D)) (lN V) m else f_Mo_part_73 SF (lN (Nat.gcd V D)) (lN D) m := hg
  have hgp : 0 < Nat.gcd V D := Nat.gcd_pos_of_pos_right _ hpos
  have hgl : Nat.gcd V D ≤ D := Nat.gcd_le_right _ hpos
  have hn : ¬ lN (Nat.gcd V D) = 0 := fun e => by have := (lN_0 (by omega)).mp e; omega
  have e1 : lN V / lN (Nat.gcd V D) = lN (V / Nat.gcd V D) := lN_div hV hgp (by omega)
  have e2 : lN D / lN (Nat.gcd V D) = lN (D / Nat.gcd V D) := lN_div hD hgp (by omega)
  rw [hg]
  unfold f_Mo_part_73
  by_cases hw : nI w = 0
  · rw [if_pos hw, if_pos hw, if_neg hn, e1]
  · rw [if_neg hw, if_neg hw, if_neg hn, e2]
