def u1 (l : Nat → Nat) (v : Nat) : Nat → Nat := fun k => if k = v then l k + 1 else l k
def pkS (l : Nat → Nat) : Nat → Nat
  | 0 => 0
  | i + 1 => pkS l i + l i * 4 ^ i
def slS (l : Nat → Nat) : Nat → Nat
  | 0 => 0
  | i + 1 => slS l i + (3 - l i)
theorem u1_v {l : Nat → Nat} {v : Nat} : u1 l v v = l v + 1 := if_pos rfl
theorem u1_n {l : Nat → Nat} {v k : Nat} (h : k ≠ v) : u1 l v k = l k := if_neg h
theorem pkS_ge {l : Nat → Nat} {v : Nat} : ∀ i, i ≤ v → pkS (u1 l v) i = pkS l i := by
  intro i
  induction i with
  | zero => intro _; rfl
  | succ i ih => intro h; unfold pkS; rw [ih (by omega), u1_n (by omega)]
theorem pkS_u {l : Nat → Nat} {v : Nat} : ∀ i, v < i → pkS (u1 l v) i = pkS l i + 4 ^ v := by
  intro i
  induction i with
  | zero => intro h; omega
  | succ i ih =>
    intro h
    unfold pkS
    by_cases e : i = v
    · subst e
      rw [pkS_ge i (Nat.le_refl _), u1_v, Nat.add_mul, Nat.one_mul, Nat.add_assoc]
    · rw [ih (by omega), u1_n e]; omega
theorem slS_ge {l : Nat → Nat} {v : Nat} : ∀ i, i ≤ v → slS (u1 l v) i = slS l i := by
  intro i
  induction i with
  | zero => intro _; rfl
  | succ i ih => intro h; unfold slS; rw [ih (by omega), u1_n (by omega)]
theorem slS_u {l : Nat → Nat} {v : Nat} (hv : l v < 3) : ∀ i, v < i → slS (u1 l v) i + 1 = slS l i := by
  intro i
  induction i with
  | zero => intro h; omega
  | succ i ih =>
    intro h
    unfold slS
    by_cases e : i = v
    · subst e
      rw [slS_ge i (Nat.le_refl _), u1_v]; omega
    · have := ih (by omega)
      rw [u1_n e]; omega
theorem slS_le (l : Nat → Nat) : ∀ i, slS l i ≤ 3 * i := by
  intro i
  induction i with
  | zero => exact Nat.le_refl _
  | succ i ih => unfold slS; omega
theorem pkS_lt {l : Nat → Nat} : ∀ i, (∀ k, k < i → l k ≤ 3) → pkS l i < 4 ^ i := by
  intro i
  induction i with
  | zero => intro _; exact Nat.one_pos
  | succ i ih =>
    intro h
    have h1 := ih (fun k hk => h k (by omega))
    have h2 : l i * 4 ^ i ≤ 3 * 4 ^ i := Nat.mul_le_mul_right _ (h i (by omega))
    unfold pkS
    rw [Nat.pow_succ]
    omega
theorem pkS_at {l : Nat → Nat} {a : Nat} : ∀ i, (∀ k, k < i → l k ≤ 3) → a < i → pkS l i / 4 ^ a % 4 = l a := by
  intro i
  induction i with
  | zero => intro _ h; omega
  | succ i ih =>
    intro h ha
    have h1 := pkS_lt i (fun k hk => h k (by omega))
    unfold pkS
    by_cases e : a = i
    · subst e
      rw [Nat.add_mul_div_right _ _ (Nat.pow_pos (by omega)), Nat.div_eq_of_lt h1, Nat.zero_add]
      exact Nat.mod_eq_of_lt (by have := h a (by omega); omega)
    · rw [← ih (fun k hk => h k (by omega)) (by omega)]
      obtain ⟨q, rfl⟩ : ∃ q, i = a + 1 + q := ⟨i - a - 1, by omega⟩
      rw [show l (a + 1 + q) * 4 ^ (a + 1 + q) = (4 * (l (a + 1 + q) * 4 ^ q)) * 4 ^ a by rw [Nat.pow_add, Nat.pow_add]; simp only [Nat.pow_one, Nat.mul_assoc, Nat.mul_comm, Nat.mul_left_comm], Nat.add_mul_div_right _ _ (Nat.pow_pos (by omega)), Nat.add_mul_mod_self_left]
theorem pkS_k {l : Nat → Nat} {c : Nat} (hc : c ≤ 5) (h : ∀ k, k < c → l k ≤ 3) : pkS l c < 1024 := by
  have h1 := pkS_lt c h
  have h2 : 4 ^ c ≤ 4 ^ 5 := Nat.pow_le_pow_right (by omega) hc
  have h3 : (4 : Nat) ^ 5 = 1024 := by decide
  rw [h3] at h2
  exact Nat.lt_of_lt_of_le h1 h2
theorem sp_lo2 {S : ba_S} {X a : Nat} (hX : X < 1024) (ha : a < 5) (m : ba_M) : f_Mr_lettersOf2 S (nI X) (nI a) m = some (nI (X / 4 ^ a % 4), m) := by
  unfold f_Mr_lettersOf2
  match a, ha with
  | 0, _ => rw [pk_shrN (by omega) _ 0 (by decide), pk_andN (by omega) 2 (by decide)]
  | 1, _ => rw [pk_shrN (by omega) _ 2 (by decide), pk_andN (by omega) 2 (by decide)]
  | 2, _ => rw [pk_shrN (by omega) _ 4 (by decide), pk_andN (by omega) 2 (by decide)]
  | 3, _ => rw [pk_shrN (by omega) _ 6 (by decide), pk_andN (by omega) 2 (by decide)]
  | 4, _ => rw [pk_shrN (by omega) _ 8 (by decide), pk_andN (by omega) 2 (by decide)]
theorem sp_ol {S : ba_S} {a : Nat} (ha : a < 5) (m : ba_M) : f_Mr_oneLetterOf S (nI a) m = some (nI (4 ^ a), m) := by
  unfold f_Mr_oneLetterOf
  refine congrArg (fun z => some (z, m)) ?_
  match a, ha with
  | 0, _ => decide
  | 1, _ => decide
  | 2, _ => decide
  | 3, _ => decide
  | 4, _ => decide
theorem sp_lettersL {m : ba_M} {c n d : Nat} {P T : ba_T} (hG : GC m c n d P T) (hc : c ≤ 5) : ∀ (r i N : Nat), c - i = r → i ≤ c → r < N →
    fx (fun _ _ _ _ => none) (b_Mr_lettersOf_4 SF) N 6 (nI (pkS (fun k => T k 3) i)) (nI i) m = some (nI (pkS (fun k => T k 3) c), m) := by
  intro r
  induction r with
  | zero =>
    intro i N hr hi hN
    obtain ⟨N, rfl⟩ : ∃ z, N = z + 1 := ⟨N - 1, by omega⟩
    obtain rfl : i = c := by omega
    rw [fx_s]
    generalize fx (fun _ _ _ _ => none) (b_Mr_lettersOf_4 SF) N = K
    unfold b_Mr_lettersOf_4
    rw [hG.1, if_pos (by rw [nI_leI (by omega) (by omega)]; omega)]
  | succ r ih =>
    intro i N hr hi hN
    obtain ⟨N, rfl⟩ : ∃ z, N = z + 1 := ⟨N - 1, by omega⟩
    have h := ih (i + 1) N (by omega) (by omega) (by omega)
    rw [fx_s]
    generalize fx (fun _ _ _ _ => none) (b_Mr_lettersOf_4 SF) N = K at h ⊢
    have hlt : ¬ nI c ≤ nI i := by rw [nI_leI (by omega) (by omega)]; omega
    have h3 := (hG.2.2.2.2 i (by omega)).2.2.2
    unfold b_Mr_lettersOf_4
    simp (disch := omega) only [oN, Option.bind_some, ↓reduceIte, ifT, ifF, eq_self, reduceCtorEq, cK_0, cK_1, cK_2, kl_2, bd_2, cK_3, cK_4, kl_4, bd_4, cK_5, cK_6, cK_7, kl_7, bd_7, cK_8, cK_25, cK_20, kl_20, bd_20, cK_21, kl_21, bd_21, cK_22, kl_22, bd_22, cK_23, cK_24, kl_24, bd_24, cK_37, cK_38, cK_39, kl_39, bd_39, cK_40, kl_40, bd_40, cK_41, kl_41, bd_41, cK_42, kl_42, bd_42, cK_43, kl_43, bd_43, cK_44, cK_45, kl_45, bd_45, cK_46, kl_46, bd_46, cK_47, kl_47, bd_47, cK_48, cK_49, kl_49, bd_49, cK_90, cK_91, kl_91, bd_91, cK_102, cK_103, kl_103, bd_103, cK_104, kl_104, bd_104, cK_105, kl_105, bd_105, cK_106, kl_106, bd_106, cK_107, kl_107, bd_107, cK_108, kl_108, bd_108, cK_109, kl_109, bd_109, cK_110, kl_110, bd_110, cK_111, kl_111, bd_111, cK_112, kl_112, bd_112, cK_113, kl_113, bd_113, cK_114, kl_114, bd_114, cK_115, kl_115, bd_115, cK_116, kl_116, bd_116, cK_117, kl_117, bd_117, cK_118, kl_118, bd_118, cK_119, kl_119, bd_119, cK_120, kl_120, bd_120, cK_121, kl_121, bd_121, ld_0_0, ld_0_1, ld_0_2, ld_0_3, ld_0_4, ld_0_5, ld_0_6, ld_0_7, ld_0_8, ld_0_9, ld_1_0, ld_3_0, ld_5_0, ld_5_1, ld_5_2, ld_5_3, ld_6_0, ld_6_1, ld_23_0, ld_23_1, ld_38_0, ld_38_1, ld_38_2, ld_38_3, ld_38_4, ld_44_0, ld_44_1, ld_44_2, ld_48_1, ld_90_1, ld_102_3, ld_102_4, ld_102_5, ld_102_8, ld_102_12, ld_102_13, ld_102_14, ld_102_15, ld_102_16, ld_102_17, ld_102_19, ld_102_20, ld_102_21, ld_102_22, ld_102_23, ld_102_25, ld_102_27, ld_102_28, ld_102_30, cK_pl, cK_to, cK_dp, cK_dt, cK_un, cK_ke, ld_pl, ld_to, ld_dp, ld_dt, ld_un, ld_ke, hG.1, hlt, sp_who, sp_ol, h3, pk_mul, nI_add]
    exact h
/-- an afternoon: who gets a letter in round t, and so on -/
def nvA (ca tg ch : Nat → Nat) (z v t : Nat) : Nat := if ch v ≤ drN z t then ca v else tg v
def plA (ca tg ch : Nat → Nat) (z : Nat) : Nat → (Nat → Nat) → Nat → Nat → Nat × Nat
  | 0, _, v, t => (v, t)
  | r + 1, l, v, t => if l (nvA ca tg ch z v t) < 3 then plA ca tg ch z r (u1 l (nvA ca tg ch z v t)) (nvA ca tg ch z v t) (t + 1) else (nvA ca tg ch z v t, t + 1)
theorem sp_playD {m : ba_M} {z t D v chv a b : Nat} {X : Int32} (hd : f_Mr_draw SF (nI z) (nI t) m = some (nI D, m)) (hD : D < 10) (hc : chv ≤ 10) (ht : t ≤ 15) (hv : v < 5) (y1 : gI m 39 v = nI a) (y2 : gI m 40 v = nI b) (y3 : gI m 41 v = nI chv) (K : Nat → Int32 → Int32 → Int32 → Int32 → ba_M → Option (ba_M)) : b_Mr_playAfternoon_11 SF K 38 (nI z) X (nI v) (nI t) m = f_Mr_playAfternoon_57 SF K 38 (nI z) X (nI t) (nI (if chv ≤ D then a else b)) m := by
  have h16 : ¬ nI 16 ≤ nI t := by rw [nI_leI (by omega) (by omega)]; omega
  have a1 := sp_at ck_41 kl_41 hv (by omega) m
  have a2 := sp_at ck_39 kl_39 hv (by omega) m
  have a3 := sp_at ck_40 kl_40 hv (by omega) m
  have hle : nI chv ≤ nI D ↔ chv ≤ D := nI_leI (by omega) (by omega)
  rw [y3] at a1
  rw [y1] at a2
  rw [y2] at a3
  unfold b_Mr_playAfternoon_11
  generalize f_Mr_playAfternoon_57 SF K 38 (nI z) X (nI t) = F
  simp only [oN, Option.bind_some, ↓reduceIte, ifT, ifF, eq_self, reduceCtorEq, cK_0, cK_1, cK_2, kl_2, bd_2, cK_3, cK_4, kl_4, bd_4, cK_5, cK_6, cK_7, kl_7, bd_7, cK_8, cK_25, cK_20, kl_20, bd_20, cK_21, kl_21, bd_21, cK_22, kl_22, bd_22, cK_23, cK_24, kl_24, bd_24, cK_37, cK_38, cK_39, kl_39, bd_39, cK_40, kl_40, bd_40, cK_41, kl_41, bd_41, cK_42, kl_42, bd_42, cK_43, kl_43, bd_43, cK_44, cK_45, kl_45, bd_45, cK_46, kl_46, bd_46, cK_47, kl_47, bd_47, cK_48, cK_49, kl_49, bd_49, cK_90, cK_91, kl_91, bd_91, cK_102, cK_103, kl_103, bd_103, cK_104, kl_104, bd_104, cK_105, kl_105, bd_105, cK_106, kl_106, bd_106, cK_107, kl_107, bd_107, cK_108, kl_108, bd_108, cK_109, kl_109, bd_109, cK_110, kl_110, bd_110, cK_111, kl_111, bd_111, cK_112, kl_112, bd_112, cK_113, kl_113, bd_113, cK_114, kl_114, bd_114, cK_115, kl_115, bd_115, cK_116, kl_116, bd_116, cK_117, kl_117, bd_117, cK_118, kl_118, bd_118, cK_119, kl_119, bd_119, cK_120, kl_120, bd_120, cK_121, kl_121, bd_121, ld_0_0, ld_0_1, ld_0_2, ld_0_3, ld_0_4, ld_0_5, ld_0_6, ld_0_7, ld_0_8, ld_0_9, ld_1_0, ld_3_0, ld_5_0, ld_5_1, ld_5_2, ld_5_3, ld_6_0, ld_6_1, ld_23_0, ld_23_1, ld_38_0, ld_38_1, ld_38_2, ld_38_3, ld_38_4, ld_44_0, ld_44_1, ld_44_2, ld_48_1, ld_90_1, ld_102_3, ld_102_4, ld_102_5, ld_102_8, ld_102_12, ld_102_13, ld_102_14, ld_102_15, ld_102_16, ld_102_17, ld_102_19, ld_102_20, ld_102_21, ld_102_22, ld_102_23, ld_102_25, ld_102_27, ld_102_28, ld_102_30, cK_pl, cK_to, cK_dp, cK_dt, cK_un, cK_ke, ld_pl, ld_to, ld_dp, ld_dt, ld_un, ld_ke, h16, hd, a1, hle]
  by_cases h : chv ≤ D
  · rw [if_pos h, if_pos h, a2, Option.bind_some]
  · rw [if_neg h, if_neg h, a3, Option.bind_some]
theorem sp_playK {c n d z t v : Nat} {P T : ba_T} {m : ba_M} {X : Int32} (hok : okG c n d P T) (hz : z ≤ 9999) (ht : t ≤ 15) (hv : v < c) (hT : TBl m c n d P T c) (K : Nat → Int32 → Int32 → Int32 → Int32 → ba_M → Option (ba_M)) : b_Mr_playAfternoon_11 SF K 38 (nI z) X (nI v) (nI t) m = f_Mr_playAfternoon_57 SF K 38 (nI z) X (nI t) (nI (nvA (fun i => T i 0) (tgG c n d P T) (chG c n d P T) z v t)) m := by
  obtain ⟨y1, y2, y3⟩ := hT v hv
  obtain ⟨g1, g2, g3, g4⟩ := tgG_in hok hv
  exact sp_playD (sp_draw hz (show t ≤ 16 by omega) m) (drN_lt z t) g4 ht (by have := hok.1.2.1; omega) y1 y2 y3 K
theorem sp_playA {c n d z : Nat} {P T : ba_T} (hok : okG c n d P T) (hz : z ≤ 9999) : ∀ (f : Nat) (l : Nat → Nat) (v t N : Nat) (m : ba_M), slS l c < f → f + t ≤ 16 → f < N → (∀ k, k < c → l k ≤ 3) → v < c → TBl m c n d P T c →
    ∃ m', fx (fun _ _ _ _ _ _ => none) (b_Mr_playAfternoon_11 SF) N 38 (nI z) (nI (pkS l c)) (nI v) (nI t) m = some m' ∧ gI m' 38 6 = nI (plA (fun i => T i 0) (tgG c n d P T) (chG c n d P T) z f l v t).1 ∧ gI m' 38 7 = nI (plA (fun i => T i 0) (tgG c n d P T) (chG c n d P T) z f l v t).2 ∧ Fr (fun o _ => o = 38) m m' := by
  obtain ⟨⟨o1, o2, o3, o4, o5⟩, o6, o7⟩ := id hok
  intro f
  induction f with
  | zero => intro l v t N m h; omega
  | succ f ih =>
    intro l v t N m hs hft hN hl hv hT
    obtain ⟨N, rfl⟩ : ∃ z, N = z + 1 := ⟨N - 1, by omega⟩
    obtain ⟨y1, y2, y3⟩ := hT v hv
    obtain ⟨g1, g2, g3, g4⟩ := tgG_in hok hv
    have hca := (o7 v hv).1
    have hdr := drN_lt z t
    have hnv : nvA (fun i => T i 0) (tgG c n d P T) (chG c n d P T) z v t < c := by unfold nvA; split; exact hca; exact g2
    have hpk : pkS l c < 1024 := pkS_k o2 hl
    have key := fun K => sp_playK (X := nI (pkS l c)) (m := m) hok hz (show t ≤ 15 by omega) hv hT K
    have hF : Fr (fun o _ => o = 38) m (wI (wI m 38 6 (nI (nvA (fun i => T i 0) (tgG c n d P T) (chG c n d P T) z v t))) 38 7 (nI (t + 1))) := (Fr.rf.w (by rfl)).w (by rfl)
    have hpl : plA (fun i => T i 0) (tgG c n d P T) (chG c n d P T) z (f + 1) l v t = if l (nvA (fun i => T i 0) (tgG c n d P T) (chG c n d P T) z v t) < 3 then plA (fun i => T i 0) (tgG c n d P T) (chG c n d P T) z f (u1 l (nvA (fun i => T i 0) (tgG c n d P T) (chG c n d P T) z v t)) (nvA (fun i => T i 0) (tgG c n d P T) (chG c n d P T) z v t) (t + 1) else (nvA (fun i => T i 0) (tgG c n d P T) (chG c n d P T) z v t, t + 1) := rfl
    rw [fx_s, key, hpl]
    clear key hpl
    generalize nvA (fun i => T i 0) (tgG c n d P T) (chG c n d P T) z v t = nv at hnv hF ⊢
    have hat := pkS_at c hl hnv
    have hl3 := hl nv hnv
    have hlo := sp_lo2 (S := SF) hpk (show nv < 5 by omega) (wI (wI m 38 6 (nI nv)) 38 7 (nI (t + 1)))
    rw [hat] at hlo
    by_cases h3 : l nv < 3
    · obtain ⟨m', w1, w2, w3, w4⟩ := ih (u1 l nv) nv (t + 1) N (wI (wI m 38 6 (nI nv)) 38 7 (nI (t + 1))) (by have := slS_u h3 c hnv; omega) (by omega) (by omega) (fun k hk => by
        by_cases e : k = nv
        · subst e; rw [u1_v]; omega
        · rw [u1_n e]; exact hl k hk) hnv (fun k hk => by
        rw [gI_n _ _ _ _ _ _ (by omega), gI_n _ _ _ _ _ _ (by omega), gI_n _ _ _ _ _ _ (by omega), gI_n _ _ _ _ _ _ (by omega), gI_n _ _ _ _ _ _ (by omega), gI_n _ _ _ _ _ _ (by omega)]
        exact hT k hk)
      rw [pkS_u c hnv] at w1
      rw [if_pos h3]
      refine ⟨m', ?_, w2, w3, hF.tr w4⟩
      unfold f_Mr_playAfternoon_57
      have hi : nI (l nv) < nI 3 := (nI_ltI (by omega) (by omega)).mpr h3
      have hol := sp_ol (S := SF) (show nv < 5 by omega) (wI (wI m 38 6 (nI nv)) 38 7 (nI (t + 1)))
      simp only [oN, Option.bind_some, ↓reduceIte, ifT, ifF, eq_self, reduceCtorEq, nI_add, hlo, hi, hol, w1]
    · rw [if_neg h3]
      refine ⟨wI (wI m 38 6 (nI nv)) 38 7 (nI (t + 1)), ?_, ?_, gI_s _ _ _ _, hF⟩
      · unfold f_Mr_playAfternoon_57
        have hi : ¬ nI (l nv) < nI 3 := fun h => h3 ((nI_ltI (by omega) (by omega)).mp h)
        simp only [oN, Option.bind_some, ↓reduceIte, ifT, ifF, eq_self, reduceCtorEq, nI_add, hlo, hi]
      · rw [gI_n _ _ _ _ _ _ (by omega), gI_s]
def oMa : Nat → Nat → Prop := fun o k => oMo o k ∨ o = 120
theorem sp_mplayA {c n d z w : Nat} {P T : ba_T} (hok : okG c n d P T) (hz : z ≤ 9999) (hw : w < 2) : ∀ (f : Nat) (l : Nat → Nat) (v t N : Nat) (m : ba_M), slS l c < f → f + t ≤ 16 → f + 1 < N → (∀ k, k < c → l k ≤ 3) → v < c → GM m c n d P T → (∀ k, k < c → gI m 120 k = nI (l k)) →
    ∃ m', fx (fun _ _ _ _ _ _ => none) (b_Mo_afternoon_58 SF) N 102 (nI z) (nI w) (nI v) (nI t) m = some (if w = 0 then nI (plA (fun i => T i 0) (tgG c n d P T) (chG c n d P T) z f l v t).1 else nI (plA (fun i => T i 0) (tgG c n d P T) (chG c n d P T) z f l v t).2, m') ∧ Fr oMa m m' := by
  obtain ⟨⟨o1, o2, o3, o4, o5⟩, o6, o7⟩ := id hok
  intro f
  induction f with
  | zero => intro l v t N m h; omega
  | succ f ih =>
    intro l v t N m hs hft hN hl hv hG hH
    obtain ⟨N, rfl⟩ : ∃ z, N = z + 1 := ⟨N - 1, by omega⟩
    obtain ⟨g1, g2, g3, g4⟩ := tgG_in hok hv
    have hca := (o7 v hv).1
    have hdr := drN_lt z t
    have hnv : nvA (fun i => T i 0) (tgG c n d P T) (chG c n d P T) z v t < c := by unfold nvA; split; exact hca; exact g2
    obtain ⟨m1, e1, e2, e3⟩ := sp_go hG hok hv
    have e3' : RM m1 c n d P (T v 0) (T v 1) (btT P T v) := e3
    have r3 := e3'.2.2
    rw [g1] at r3
    have h18 : gI m1 102 18 = nI (tgG c n d P T v) := r3
    have h111 : gI m1 111 (tgG c n d P T v) = nI (chG c n d P T v) := (e3'.2.1 _ g2 g3).1
    have hG1 := hG.mo o2 e2
    have hT0 := (hG1.2.2.2.2 v hv).1
    have hlv := hl v hv
    have h120 : ∀ k, gI m1 120 k = gI m 120 k := fun k => e2.1 _ _ (by simp only [oMo]; omega)
    have key : ∀ K : Nat → Int32 → Int32 → Int32 → Int32 → ba_M → Option (Int32 × ba_M), b_Mo_afternoon_58 SF K 102 (nI z) (nI w) (nI v) (nI t) m = f_Mo_afternoon_143 SF K 102 (nI z) (nI w) (nI t) (nI (nvA (fun i => T i 0) (tgG c n d P T) (chG c n d P T) z v t)) m1 := by
      intro K
      have h4 : ¬ nI 4 ≤ nI (l v) := by rw [nI_leI (by omega) (by omega)]; omega
      have n1 : ¬ lN 65521 = 0 := lN_n0 (by omega) (by omega)
      have n2 : ¬ lN 10 = 0 := lN_n0 (by omega) (by omega)
      have hc : (0 ≤ lg_cmp (lN (drN z t)) (lN (chG c n d P T v))) ↔ chG c n d P T v ≤ drN z t := by rw [lg_cmp_ge, lN_le (by omega) (by omega)]
      unfold b_Mo_afternoon_58 f_Mo_afternoon_123 nvA
      rw [sp_drL hz (show t ≤ 16 by omega)]
      by_cases hle : chG c n d P T v ≤ drN z t
      · simp (disch := omega) only [oN, Option.bind_some, ↓reduceIte, ifT, ifF, eq_self, reduceCtorEq, cK_0, cK_1, cK_2, kl_2, bd_2, cK_3, cK_4, kl_4, bd_4, cK_5, cK_6, cK_7, kl_7, bd_7, cK_8, cK_25, cK_20, kl_20, bd_20, cK_21, kl_21, bd_21, cK_22, kl_22, bd_22, cK_23, cK_24, kl_24, bd_24, cK_37, cK_38, cK_39, kl_39, bd_39, cK_40, kl_40, bd_40, cK_41, kl_41, bd_41, cK_42, kl_42, bd_42, cK_43, kl_43, bd_43, cK_44, cK_45, kl_45, bd_45, cK_46, kl_46, bd_46, cK_47, kl_47, bd_47, cK_48, cK_49, kl_49, bd_49, cK_90, cK_91, kl_91, bd_91, cK_102, cK_103, kl_103, bd_103, cK_104, kl_104, bd_104, cK_105, kl_105, bd_105, cK_106, kl_106, bd_106, cK_107, kl_107, bd_107, cK_108, kl_108, bd_108, cK_109, kl_109, bd_109, cK_110, kl_110, bd_110, cK_111, kl_111, bd_111, cK_112, kl_112, bd_112, cK_113, kl_113, bd_113, cK_114, kl_114, bd_114, cK_115, kl_115, bd_115, cK_116, kl_116, bd_116, cK_117, kl_117, bd_117, cK_118, kl_118, bd_118, cK_119, kl_119, bd_119, cK_120, kl_120, bd_120, cK_121, kl_121, bd_121, ld_0_0, ld_0_1, ld_0_2, ld_0_3, ld_0_4, ld_0_5, ld_0_6, ld_0_7, ld_0_8, ld_0_9, ld_1_0, ld_3_0, ld_5_0, ld_5_1, ld_5_2, ld_5_3, ld_6_0, ld_6_1, ld_23_0, ld_23_1, ld_38_0, ld_38_1, ld_38_2, ld_38_3, ld_38_4, ld_44_0, ld_44_1, ld_44_2, ld_48_1, ld_90_1, ld_102_3, ld_102_4, ld_102_5, ld_102_8, ld_102_12, ld_102_13, ld_102_14, ld_102_15, ld_102_16, ld_102_17, ld_102_19, ld_102_20, ld_102_21, ld_102_22, ld_102_23, ld_102_25, ld_102_27, ld_102_28, ld_102_30, cK_pl, cK_to, cK_dp, cK_dt, cK_un, cK_ke, ld_pl, ld_to, ld_dp, ld_dt, ld_un, ld_ke, nI_clamp, hH v hv, h4, e1, n1, n2, h18, h111, nI_l, hc, hle, Bool.false_eq_true, hT0]
      · simp (disch := omega) only [oN, Option.bind_some, ↓reduceIte, ifT, ifF, eq_self, reduceCtorEq, cK_0, cK_1, cK_2, kl_2, bd_2, cK_3, cK_4, kl_4, bd_4, cK_5, cK_6, cK_7, kl_7, bd_7, cK_8, cK_25, cK_20, kl_20, bd_20, cK_21, kl_21, bd_21, cK_22, kl_22, bd_22, cK_23, cK_24, kl_24, bd_24, cK_37, cK_38, cK_39, kl_39, bd_39, cK_40, kl_40, bd_40, cK_41, kl_41, bd_41, cK_42, kl_42, bd_42, cK_43, kl_43, bd_43, cK_44, cK_45, kl_45, bd_45, cK_46, kl_46, bd_46, cK_47, kl_47, bd_47, cK_48, cK_49, kl_49, bd_49, cK_90, cK_91, kl_91, bd_91, cK_102, cK_103, kl_103, bd_103, cK_104, kl_104, bd_104, cK_105, kl_105, bd_105, cK_106, kl_106, bd_106, cK_107, kl_107, bd_107, cK_108, kl_108, bd_108, cK_109, kl_109, bd_109, cK_110, kl_110, bd_110, cK_111, kl_111, bd_111, cK_112, kl_112, bd_112, cK_113, kl_113, bd_113, cK_114, kl_114, bd_114, cK_115, kl_115, bd_115, cK_116, kl_116, bd_116, cK_117, kl_117, bd_117, cK_118, kl_118, bd_118, cK_119, kl_119, bd_119, cK_120, kl_120, bd_120, cK_121, kl_121, bd_121, ld_0_0, ld_0_1, ld_0_2, ld_0_3, ld_0_4, ld_0_5, ld_0_6, ld_0_7, ld_0_8, ld_0_9, ld_1_0, ld_3_0, ld_5_0, ld_5_1, ld_5_2, ld_5_3, ld_6_0, ld_6_1, ld_23_0, ld_23_1, ld_38_0, ld_38_1, ld_38_2, ld_38_3, ld_38_4, ld_44_0, ld_44_1, ld_44_2, ld_48_1, ld_90_1, ld_102_3, ld_102_4, ld_102_5, ld_102_8, ld_102_12, ld_102_13, ld_102_14, ld_102_15, ld_102_16, ld_102_17, ld_102_19, ld_102_20, ld_102_21, ld_102_22, ld_102_23, ld_102_25, ld_102_27, ld_102_28, ld_102_30, cK_pl, cK_to, cK_dp, cK_dt, cK_un, cK_ke, ld_pl, ld_to, ld_dp, ld_dt, ld_un, ld_ke, nI_clamp, hH v hv, h4, e1, n1, n2, h18, h111, nI_l, hc, hle]
    have hpl : plA (fun i => T i 0) (tgG c n d P T) (chG c n d P T) z (f + 1) l v t = if l (nvA (fun i => T i 0) (tgG c n d P T) (chG c n d P T) z v t) < 3 then plA (fun i => T i 0) (tgG c n d P T) (chG c n d P T) z f (u1 l (nvA (fun i => T i 0) (tgG c n d P T) (chG c n d P T) z v t)) (nvA (fun i => T i 0) (tgG c n d P T) (chG c n d P T) z v t) (t + 1) else (nvA (fun i => T i 0) (tgG c n d P T) (chG c n d P T) z v t, t + 1) := rfl
    rw [fx_s, key, hpl]
    clear key hpl h18 h111 r3 e3 e3'
    generalize nvA (fun i => T i 0) (tgG c n d P T) (chG c n d P T) z v t = nv at hnv ⊢
    have hl3 := hl nv hnv
    have hF : Fr oMa m (wI m1 120 nv (nI (l nv + 1))) := (e2.up (fun o k h => Or.inl h)).w (Or.inr rfl)
    have hH2 : ∀ k, k < c → gI (wI m1 120 nv (nI (l nv + 1))) 120 k = nI (u1 l nv k) := by
      intro k hk
      by_cases e : k = nv
      · subst e; rw [u1_v, gI_s]
      · rw [u1_n e, gI_n _ _ _ _ _ _ (by omega), h120]; exact hH k hk
    have step : ∀ K : Nat → Int32 → Int32 → Int32 → Int32 → ba_M → Option (Int32 × ba_M), f_Mo_afternoon_143 SF K 102 (nI z) (nI w) (nI t) (nI nv) m1 = K 102 (nI z) (nI w) (nI nv) (nI (t + 1)) (wI m1 120 nv (nI (l nv + 1))) := by
      intro K
      unfold f_Mo_afternoon_143
      simp (disch := omega) only [oN, Option.bind_some, ↓reduceIte, ifT, ifF, eq_self, reduceCtorEq, cK_0, cK_1, cK_2, kl_2, bd_2, cK_3, cK_4, kl_4, bd_4, cK_5, cK_6, cK_7, kl_7, bd_7, cK_8, cK_25, cK_20, kl_20, bd_20, cK_21, kl_21, bd_21, cK_22, kl_22, bd_22, cK_23, cK_24, kl_24, bd_24, cK_37, cK_38, cK_39, kl_39, bd_39, cK_40, kl_40, bd_40, cK_41, kl_41, bd_41, cK_42, kl_42, bd_42, cK_43, kl_43, bd_43, cK_44, cK_45, kl_45, bd_45, cK_46, kl_46, bd_46, cK_47, kl_47, bd_47, cK_48, cK_49, kl_49, bd_49, cK_90, cK_91, kl_91, bd_91, cK_102, cK_103, kl_103, bd_103, cK_104, kl_104, bd_104, cK_105, kl_105, bd_105, cK_106, kl_106, bd_106, cK_107, kl_107, bd_107, cK_108, kl_108, bd_108, cK_109, kl_109, bd_109, cK_110, kl_110, bd_110, cK_111, kl_111, bd_111, cK_112, kl_112, bd_112, cK_113, kl_113, bd_113, cK_114, kl_114, bd_114, cK_115, kl_115, bd_115, cK_116, kl_116, bd_116, cK_117, kl_117, bd_117, cK_118, kl_118, bd_118, cK_119, kl_119, bd_119, cK_120, kl_120, bd_120, cK_121, kl_121, bd_121, ld_0_0, ld_0_1, ld_0_2, ld_0_3, ld_0_4, ld_0_5, ld_0_6, ld_0_7, ld_0_8, ld_0_9, ld_1_0, ld_3_0, ld_5_0, ld_5_1, ld_5_2, ld_5_3, ld_6_0, ld_6_1, ld_23_0, ld_23_1, ld_38_0, ld_38_1, ld_38_2, ld_38_3, ld_38_4, ld_44_0, ld_44_1, ld_44_2, ld_48_1, ld_90_1, ld_102_3, ld_102_4, ld_102_5, ld_102_8, ld_102_12, ld_102_13, ld_102_14, ld_102_15, ld_102_16, ld_102_17, ld_102_19, ld_102_20, ld_102_21, ld_102_22, ld_102_23, ld_102_25, ld_102_27, ld_102_28, ld_102_30, cK_pl, cK_to, cK_dp, cK_dt, cK_un, cK_ke, ld_pl, ld_to, ld_dp, ld_dt, ld_un, ld_ke, nI_clamp, h120, hH nv hnv, nI_add]
    rw [step]
    by_cases h3 : l nv < 3
    · obtain ⟨m', w1, w2⟩ := ih (u1 l nv) nv (t + 1) N (wI m1 120 nv (nI (l nv + 1))) (by have := slS_u h3 c hnv; omega) (by omega) (by omega) (fun k hk => by
        by_cases e : k = nv
        · subst e; rw [u1_v]; omega
        · rw [u1_n e]; exact hl k hk) hnv (hG.fr o2 hF (by intro o k ho; simp only [oMa, oMo] at ho; omega)) hH2
      rw [if_pos h3]
      exact ⟨m', w1, hF.tr w2⟩
    · rw [if_neg h3]
      refine ⟨wI m1 120 nv (nI (l nv + 1)), ?_, hF⟩
      obtain ⟨N, rfl⟩ : ∃ z, N = z + 1 := ⟨N - 1, by omega⟩
      rw [fx_s]
      generalize fx (fun _ _ _ _ _ _ => none) (b_Mo_afternoon_58 SF) N = K
      have h4 : nI 4 ≤ nI (u1 l nv nv) := by rw [u1_v, nI_leI (by omega) (by omega)]; omega
      unfold b_Mo_afternoon_58 f_Mo_afternoon_170
      simp (disch := omega) only [oN, Option.bind_some, ↓reduceIte, ifT, ifF, eq_self, reduceCtorEq, cK_0, cK_1, cK_2, kl_2, bd_2, cK_3, cK_4, kl_4, bd_4, cK_5, cK_6, cK_7, kl_7, bd_7, cK_8, cK_25, cK_20, kl_20, bd_20, cK_21, kl_21, bd_21, cK_22, kl_22, bd_22, cK_23, cK_24, kl_24, bd_24, cK_37, cK_38, cK_39, kl_39, bd_39, cK_40, kl_40, bd_40, cK_41, kl_41, bd_41, cK_42, kl_42, bd_42, cK_43, kl_43, bd_43, cK_44, cK_45, kl_45, bd_45, cK_46, kl_46, bd_46, cK_47, kl_47, bd_47, cK_48, cK_49, kl_49, bd_49, cK_90, cK_91, kl_91, bd_91, cK_102, cK_103, kl_103, bd_103, cK_104, kl_104, bd_104, cK_105, kl_105, bd_105, cK_106, kl_106, bd_106, cK_107, kl_107, bd_107, cK_108, kl_108, bd_108, cK_109, kl_109, bd_109, cK_110, kl_110, bd_110, cK_111, kl_111, bd_111, cK_112, kl_112, bd_112, cK_113, kl_113, bd_113, cK_114, kl_114, bd_114, cK_115, kl_115, bd_115, cK_116, kl_116, bd_116, cK_117, kl_117, bd_117, cK_118, kl_118, bd_118, cK_119, kl_119, bd_119, cK_120, kl_120, bd_120, cK_121, kl_121, bd_121, ld_0_0, ld_0_1, ld_0_2, ld_0_3, ld_0_4, ld_0_5, ld_0_6, ld_0_7, ld_0_8, ld_0_9, ld_1_0, ld_3_0, ld_5_0, ld_5_1, ld_5_2, ld_5_3, ld_6_0, ld_6_1, ld_23_0, ld_23_1, ld_38_0, ld_38_1, ld_38_2, ld_38_3, ld_38_4, ld_44_0, ld_44_1, ld_44_2, ld_48_1, ld_90_1, ld_102_3, ld_102_4, ld_102_5, ld_102_8, ld_102_12, ld_102_13, ld_102_14, ld_102_15, ld_102_16, ld_102_17, ld_102_19, ld_102_20, ld_102_21, ld_102_22, ld_102_23, ld_102_25, ld_102_27, ld_102_28, ld_102_30, cK_pl, cK_to, cK_dp, cK_dt, cK_un, cK_ke, ld_pl, ld_to, ld_dp, ld_dt, ld_un, ld_ke, nI_clamp, hH2 nv hnv, h4, z0, nI_eq]
      split <;> rfl
