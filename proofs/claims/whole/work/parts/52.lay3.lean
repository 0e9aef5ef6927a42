theorem nx_rem {c i : Nat} (hi : i < c) (hc : c ≤ 5) : nI (i + 1) - nI (i + 1) / nI c * nI c = nI (nxC c i) := by
  match c, hc, i, hi with
  | 1, _, 0, _ => decide
  | 2, _, 0, _ => decide
  | 2, _, 1, _ => decide
  | 3, _, 0, _ => decide
  | 3, _, 1, _ => decide
  | 3, _, 2, _ => decide
  | 4, _, 0, _ => decide
  | 4, _, 1, _ => decide
  | 4, _, 2, _ => decide
  | 4, _, 3, _ => decide
  | 5, _, 0, _ => decide
  | 5, _, 1, _ => decide
  | 5, _, 2, _ => decide
  | 5, _, 3, _ => decide
  | 5, _, 4, _ => decide
theorem sp_mcalls {c n d : Nat} {P T : ba_T} (hs : okD (c, n, d, P, T)) : ∀ (r i N : Nat) (m : ba_M), c - i = r → i ≤ c → r < N → GR m (c, n, d, P, tlU c P T i) →
    ∃ m', fx (fun _ _ _ => none) (b_Mo_calls_2 SF) N 102 (nI i) m = some m' ∧ Fr (fun o _ => o = 108) m m' ∧ GR m' (c, n, d, P, tlU c P T c) := by
  obtain ⟨o1, o2, o3, o4, o5⟩ := id hs
  dsimp only at o1 o2 o3 o4 o5
  intro r
  induction r with
  | zero =>
    intro i N m hr hi hN hG
    obtain ⟨N, rfl⟩ : ∃ z, N = z + 1 := ⟨N - 1, by omega⟩
    obtain rfl : i = c := by omega
    refine ⟨m, ?_, Fr.rf, hG⟩
    have h1 : gI m 102 11 = nI i := hG.1
    rw [fx_s]
    generalize fx (fun _ _ _ => none) (b_Mo_calls_2 SF) N = K
    unfold b_Mo_calls_2
    rw [h1, if_pos (by rw [nI_leI (by omega) (by omega)]; omega)]
  | succ r ih =>
    intro i N m hr hi hN hG
    obtain ⟨N, rfl⟩ : ∃ z, N = z + 1 := ⟨N - 1, by omega⟩
    obtain ⟨j1, j2, j3, j4⟩ := id hG
    dsimp only at j1 j2 j3 j4
    have hi5 : i < 5 := by omega
    obtain ⟨-, b1, b2, b3⟩ := j4 i (by omega)
    have hT : tlU c P T i i = T i := if_neg (by omega)
    rw [hT] at b1 b2 b3
    obtain ⟨-, t2, -⟩ := o5 i (by omega)
    have hU : ∀ k, k ≠ i → tlU c P T (i + 1) k = tlU c P T i k := fun k hk => by
      unfold tlU
      by_cases h1 : k < i
      · rw [if_pos (by omega), if_pos h1]
      · rw [if_neg (by omega), if_neg h1]
    have hUi : tlU c P T (i + 1) i = tlD c P T i := if_pos (by omega)
    have ih' := fun m => ih (i + 1) N m (by omega) (by omega) (by omega)
    have hb := fun r : Option ba_M => bd_108 (show i < 15 by omega) r
    have hb5 := fun r : Option ba_M => bd_108 (show 5 + i < 15 by omega) r
    have hb10 := fun r : Option ba_M => bd_108 (show 10 + i < 15 by omega) r
    have hcl := nI_clamp (show i < 2 ^ 31 by omega)
    rw [fx_s]
    generalize fx (fun _ _ _ => none) (b_Mo_calls_2 SF) N = K at ih' ⊢
    unfold b_Mo_calls_2 f_Mo_calls_66
    rw [j1, if_neg (by rw [nI_leI (by omega) (by omega)]; omega), ld_102_13, hb, hcl, b1]
    by_cases h5 : T i 0 = 5
    · have hnx : nxC c i < c := by unfold nxC; split <;> omega
      have hcal : cal (T i 0) = -4 := if_pos h5
      have hc0 : ¬ nI c = 0 := fun e => by have := nI_inj (by omega) (by omega) (show nI c = nI 0 from e); omega
      have hp := (j4 (nxC c i) hnx).1.1
      have y1 : gI (wI m 108 i (nI (nxC c i))) 108 i = nI (nxC c i) := gI_s _ _ _ _
      have y2 : gI (wI m 108 i (nI (nxC c i))) 107 (5 * nxC c i) = nI (P (nxC c i) 0) := (gI_n _ _ _ _ _ _ (by omega)).trans hp
      rw [if_pos hcal, ld_102_13, if_neg hc0, hb, ld_102_13, ld_102_12, ld_102_13, hb, nI_add, nx_rem (by omega) o4, y1, pk_mul, bd_107 (show 5 * nxC c i < 25 by omega), nI_add, hb5, ld_102_13, nI_add, hb10, nI_clamp (show 5 * nxC c i < 2 ^ 31 by omega), y2, nI_clamp (show 5 + i < 2 ^ 31 by omega), nI_clamp (show 10 + i < 2 ^ 31 by omega)]
      have hF : Fr (fun o k => o = 108 ∧ (k = i ∨ k = 5 + i ∨ k = 10 + i)) m (wI (wI (wI m 108 i (nI (nxC c i))) 108 (5 + i) (nI (P (nxC c i) 0))) 108 (10 + i) (nI 1)) := ((Fr.rf.w ⟨rfl, Or.inl rfl⟩).w ⟨rfl, Or.inr (Or.inl rfl)⟩).w ⟨rfl, Or.inr (Or.inr rfl)⟩
      have x0 : gI (wI (wI (wI m 108 i (nI (nxC c i))) 108 (5 + i) (nI (P (nxC c i) 0))) 108 (10 + i) (nI 1)) 108 i = nI (nxC c i) := by rw [gI_n _ _ _ _ _ _ (by omega), gI_n _ _ _ _ _ _ (by omega)]; exact gI_s _ _ _ _
      have x1 : gI (wI (wI (wI m 108 i (nI (nxC c i))) 108 (5 + i) (nI (P (nxC c i) 0))) 108 (10 + i) (nI 1)) 108 (5 + i) = nI (P (nxC c i) 0) := by rw [gI_n _ _ _ _ _ _ (by omega)]; exact gI_s _ _ _ _
      have x2 : gI (wI (wI (wI m 108 i (nI (nxC c i))) 108 (5 + i) (nI (P (nxC c i) 0))) 108 (10 + i) (nI 1)) 108 (10 + i) = nI 1 := gI_s _ _ _ _
      generalize wI (wI (wI m 108 i (nI (nxC c i))) 108 (5 + i) (nI (P (nxC c i) 0))) 108 (10 + i) (nI 1) = m2 at hF x0 x1 x2 ⊢
      have e : ∀ o k, (o = 108 → k ≠ i ∧ k ≠ 5 + i ∧ k ≠ 10 + i) → gI m2 o k = gI m o k := fun o k h1 => hF.1 o k (fun q => by have := h1 q.1; omega)
      obtain ⟨m', u1, u2, u3⟩ := ih' m2 ⟨(e _ _ (by omega)).trans j1, (e _ _ (by omega)).trans j2, (e _ _ (by omega)).trans j3, fun k hk => by
        dsimp only at hk
        obtain ⟨⟨a1, a2, a3, a4, a5⟩, c1, c2, c3⟩ := j4 k hk
        refine ⟨⟨(e _ _ (by omega)).trans a1, (e _ _ (by omega)).trans a2, (e _ _ (by omega)).trans a3, (e _ _ (by omega)).trans a4, (e _ _ (by omega)).trans a5⟩, ?_⟩
        dsimp only
        by_cases hk0 : k = i
        · subst hk0
          rw [hUi]
          unfold tlD
          rw [if_pos h5]
          refine ⟨x0.trans ?_, fun _ => ⟨x1, x2⟩, (e _ _ (by omega)).trans b3⟩
          show nI (nxC c k) = cal (nxC c k)
          unfold cal
          rw [if_neg (by omega)]
        · rw [hU k hk0]
          exact ⟨(e _ _ (by omega)).trans c1, fun q => ⟨(e _ _ (by omega)).trans (c2 q).1, (e _ _ (by omega)).trans (c2 q).2⟩, (e _ _ (by omega)).trans c3⟩⟩
      exact ⟨m', u1, (hF.up (fun o k h => h.1)).tr u2, u3⟩
    · have hcal : ¬ cal (T i 0) = -4 := by
        unfold cal
        rw [if_neg h5]
        exact nI_nneg (by omega) _ (by decide)
      obtain ⟨m', u1, u2, u3⟩ := ih' m ⟨j1, j2, j3, fun k hk => by
        dsimp only
        by_cases hk0 : k = i
        · subst hk0
          have hT2 : tlU c P T (k + 1) k = tlU c P T k k := by
            rw [hUi, hT]
            exact if_neg h5
          rw [hT2]
          exact j4 k hk
        · rw [hU k hk0]
          exact j4 k hk⟩
      refine ⟨m', ?_, u2, u3⟩
      rw [if_neg hcal, nI_add]
      exact u1
theorem sp_m99 : ∀ (r i N : Nat) (m : ba_M), i + r = 25 → r < N → (∀ j, j < i → gI m 103 j = gI m 107 j) →
    ∃ m', fx (fun _ _ _ => none) (b_Mo_lay_99 SF) N 102 (nI i) m = f_Mo_lay_125 SF 102 (nI 0) m' ∧ Fr (fun o _ => o = 103) m m' ∧ ∀ j, j < 25 → gI m' 103 j = gI m 107 j := by
  intro r
  induction r with
  | zero =>
    intro i N m hi hN h
    obtain ⟨N, rfl⟩ : ∃ z, N = z + 1 := ⟨N - 1, by omega⟩
    obtain rfl : i = 25 := by omega
    refine ⟨m, ?_, Fr.rf, h⟩
    rw [fx_s]
    generalize fx (fun _ _ _ => none) (b_Mo_lay_99 SF) N = K
    unfold b_Mo_lay_99
    rw [if_pos (by rw [nI_leI (by omega) (by omega)]; omega)]
  | succ r ih =>
    intro i N m hi hN h
    obtain ⟨N, rfl⟩ : ∃ z, N = z + 1 := ⟨N - 1, by omega⟩
    have hF : Fr (fun o _ => o = 103) m (wI m 103 i (gI m 107 i)) := Fr.rf.w (by rfl)
    have e7 : ∀ j, gI (wI m 103 i (gI m 107 i)) 107 j = gI m 107 j := fun j => gI_n _ _ _ _ _ _ (by omega)
    obtain ⟨m', u1, u2, u3⟩ := ih (i + 1) N (wI m 103 i (gI m 107 i)) (by omega) (by omega) (fun j hj => by
      rw [e7]
      by_cases e : j = i
      · subst e; exact gI_s _ _ _ _
      · rw [gI_n _ _ _ _ _ _ (by omega)]; exact h j (by omega))
    refine ⟨m', ?_, hF.tr u2, fun j hj => (u3 j hj).trans (e7 j)⟩
    rw [fx_s]
    generalize fx (fun _ _ _ => none) (b_Mo_lay_99 SF) N = K at u1 ⊢
    unfold b_Mo_lay_99
    rw [if_neg (by rw [nI_leI (by omega) (by omega)]; omega), ld_102_3, ld_102_12, bd_107 (show i < 25 by omega), bd_103 (show i < 25 by omega), nI_clamp (show i < 2 ^ 31 by omega), nI_add]
    exact u1
theorem sp_m125 : ∀ (r i N : Nat) (m : ba_M), i + r = 15 → r < N → (∀ j, j < i → gI m 104 j = gI m 108 j) →
    ∃ m', fx (fun _ _ _ => none) (b_Mo_lay_125 SF) N 102 (nI i) m = f_Mo_lay_151 SF 102 (nI 0) m' ∧ Fr (fun o _ => o = 104) m m' ∧ ∀ j, j < 15 → gI m' 104 j = gI m 108 j := by
  intro r
  induction r with
  | zero =>
    intro i N m hi hN h
    obtain ⟨N, rfl⟩ : ∃ z, N = z + 1 := ⟨N - 1, by omega⟩
    obtain rfl : i = 15 := by omega
    refine ⟨m, ?_, Fr.rf, h⟩
    rw [fx_s]
    generalize fx (fun _ _ _ => none) (b_Mo_lay_125 SF) N = K
    unfold b_Mo_lay_125
    rw [if_pos (by rw [nI_leI (by omega) (by omega)]; omega)]
  | succ r ih =>
    intro i N m hi hN h
    obtain ⟨N, rfl⟩ : ∃ z, N = z + 1 := ⟨N - 1, by omega⟩
    have hF : Fr (fun o _ => o = 104) m (wI m 104 i (gI m 108 i)) := Fr.rf.w (by rfl)
    have e7 : ∀ j, gI (wI m 104 i (gI m 108 i)) 108 j = gI m 108 j := fun j => gI_n _ _ _ _ _ _ (by omega)
    obtain ⟨m', u1, u2, u3⟩ := ih (i + 1) N (wI m 104 i (gI m 108 i)) (by omega) (by omega) (fun j hj => by
      rw [e7]
      by_cases e : j = i
      · subst e; exact gI_s _ _ _ _
      · rw [gI_n _ _ _ _ _ _ (by omega)]; exact h j (by omega))
    refine ⟨m', ?_, hF.tr u2, fun j hj => (u3 j hj).trans (e7 j)⟩
    rw [fx_s]
    generalize fx (fun _ _ _ => none) (b_Mo_lay_125 SF) N = K at u1 ⊢
    unfold b_Mo_lay_125
    rw [if_neg (by rw [nI_leI (by omega) (by omega)]; omega), ld_102_4, ld_102_13, bd_108 (show i < 15 by omega), bd_104 (show i < 20 by omega), nI_clamp (show i < 2 ^ 31 by omega), nI_add]
    exact u1
def oL1 : Nat → Nat → Prop := fun o k => o = 104 ∧ 15 ≤ k ∨ o = 102 ∧ (k = 24 ∨ k = 26 ∨ k = 29)
theorem sp_m151 {c : Nat} (hc : c ≤ 5) : ∀ (r i N : Nat) (m : ba_M), i + r = 5 → r < N → gI m 102 2 = nI c → (∀ j, j < i → j < c → gI m 104 (15 + j) = gI m 109 j) →
    ∃ m', fx (fun _ _ _ => none) (b_Mo_lay_151 SF) N 102 (nI i) m = some (nI c, m') ∧ Fr oL1 m m' ∧ (∀ j, j < c → gI m' 104 (15 + j) = gI m 109 j) ∧ gI m' 102 24 = nI 0 ∧ gI m' 102 26 = nI 0 ∧ gI m' 102 29 = nI 0 := by
  intro r
  induction r with
  | zero =>
    intro i N m hi hN h2 h
    obtain ⟨N, rfl⟩ : ∃ z, N = z + 1 := ⟨N - 1, by omega⟩
    obtain rfl : i = 5 := by omega
    have hF : Fr (fun o k => o = 102 ∧ (k = 24 ∨ k = 26 ∨ k = 29)) m (wI (wI (wI m 102 26 (nI 0)) 102 24 (nI 0)) 102 29 (nI 0)) := ((Fr.rf.w ⟨rfl, by omega⟩).w ⟨rfl, by omega⟩).w ⟨rfl, by omega⟩
    refine ⟨_, ?_, hF.up (fun o k q => Or.inr q), fun j hj => (hF.1 _ _ (by omega)).trans (h j (by omega) hj), ?_, ?_, gI_s _ _ _ _⟩
    · rw [fx_s]
      generalize fx (fun _ _ _ => none) (b_Mo_lay_151 SF) N = K
      unfold b_Mo_lay_151
      rw [if_pos (by rw [nI_leI (by omega) (by omega)]; omega), hF.1 102 2 (by omega), h2]
    · rw [gI_n _ _ _ _ _ _ (by omega)]; exact gI_s _ _ _ _
    · rw [gI_n _ _ _ _ _ _ (by omega), gI_n _ _ _ _ _ _ (by omega)]; exact gI_s _ _ _ _
  | succ r ih =>
    intro i N m hi hN h2 h
    obtain ⟨N, rfl⟩ : ∃ z, N = z + 1 := ⟨N - 1, by omega⟩
    have step : ∀ x : Int32, (i < c → x = gI m 109 i) → (∀ K : Nat → Int32 → ba_M → Option (Int32 × ba_M), b_Mo_lay_151 SF K 102 (nI i) m = K 102 (nI (i + 1)) (wI m 104 (15 + i) x)) → ∃ m', fx (fun _ _ _ => none) (b_Mo_lay_151 SF) (N + 1) 102 (nI i) m = some (nI c, m') ∧ Fr oL1 m m' ∧ (∀ j, j < c → gI m' 104 (15 + j) = gI m 109 j) ∧ gI m' 102 24 = nI 0 ∧ gI m' 102 26 = nI 0 ∧ gI m' 102 29 = nI 0 := by
      intro x hx hK
      have hF : Fr oL1 m (wI m 104 (15 + i) x) := Fr.rf.w (Or.inl ⟨rfl, by omega⟩)
      have e7 : ∀ j, gI (wI m 104 (15 + i) x) 109 j = gI m 109 j := fun j => gI_n _ _ _ _ _ _ (by omega)
      obtain ⟨m', u1, u2, u3, u4⟩ := ih (i + 1) N (wI m 104 (15 + i) x) (by omega) (by omega) ((gI_n _ _ _ _ _ _ (by omega)).trans h2) (fun j hj hjc => by
        rw [e7]
        by_cases e : j = i
        · subst e; exact (gI_s _ _ _ _).trans (hx hjc)
        · rw [gI_n _ _ _ _ _ _ (by omega)]; exact h j (by omega) hjc)
      refine ⟨m', ?_, hF.tr u2, fun j hj => (u3 j hj).trans (e7 j), u4⟩
      rw [fx_s, hK]
      exact u1
    by_cases hic : i < c
    · refine step (gI m 109 i) (fun _ => rfl) (fun K => ?_)
      unfold b_Mo_lay_151 f_Mo_lay_182
      rw [if_neg (by rw [nI_leI (by omega) (by omega)]; omega), ld_102_4, h2, if_neg (by rw [nI_leI (by omega) (by omega)]; omega), ld_102_14, bd_109 (show i < 5 by omega), nI_add, bd_104 (show 15 + i < 20 by omega), nI_clamp (show 15 + i < 2 ^ 31 by omega), nI_clamp (show i < 2 ^ 31 by omega), nI_add]
    · refine step (nI 0) (fun h => absurd h hic) (fun K => ?_)
      unfold b_Mo_lay_151 f_Mo_lay_182
      rw [if_neg (by rw [nI_leI (by omega) (by omega)]; omega), ld_102_4, h2, if_pos (by rw [nI_leI (by omega) (by omega)]; omega), nI_add, bd_104 (show 15 + i < 20 by omega), nI_clamp (show 15 + i < 2 ^ 31 by omega), nI_add]
def m26 (m : ba_M) (c n d : Nat) : ba_M := wI (wI (wI m 102 0 (nI n)) 102 1 (nI d)) 102 2 (nI c)
theorem sp_m26 {c n d : Nat} {P U : ba_T} {m : ba_M} (hG : GR m (c, n, d, P, U)) (hc : c ≤ 5) (hn : n ≤ 40) (hU : ∀ i, i < c → U i 0 ≠ 5 ∧ P i 0 ≤ 40 ∧ U i 1 ≤ 40) : ∀ (r i N : Nat), c - i = r → i ≤ c → r < N →
    ((∀ k, i ≤ k → k < c → P k 0 ≤ n ∧ U k 1 ≤ n) → fx (fun _ _ _ => none) (b_Mo_lay_26 SF) N 102 (nI i) m = f_Mo_lay_99 SF 102 (nI 0) (m26 m c n d)) ∧ ((¬ ∀ k, i ≤ k → k < c → P k 0 ≤ n ∧ U k 1 ≤ n) → fx (fun _ _ _ => none) (b_Mo_lay_26 SF) N 102 (nI i) m = some (-2, m)) := by
  obtain ⟨j1, j2, j3, j4⟩ := hG
  dsimp only at j1 j2 j3 j4
  intro r
  induction r with
  | zero =>
    intro i N hr hi hN
    obtain ⟨N, rfl⟩ : ∃ z, N = z + 1 := ⟨N - 1, by omega⟩
    obtain rfl : i = c := by omega
    refine ⟨fun _ => ?_, fun h => absurd (fun k h1 h2 => by omega) h⟩
    rw [fx_s]
    generalize fx (fun _ _ _ => none) (b_Mo_lay_26 SF) N = K
    unfold b_Mo_lay_26 m26
    rw [j1, if_pos (by rw [nI_leI (by omega) (by omega)]; omega), j2, gI_n _ _ _ _ _ _ (by omega), j3, gI_n _ _ _ _ _ _ (by omega), gI_n _ _ _ _ _ _ (by omega), j1]
  | succ r ih =>
    intro i N hr hi hN
    obtain ⟨N, rfl⟩ : ∃ z, N = z + 1 := ⟨N - 1, by omega⟩
    obtain ⟨i1, i2⟩ := ih (i + 1) N (by omega) (by omega) (by omega)
    obtain ⟨⟨a1, -⟩, -, b2, -⟩ := j4 i (by omega)
    obtain ⟨h5, p1, p2⟩ := hU i (by omega)
    have b2 := (b2 h5).1
    rw [fx_s]
    generalize fx (fun _ _ _ => none) (b_Mo_lay_26 SF) N = K at i1 i2 ⊢
    unfold b_Mo_lay_26 f_Mo_lay_64
    rw [j1, if_neg (by rw [nI_leI (by omega) (by omega)]; omega), ld_102_12, pk_mul, bd_107 (show 5 * i < 25 by omega), nI_clamp (show 5 * i < 2 ^ 31 by omega), a1, j2, ld_102_13, nI_add, bd_108 (show 5 + i < 15 by omega), nI_clamp (show 5 + i < 2 ^ 31 by omega), b2, nI_add]
    by_cases h1 : P i 0 ≤ n
    · rw [if_neg (by rw [nI_ltI (by omega) (by omega)]; omega)]
      by_cases h2 : U i 1 ≤ n
      · rw [if_pos (by rw [nI_leI (by omega) (by omega)]; omega)]
        refine ⟨fun h => i1 (fun k h3 h4 => h k (by omega) h4), fun h => i2 (fun q => h (fun k h3 h4 => ?_))⟩
        by_cases e : k = i
        · subst e; exact ⟨h1, h2⟩
        · exact q k (by omega) h4
      · rw [if_neg (by rw [nI_leI (by omega) (by omega)]; omega)]
        exact ⟨fun h => absurd (h i (Nat.le_refl _) (by omega)).2 h2, fun _ => rfl⟩
    · rw [if_pos (by rw [nI_ltI (by omega) (by omega)]; omega)]
      exact ⟨fun h => absurd (h i (Nat.le_refl _) (by omega)).1 h1, fun _ => rfl⟩
