/-! the reference's numbers -/
def oMn : Nat → Nat → Prop := fun o k => o = 102 ∧ k = 7 ∨ o = 106
theorem sp_mstep {l : Nat} {Y : Nat → Int32} {n k p : Nat} {m : ba_M} (hM : MT m l Y) (h7 : gI m 102 7 = nI p) (hp : p < 900) (hk : k < n) (hn : n ≤ 5) : (numN Y p = none ∧ ∀ K : Nat → Int32 → Int32 → ba_M → Option (Bool × ba_M), b_Mo_readNumbers_2 SF K 102 (nI n) (nI k) m = some (false, m)) ∨ ∃ v q m', numN Y p = some (v, q) ∧ (∀ K : Nat → Int32 → Int32 → ba_M → Option (Bool × ba_M), b_Mo_readNumbers_2 SF K 102 (nI n) (nI k) m = f_Mo_readNumbers_101 SF K 102 (nI n) (nI k) m') ∧ Fr (fun o j => o = 102 ∧ j = 7 ∨ o = 106 ∧ j = k) m m' ∧ gI m' 102 7 = nI q ∧ gI m' 106 k = nI v := by
  have hlt : ¬ nI n ≤ nI k := by rw [nI_leI (by omega) (by omega)]; omega
  have b1 := sp_mbyte hM (show p < 1000 by omega)
  have hb := fun r : Option (Bool × ba_M) => bd_106 (show k < 5 by omega) r
  have hcl := nI_clamp (show k < 2 ^ 31 by omega)
  rcases fg_cases (Y p) with ⟨a, ha, ya, fa, da⟩ | ⟨fa, da⟩
  · right
    have hF1 : Fr (fun o j => o = 102 ∧ j = 7 ∨ o = 106 ∧ j = k) m (wI (wI m 106 k (nI a)) 102 7 (nI (p + 1))) := (Fr.rf.w (Or.inr ⟨rfl, rfl⟩)).w (Or.inl ⟨rfl, rfl⟩)
    have hM1 := hM.fr hF1 (by intro o j ho; omega)
    have h71 : gI (wI (wI m 106 k (nI a)) 102 7 (nI (p + 1))) 102 7 = nI (p + 1) := gI_s _ _ _ _
    have hk1 : gI (wI (wI m 106 k (nI a)) 102 7 (nI (p + 1))) 106 k = nI a := by rw [gI_n _ _ _ _ _ _ (by omega)]; exact gI_s _ _ _ _
    have h7a : gI (wI m 106 k (nI a)) 102 7 = nI p := by rw [gI_n _ _ _ _ _ _ (by omega)]; exact h7
    have b2 := sp_mbyte hM1 (show p + 1 < 1000 by omega)
    have e1 : Y p - nI 48 = nI a := by rw [ya, pk_sub (by omega)]; exact congrArg nI (by omega)
    have hs : f_Mo_isFigure SF (Y p) m = some (true, m) := by rw [sp_mfig, da]
    rcases fg_cases (Y (p + 1)) with ⟨b, hbb, yb, fb, db⟩ | ⟨fb, db⟩
    · have hF2 : Fr (fun o j => o = 102 ∧ j = 7 ∨ o = 106 ∧ j = k) m (wI (wI (wI (wI m 106 k (nI a)) 102 7 (nI (p + 1))) 106 k (nI (10 * a + b))) 102 7 (nI (p + 2))) := (hF1.w (Or.inr ⟨rfl, rfl⟩)).w (Or.inl ⟨rfl, rfl⟩)
      have e2 : nI 10 * nI a + Y (p + 1) - nI 48 = nI (10 * a + b) := by rw [yb, pk_mul, nI_add, pk_sub (by omega)]; exact congrArg nI (by omega)
      have hs2 : f_Mo_isFigure SF (Y (p + 1)) (wI (wI m 106 k (nI a)) 102 7 (nI (p + 1))) = some (true, wI (wI m 106 k (nI a)) 102 7 (nI (p + 1))) := by rw [sp_mfig, db]
      have h7b : gI (wI (wI (wI m 106 k (nI a)) 102 7 (nI (p + 1))) 106 k (nI (10 * a + b))) 102 7 = nI (p + 1) := by rw [gI_n _ _ _ _ _ _ (by omega)]; exact h71
      refine ⟨10 * a + b, p + 2, wI (wI (wI (wI m 106 k (nI a)) 102 7 (nI (p + 1))) 106 k (nI (10 * a + b))) 102 7 (nI (p + 2)), by unfold numN; rw [fa, Option.bind_some, fb], fun K => ?_, hF2, gI_s _ _ _ _, by rw [gI_n _ _ _ _ _ _ (by omega)]; exact gI_s _ _ _ _⟩
      have e3 : nI (p + 1) + nI 1 = nI (p + 2) := by rw [nI_add]
      unfold b_Mo_readNumbers_2
      rw [if_neg hlt, h7, b1, obS, hs, obS, if_pos rfl, ld_102_8, h7, b1, obS, hb]
      dsimp only
      rw [hcl, e1, h7a, nI_add, h71, b2, obS, hs2, obS, if_pos rfl, ld_102_8, ld_102_8, hb, h71, b2, obS, hb]
      dsimp only
      rw [hk1, e2, h7b, e3]
    · have hs2 : f_Mo_isFigure SF (Y (p + 1)) (wI (wI m 106 k (nI a)) 102 7 (nI (p + 1))) = some (false, wI (wI m 106 k (nI a)) 102 7 (nI (p + 1))) := by rw [sp_mfig, db]
      refine ⟨a, p + 1, wI (wI m 106 k (nI a)) 102 7 (nI (p + 1)), by unfold numN; rw [fa, Option.bind_some, fb], fun K => ?_, hF1, h71, hk1⟩
      unfold b_Mo_readNumbers_2
      rw [if_neg hlt, h7, b1, obS, hs, obS, if_pos rfl, ld_102_8, h7, b1, obS, hb]
      dsimp only
      rw [hcl, e1, h7a, nI_add, h71, b2, obS, hs2, obS, if_neg Bool.false_ne_true]
  · left
    have hs : f_Mo_isFigure SF (Y p) m = some (false, m) := by rw [sp_mfig, da]
    refine ⟨by unfold numN; rw [fa]; rfl, fun K => ?_⟩
    unfold b_Mo_readNumbers_2
    rw [if_neg hlt, h7, b1, obS, hs, obS, if_neg Bool.false_ne_true]
theorem sp_rdM {l n : Nat} {Y : Nat → Int32} (hn : n ≤ 5) : ∀ (r k p f N : Nat) (m : ba_M), k + r = n → 1 ≤ r → r ≤ f → p + 3 * f ≤ 890 → r < N → MT m l Y → gI m 102 7 = nI p →
    ∃ b m', fx (fun _ _ _ _ => none) (b_Mo_readNumbers_2 SF) N 102 (nI n) (nI k) m = some (b, m') ∧ Fr (fun o j => o = 102 ∧ j = 7 ∨ o = 106 ∧ k ≤ j) m m' ∧ ((b = false ∧ ∀ vs e, rdL Y f p = some (vs, e) → vs.length ≠ r) ∨ b = true ∧ ∃ vs e, rdL Y f p = some (vs, e) ∧ vs.length = r ∧ gI m' 102 7 = nI e ∧ ∀ j, j < r → gI m' 106 (k + j) = nI (vs.getD j 0)) := by
  intro r
  induction r with
  | zero => intro k p f N m _ h; omega
  | succ r ih =>
    intro k p f N m hk h1 hf hp hN hM h7
    obtain ⟨N, rfl⟩ : ∃ z, N = z + 1 := ⟨N - 1, by omega⟩
    obtain ⟨f, rfl⟩ : ∃ z, f = z + 1 := ⟨f - 1, by omega⟩
    rw [fx_s]
    rcases sp_mstep hM h7 (by omega) (show k < n by omega) hn with ⟨u1, u2⟩ | ⟨v, q, m1, u1, u2, u3, u4, u5⟩
    · refine ⟨false, m, u2 _, Fr.rf, Or.inl ⟨rfl, fun vs e h => ?_⟩⟩
      have h : (numN Y p).bind _ = some (vs, e) := h
      rw [u1] at h; cases h
    · obtain ⟨q1, q2, q3⟩ := num_in u1
      have q3 : q ≤ p + 2 := q3
      have hM1 := hM.fr u3 (by intro o j ho; omega)
      have b1 := sp_mbyte hM1 (show q < 1000 by omega)
      have hr : rdL Y (f + 1) p = if Y q = nI 59 then some ([v], q + 1) else if Y q = nI 44 then (rdL Y f (q + 1)).map fun z => (v :: z.1, z.2) else none := by
        show (numN Y p).bind _ = _
        rw [u1]; rfl
      have hsub : nI n - nI 1 = nI (n - 1) := pk_sub (by omega)
      have hF2 : Fr (fun o j => o = 102 ∧ j = 7 ∨ o = 106 ∧ k ≤ j) m (wI m1 102 7 (nI (q + 1))) := (u3.up (fun o j h => h.elim Or.inl (fun h => Or.inr ⟨h.1, by omega⟩))).w (Or.inl ⟨rfl, rfl⟩)
      have hM2 := hM1.fr (m' := wI m1 102 7 (nI (q + 1))) (O := fun o j => o = 102 ∧ j = 7) (Fr.rf.w ⟨rfl, rfl⟩) (by intro o j ho; omega)
      have h72 : gI (wI m1 102 7 (nI (q + 1))) 102 7 = nI (q + 1) := gI_s _ _ _ _
      have hv2 : gI (wI m1 102 7 (nI (q + 1))) 106 k = nI v := by rw [gI_n _ _ _ _ _ _ (by omega)]; exact u5
      rw [u2, hr]
      unfold f_Mo_readNumbers_101
      rw [u4, b1, obS, hsub]
      dsimp only
      cases r with
      | zero =>
        rw [if_pos (by rw [nI_leI (by omega) (by omega)]; omega)]
        unfold f_Mo_readNumbers_123
        by_cases h59 : Y q = nI 59
        · rw [if_pos h59, if_pos h59, u4, nI_add, nI_add]
          obtain ⟨N, rfl⟩ : ∃ z, N = z + 1 := ⟨N - 1, by omega⟩
          refine ⟨true, wI m1 102 7 (nI (q + 1)), ?_, hF2, Or.inr ⟨rfl, [v], q + 1, rfl, rfl, h72, fun j hj => ?_⟩⟩
          · rw [fx_s]
            generalize fx (fun _ _ _ _ => none) (b_Mo_readNumbers_2 SF) N = K
            unfold b_Mo_readNumbers_2
            exact if_pos (by rw [nI_leI (by omega) (by omega)]; omega)
          · obtain rfl : j = 0 := by omega
            exact hv2
        · rw [if_neg h59, if_neg h59]
          refine ⟨false, m1, rfl, (u3.up (fun o j h => h.elim Or.inl (fun h => Or.inr ⟨h.1, by omega⟩))), Or.inl ⟨rfl, fun vs e h => ?_⟩⟩
          by_cases h44 : Y q = nI 44
          · rw [if_pos h44] at h
            cases hz : rdL Y f (q + 1) with
            | none => rw [hz] at h; cases h
            | some z =>
              rw [hz] at h
              obtain ⟨rfl, rfl⟩ := Prod.mk.inj (Option.some.inj h)
              have := (rdL_in hM.2.2.2 _ _ z.1 z.2 hz).1
              intro h
              have h : z.1.length + 1 = 1 := h
              omega
          · rw [if_neg h44] at h; cases h
      | succ r =>
        rw [if_neg (by rw [nI_leI (by omega) (by omega)]; omega)]
        unfold f_Mo_readNumbers_123
        by_cases h44 : Y q = nI 44
        · have h59 : ¬ Y q = nI 59 := by rw [h44]; decide
          rw [if_pos h44, if_neg h59, if_pos h44, u4, nI_add, nI_add]
          obtain ⟨b, m', w1, w2, w3⟩ := ih (k + 1) (q + 1) f N (wI m1 102 7 (nI (q + 1))) (by omega) (by omega) (by omega) (by omega) (by omega) hM2 h72
          refine ⟨b, m', w1, hF2.tr (w2.up (fun o j h => h.elim Or.inl (fun h => Or.inr ⟨h.1, by omega⟩))), ?_⟩
          rcases w3 with ⟨w3, w4⟩ | ⟨w3, vs, e, w4, w5, w6, w7⟩
          · refine Or.inl ⟨w3, fun vs e h => ?_⟩
            cases hz : rdL Y f (q + 1) with
            | none => rw [hz] at h; cases h
            | some z =>
              rw [hz] at h
              obtain ⟨rfl, rfl⟩ := Prod.mk.inj (Option.some.inj h)
              intro h
              exact w4 z.1 z.2 hz (Nat.succ.inj h)
          · refine Or.inr ⟨w3, v :: vs, e, by rw [w4]; rfl, congrArg (· + 1) w5, w6, fun j hj => ?_⟩
            cases j with
            | zero =>
              have x1 : gI m' 106 k = gI (wI m1 102 7 (nI (q + 1))) 106 k := w2.1 106 k (by omega)
              exact x1.trans hv2
            | succ j =>
              have x1 := w7 j (by omega)
              have x2 : k + (j + 1) = k + 1 + j := by omega
              rw [x2]
              exact x1
        · rw [if_neg h44]
          refine ⟨false, m1, rfl, (u3.up (fun o j h => h.elim Or.inl (fun h => Or.inr ⟨h.1, by omega⟩))), Or.inl ⟨rfl, fun vs e h => ?_⟩⟩
          by_cases h59 : Y q = nI 59
          · rw [if_pos h59] at h
            obtain ⟨rfl, rfl⟩ := Prod.mk.inj (Option.some.inj h)
            intro h
            have h : 1 = r + 1 + 1 := h
            omega
          · rw [if_neg h59, if_neg h44] at h; cases h
