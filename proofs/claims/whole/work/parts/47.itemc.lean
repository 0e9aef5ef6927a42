theorem sp_takeItem {m : ba_M} {z : Nat} {g : Nat → Nat} {s : rdS} (y : Int32) (h : NB m z g) (hG : GD m s) (hs : okD s) :
    ∃ b m', f_Re_takeItem SF 3 y 23 m = some (b, m') ∧ Fr oGD m m' ∧ ((itS y z g s = none ∧ b = false) ∨ ∃ s', itS y z g s = some s' ∧ b = true ∧ GD m' s') := by
  obtain ⟨c, n, d, P, T⟩ := s
  obtain ⟨i1, i2, i3, i4⟩ := id hG
  obtain ⟨o1, o2, o3, o4, o5⟩ := hs
  dsimp only at i1 i2 i3 i4 o1 o2 o3 o4 o5
  unfold f_Re_takeItem itS
  rw [cK_3, cK_23]
  dsimp only
  by_cases y1 : y = 97
  · rw [if_pos y1, if_pos y1, sp_tCall h i1 o4]
    by_cases hc : z = 4 ∧ g 0 < c ∧ g 1 < c ∧ g 0 ≠ g 1 ∧ g 2 ≤ 40 ∧ 1 ≤ g 3 ∧ g 3 ≤ 9
    · rw [if_pos hc, if_pos hc, obS]
      have hF : Fr (fun o k => o = 28 + 2 * g 0 ∧ k < 3) m (wI (wI (wI m (28 + 2 * g 0) 0 (nI (g 1))) (28 + 2 * g 0) 1 (nI (g 2))) (28 + 2 * g 0) 2 (nI (g 3))) := ((Fr.rf.w ⟨rfl, by omega⟩).w ⟨rfl, by omega⟩).w ⟨rfl, by omega⟩
      refine ⟨_, _, rfl, hF.up (fun o k q => by unfold oGD; omega), Or.inr ⟨_, rfl, rfl, ?_⟩⟩
      generalize hm' : wI (wI (wI m (28 + 2 * g 0) 0 (nI (g 1))) (28 + 2 * g 0) 1 (nI (g 2))) (28 + 2 * g 0) 2 (nI (g 3)) = m' at hF ⊢
      have w0 : gI m' (28 + 2 * g 0) 0 = nI (g 1) := by rw [← hm', gI_n _ _ _ _ _ _ (by omega), gI_n _ _ _ _ _ _ (by omega)]; exact gI_s _ _ _ _
      have w1 : gI m' (28 + 2 * g 0) 1 = nI (g 2) := by rw [← hm', gI_n _ _ _ _ _ _ (by omega)]; exact gI_s _ _ _ _
      have w2 : gI m' (28 + 2 * g 0) 2 = nI (g 3) := by rw [← hm']; exact gI_s _ _ _ _
      have e : ∀ o k, (o = 23 ∨ 27 ≤ o) → (o = 28 + 2 * g 0 → 3 ≤ k) → gI m' o k = gI m o k := fun o k h1 h2 => hF.1 o k (fun q => by have := h2 q.1; omega)
      refine ⟨(e _ _ (by omega) (by omega)).trans i1, (e _ _ (by omega) (by omega)).trans i2, (e _ _ (by omega) (by omega)).trans i3, fun i hi => ?_⟩
      obtain ⟨⟨a1, a2, a3, a4, a5⟩, b1, b2, b3, b4⟩ := i4 i hi
      refine ⟨⟨(e _ _ (by omega) (by omega)).trans a1, (e _ _ (by omega) (by omega)).trans a2, (e _ _ (by omega) (by omega)).trans a3, (e _ _ (by omega) (by omega)).trans a4, (e _ _ (by omega) (by omega)).trans a5⟩, ?_⟩
      dsimp only
      by_cases hi0 : i = g 0
      · subst hi0
        rw [upR_s]
        refine ⟨w0.trans ?_, w1, w2, (e _ _ (by omega) (by omega)).trans b4⟩
        show nI (g 1) = cal (g 1)
        unfold cal
        rw [if_neg (by omega)]
      · rw [upR_n hi0]
        exact ⟨(e _ _ (by omega) (by omega)).trans b1, (e _ _ (by omega) (by omega)).trans b2, (e _ _ (by omega) (by omega)).trans b3, (e _ _ (by omega) (by omega)).trans b4⟩
    · rw [if_neg hc, if_neg hc, obS]
      exact ⟨_, _, rfl, Fr.rf, Or.inl ⟨rfl, rfl⟩⟩
  · rw [if_neg y1, if_neg y1]
    by_cases y2 : y = 100
    · rw [if_pos y2, if_pos y2, sp_tSlide h]
      by_cases hc : z = 1 ∧ g 0 ≤ 3
      · rw [if_pos hc, if_pos hc, obS]
        have hF : Fr (fun o k => o = 23 ∧ k = 4) m (wI m 23 4 (nI (g 0))) := Fr.rf.w ⟨rfl, rfl⟩
        have e : ∀ o k, (o = 23 → k ≠ 4) → gI (wI m 23 4 (nI (g 0))) o k = gI m o k := fun o k h1 => hF.1 o k (fun q => h1 q.1 q.2)
        refine ⟨_, _, rfl, hF.up (fun o k q => by unfold oGD; omega), Or.inr ⟨_, rfl, rfl, (e _ _ (by omega)).trans i1, (e _ _ (by omega)).trans i2, gI_s _ _ _ _, fun i hi => ?_⟩⟩
        obtain ⟨⟨a1, a2, a3, a4, a5⟩, b1, b2, b3, b4⟩ := i4 i hi
        exact ⟨⟨(e _ _ (by omega)).trans a1, (e _ _ (by omega)).trans a2, (e _ _ (by omega)).trans a3, (e _ _ (by omega)).trans a4, (e _ _ (by omega)).trans a5⟩, (e _ _ (by omega)).trans b1, (e _ _ (by omega)).trans b2, (e _ _ (by omega)).trans b3, (e _ _ (by omega)).trans b4⟩
      · rw [if_neg hc, if_neg hc, obS]
        exact ⟨_, _, rfl, Fr.rf, Or.inl ⟨rfl, rfl⟩⟩
    · rw [if_neg y2, if_neg y2]
      by_cases y3 : y = 108
      · rw [if_pos y3, if_pos y3, sp_tLetters h i1 o4]
        by_cases hc : z = 2 ∧ g 0 < c ∧ g 1 ≤ 3
        · rw [if_pos hc, if_pos hc, obS]
          have hF : Fr (fun o k => o = 28 + 2 * g 0 ∧ k = 3) m (wI m (28 + 2 * g 0) 3 (nI (g 1))) := Fr.rf.w ⟨rfl, rfl⟩
          have w0 : gI (wI m (28 + 2 * g 0) 3 (nI (g 1))) (28 + 2 * g 0) 3 = nI (g 1) := gI_s _ _ _ _
          refine ⟨_, _, rfl, hF.up (fun o k q => by unfold oGD; omega), Or.inr ⟨_, rfl, rfl, ?_⟩⟩
          generalize wI m (28 + 2 * g 0) 3 (nI (g 1)) = m' at hF w0 ⊢
          have e : ∀ o k, (o = 28 + 2 * g 0 → k ≠ 3) → gI m' o k = gI m o k := fun o k h1 => hF.1 o k (fun q => h1 q.1 q.2)
          refine ⟨(e _ _ (by omega)).trans i1, (e _ _ (by omega)).trans i2, (e _ _ (by omega)).trans i3, fun i hi => ?_⟩
          obtain ⟨⟨a1, a2, a3, a4, a5⟩, b1, b2, b3, b4⟩ := i4 i hi
          refine ⟨⟨(e _ _ (by omega)).trans a1, (e _ _ (by omega)).trans a2, (e _ _ (by omega)).trans a3, (e _ _ (by omega)).trans a4, (e _ _ (by omega)).trans a5⟩, ?_⟩
          dsimp only
          by_cases hi0 : i = g 0
          · subst hi0
            rw [upR_s]
            exact ⟨(e _ _ (by omega)).trans b1, (e _ _ (by omega)).trans b2, (e _ _ (by omega)).trans b3, w0⟩
          · rw [upR_n hi0]
            exact ⟨(e _ _ (by omega)).trans b1, (e _ _ (by omega)).trans b2, (e _ _ (by omega)).trans b3, (e _ _ (by omega)).trans b4⟩
        · rw [if_neg hc, if_neg hc, obS]
          exact ⟨_, _, rfl, Fr.rf, Or.inl ⟨rfl, rfl⟩⟩
      · rw [if_neg y3, if_neg y3]
        by_cases y4 : y = 110
        · rw [if_pos y4, if_pos y4, sp_tGround h]
          by_cases hc : z = 1 ∧ 5 ≤ g 0 ∧ g 0 ≤ 40
          · rw [if_pos hc, if_pos hc, obS]
            have hF : Fr (fun o k => o = 23 ∧ k = 3) m (wI m 23 3 (nI (g 0))) := Fr.rf.w ⟨rfl, rfl⟩
            have e : ∀ o k, (o = 23 → k ≠ 3) → gI (wI m 23 3 (nI (g 0))) o k = gI m o k := fun o k h1 => hF.1 o k (fun q => h1 q.1 q.2)
            refine ⟨_, _, rfl, hF.up (fun o k q => by unfold oGD; omega), Or.inr ⟨_, rfl, rfl, (e _ _ (by omega)).trans i1, gI_s _ _ _ _, (e _ _ (by omega)).trans i3, fun i hi => ?_⟩⟩
            obtain ⟨⟨a1, a2, a3, a4, a5⟩, b1, b2, b3, b4⟩ := i4 i hi
            exact ⟨⟨(e _ _ (by omega)).trans a1, (e _ _ (by omega)).trans a2, (e _ _ (by omega)).trans a3, (e _ _ (by omega)).trans a4, (e _ _ (by omega)).trans a5⟩, (e _ _ (by omega)).trans b1, (e _ _ (by omega)).trans b2, (e _ _ (by omega)).trans b3, (e _ _ (by omega)).trans b4⟩
          · rw [if_neg hc, if_neg hc, obS]
            exact ⟨_, _, rfl, Fr.rf, Or.inl ⟨rfl, rfl⟩⟩
        · rw [if_neg y4, if_neg y4]
          by_cases y5 : y = 112
          · rw [if_pos y5, if_pos y5, sp_tPlayer h i1 o4]
            by_cases hc : z = 5 ∧ c < 5 ∧ g 0 ≤ 40 ∧ (1 ≤ g 1 ∧ g 1 ≤ 5) ∧ (1 ≤ g 2 ∧ g 2 ≤ 9) ∧ g 3 ≤ 9 ∧ g 4 ≤ 3
            · rw [if_pos hc, if_pos hc, obS]
              have hF : Fr (fun o k => o = 27 + 2 * c ∨ o = 28 + 2 * c ∨ o = 23 ∧ k = 2) m (adW m c g) := by
                unfold adW
                exact (((((((((Fr.rf.w (Or.inl rfl)).w (Or.inl rfl)).w (Or.inl rfl)).w (Or.inl rfl)).w (Or.inl rfl)).w (Or.inr (Or.inl rfl))).w (Or.inr (Or.inl rfl))).w (Or.inr (Or.inl rfl))).w (Or.inr (Or.inl rfl))).w (Or.inr (Or.inr ⟨rfl, rfl⟩))
              have q : gI (adW m c g) 23 2 = nI (c + 1) ∧ (gI (adW m c g) (27 + 2 * c) 1 = nI (g 0) ∧ gI (adW m c g) (27 + 2 * c) 2 = nI (g 1) ∧ gI (adW m c g) (27 + 2 * c) 3 = nI (g 2) ∧ gI (adW m c g) (27 + 2 * c) 4 = nI (g 3) ∧ gI (adW m c g) (27 + 2 * c) 5 = nI (g 4)) ∧ gI (adW m c g) (28 + 2 * c) 0 = -4 ∧ gI (adW m c g) (28 + 2 * c) 1 = nI 0 ∧ gI (adW m c g) (28 + 2 * c) 2 = nI 1 ∧ gI (adW m c g) (28 + 2 * c) 3 = nI 0 := by
                have hc5 : c < 5 := hc.2.1
                unfold adW
                refine ⟨gI_s _ _ _ _, ⟨?_, ?_, ?_, ?_, ?_⟩, ?_, ?_, ?_, ?_⟩
                · rw [gI_n _ _ _ _ _ _ (by omega), gI_n _ _ _ _ _ _ (by omega), gI_n _ _ _ _ _ _ (by omega), gI_n _ _ _ _ _ _ (by omega), gI_n _ _ _ _ _ _ (by omega), gI_n _ _ _ _ _ _ (by omega), gI_n _ _ _ _ _ _ (by omega), gI_n _ _ _ _ _ _ (by omega), gI_n _ _ _ _ _ _ (by omega)]; exact gI_s _ _ _ _
                · rw [gI_n _ _ _ _ _ _ (by omega), gI_n _ _ _ _ _ _ (by omega), gI_n _ _ _ _ _ _ (by omega), gI_n _ _ _ _ _ _ (by omega), gI_n _ _ _ _ _ _ (by omega), gI_n _ _ _ _ _ _ (by omega), gI_n _ _ _ _ _ _ (by omega), gI_n _ _ _ _ _ _ (by omega)]; exact gI_s _ _ _ _
                · rw [gI_n _ _ _ _ _ _ (by omega), gI_n _ _ _ _ _ _ (by omega), gI_n _ _ _ _ _ _ (by omega), gI_n _ _ _ _ _ _ (by omega), gI_n _ _ _ _ _ _ (by omega), gI_n _ _ _ _ _ _ (by omega), gI_n _ _ _ _ _ _ (by omega)]; exact gI_s _ _ _ _
                · rw [gI_n _ _ _ _ _ _ (by omega), gI_n _ _ _ _ _ _ (by omega), gI_n _ _ _ _ _ _ (by omega), gI_n _ _ _ _ _ _ (by omega), gI_n _ _ _ _ _ _ (by omega), gI_n _ _ _ _ _ _ (by omega)]; exact gI_s _ _ _ _
                · rw [gI_n _ _ _ _ _ _ (by omega), gI_n _ _ _ _ _ _ (by omega), gI_n _ _ _ _ _ _ (by omega), gI_n _ _ _ _ _ _ (by omega), gI_n _ _ _ _ _ _ (by omega)]; exact gI_s _ _ _ _
                · rw [gI_n _ _ _ _ _ _ (by omega), gI_n _ _ _ _ _ _ (by omega), gI_n _ _ _ _ _ _ (by omega), gI_n _ _ _ _ _ _ (by omega)]; exact gI_s _ _ _ _
                · rw [gI_n _ _ _ _ _ _ (by omega), gI_n _ _ _ _ _ _ (by omega), gI_n _ _ _ _ _ _ (by omega)]; exact gI_s _ _ _ _
                · rw [gI_n _ _ _ _ _ _ (by omega), gI_n _ _ _ _ _ _ (by omega)]; exact gI_s _ _ _ _
                · rw [gI_n _ _ _ _ _ _ (by omega)]; exact gI_s _ _ _ _
              refine ⟨_, _, rfl, hF.up (fun o k q => by unfold oGD; omega), Or.inr ⟨_, rfl, rfl, ?_⟩⟩
              generalize adW m c g = m' at hF q ⊢
              obtain ⟨q0, q1, q2, q3, q4, q5⟩ := q
              have e : ∀ o k, (o ≠ 27 + 2 * c) → (o ≠ 28 + 2 * c) → (o = 23 → k ≠ 2) → gI m' o k = gI m o k := fun o k h1 h2 h3 => hF.1 o k (fun q => by rcases q with q | q | q; exact h1 q; exact h2 q; exact h3 q.1 q.2)
              refine ⟨q0, (e _ _ (by omega) (by omega) (by omega)).trans i2, (e _ _ (by omega) (by omega) (by omega)).trans i3, fun i hi => ?_⟩
              dsimp only at hi ⊢
              by_cases hi0 : i = c
              · subst hi0
                rw [upR_s, upR_s]
                exact ⟨q1, q2, q3, q4, q5⟩
              · rw [upR_n hi0, upR_n hi0]
                obtain ⟨⟨a1, a2, a3, a4, a5⟩, b1, b2, b3, b4⟩ := i4 i (by omega)
                exact ⟨⟨(e _ _ (by omega) (by omega) (by omega)).trans a1, (e _ _ (by omega) (by omega) (by omega)).trans a2, (e _ _ (by omega) (by omega) (by omega)).trans a3, (e _ _ (by omega) (by omega) (by omega)).trans a4, (e _ _ (by omega) (by omega) (by omega)).trans a5⟩, (e _ _ (by omega) (by omega) (by omega)).trans b1, (e _ _ (by omega) (by omega) (by omega)).trans b2, (e _ _ (by omega) (by omega) (by omega)).trans b3, (e _ _ (by omega) (by omega) (by omega)).trans b4⟩
            · rw [if_neg hc, if_neg hc, obS]
              exact ⟨_, _, rfl, Fr.rf, Or.inl ⟨rfl, rfl⟩⟩
          · rw [if_neg y5, if_neg y5]
            exact ⟨_, _, rfl, Fr.rf, Or.inl ⟨rfl, rfl⟩⟩
/-- the whole text -/
def rdA (Y : Nat → Int32) (l : Nat) : Nat → Nat → rdS → Nat ⊕ rdS
  | 0, _, s => Sum.inr s
  | f + 1, p, s => if p < l then (match rdL Y 5 (p + 1) with
      | none => Sum.inl p
      | some (vs, e) => match itS (Y p) vs.length (fun k => vs.getD k 0) s with
        | none => Sum.inl p
        | some s' => rdA Y l f e s') else Sum.inr s
theorem sp_read {l : Nat} {Y : Nat → Int32} : ∀ (f p N : Nat) (s : rdS) (m : ba_M), p ≤ l → l - p < f → f ≤ N → CT m l Y → GD m s → okD s →
    ∃ r m', fx (fun _ _ _ _ _ => none) (b_Re_read_6 SF) N 3 1 23 (nI p) m = some (r, m') ∧ Fr (fun o k => oGD o k ∨ o = 3 ∨ o = 4) m m' ∧ ((∃ q, rdA Y l f p s = Sum.inl q ∧ q < l ∧ r = nI q) ∨ ∃ s', rdA Y l f p s = Sum.inr s' ∧ r = -4 ∧ GD m' s' ∧ okD s') := by
  intro f
  induction f with
  | zero => intro p N s m _ h; omega
  | succ f ih =>
    intro p N s m hp hf hN hC hG hs
    have hl := hC.1
    obtain ⟨N, rfl⟩ : ∃ z, N = z + 1 := ⟨N - 1, by omega⟩
    rw [fx_s]
    have ih' := fun e => ih e N
    generalize fx (fun _ _ _ _ _ => none) (b_Re_read_6 SF) N = K at ih' ⊢
    unfold rdA
    by_cases hpl : p < l
    · rw [if_pos hpl]
      obtain ⟨r, m1, u1, u2, u3⟩ := sp_rdC 5 0 (p + 1) FU (wI m 3 1 (nI 0)) (by omega) (by omega) (by unfold FU; omega) (hC.fr (O := fun o _ => o = 3) (Fr.rf.w rfl) (by intro o k ho; omega))
      have hF1 : Fr (fun o k => oGD o k ∨ o = 3 ∨ o = 4) m m1 := (Fr.rf.w (Or.inr (Or.inl rfl))).tr (u2.up (fun o k q => by unfold oRN at q; omega))
      have hC1 := hC.fr hF1 (by intro o k ho; unfold oGD at ho; omega)
      have hG1 : GD m1 s := hG.fr hs.2.2.2.1 (O := fun o _ => o = 3 ∨ o = 4) ((Fr.rf.w (Or.inl rfl)).tr (u2.up (fun o k q => by unfold oRN at q; omega))) (by intro o k ho; omega)
      have b1 := sp_byte hC1 (show p < 1000 by omega)
      have hrn : f_Re_readNumbers SF 3 1 (nI (p + 1)) m = some (r, m1) := by
        unfold f_Re_readNumbers
        rw [cK_3, cK_1]
        exact u1
      have hnl : ¬ nI l ≤ nI p := by rw [nI_leI (by omega) (by omega)]; omega
      unfold b_Re_read_6 f_Re_read_43
      rw [hC.2.1, if_neg hnl, nI_add, hrn, obS]
      dsimp only
      rcases u3 with ⟨u3, u4⟩ | ⟨vs, e, u3, u4, u5, u6⟩
      · rw [u3]
        dsimp only
        have hle : r ≤ nI p := by rw [u4, i32_le, nI_toInt (by omega)]; show (-4 : Int) ≤ p; omega
        rw [if_pos hle]
        exact ⟨_, _, rfl, hF1, Or.inl ⟨p, rfl, hpl, rfl⟩⟩
      · obtain ⟨v1, v2, v3, v4, v5⟩ := rdL_in hC.2.2.2 _ _ _ _ u3
        rw [u3]
        dsimp only
        have hnle : ¬ r ≤ nI p := by rw [u4, nI_leI (by omega) (by omega)]; omega
        have hNB : NB m1 vs.length (fun k => vs.getD k 0) := ⟨v2, u5.trans (congrArg nI (Nat.zero_add _)), fun k hk => (congrArg (gI m1 4) (Nat.zero_add k).symm).trans (u6 k hk), v5⟩
        obtain ⟨b, m2, w1, w2, w3⟩ := sp_takeItem (Y p) hNB hG1 hs
        have hF2 := hF1.tr (w2.up (fun o k q => Or.inl q))
        rw [if_neg hnle, b1, obS]
        dsimp only
        rw [w1, obS]
        dsimp only
        rcases w3 with ⟨w3, w4⟩ | ⟨s', w3, w4, w5⟩
        · rw [w3]
          dsimp only
          rw [w4, if_neg Bool.false_ne_true]
          exact ⟨_, _, rfl, hF2, Or.inl ⟨p, rfl, hpl, rfl⟩⟩
        · rw [w3]
          dsimp only
          rw [w4, if_pos rfl, u4]
          obtain ⟨r3, m3, x1, x2, x3⟩ := ih' e s' m2 v4 (by omega) (by omega) (hC1.fr w2 (by intro o k ho; unfold oGD at ho; omega)) w5 (itS_ok hs w3)
          exact ⟨r3, m3, x1, hF2.tr x2, x3⟩
    · rw [if_neg hpl]
      have hle : nI l ≤ nI p := by rw [nI_leI (by omega) (by omega)]; omega
      unfold b_Re_read_6
      rw [hC.2.1, if_pos hle]
      exact ⟨_, _, rfl, Fr.rf, Or.inr ⟨s, rfl, rfl, hG, hs⟩⟩
