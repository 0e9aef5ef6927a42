def GR (m : ba_M) (s : rdS) : Prop := gI m 102 11 = nI s.1 ∧ gI m 102 9 = nI s.2.1 ∧ gI m 102 10 = nI s.2.2.1 ∧ ∀ i, i < s.1 → (gI m 107 (5 * i) = nI (s.2.2.2.1 i 0) ∧ gI m 107 (5 * i + 1) = nI (s.2.2.2.1 i 1) ∧ gI m 107 (5 * i + 2) = nI (s.2.2.2.1 i 2) ∧ gI m 107 (5 * i + 3) = nI (s.2.2.2.1 i 3) ∧ gI m 107 (5 * i + 4) = nI (s.2.2.2.1 i 4)) ∧ gI m 108 i = cal (s.2.2.2.2 i 0) ∧ (s.2.2.2.2 i 0 ≠ 5 → gI m 108 (5 + i) = nI (s.2.2.2.2 i 1) ∧ gI m 108 (10 + i) = nI (s.2.2.2.2 i 2)) ∧ gI m 109 i = nI (s.2.2.2.2 i 3)
def oGR : Nat → Nat → Prop := fun o k => o = 102 ∧ (k = 7 ∨ 9 ≤ k ∧ k ≤ 11) ∨ 106 ≤ o ∧ o ≤ 109
theorem GR.fr {m m' : ba_M} {s : rdS} (h : GR m s) (hs : s.1 ≤ 5) {O : Nat → Nat → Prop} (hF : Fr O m m') (hO : ∀ o k, O o k → ¬ (o = 102 ∧ 9 ≤ k ∧ k ≤ 11 ∨ 107 ≤ o ∧ o ≤ 109)) : GR m' s := by
  have e : ∀ o k, (o = 102 ∧ 9 ≤ k ∧ k ≤ 11 ∨ 107 ≤ o ∧ o ≤ 109) → gI m' o k = gI m o k := fun o k ho => hF.1 o k (fun q => hO o k q ho)
  obtain ⟨h1, h2, h3, h4⟩ := h
  refine ⟨(e _ _ (by omega)).trans h1, (e _ _ (by omega)).trans h2, (e _ _ (by omega)).trans h3, fun i hi => ?_⟩
  obtain ⟨⟨a1, a2, a3, a4, a5⟩, b1, b2, b3⟩ := h4 i hi
  exact ⟨⟨(e _ _ (by omega)).trans a1, (e _ _ (by omega)).trans a2, (e _ _ (by omega)).trans a3, (e _ _ (by omega)).trans a4, (e _ _ (by omega)).trans a5⟩, (e _ _ (by omega)).trans b1, fun q => ⟨(e _ _ (by omega)).trans (b2 q).1, (e _ _ (by omega)).trans (b2 q).2⟩, (e _ _ (by omega)).trans b3⟩
theorem sp_inN {S : ba_S} {x a b : Nat} (hx : x ≤ 99) (ha : a ≤ 99) (hb : b ≤ 99) (m : ba_M) : f_Mo_in S (nI x) (nI a) (nI b) m = some (decide (a ≤ x ∧ x ≤ b), m) := by
  rw [sp_in]
  refine congrArg (fun q => some (q, m)) (decide_eq_decide.mpr ?_)
  rw [nI_leI (by omega) (by omega), nI_leI (by omega) (by omega)]
def RO (Y : Nat → Int32) (p : Nat) (C : List Nat → Prop) (ns : List Nat → rdS) (m' : ba_M) (b : Bool) : Prop := (b = false ∧ ∀ vs e, rdL Y 5 p = some (vs, e) → ¬ C vs) ∨ b = true ∧ ∃ vs e, rdL Y 5 p = some (vs, e) ∧ C vs ∧ gI m' 102 7 = nI e ∧ GR m' (ns vs)
theorem sp_mnum {l p n : Nat} {Y : Nat → Int32} {m : ba_M} {s : rdS} (hM : MT m l Y) (h7 : gI m 102 7 = nI p) (hp : p ≤ 400) (h1 : 1 ≤ n) (hn : n ≤ 5) (hG : GR m s) (hs : okD s) :
    ∃ b m', f_Mo_readNumbers SF 102 (nI n) m = some (b, m') ∧ Fr oMn m m' ∧ GR m' s ∧ ((b = false ∧ ∀ vs e, rdL Y 5 p = some (vs, e) → vs.length ≠ n) ∨ b = true ∧ ∃ vs e, rdL Y 5 p = some (vs, e) ∧ vs.length = n ∧ gI m' 102 7 = nI e ∧ (∀ j, vs.getD j 0 ≤ 99) ∧ ∀ j, j < n → gI m' 106 j = nI (vs.getD j 0)) := by
  obtain ⟨b, m', u1, u2, u3⟩ := sp_rdM hn n 0 p 5 FU m (by omega) h1 hn (by omega) (by unfold FU; omega) hM h7
  have hF : Fr oMn m m' := u2.up (fun o k h => by unfold oMn; omega)
  refine ⟨b, m', ?_, hF, hG.fr hs.2.2.2.1 hF (by intro o k ho; unfold oMn at ho; omega), ?_⟩
  · unfold f_Mo_readNumbers
    rw [cK_102]
    exact u1
  · rcases u3 with h | ⟨h, vs, e, w1, w2, w3, w4⟩
    · exact Or.inl h
    · exact Or.inr ⟨h, vs, e, w1, w2, w3, (rdL_in hM.2.2.2 _ _ _ _ w1).2.2.2.2, fun j hj => (congrArg (gI m' 106) (Nat.zero_add j).symm).trans (w4 j hj)⟩
theorem sp_mGround {l p : Nat} {Y : Nat → Int32} {m : ba_M} {s : rdS} (hM : MT m l Y) (h7 : gI m 102 7 = nI p) (hp : p ≤ 400) (hG : GR m s) (hs : okD s) :
    ∃ b m', f_Mo_readGround SF 102 m = some (b, m') ∧ Fr oGR m m' ∧ RO Y p (fun vs => vs.length = 1 ∧ 5 ≤ vs.getD 0 0 ∧ vs.getD 0 0 ≤ 40) (fun vs => (s.1, vs.getD 0 0, s.2.2.1, s.2.2.2.1, s.2.2.2.2)) m' b := by
  obtain ⟨b, m', u1, u2, uG, u3⟩ := sp_mnum hM h7 hp (show 1 ≤ 1 by omega) (by omega) hG hs
  have hF : Fr oGR m m' := u2.up (fun o k h => by unfold oMn at h; unfold oGR; omega)
  have hcl := nI_clamp (show 0 < 2 ^ 31 by omega)
  have hb := fun r : Option (Bool × ba_M) => bd_106 (show 0 < 5 by omega) r
  unfold f_Mo_readGround f_Mo_readGround_23
  rw [cK_102, u1, obS]
  dsimp only
  rcases u3 with ⟨u3, u4⟩ | ⟨u3, vs, e, w1, w2, w3, wv, w4⟩
  · rw [u3, if_neg Bool.false_ne_true]
    exact ⟨_, _, rfl, hF, Or.inl ⟨rfl, fun vs e h q => u4 vs e h q.1⟩⟩
  · rw [u3, if_pos rfl, ld_102_8, hb, hcl, w4 0 (by omega), sp_inN (wv 0) (by omega) (by omega), obS, ite_dec]
    dsimp only
    by_cases hc : 5 ≤ vs.getD 0 0 ∧ vs.getD 0 0 ≤ 40
    · rw [if_pos hc, ld_102_8, hb, w4 0 (by omega)]
      have hF2 : Fr (fun o k => o = 102 ∧ k = 9) m' (wI m' 102 9 (nI (vs.getD 0 0))) := Fr.rf.w ⟨rfl, rfl⟩
      have e2 : ∀ o k, (o = 102 → k ≠ 9) → gI (wI m' 102 9 (nI (vs.getD 0 0))) o k = gI m' o k := fun o k h1 => hF2.1 o k (fun q => h1 q.1 q.2)
      refine ⟨_, _, rfl, hF.tr (hF2.up (fun o k h => by unfold oGR; omega)), Or.inr ⟨rfl, vs, e, w1, ⟨w2, hc⟩, (e2 _ _ (by omega)).trans w3, (e2 _ _ (by omega)).trans uG.1, gI_s _ _ _ _, (e2 _ _ (by omega)).trans uG.2.2.1, fun i hi => ?_⟩⟩
      obtain ⟨⟨a1, a2, a3, a4, a5⟩, b1, b2, b3⟩ := uG.2.2.2 i hi
      exact ⟨⟨(e2 _ _ (by omega)).trans a1, (e2 _ _ (by omega)).trans a2, (e2 _ _ (by omega)).trans a3, (e2 _ _ (by omega)).trans a4, (e2 _ _ (by omega)).trans a5⟩, (e2 _ _ (by omega)).trans b1, fun q => ⟨(e2 _ _ (by omega)).trans (b2 q).1, (e2 _ _ (by omega)).trans (b2 q).2⟩, (e2 _ _ (by omega)).trans b3⟩
    · rw [if_neg hc]
      exact ⟨_, _, rfl, hF, Or.inl ⟨rfl, fun vs' e' h q => by rw [w1] at h; obtain ⟨rfl, rfl⟩ := Prod.mk.inj (Option.some.inj h); exact hc q.2⟩⟩
theorem sp_mSlide {l p : Nat} {Y : Nat → Int32} {m : ba_M} {s : rdS} (hM : MT m l Y) (h7 : gI m 102 7 = nI p) (hp : p ≤ 400) (hG : GR m s) (hs : okD s) :
    ∃ b m', f_Mo_readSlide SF 102 m = some (b, m') ∧ Fr oGR m m' ∧ RO Y p (fun vs => vs.length = 1 ∧ vs.getD 0 0 ≤ 3) (fun vs => (s.1, s.2.1, vs.getD 0 0, s.2.2.2.1, s.2.2.2.2)) m' b := by
  obtain ⟨b, m', u1, u2, uG, u3⟩ := sp_mnum hM h7 hp (show 1 ≤ 1 by omega) (by omega) hG hs
  have hF : Fr oGR m m' := u2.up (fun o k h => by unfold oMn at h; unfold oGR; omega)
  have hcl := nI_clamp (show 0 < 2 ^ 31 by omega)
  have hb := fun r : Option (Bool × ba_M) => bd_106 (show 0 < 5 by omega) r
  unfold f_Mo_readSlide f_Mo_readSlide_22
  rw [cK_102, u1, obS]
  dsimp only
  rcases u3 with ⟨u3, u4⟩ | ⟨u3, vs, e, w1, w2, w3, wv, w4⟩
  · rw [u3, if_neg Bool.false_ne_true]
    exact ⟨_, _, rfl, hF, Or.inl ⟨rfl, fun vs e h q => u4 vs e h q.1⟩⟩
  · rw [u3, if_pos rfl, ld_102_8, hb, hcl, w4 0 (by omega), sp_inN (wv 0) (by omega) (by omega), obS, ite_dec]
    dsimp only
    by_cases hc : vs.getD 0 0 ≤ 3
    · rw [if_pos ⟨Nat.zero_le _, hc⟩, ld_102_8, hb, w4 0 (by omega)]
      have hF2 : Fr (fun o k => o = 102 ∧ k = 10) m' (wI m' 102 10 (nI (vs.getD 0 0))) := Fr.rf.w ⟨rfl, rfl⟩
      have e2 : ∀ o k, (o = 102 → k ≠ 10) → gI (wI m' 102 10 (nI (vs.getD 0 0))) o k = gI m' o k := fun o k h1 => hF2.1 o k (fun q => h1 q.1 q.2)
      refine ⟨_, _, rfl, hF.tr (hF2.up (fun o k h => by unfold oGR; omega)), Or.inr ⟨rfl, vs, e, w1, ⟨w2, hc⟩, (e2 _ _ (by omega)).trans w3, (e2 _ _ (by omega)).trans uG.1, (e2 _ _ (by omega)).trans uG.2.1, gI_s _ _ _ _, fun i hi => ?_⟩⟩
      obtain ⟨⟨a1, a2, a3, a4, a5⟩, b1, b2, b3⟩ := uG.2.2.2 i hi
      exact ⟨⟨(e2 _ _ (by omega)).trans a1, (e2 _ _ (by omega)).trans a2, (e2 _ _ (by omega)).trans a3, (e2 _ _ (by omega)).trans a4, (e2 _ _ (by omega)).trans a5⟩, (e2 _ _ (by omega)).trans b1, fun q => ⟨(e2 _ _ (by omega)).trans (b2 q).1, (e2 _ _ (by omega)).trans (b2 q).2⟩, (e2 _ _ (by omega)).trans b3⟩
    · rw [if_neg (fun q => hc q.2)]
      exact ⟨_, _, rfl, hF, Or.inl ⟨rfl, fun vs' e' h q => by rw [w1] at h; obtain ⟨rfl, rfl⟩ := Prod.mk.inj (Option.some.inj h); exact hc q.2⟩⟩
theorem sp_mLe {m m' : ba_M} {g0 g1 c : Nat} (u : f_Mo_readNumbers SF 102 (nI 2) m = some (true, m')) (x0 : gI m' 106 0 = nI g0) (x1 : gI m' 106 1 = nI g1) (hc : gI m' 102 11 = nI c) (hc5 : c ≤ 5) (v0 : g0 ≤ 99) (v1 : g1 ≤ 99) : f_Mo_readLettersOf SF 102 m = if g0 < c ∧ g1 ≤ 3 then some (true, wI m' 109 g0 (nI g1)) else some (false, m') := by
  have hcl := nI_clamp (show 0 < 2 ^ 31 by omega)
  have hcl1 := nI_clamp (show 1 < 2 ^ 31 by omega)
  have hb := fun r : Option (Bool × ba_M) => bd_106 (show 0 < 5 by omega) r
  have hb1 := fun r : Option (Bool × ba_M) => bd_106 (show 1 < 5 by omega) r
  unfold f_Mo_readLettersOf f_Mo_readLettersOf_35
  rw [cK_102, u, obS]
  dsimp only
  rw [if_pos rfl, ld_102_8, hb, hcl, x0, hc]
  by_cases hg : g0 < c
  · rw [if_neg (by rw [nI_leI (by omega) (by omega)]; omega), ld_102_8, hb1, hcl1, x1, sp_inN v1 (by omega) (by omega), obS, ite_dec]
    dsimp only
    by_cases hg1 : g1 ≤ 3
    · rw [if_pos ⟨Nat.zero_le _, hg1⟩, ld_102_14, ld_102_8, hb, ld_102_8, hb1, x0, x1, bd_109 (show g0 < 5 by omega), nI_clamp (show g0 < 2 ^ 31 by omega), if_pos ⟨hg, hg1⟩]
    · rw [if_neg (fun q => hg1 q.2), if_neg (fun q => hg1 q.2)]
  · rw [if_pos (by rw [nI_leI (by omega) (by omega)]; omega), if_neg (fun q => hg q.1)]
theorem sp_mCa {m m' : ba_M} {g0 g1 g2 g3 c : Nat} (u : f_Mo_readNumbers SF 102 (nI 4) m = some (true, m')) (x0 : gI m' 106 0 = nI g0) (x1 : gI m' 106 1 = nI g1) (x2 : gI m' 106 2 = nI g2) (x3 : gI m' 106 3 = nI g3) (hc : gI m' 102 11 = nI c) (hc5 : c ≤ 5) (v0 : g0 ≤ 99) (v1 : g1 ≤ 99) (v2 : g2 ≤ 99) (v3 : g3 ≤ 99) : f_Mo_readCalled SF 102 m = if g0 < c ∧ g1 < c ∧ g0 ≠ g1 ∧ g2 ≤ 40 ∧ 1 ≤ g3 ∧ g3 ≤ 9 then some (true, wI (wI (wI m' 108 g0 (nI g1)) 108 (5 + g0) (nI g2)) 108 (10 + g0) (nI g3)) else some (false, m') := by
  have hcl := nI_clamp (show 0 < 2 ^ 31 by omega)
  have hcl1 := nI_clamp (show 1 < 2 ^ 31 by omega)
  have hcl2 := nI_clamp (show 2 < 2 ^ 31 by omega)
  have hcl3 := nI_clamp (show 3 < 2 ^ 31 by omega)
  have hb := fun r : Option (Bool × ba_M) => bd_106 (show 0 < 5 by omega) r
  have hb1 := fun r : Option (Bool × ba_M) => bd_106 (show 1 < 5 by omega) r
  have hb2 := fun r : Option (Bool × ba_M) => bd_106 (show 2 < 5 by omega) r
  have hb3 := fun r : Option (Bool × ba_M) => bd_106 (show 3 < 5 by omega) r
  unfold f_Mo_readCalled f_Mo_readCalled_49 f_Mo_readCalled_81
  rw [cK_102, u, obS]
  dsimp only
  rw [if_pos rfl, ld_102_8, hb, hcl, x0, hc]
  by_cases hg : g0 < c
  · rw [if_neg (by rw [nI_leI (by omega) (by omega)]; omega), ld_102_8, hb1, hcl1, x1]
    by_cases hg1 : g1 < c
    · rw [if_neg (by rw [nI_leI (by omega) (by omega)]; omega), ld_102_8, hb, ld_102_8, hb1, x0, x1]
      by_cases he : g0 = g1
      · rw [if_pos (congrArg nI he), if_neg (fun q => q.2.2.1 he)]
      · rw [if_neg (fun e => he (nI_inj (by omega) (by omega) e)), ld_102_8, hb2, hcl2, x2, sp_inN v2 (by omega) (by omega), obS, ite_dec]
        dsimp only
        by_cases hg2 : g2 ≤ 40
        · rw [if_pos ⟨Nat.zero_le _, hg2⟩, ld_102_8, hb3, hcl3, x3, sp_inN v3 (by omega) (by omega), obS, ite_dec]
          dsimp only
          by_cases hg3 : 1 ≤ g3 ∧ g3 ≤ 9
          · rw [if_pos hg3, if_pos ⟨hg, hg1, he, hg2, hg3⟩]
            have e1 : ∀ k, gI (wI m' 108 g0 (nI g1)) 106 k = gI m' 106 k := fun k => gI_n _ _ _ _ _ _ (by omega)
            have e2 : ∀ k, gI (wI (wI m' 108 g0 (nI g1)) 108 (5 + g0) (nI g2)) 106 k = gI m' 106 k := fun k => (gI_n _ _ _ _ _ _ (by omega)).trans (e1 k)
            rw [ld_102_13, ld_102_8, hb, ld_102_8, hb1, x0, x1, bd_108 (show g0 < 15 by omega), ld_102_13, ld_102_8, hb, ld_102_8, hb2, nI_clamp (show g0 < 2 ^ 31 by omega), e1, e1, x0, x2, nI_add, bd_108 (show 5 + g0 < 15 by omega), ld_102_13, ld_102_8, hb, ld_102_8, hb3, nI_clamp (show 5 + g0 < 2 ^ 31 by omega), e2, e2, x0, x3, nI_add, bd_108 (show 10 + g0 < 15 by omega), nI_clamp (show 10 + g0 < 2 ^ 31 by omega)]
          · rw [if_neg hg3, if_neg (fun q => hg3 q.2.2.2.2)]
        · rw [if_neg (fun q => hg2 q.2), if_neg (fun q => hg2 q.2.2.2.1)]
    · rw [if_pos (by rw [nI_leI (by omega) (by omega)]; omega), if_neg (fun q => hg1 q.2.1)]
  · rw [if_pos (by rw [nI_leI (by omega) (by omega)]; omega), if_neg (fun q => hg q.1)]
def oPy (c : Nat) : Nat → Nat → Prop := fun o k => o = 107 ∧ 5 * c ≤ k ∧ k < 5 * c + 5 ∨ o = 108 ∧ k = c ∨ o = 109 ∧ k = c ∨ o = 102 ∧ k = 11
theorem sp_mPy {c : Nat} {g : Nat → Nat} (hc : c < 5) : ∀ (r i N : Nat) (m : ba_M), i + r = 5 → r < N → gI m 102 11 = nI c → (∀ j, j < 5 → gI m 106 j = nI (g j)) → (∀ j, j < i → gI m 107 (5 * c + j) = nI (g j)) →
    ∃ m', fx (fun _ _ _ => none) (b_Mo_readPlayer_95 SF) N 102 (nI i) m = some (true, m') ∧ Fr (oPy c) m m' ∧ (∀ j, j < 5 → gI m' 107 (5 * c + j) = nI (g j)) ∧ gI m' 108 c = -4 ∧ gI m' 109 c = nI 0 ∧ gI m' 102 11 = nI (c + 1) := by
  intro r
  induction r with
  | zero =>
    intro i N m hi hN h11 h6 h7
    obtain ⟨N, rfl⟩ : ∃ z, N = z + 1 := ⟨N - 1, by omega⟩
    obtain rfl : i = 5 := by omega
    have hcl := nI_clamp (show c < 2 ^ 31 by omega)
    have e1 : gI (wI m 108 c (-4)) 102 11 = nI c := (gI_n _ _ _ _ _ _ (by omega)).trans h11
    have e2 : gI (wI (wI m 108 c (-4)) 109 c (nI 0)) 102 11 = nI c := (gI_n _ _ _ _ _ _ (by omega)).trans e1
    have hF : Fr (oPy c) m (wI (wI (wI m 108 c (-4)) 109 c (nI 0)) 102 11 (nI (c + 1))) := ((Fr.rf.w (Or.inr (Or.inl ⟨rfl, rfl⟩))).w (Or.inr (Or.inr (Or.inl ⟨rfl, rfl⟩)))).w (Or.inr (Or.inr (Or.inr ⟨rfl, rfl⟩)))
    refine ⟨wI (wI (wI m 108 c (-4)) 109 c (nI 0)) 102 11 (nI (c + 1)), ?_, hF, fun j hj => ?_, ?_, ?_, gI_s _ _ _ _⟩
    · rw [fx_s]
      generalize fx (fun _ _ _ => none) (b_Mo_readPlayer_95 SF) N = K
      unfold b_Mo_readPlayer_95
      rw [if_pos (by rw [nI_leI (by omega) (by omega)]; omega), ld_102_13, h11, bd_108 (show c < 15 by omega), ld_102_14, hcl, e1, bd_109 hc, hcl, e2, nI_add]
    · rw [gI_n _ _ _ _ _ _ (by omega), gI_n _ _ _ _ _ _ (by omega), gI_n _ _ _ _ _ _ (by omega)]; exact h7 j hj
    · rw [gI_n _ _ _ _ _ _ (by omega), gI_n _ _ _ _ _ _ (by omega)]; exact gI_s _ _ _ _
    · rw [gI_n _ _ _ _ _ _ (by omega)]; exact gI_s _ _ _ _
  | succ r ih =>
    intro i N m hi hN h11 h6 h7
    obtain ⟨N, rfl⟩ : ∃ z, N = z + 1 := ⟨N - 1, by omega⟩
    have hF : Fr (oPy c) m (wI m 107 (5 * c + i) (nI (g i))) := Fr.rf.w (Or.inl ⟨rfl, by omega, by omega⟩)
    obtain ⟨m', u1, u2, u3⟩ := ih (i + 1) N (wI m 107 (5 * c + i) (nI (g i))) (by omega) (by omega) ((gI_n _ _ _ _ _ _ (by omega)).trans h11) (fun j hj => (gI_n _ _ _ _ _ _ (by omega)).trans (h6 j hj)) (fun j hj => by
      by_cases e : j = i
      · subst e; exact gI_s _ _ _ _
      · rw [gI_n _ _ _ _ _ _ (by omega)]; exact h7 j (by omega))
    refine ⟨m', ?_, hF.tr u2, u3⟩
    rw [fx_s]
    generalize fx (fun _ _ _ => none) (b_Mo_readPlayer_95 SF) N = K at u1 ⊢
    unfold b_Mo_readPlayer_95
    rw [if_neg (by rw [nI_leI (by omega) (by omega)]; omega), ld_102_12, ld_102_8, bd_106 (show i < 5 by omega), h11, pk_mul, nI_add, bd_107 (show 5 * c + i < 25 by omega), nI_clamp (show i < 2 ^ 31 by omega), nI_clamp (show 5 * c + i < 2 ^ 31 by omega), h6 i (by omega), nI_add]
    exact u1
theorem sp_mPn {m m' : ba_M} {g : Nat → Nat} {c : Nat} (h11 : gI m 102 11 = nI c) (hc : c < 5) (u : f_Mo_readNumbers SF 102 (nI 5) m = some (true, m')) (x : ∀ j, j < 5 → gI m' 106 j = nI (g j)) (v : ∀ j, g j ≤ 99) : f_Mo_readPlayer SF 102 m = if g 0 ≤ 40 ∧ (1 ≤ g 1 ∧ g 1 ≤ 5) ∧ (1 ≤ g 2 ∧ g 2 ≤ 9) ∧ g 3 ≤ 9 ∧ g 4 ≤ 3 then f_Mo_readPlayer_95 SF 102 (nI 0) m' else some (false, m') := by
  have hcl := nI_clamp (show 0 < 2 ^ 31 by omega)
  have hcl1 := nI_clamp (show 1 < 2 ^ 31 by omega)
  have hcl2 := nI_clamp (show 2 < 2 ^ 31 by omega)
  have hcl3 := nI_clamp (show 3 < 2 ^ 31 by omega)
  have hcl4 := nI_clamp (show 4 < 2 ^ 31 by omega)
  have hb := fun r : Option (Bool × ba_M) => bd_106 (show 0 < 5 by omega) r
  have hb1 := fun r : Option (Bool × ba_M) => bd_106 (show 1 < 5 by omega) r
  have hb2 := fun r : Option (Bool × ba_M) => bd_106 (show 2 < 5 by omega) r
  have hb3 := fun r : Option (Bool × ba_M) => bd_106 (show 3 < 5 by omega) r
  have hb4 := fun r : Option (Bool × ba_M) => bd_106 (show 4 < 5 by omega) r
  have x0 := x 0 (by omega)
  have x1 := x 1 (by omega)
  have x2 := x 2 (by omega)
  have x3 := x 3 (by omega)
  have x4 := x 4 (by omega)
  unfold f_Mo_readPlayer f_Mo_readPlayer_16 f_Mo_readPlayer_91
  generalize f_Mo_readPlayer_95 SF = F
  rw [cK_102, h11, if_neg (fun e => by have := nI_inj (by omega) (by omega) e; omega), u, obS]
  dsimp only
  rw [if_pos rfl, ld_102_8, hb, hcl, x0, sp_inN (v 0) (by omega) (by omega), obS, ite_dec]
  dsimp only
  by_cases g0 : g 0 ≤ 40
  · rw [if_pos ⟨Nat.zero_le _, g0⟩, ld_102_8, hb1, hcl1, x1, sp_inN (v 1) (by omega) (by omega), obS, ite_dec]
    dsimp only
    by_cases g1 : 1 ≤ g 1 ∧ g 1 ≤ 5
    · rw [if_pos g1, ld_102_8, hb2, hcl2, x2, sp_inN (v 2) (by omega) (by omega), obS, ite_dec]
      dsimp only
      by_cases g2 : 1 ≤ g 2 ∧ g 2 ≤ 9
      · rw [if_pos g2, ld_102_8, hb3, hcl3, x3, sp_inN (v 3) (by omega) (by omega), obS, ite_dec]
        dsimp only
        by_cases g3 : g 3 ≤ 9
        · rw [if_pos ⟨Nat.zero_le _, g3⟩, ld_102_8, hb4, hcl4, x4, sp_inN (v 4) (by omega) (by omega), obS, ite_dec]
          dsimp only
          by_cases g4 : g 4 ≤ 3
          · rw [if_pos ⟨Nat.zero_le _, g4⟩, if_pos ⟨g0, g1, g2, g3, g4⟩]
          · rw [if_neg (fun q => g4 q.2), if_neg (fun q => g4 q.2.2.2.2)]
        · rw [if_neg (fun q => g3 q.2), if_neg (fun q => g3 q.2.2.2.1)]
      · rw [if_neg g2, if_neg (fun q => g2 q.2.2.1)]
    · rw [if_neg g1, if_neg (fun q => g1 q.2.1)]
  · rw [if_neg (fun q => g0 q.2), if_neg (fun q => g0 q.1)]
theorem sp_mnF {m m' : ba_M} : (f_Mo_readNumbers SF 102 (nI 2) m = some (false, m') → f_Mo_readLettersOf SF 102 m = some (false, m')) ∧ (f_Mo_readNumbers SF 102 (nI 4) m = some (false, m') → f_Mo_readCalled SF 102 m = some (false, m')) ∧ (f_Mo_readNumbers SF 102 (nI 5) m = some (false, m') → ¬ gI m 102 11 = nI 5 → f_Mo_readPlayer SF 102 m = some (false, m')) := by
  refine ⟨fun u => ?_, fun u => ?_, fun u h => ?_⟩
  · unfold f_Mo_readLettersOf f_Mo_readLettersOf_35
    rw [cK_102, u, obS]
    dsimp only
    rw [if_neg Bool.false_ne_true]
  · unfold f_Mo_readCalled f_Mo_readCalled_49
    rw [cK_102, u, obS]
    dsimp only
    rw [if_neg Bool.false_ne_true]
  · unfold f_Mo_readPlayer f_Mo_readPlayer_16
    rw [cK_102, if_neg h, u, obS]
    dsimp only
    rw [if_neg Bool.false_ne_true]
