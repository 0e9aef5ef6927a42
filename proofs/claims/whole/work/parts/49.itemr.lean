theorem RO.no {Y : Nat → Int32} {p : Nat} {C : List Nat → Prop} {ns : List Nat → rdS} {m' : ba_M} (h : ∀ vs e, rdL Y 5 p = some (vs, e) → ¬ C vs) : RO Y p C ns m' false := Or.inl ⟨rfl, h⟩
theorem RO.no1 {Y : Nat → Int32} {p e : Nat} {vs : List Nat} {C : List Nat → Prop} {ns : List Nat → rdS} {m' : ba_M} (w : rdL Y 5 p = some (vs, e)) (h : ¬ C vs) : RO Y p C ns m' false := Or.inl ⟨rfl, fun vs' e' h' q => by
  rw [w] at h'
  obtain ⟨rfl, rfl⟩ := Prod.mk.inj (Option.some.inj h')
  exact h q⟩
theorem sp_mLetters {l p : Nat} {Y : Nat → Int32} {m : ba_M} {s : rdS} (hM : MT m l Y) (h7 : gI m 102 7 = nI p) (hp : p ≤ 400) (hG : GR m s) (hs : okD s) :
    ∃ b m', f_Mo_readLettersOf SF 102 m = some (b, m') ∧ Fr oGR m m' ∧ RO Y p (fun vs => vs.length = 2 ∧ vs.getD 0 0 < s.1 ∧ vs.getD 1 0 ≤ 3) (fun vs => (s.1, s.2.1, s.2.2.1, s.2.2.2.1, upR s.2.2.2.2 (vs.getD 0 0) (fun k => if k = 3 then vs.getD 1 0 else s.2.2.2.2 (vs.getD 0 0) k))) m' b := by
  obtain ⟨b, m', u1, u2, uG, u3⟩ := sp_mnum hM h7 hp (show 1 ≤ 2 by omega) (by omega) hG hs
  have hc5 : s.1 ≤ 5 := hs.2.2.2.1
  have hF : Fr oGR m m' := u2.up (fun o k h => by unfold oMn at h; unfold oGR; omega)
  rcases u3 with ⟨rfl, u4⟩ | ⟨rfl, vs, e, w1, w2, w3, wv, w4⟩
  · exact ⟨false, m', sp_mnF.1 u1, hF, RO.no (fun vs e h q => u4 vs e h q.1)⟩
  · rw [sp_mLe u1 (w4 0 (by omega)) (w4 1 (by omega)) uG.1 hc5 (wv 0) (wv 1)]
    by_cases hc : vs.getD 0 0 < s.1 ∧ vs.getD 1 0 ≤ 3
    · rw [if_pos hc]
      have hF2 : Fr (fun o k => o = 109 ∧ k = vs.getD 0 0) m' (wI m' 109 (vs.getD 0 0) (nI (vs.getD 1 0))) := Fr.rf.w ⟨rfl, rfl⟩
      have w0 : gI (wI m' 109 (vs.getD 0 0) (nI (vs.getD 1 0))) 109 (vs.getD 0 0) = nI (vs.getD 1 0) := gI_s _ _ _ _
      have e2 : ∀ o k, (o = 109 → k ≠ vs.getD 0 0) → gI (wI m' 109 (vs.getD 0 0) (nI (vs.getD 1 0))) o k = gI m' o k := fun o k h1 => hF2.1 o k (fun q => h1 q.1 q.2)
      refine ⟨_, _, rfl, hF.tr (hF2.up (fun o k h => by unfold oGR; omega)), Or.inr ⟨rfl, vs, e, w1, ⟨w2, hc⟩, ?_⟩⟩
      dsimp only
      obtain ⟨j1, j2, j3, j4⟩ := id uG
      generalize vs.getD 0 0 = g0 at hc w0 e2 ⊢
      generalize wI m' 109 g0 (nI (vs.getD 1 0)) = m2 at w0 e2 ⊢
      refine ⟨(e2 _ _ (by omega)).trans w3, (e2 _ _ (by omega)).trans j1, (e2 _ _ (by omega)).trans j2, (e2 _ _ (by omega)).trans j3, fun i hi => ?_⟩
      obtain ⟨⟨a1, a2, a3, a4, a5⟩, b1, b2, b3⟩ := j4 i hi
      refine ⟨⟨(e2 _ _ (by omega)).trans a1, (e2 _ _ (by omega)).trans a2, (e2 _ _ (by omega)).trans a3, (e2 _ _ (by omega)).trans a4, (e2 _ _ (by omega)).trans a5⟩, ?_⟩
      dsimp only
      by_cases hi0 : i = g0
      · subst hi0
        rw [upR_s]
        exact ⟨(e2 _ _ (by omega)).trans b1, fun q => ⟨(e2 _ _ (by omega)).trans (b2 q).1, (e2 _ _ (by omega)).trans (b2 q).2⟩, w0⟩
      · rw [upR_n hi0]
        exact ⟨(e2 _ _ (by omega)).trans b1, fun q => ⟨(e2 _ _ (by omega)).trans (b2 q).1, (e2 _ _ (by omega)).trans (b2 q).2⟩, (e2 _ _ (by omega)).trans b3⟩
    · rw [if_neg hc]
      exact ⟨_, _, rfl, hF, RO.no1 w1 (fun q => hc q.2)⟩
theorem sp_mCalled {l p : Nat} {Y : Nat → Int32} {m : ba_M} {s : rdS} (hM : MT m l Y) (h7 : gI m 102 7 = nI p) (hp : p ≤ 400) (hG : GR m s) (hs : okD s) :
    ∃ b m', f_Mo_readCalled SF 102 m = some (b, m') ∧ Fr oGR m m' ∧ RO Y p (fun vs => vs.length = 4 ∧ vs.getD 0 0 < s.1 ∧ vs.getD 1 0 < s.1 ∧ vs.getD 0 0 ≠ vs.getD 1 0 ∧ vs.getD 2 0 ≤ 40 ∧ 1 ≤ vs.getD 3 0 ∧ vs.getD 3 0 ≤ 9) (fun vs => (s.1, s.2.1, s.2.2.1, s.2.2.2.1, upR s.2.2.2.2 (vs.getD 0 0) (fun k => if k = 3 then s.2.2.2.2 (vs.getD 0 0) 3 else vs.getD (k + 1) 0))) m' b := by
  obtain ⟨b, m', u1, u2, uG, u3⟩ := sp_mnum hM h7 hp (show 1 ≤ 4 by omega) (by omega) hG hs
  have hc5 : s.1 ≤ 5 := hs.2.2.2.1
  have hF : Fr oGR m m' := u2.up (fun o k h => by unfold oMn at h; unfold oGR; omega)
  rcases u3 with ⟨rfl, u4⟩ | ⟨rfl, vs, e, w1, w2, w3, wv, w4⟩
  · exact ⟨false, m', sp_mnF.2.1 u1, hF, RO.no (fun vs e h q => u4 vs e h q.1)⟩
  · rw [sp_mCa u1 (w4 0 (by omega)) (w4 1 (by omega)) (w4 2 (by omega)) (w4 3 (by omega)) uG.1 hc5 (wv 0) (wv 1) (wv 2) (wv 3)]
    by_cases hc : vs.getD 0 0 < s.1 ∧ vs.getD 1 0 < s.1 ∧ vs.getD 0 0 ≠ vs.getD 1 0 ∧ vs.getD 2 0 ≤ 40 ∧ 1 ≤ vs.getD 3 0 ∧ vs.getD 3 0 ≤ 9
    · rw [if_pos hc]
      have hF2 : Fr (fun o k => o = 108 ∧ (k = vs.getD 0 0 ∨ k = 5 + vs.getD 0 0 ∨ k = 10 + vs.getD 0 0)) m' (wI (wI (wI m' 108 (vs.getD 0 0) (nI (vs.getD 1 0))) 108 (5 + vs.getD 0 0) (nI (vs.getD 2 0))) 108 (10 + vs.getD 0 0) (nI (vs.getD 3 0))) := ((Fr.rf.w ⟨rfl, Or.inl rfl⟩).w ⟨rfl, Or.inr (Or.inl rfl)⟩).w ⟨rfl, Or.inr (Or.inr rfl)⟩
      refine ⟨_, _, rfl, hF.tr (hF2.up (fun o k h => by unfold oGR; omega)), Or.inr ⟨rfl, vs, e, w1, ⟨w2, hc⟩, ?_⟩⟩
      dsimp only
      obtain ⟨j1, j2, j3, j4⟩ := id uG
      have x0 : gI (wI (wI (wI m' 108 (vs.getD 0 0) (nI (vs.getD 1 0))) 108 (5 + vs.getD 0 0) (nI (vs.getD 2 0))) 108 (10 + vs.getD 0 0) (nI (vs.getD 3 0))) 108 (vs.getD 0 0) = nI (vs.getD 1 0) := by rw [gI_n _ _ _ _ _ _ (by omega), gI_n _ _ _ _ _ _ (by omega)]; exact gI_s _ _ _ _
      have x1 : gI (wI (wI (wI m' 108 (vs.getD 0 0) (nI (vs.getD 1 0))) 108 (5 + vs.getD 0 0) (nI (vs.getD 2 0))) 108 (10 + vs.getD 0 0) (nI (vs.getD 3 0))) 108 (5 + vs.getD 0 0) = nI (vs.getD 2 0) := by rw [gI_n _ _ _ _ _ _ (by omega)]; exact gI_s _ _ _ _
      have x2 : gI (wI (wI (wI m' 108 (vs.getD 0 0) (nI (vs.getD 1 0))) 108 (5 + vs.getD 0 0) (nI (vs.getD 2 0))) 108 (10 + vs.getD 0 0) (nI (vs.getD 3 0))) 108 (10 + vs.getD 0 0) = nI (vs.getD 3 0) := gI_s _ _ _ _
      generalize wI (wI (wI m' 108 (vs.getD 0 0) (nI (vs.getD 1 0))) 108 (5 + vs.getD 0 0) (nI (vs.getD 2 0))) 108 (10 + vs.getD 0 0) (nI (vs.getD 3 0)) = m2 at hF2 x0 x1 x2 ⊢
      generalize vs.getD 0 0 = g0 at hc x0 x1 x2 hF2 ⊢
      have e2 : ∀ o k, (o = 108 → k ≠ g0 ∧ k ≠ 5 + g0 ∧ k ≠ 10 + g0) → gI m2 o k = gI m' o k := fun o k h1 => hF2.1 o k (fun q => by have := h1 q.1; omega)
      refine ⟨(e2 _ _ (by omega)).trans w3, (e2 _ _ (by omega)).trans j1, (e2 _ _ (by omega)).trans j2, (e2 _ _ (by omega)).trans j3, fun i hi => ?_⟩
      dsimp only at hi
      obtain ⟨⟨a1, a2, a3, a4, a5⟩, b1, b2, b3⟩ := j4 i hi
      refine ⟨⟨(e2 _ _ (by omega)).trans a1, (e2 _ _ (by omega)).trans a2, (e2 _ _ (by omega)).trans a3, (e2 _ _ (by omega)).trans a4, (e2 _ _ (by omega)).trans a5⟩, ?_⟩
      dsimp only
      by_cases hi0 : i = g0
      · subst hi0
        rw [upR_s]
        refine ⟨x0.trans ?_, fun q => ⟨x1, x2⟩, (e2 _ _ (by omega)).trans b3⟩
        show nI (vs.getD 1 0) = cal (vs.getD 1 0)
        unfold cal
        rw [if_neg (by omega)]
      · rw [upR_n hi0]
        exact ⟨(e2 _ _ (by omega)).trans b1, fun q => ⟨(e2 _ _ (by omega)).trans (b2 q).1, (e2 _ _ (by omega)).trans (b2 q).2⟩, (e2 _ _ (by omega)).trans b3⟩
    · rw [if_neg hc]
      exact ⟨_, _, rfl, hF, RO.no1 w1 (fun q => hc q.2)⟩
theorem sp_mPlayer {l p : Nat} {Y : Nat → Int32} {m : ba_M} {s : rdS} (hM : MT m l Y) (h7 : gI m 102 7 = nI p) (hp : p ≤ 400) (hG : GR m s) (hs : okD s) :
    ∃ b m', f_Mo_readPlayer SF 102 m = some (b, m') ∧ Fr oGR m m' ∧ RO Y p (fun vs => vs.length = 5 ∧ s.1 < 5 ∧ vs.getD 0 0 ≤ 40 ∧ (1 ≤ vs.getD 1 0 ∧ vs.getD 1 0 ≤ 5) ∧ (1 ≤ vs.getD 2 0 ∧ vs.getD 2 0 ≤ 9) ∧ vs.getD 3 0 ≤ 9 ∧ vs.getD 4 0 ≤ 3) (fun vs => (s.1 + 1, s.2.1, s.2.2.1, upR s.2.2.2.1 s.1 (fun k => vs.getD k 0), upR s.2.2.2.2 s.1 (fun k => if k = 0 then 5 else if k = 2 then 1 else 0))) m' b := by
  have hc5 : s.1 ≤ 5 := hs.2.2.2.1
  by_cases h5 : s.1 = 5
  · refine ⟨false, m, ?_, Fr.rf, RO.no (fun vs e h q => by omega)⟩
    unfold f_Mo_readPlayer f_Mo_readPlayer_16
    rw [cK_102, hG.1, if_pos (congrArg nI h5)]
  obtain ⟨b, m', u1, u2, uG, u3⟩ := sp_mnum hM h7 hp (show 1 ≤ 5 by omega) (by omega) hG hs
  have hF : Fr oGR m m' := u2.up (fun o k h => by unfold oMn at h; unfold oGR; omega)
  rcases u3 with ⟨rfl, u4⟩ | ⟨rfl, vs, e, w1, w2, w3, wv, w4⟩
  · exact ⟨false, m', sp_mnF.2.2 u1 (fun e => h5 (nI_inj (by omega) (by omega) (hG.1.symm.trans e))), hF, RO.no (fun vs e h q => u4 vs e h q.1)⟩
  · rw [sp_mPn (g := fun k => vs.getD k 0) hG.1 (by omega) u1 w4 wv]
    by_cases hc : vs.getD 0 0 ≤ 40 ∧ (1 ≤ vs.getD 1 0 ∧ vs.getD 1 0 ≤ 5) ∧ (1 ≤ vs.getD 2 0 ∧ vs.getD 2 0 ≤ 9) ∧ vs.getD 3 0 ≤ 9 ∧ vs.getD 4 0 ≤ 3
    · rw [if_pos hc]
      obtain ⟨m2, x1, x2, x3, x4, x5, x6⟩ := sp_mPy (g := fun k => vs.getD k 0) (show s.1 < 5 by omega) 5 0 FU m' rfl (by unfold FU; omega) uG.1 w4 (fun j hj => by omega)
      refine ⟨true, m2, x1, hF.tr (x2.up (fun o k h => by unfold oPy at h; unfold oGR; omega)), Or.inr ⟨rfl, vs, e, w1, ⟨w2, by omega, hc⟩, ?_⟩⟩
      obtain ⟨j1, j2, j3, j4⟩ := id uG
      have e2 : ∀ o k, (o = 107 → k < 5 * s.1 ∨ 5 * s.1 + 5 ≤ k) → (o = 108 ∨ o = 109 → k ≠ s.1) → (o = 102 → k ≠ 11) → gI m2 o k = gI m' o k := fun o k h1 h2 h3 => x2.1 o k (fun q => by unfold oPy at q; omega)
      refine ⟨(e2 _ _ (by omega) (by omega) (by omega)).trans w3, x6, (e2 _ _ (by omega) (by omega) (by omega)).trans j2, (e2 _ _ (by omega) (by omega) (by omega)).trans j3, fun i hi => ?_⟩
      dsimp only at hi ⊢
      by_cases hi0 : i = s.1
      · subst hi0
        rw [upR_s, upR_s]
        refine ⟨⟨x3 0 (by omega), x3 1 (by omega), x3 2 (by omega), x3 3 (by omega), x3 4 (by omega)⟩, x4, fun q => absurd rfl q, x5⟩
      · rw [upR_n hi0, upR_n hi0]
        obtain ⟨⟨a1, a2, a3, a4, a5⟩, b1, b2, b3⟩ := j4 i (by omega)
        refine ⟨⟨(e2 _ _ (by omega) (by omega) (by omega)).trans a1, (e2 _ _ (by omega) (by omega) (by omega)).trans a2, (e2 _ _ (by omega) (by omega) (by omega)).trans a3, (e2 _ _ (by omega) (by omega) (by omega)).trans a4, (e2 _ _ (by omega) (by omega) (by omega)).trans a5⟩, (e2 _ _ (by omega) (by omega) (by omega)).trans b1, fun q => ⟨(e2 _ _ (by omega) (by omega) (by omega)).trans (b2 q).1, (e2 _ _ (by omega) (by omega) (by omega)).trans (b2 q).2⟩, (e2 _ _ (by omega) (by omega) (by omega)).trans b3⟩
    · rw [if_neg hc]
      exact ⟨_, _, rfl, hF, RO.no1 w1 (fun q => hc q.2.2)⟩
theorem sp_mItem {l p : Nat} {Y : Nat → Int32} {m : ba_M} {s : rdS} (hM : MT m l Y) (h7 : gI m 102 7 = nI p) (hp : p < l) (hG : GR m s) (hs : okD s) :
    ∃ b m', f_Mo_readItem SF 102 m = some (b, m') ∧ Fr oGR m m' ∧ ((b = false ∧ ∀ vs e, rdL Y 5 (p + 1) = some (vs, e) → itS (Y p) vs.length (fun k => vs.getD k 0) s = none) ∨ b = true ∧ ∃ vs e s', rdL Y 5 (p + 1) = some (vs, e) ∧ itS (Y p) vs.length (fun k => vs.getD k 0) s = some s' ∧ gI m' 102 7 = nI e ∧ GR m' s') := by
  have hl := hM.1
  have hF1 : Fr (fun o k => o = 102 ∧ k = 7) m (wI m 102 7 (nI (p + 1))) := Fr.rf.w ⟨rfl, rfl⟩
  have hF1' : Fr oGR m (wI m 102 7 (nI (p + 1))) := hF1.up (fun o k h => by unfold oGR; omega)
  have hM1 := hM.fr hF1 (by intro o k ho; omega)
  have hG1 := hG.fr hs.2.2.2.1 hF1 (by intro o k ho; omega)
  have h71 : gI (wI m 102 7 (nI (p + 1))) 102 7 = nI (p + 1) := gI_s _ _ _ _
  have b1 := sp_mbyte hM (show p < 1000 by omega)
  unfold f_Mo_readItem
  rw [cK_102, h7, b1, obS]
  dsimp only
  rw [h7, nI_add]
  unfold itS
  by_cases y1 : Y p = 97
  · obtain ⟨b, m', u1, u2, u3⟩ := sp_mCalled hM1 h71 (by omega) hG1 hs
    rw [if_pos y1, u1, obS]
    refine ⟨b, m', rfl, hF1'.tr u2, ?_⟩
    rcases u3 with ⟨u3, u4⟩ | ⟨u3, vs, e, u4, u5, u6, u7⟩
    · exact Or.inl ⟨u3, fun vs e h => by rw [if_pos y1]; exact if_neg (u4 vs e h)⟩
    · exact Or.inr ⟨u3, vs, e, _, u4, by rw [if_pos y1]; exact if_pos u5, u6, u7⟩
  rw [if_neg y1]
  by_cases y2 : Y p = 100
  · obtain ⟨b, m', u1, u2, u3⟩ := sp_mSlide hM1 h71 (by omega) hG1 hs
    rw [if_pos y2, u1, obS]
    refine ⟨b, m', rfl, hF1'.tr u2, ?_⟩
    rcases u3 with ⟨u3, u4⟩ | ⟨u3, vs, e, u4, u5, u6, u7⟩
    · exact Or.inl ⟨u3, fun vs e h => by rw [if_neg y1, if_pos y2]; exact if_neg (u4 vs e h)⟩
    · exact Or.inr ⟨u3, vs, e, _, u4, by rw [if_neg y1, if_pos y2]; exact if_pos u5, u6, u7⟩
  rw [if_neg y2]
  by_cases y3 : Y p = 108
  · obtain ⟨b, m', u1, u2, u3⟩ := sp_mLetters hM1 h71 (by omega) hG1 hs
    rw [if_pos y3, u1, obS]
    refine ⟨b, m', rfl, hF1'.tr u2, ?_⟩
    rcases u3 with ⟨u3, u4⟩ | ⟨u3, vs, e, u4, u5, u6, u7⟩
    · exact Or.inl ⟨u3, fun vs e h => by rw [if_neg y1, if_neg y2, if_pos y3]; exact if_neg (u4 vs e h)⟩
    · exact Or.inr ⟨u3, vs, e, _, u4, by rw [if_neg y1, if_neg y2, if_pos y3]; exact if_pos u5, u6, u7⟩
  rw [if_neg y3]
  by_cases y4 : Y p = 110
  · obtain ⟨b, m', u1, u2, u3⟩ := sp_mGround hM1 h71 (by omega) hG1 hs
    rw [if_pos y4, u1, obS]
    refine ⟨b, m', rfl, hF1'.tr u2, ?_⟩
    rcases u3 with ⟨u3, u4⟩ | ⟨u3, vs, e, u4, u5, u6, u7⟩
    · exact Or.inl ⟨u3, fun vs e h => by rw [if_neg y1, if_neg y2, if_neg y3, if_pos y4]; exact if_neg (u4 vs e h)⟩
    · exact Or.inr ⟨u3, vs, e, _, u4, by rw [if_neg y1, if_neg y2, if_neg y3, if_pos y4]; exact if_pos u5, u6, u7⟩
  rw [if_neg y4]
  by_cases y5 : Y p = 112
  · obtain ⟨b, m', u1, u2, u3⟩ := sp_mPlayer hM1 h71 (by omega) hG1 hs
    rw [if_pos y5, u1, obS]
    refine ⟨b, m', rfl, hF1'.tr u2, ?_⟩
    rcases u3 with ⟨u3, u4⟩ | ⟨u3, vs, e, u4, u5, u6, u7⟩
    · exact Or.inl ⟨u3, fun vs e h => by rw [if_neg y1, if_neg y2, if_neg y3, if_neg y4, if_pos y5]; exact if_neg (u4 vs e h)⟩
    · exact Or.inr ⟨u3, vs, e, _, u4, by rw [if_neg y1, if_neg y2, if_neg y3, if_neg y4, if_pos y5]; exact if_pos u5, u6, u7⟩
  rw [if_neg y5]
  exact ⟨false, _, rfl, hF1', Or.inl ⟨rfl, fun vs e h => by rw [if_neg y1, if_neg y2, if_neg y3, if_neg y4, if_neg y5]⟩⟩
theorem sp_mread {l : Nat} {Y : Nat → Int32} : ∀ (f p N : Nat) (s : rdS) (m : ba_M), p ≤ l → l - p < f → f ≤ N → MT m l Y → gI m 102 7 = nI p → GR m s → okD s →
    ∃ r m', fx (fun _ _ => none) (b_Mo_fault_21 SF) N 102 m = some (r, m') ∧ Fr oGR m m' ∧ ((∃ q, rdA Y l f p s = Sum.inl q ∧ q < l ∧ r = nI q) ∨ ∃ s', rdA Y l f p s = Sum.inr s' ∧ r = -4 ∧ GR m' s' ∧ okD s') := by
  intro f
  induction f with
  | zero => intro p N s m _ h; omega
  | succ f ih =>
    intro p N s m hp hf hN hM h7 hG hs
    have hl := hM.1
    obtain ⟨N, rfl⟩ : ∃ z, N = z + 1 := ⟨N - 1, by omega⟩
    rw [fx_s]
    have ih' := fun e => ih e N
    generalize fx (fun _ _ => none) (b_Mo_fault_21 SF) N = K at ih' ⊢
    unfold rdA b_Mo_fault_21
    rw [hM.2.1, h7]
    by_cases hpl : p < l
    · obtain ⟨b, m1, u1, u2, u3⟩ := sp_mItem hM h7 hpl hG hs
      rw [if_pos hpl, if_neg (by rw [nI_leI (by omega) (by omega)]; omega), u1, obS]
      dsimp only
      rcases u3 with ⟨u3, u4⟩ | ⟨u3, vs, e, s', u4, u5, u6, u7⟩
      · rw [u3, if_neg Bool.false_ne_true]
        refine ⟨_, _, rfl, u2, Or.inl ⟨p, ?_, hpl, rfl⟩⟩
        cases hr : rdL Y 5 (p + 1) with
        | none => rfl
        | some z =>
          have := u4 z.1 z.2 hr
          dsimp only
          rw [this]
      · obtain ⟨v1, v2, v3, v4, v5⟩ := rdL_in hM.2.2.2 _ _ _ _ u4
        rw [u3, if_pos rfl, u4]
        dsimp only
        rw [u5]
        dsimp only
        obtain ⟨r3, m3, x1, x2, x3⟩ := ih' e s' m1 v4 (by omega) (by omega) (hM.fr u2 (by intro o k ho; unfold oGR at ho; omega)) u6 u7 (itS_ok hs u5)
        exact ⟨r3, m3, x1, u2.tr x2, x3⟩
    · rw [if_neg hpl, if_pos (by rw [nI_leI (by omega) (by omega)]; omega)]
      exact ⟨_, _, rfl, Fr.rf, Or.inr ⟨s, rfl, rfl, hG, hs⟩⟩
