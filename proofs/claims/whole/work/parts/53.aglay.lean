theorem plD_iff {c n d : Nat} {P T : ba_T} (hs : okD (c, n, d, P, T)) : (∀ k, k < c → plD (c, n, d, P, T) k) ↔ ∀ k, 0 ≤ k → k < c → P k 0 ≤ n ∧ tlU c P T c k 1 ≤ n := by
  obtain ⟨o1, o2, o3, o4, o5⟩ := id hs
  dsimp only at o1 o2 o3 o4 o5
  have hT : ∀ i, i < c → tlU c P T c i = tlD c P T i := fun i hi => if_pos hi
  have hnx : ∀ i, i < c → nxC c i < c := fun i hi => by unfold nxC; split <;> omega
  constructor
  · intro h k _ hk
    refine ⟨(h k hk).1, ?_⟩
    rw [hT k hk]
    unfold tlD
    by_cases h5 : T k 0 = 5
    · rw [if_pos h5]; exact (h _ (hnx k hk)).1
    · rw [if_neg h5]; exact (h k hk).2
  · intro h k hk
    obtain ⟨h1, h2⟩ := h k (Nat.zero_le _) hk
    refine ⟨h1, ?_⟩
    show T k 1 ≤ n
    by_cases h5 : T k 0 = 5
    · rcases (o5 k hk).2.1 with q | q
      · omega
      · omega
    · rw [hT k hk] at h2
      unfold tlD at h2
      rw [if_neg h5] at h2
      exact h2
theorem sp_layM {m : ba_M} {l c n d : Nat} {Y : Nat → Int32} {P T : ba_T} (hM : MT m l Y) (hr : rdA Y l (l + 1) 0 (0, 30, 1, fun _ _ => 0, fun _ _ => 0) = Sum.inr (c, n, d, P, T)) :
    ((¬ (2 ≤ c ∧ ∀ k, k < c → plD (c, n, d, P, T) k)) → ∃ m', f_Mo_lay SF 102 m = some (-2, m') ∧ Fr oGR m m') ∧ ((2 ≤ c ∧ ∀ k, k < c → plD (c, n, d, P, T) k) → ∃ m', f_Mo_lay SF 102 m = some (nI c, m') ∧ Fr (fun o k => oGR o k ∨ o = 102 ∧ (k < 3 ∨ k = 24 ∨ k = 26 ∨ k = 29) ∨ o = 103 ∨ o = 104) m m' ∧ GM m' c n d P (tlU c P T c) ∧ gI m' 102 24 = nI 0 ∧ gI m' 102 26 = nI 0 ∧ gI m' 102 29 = nI 0) := by
  obtain ⟨r, m1, u1, u2, u3⟩ := sp_readM hM
  rw [hr] at u3
  rcases u3 with ⟨q, u3, -⟩ | ⟨s', u3, u4, hG, hs⟩
  · cases u3
  obtain rfl := Sum.inr.inj u3
  obtain ⟨o1, o2, o3, o4, o5⟩ := id hs
  dsimp only at o1 o2 o3 o4 o5
  have h11 : gI m1 102 11 = nI c := hG.1
  unfold f_Mo_lay f_Mo_lay_17
  rw [cK_102, u1, obS, u4]
  dsimp only
  rw [if_pos rfl, h11]
  by_cases h2 : 2 ≤ c
  · rw [if_pos (by rw [nI_leI (by omega) (by omega)]; omega)]
    have hU0 : GR m1 (c, n, d, P, tlU c P T 0) := ⟨hG.1, hG.2.1, hG.2.2.1, fun i hi => by
      have e : tlU c P T 0 i = T i := if_neg (Nat.not_lt_zero _)
      dsimp only
      rw [e]
      exact hG.2.2.2 i hi⟩
    obtain ⟨m2, v1, v2, v3⟩ := sp_mcalls hs c 0 FU m1 rfl (Nat.zero_le _) (by unfold FU; omega) hU0
    have v1' : f_Mo_calls SF 102 m1 = some m2 := by
      unfold f_Mo_calls
      rw [cK_102]
      exact v1
    have hT : ∀ i, i < c → tlU c P T c i = tlD c P T i := fun i hi => if_pos hi
    have hnx : ∀ i, i < c → nxC c i < c := fun i hi => by unfold nxC; split <;> omega
    have hbd : ∀ i, i < c → tlU c P T c i 0 ≠ 5 ∧ P i 0 ≤ 40 ∧ tlU c P T c i 1 ≤ 40 := by
      intro i hi
      rw [hT i hi]
      obtain ⟨p1, p2, p3⟩ := o5 i hi
      have p4 := (o5 _ (hnx i hi)).1.1
      have p5 := hnx i hi
      unfold tlD
      by_cases h5 : T i 0 = 5
      · rw [if_pos h5]
        refine ⟨?_, p1.1, p4⟩
        show nxC c i ≠ 5
        omega
      · rw [if_neg h5]
        exact ⟨h5, p1.1, by omega⟩
    obtain ⟨w1, w2⟩ := sp_m26 v3 o4 o2 hbd c 0 FU rfl (Nat.zero_le _) (by unfold FU; omega)
    rw [v1', obS]
    refine ⟨fun h => ⟨m2, w2 (fun q => h ⟨h2, (plD_iff hs).mpr q⟩), u2.tr (v2.up (fun o k q => by unfold oGR; omega))⟩, fun h => ?_⟩
    have w1 := w1 ((plD_iff hs).mp h.2)
    have hF3 : Fr (fun o k => o = 102 ∧ k < 3) m2 (m26 m2 c n d) := by
      unfold m26
      exact ((Fr.rf.w ⟨rfl, by omega⟩).w ⟨rfl, by omega⟩).w ⟨rfl, by omega⟩
    have y0 : gI (m26 m2 c n d) 102 0 = nI n := by unfold m26; rw [gI_n _ _ _ _ _ _ (by omega), gI_n _ _ _ _ _ _ (by omega)]; exact gI_s _ _ _ _
    have y1 : gI (m26 m2 c n d) 102 1 = nI d := by unfold m26; rw [gI_n _ _ _ _ _ _ (by omega)]; exact gI_s _ _ _ _
    have y2 : gI (m26 m2 c n d) 102 2 = nI c := by unfold m26; exact gI_s _ _ _ _
    generalize m26 m2 c n d = m3 at w1 hF3 y0 y1 y2
    obtain ⟨m4, a1, a2, a3⟩ := sp_m99 25 0 FU m3 rfl (by unfold FU; omega) (fun j hj => absurd hj (Nat.not_lt_zero _))
    obtain ⟨m5, b1, b2, b3⟩ := sp_m125 15 0 FU m4 rfl (by unfold FU; omega) (fun j hj => absurd hj (Nat.not_lt_zero _))
    obtain ⟨m6, c1, c2, c3, c4, c5, c6⟩ := sp_m151 o4 5 0 FU m5 rfl (by unfold FU; omega) (((b2.1 _ _ (by omega)).trans (a2.1 _ _ (by omega))).trans y2) (fun j hj => absurd hj (Nat.not_lt_zero _))
    have e0 : f_Mo_lay_26 SF 102 (nI 0) m2 = f_Mo_lay_99 SF 102 (nI 0) m3 := w1
    have e1 : f_Mo_lay_99 SF 102 (nI 0) m3 = f_Mo_lay_125 SF 102 (nI 0) m4 := a1
    have e2 : f_Mo_lay_125 SF 102 (nI 0) m4 = f_Mo_lay_151 SF 102 (nI 0) m5 := b1
    have e3 : f_Mo_lay_151 SF 102 (nI 0) m5 = some (nI c, m6) := c1
    refine ⟨m6, by rw [e0, e1, e2, e3], ?_, ?_, c4, c5, c6⟩
    · refine ((((u2.up (fun o k q => Or.inl q)).tr (v2.up ?_)).tr (hF3.up ?_)).tr (a2.up ?_)).tr ((b2.up ?_).tr (c2.up ?_))
      · intro o k q; unfold oGR; omega
      · intro o k q; omega
      · intro o k q; omega
      · intro o k q; omega
      · intro o k q; unfold oL1 at q; omega
    · obtain ⟨g1, g2, g3, g4⟩ := v3
      dsimp only at g1 g2 g3 g4
      have z1 : ∀ k, k < 3 → gI m6 102 k = gI m3 102 k := fun k hk => ((c2.1 _ _ (by unfold oL1; omega)).trans (b2.1 _ _ (by omega))).trans (a2.1 _ _ (by omega))
      have z3 : ∀ k, k < 25 → gI m6 103 k = gI m2 107 k := fun k hk => (((c2.1 _ _ (by unfold oL1; omega)).trans (b2.1 _ _ (by omega))).trans (a3 k hk)).trans (hF3.1 _ _ (by omega))
      have z4 : ∀ k, k < 15 → gI m6 104 k = gI m2 108 k := fun k hk => (((c2.1 _ _ (by unfold oL1; omega)).trans (b3 k hk)).trans (a2.1 _ _ (by omega))).trans (hF3.1 _ _ (by omega))
      have z5 : ∀ k, k < c → gI m6 104 (15 + k) = gI m2 109 k := fun k hk => (((c3 k hk).trans (b2.1 _ _ (by omega))).trans (a2.1 _ _ (by omega))).trans (hF3.1 _ _ (by omega))
      refine ⟨(z1 _ (by omega)).trans y2, (z1 _ (by omega)).trans y0, (z1 _ (by omega)).trans y1, fun i hi => ?_, fun i hi => ?_⟩
      · obtain ⟨⟨q1, q2, q3, q4, q5⟩, -⟩ := g4 i hi
        exact ⟨(z3 _ (by omega)).trans q1, (z3 _ (by omega)).trans q2, (z3 _ (by omega)).trans q3, (z3 _ (by omega)).trans q4, (z3 _ (by omega)).trans q5⟩
      · obtain ⟨-, q1, q2, q3⟩ := g4 i hi
        obtain ⟨h5, -⟩ := hbd i hi
        have hcal : cal (tlU c P T c i 0) = nI (tlU c P T c i 0) := if_neg h5
        exact ⟨(z4 _ (by omega)).trans (q1.trans hcal), (z4 _ (by omega)).trans (q2 h5).1, (z4 _ (by omega)).trans (q2 h5).2, (z5 _ (by omega)).trans q3⟩
  · rw [if_neg (by rw [nI_leI (by omega) (by omega)]; omega)]
    exact ⟨fun _ => ⟨m1, rfl, u2⟩, fun h => absurd h.1 h2⟩
theorem sp_layF {m : ba_M} {l q : Nat} {Y : Nat → Int32} (hM : MT m l Y) (hr : rdA Y l (l + 1) 0 (0, 30, 1, fun _ _ => 0, fun _ _ => 0) = Sum.inl q) : ∃ m', f_Mo_lay SF 102 m = some (-2, m') ∧ Fr oGR m m' := by
  obtain ⟨r, m1, u1, u2, u3⟩ := sp_readM hM
  have hl := hM.1
  rw [hr] at u3
  rcases u3 with ⟨q, u3, u5, u4⟩ | ⟨s', u3, -⟩
  · refine ⟨m1, ?_, u2⟩
    have hn : ¬ nI q = -4 := nI_nneg (by omega) _ (by decide)
    unfold f_Mo_lay f_Mo_lay_17
    rw [cK_102, u1, obS, u4]
    dsimp only
    rw [if_neg hn]
  · cases u3
theorem ag_lay {m : ba_M} (hv : Inv m) : Ag (f_Ba_lay SF 0 m) (f_Mo_lay SF 102) := by
  obtain ⟨c0, n0, d0, P0, T0, hC, hM, hok, ⟨l, h4⟩, ⟨s5, sg, h5⟩, ⟨u6, w6, W6, a6, h6⟩, ⟨v7, w7, V7, h7⟩, h8⟩ := id hv
  obtain ⟨t1, t2⟩ := h4.ct
  have hl := h4.1
  obtain ⟨r, m1, u1, u2, u3⟩ := sp_readC t1
  have hM1 := t2.fr u2 (by intro o k ho; unfold oGD at ho; omega)
  have hF1 : Fr scr m m1 := u2.up (fun o k h => by unfold oGD at h; unfold scr; omega)
  have hGR : ∀ o k, oGR o k → scr o k := fun o k h => by unfold oGR at h; unfold scr; omega
  rcases u3 with ⟨q, u3, u5, u4⟩ | ⟨⟨c, n, d, P, T⟩, u3, u4, hG, hs⟩
  · obtain ⟨m2, w1, w2⟩ := sp_layF hM1 u3
    refine ⟨-2, m1, m2, ?_, w1, hv.fr (hF1.tr (w2.up hGR))⟩
    have hn : ¬ nI q = -4 := nI_nneg (by omega) _ (by decide)
    unfold f_Ba_lay f_Ba_lay_30
    rw [cK_0, ld_0_1, ld_0_0, ld_0_4, u1, obS, u4]
    dsimp only
    rw [if_neg hn]
  · obtain ⟨b, x1, x2⟩ := sp_can hG hs
    dsimp only at x2
    obtain ⟨y1, y2⟩ := sp_layM hM1 u3
    obtain ⟨o1, o2, o3, o4, o5⟩ := id hs
    dsimp only at o1 o2 o3 o4 o5
    by_cases hp : 2 ≤ c ∧ ∀ k, k < c → plD (c, n, d, P, T) k
    · obtain rfl := x2.mpr hp
      have hU0 : GD m1 (c, n, d, P, tlU c P T 0) := ⟨hG.1, hG.2.1, hG.2.2.1, fun i hi => by
        have e : tlU c P T 0 i = T i := if_neg (Nat.not_lt_zero _)
        dsimp only
        rw [e]
        exact hG.2.2.2 i hi⟩
      obtain ⟨m2, z1, z2, z3⟩ := sp_tellL hs c 0 FU m1 rfl (Nat.zero_le _) (by unfold FU; omega) hU0
      obtain ⟨k1, k2⟩ := tlU_ok hs hp.1 hp.2
      obtain ⟨m3, p1, p2, p3⟩ := sp_copyG z3 o4 k2
      have z1 : f_Ga_tellUntoldCalls_2 SF 23 (nI 0) m1 = some m2 := z1
      have hF4 : Fr (fun o k => o = 44 ∧ k = 3 ∨ o = 48 ∧ k = 2 ∨ o = 90 ∧ k = 2) m3 (wI (wI (wI m3 44 3 (nI 0)) 48 2 (nI 0)) 90 2 (nI 0)) := ((Fr.rf.w (by omega)).w (by omega)).w (by omega)
      have q44 : gI (wI (wI (wI m3 44 3 (nI 0)) 48 2 (nI 0)) 90 2 (nI 0)) 44 3 = nI 0 := by rw [gI_n _ _ _ _ _ _ (by omega), gI_n _ _ _ _ _ _ (by omega)]; exact gI_s _ _ _ _
      have q48 : gI (wI (wI (wI m3 44 3 (nI 0)) 48 2 (nI 0)) 90 2 (nI 0)) 48 2 = nI 0 := by rw [gI_n _ _ _ _ _ _ (by omega)]; exact gI_s _ _ _ _
      have q90 : gI (wI (wI (wI m3 44 3 (nI 0)) 48 2 (nI 0)) 90 2 (nI 0)) 90 2 = nI 0 := gI_s _ _ _ _
      have hBa : f_Ba_lay SF 0 m = some (nI c, wI (wI (wI m3 44 3 (nI 0)) 48 2 (nI 0)) 90 2 (nI 0)) := by
        unfold f_Ba_lay f_Ba_lay_30 f_Ga_tellUntoldCalls f_Si_empty f_Sh_empty
        rw [cK_0, ld_0_1, ld_0_0, ld_0_4, u1, obS, u4]
        dsimp only
        rw [if_pos rfl, ld_0_4, x1, obS]
        dsimp only
        rw [if_pos rfl, ld_0_4, cK_23, z1, obS, ld_0_3, ld_0_4, p1, obS, ld_0_7, cK_44, obS, ld_0_8, cK_48, obS, ld_0_9, cK_90, obS, ld_0_3]
        dsimp only
        rw [hF4.1 6 2 (by omega), p3.1]
      have hC4 : GC (wI (wI (wI m3 44 3 (nI 0)) 48 2 (nI 0)) 90 2 (nI 0)) c n d P (tlU c P T c) := p3.fr o4 hF4 (by intro o k ho; omega)
      generalize wI (wI (wI m3 44 3 (nI 0)) 48 2 (nI 0)) 90 2 (nI 0) = m4 at hF4 q44 q48 q90 hBa hC4
      have hFc : Fr (fun o k => scr o k ∨ o = 6 ∨ 10 ≤ o ∧ o < 20 ∨ o = 44 ∧ k = 3 ∨ o = 48 ∧ k = 2 ∨ o = 90 ∧ k = 2) m m4 := by
        refine (((hF1.up (fun o k q => Or.inl q)).tr (z2.up ?_)).tr (p2.up ?_)).tr (hF4.up ?_)
        · intro o k q; unfold oGD at q; unfold scr; omega
        · intro o k q; omega
        · intro o k q; omega
      have hM4 : MT m4 l (yB m l) := t2.fr hFc (by intro o k ho; unfold scr at ho; omega)
      obtain ⟨m5, g1, g2, g3, g4, g5, g6⟩ := (sp_layM hM4 u3).2 hp
      have hFm : Fr (fun o k => scr o k ∨ o = 102 ∧ (k < 3 ∨ k = 24 ∨ k = 26 ∨ k = 29) ∨ o = 103 ∨ o = 104) m4 m5 := g2.up (fun o k q => q.elim (fun q => Or.inl (hGR o k q)) Or.inr)
      have hF : Fr (fun o k => scr o k ∨ o = 6 ∨ 10 ≤ o ∧ o < 20 ∨ o = 44 ∧ k = 3 ∨ o = 48 ∧ k = 2 ∨ o = 90 ∧ k = 2 ∨ o = 102 ∧ (k < 3 ∨ k = 24 ∨ k = 26 ∨ k = 29) ∨ o = 103 ∨ o = 104) m m5 := (hFc.up (fun o k q => q.elim Or.inl (fun q => Or.inr (by omega)))).tr (hFm.up (fun o k q => q.elim Or.inl (fun q => Or.inr (by omega))))
      have e : ∀ o k, o < 102 → ¬ scr o k → gI m5 o k = gI m4 o k := fun o k h1 h2 => hFm.1 o k (fun q => q.elim h2 (by omega))
      refine ⟨nI c, m4, m5, hBa, g1, c, n, d, P, tlU c P T c, ?_, g3, k1, ⟨l, h4.frO hF ?_⟩, ⟨0, sg, ?_⟩, ⟨0, w6, fun _ => tlU c P T c, a6, ?_⟩, ⟨0, w7, V7, ?_⟩, h8.frO hF ?_⟩
      · exact hC4.fr o4 hFm (by intro o k ho; unfold scr at ho; omega)
      · intro o k ho; unfold scr at ho; unfold tTX; omega
      · exact ⟨Nat.zero_le _, (e _ _ (by omega) (by unfold scr; omega)).trans q44, g5, fun t ht => absurd ht (Nat.not_lt_zero _)⟩
      · obtain ⟨i1, i2, i3, i4, i5, -⟩ := h6
        exact ⟨Nat.zero_le _, i2, (hF.1 _ _ (by unfold scr; omega)).trans i3, (e _ _ (by omega) (by unfold scr; omega)).trans q48, (hF.1 _ _ (by unfold scr; omega)).trans i5, g4, fun i hi f hf => rfl, fun t ht => absurd ht (Nat.not_lt_zero _)⟩
      · obtain ⟨i1, i2, i3, i4, i5, -⟩ := h7
        exact ⟨Nat.zero_le _, i2, (hF.1 _ _ (by unfold scr; omega)).trans i3, (e _ _ (by omega) (by unfold scr; omega)).trans q90, (hF.1 _ _ (by unfold scr; omega)).trans i5, g6, fun t ht => absurd ht (Nat.not_lt_zero _)⟩
      · intro o k ho; unfold scr at ho; omega
    · obtain ⟨m2, w1, w2⟩ := y1 hp
      refine ⟨-2, m1, m2, ?_, w1, hv.fr (hF1.tr (w2.up hGR))⟩
      have hb : b ≠ true := fun h => hp (x2.mp h)
      unfold f_Ba_lay f_Ba_lay_30
      rw [cK_0, ld_0_1, ld_0_0, ld_0_4, u1, obS, u4]
      dsimp only
      rw [if_pos rfl, ld_0_4, x1, obS]
      dsimp only
      rw [if_neg hb]
