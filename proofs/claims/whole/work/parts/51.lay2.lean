def oCp : Nat → Nat → Prop := fun o _ => 10 ≤ o ∧ o < 20
theorem sp_cpOne {m : ba_M} {i : Nat} (hi : i < 5) : ∃ m', f_Pl_copyFrom SF (10 + 2 * i) (27 + 2 * i) m = some m' ∧ Fr (fun o _ => o = 10 + 2 * i ∨ o = 11 + 2 * i) m m' ∧ (gI m' (10 + 2 * i) 1 = gI m (27 + 2 * i) 1 ∧ gI m' (10 + 2 * i) 2 = gI m (27 + 2 * i) 2 ∧ gI m' (10 + 2 * i) 3 = gI m (27 + 2 * i) 3 ∧ gI m' (10 + 2 * i) 4 = gI m (27 + 2 * i) 4 ∧ gI m' (10 + 2 * i) 5 = gI m (27 + 2 * i) 5) ∧ gI m' (11 + 2 * i) 0 = gI m (28 + 2 * i) 0 ∧ gI m' (11 + 2 * i) 1 = gI m (28 + 2 * i) 1 ∧ gI m' (11 + 2 * i) 2 = gI m (28 + 2 * i) 2 ∧ gI m' (11 + 2 * i) 3 = gI m (28 + 2 * i) 3 := by
  have key : ∀ a1 a2 a3 a4 a5 b0 b1 b2 b3 : Int32, a1 = gI m (27 + 2 * i) 1 → a2 = gI m (27 + 2 * i) 2 → a3 = gI m (27 + 2 * i) 3 → a4 = gI m (27 + 2 * i) 4 → a5 = gI m (27 + 2 * i) 5 → b0 = gI m (28 + 2 * i) 0 → b1 = gI m (28 + 2 * i) 1 → b2 = gI m (28 + 2 * i) 2 → b3 = gI m (28 + 2 * i) 3 → f_Pl_copyFrom SF (10 + 2 * i) (27 + 2 * i) m = some (wI (wI (wI (wI (wI (wI (wI (wI (wI m (10 + 2 * i) 1 a1) (10 + 2 * i) 2 a2) (10 + 2 * i) 3 a3) (10 + 2 * i) 4 a4) (10 + 2 * i) 5 a5) (11 + 2 * i) 0 b0) (11 + 2 * i) 1 b1) (11 + 2 * i) 2 b2) (11 + 2 * i) 3 b3) := by
    rintro a1 a2 a3 a4 a5 b0 b1 b2 b3 h1 h2 h3 h4 h5 h6 h7 h8 h9
    unfold f_Pl_copyFrom f_Pl_become f_To_copyFrom f_To_tellCall
    rw [cK_pl hi, cK_dp hi, cK_pl hi, ← h1, ← h2, ← h3, ← h4, ← h5, obS, ld_to hi, ld_dt hi, cK_to hi, cK_dt hi, cK_to hi]
    have e : ∀ k, gI (wI (wI (wI (wI (wI m (10 + 2 * i) 1 a1) (10 + 2 * i) 2 a2) (10 + 2 * i) 3 a3) (10 + 2 * i) 4 a4) (10 + 2 * i) 5 a5) (28 + 2 * i) k = gI m (28 + 2 * i) k := fun k => by
      rw [gI_n _ _ _ _ _ _ (by omega), gI_n _ _ _ _ _ _ (by omega), gI_n _ _ _ _ _ _ (by omega), gI_n _ _ _ _ _ _ (by omega), gI_n _ _ _ _ _ _ (by omega)]
    rw [e, e, e, ← h6, ← h7, ← h8, obS, obS]
    rw [gI_n _ _ _ _ _ _ (by omega), gI_n _ _ _ _ _ _ (by omega), gI_n _ _ _ _ _ _ (by omega), e, ← h9]
  refine ⟨_, key _ _ _ _ _ _ _ _ _ rfl rfl rfl rfl rfl rfl rfl rfl rfl, ((((((((Fr.rf.w (Or.inl rfl)).w (Or.inl rfl)).w (Or.inl rfl)).w (Or.inl rfl)).w (Or.inl rfl)).w (Or.inr rfl)).w (Or.inr rfl)).w (Or.inr rfl)).w (Or.inr rfl), ⟨?_, ?_, ?_, ?_, ?_⟩, ?_, ?_, ?_, ?_⟩
  · rw [gI_n _ _ _ _ _ _ (by omega), gI_n _ _ _ _ _ _ (by omega), gI_n _ _ _ _ _ _ (by omega), gI_n _ _ _ _ _ _ (by omega), gI_n _ _ _ _ _ _ (by omega), gI_n _ _ _ _ _ _ (by omega), gI_n _ _ _ _ _ _ (by omega), gI_n _ _ _ _ _ _ (by omega)]; exact gI_s _ _ _ _
  · rw [gI_n _ _ _ _ _ _ (by omega), gI_n _ _ _ _ _ _ (by omega), gI_n _ _ _ _ _ _ (by omega), gI_n _ _ _ _ _ _ (by omega), gI_n _ _ _ _ _ _ (by omega), gI_n _ _ _ _ _ _ (by omega), gI_n _ _ _ _ _ _ (by omega)]; exact gI_s _ _ _ _
  · rw [gI_n _ _ _ _ _ _ (by omega), gI_n _ _ _ _ _ _ (by omega), gI_n _ _ _ _ _ _ (by omega), gI_n _ _ _ _ _ _ (by omega), gI_n _ _ _ _ _ _ (by omega), gI_n _ _ _ _ _ _ (by omega)]; exact gI_s _ _ _ _
  · rw [gI_n _ _ _ _ _ _ (by omega), gI_n _ _ _ _ _ _ (by omega), gI_n _ _ _ _ _ _ (by omega), gI_n _ _ _ _ _ _ (by omega), gI_n _ _ _ _ _ _ (by omega)]; exact gI_s _ _ _ _
  · rw [gI_n _ _ _ _ _ _ (by omega), gI_n _ _ _ _ _ _ (by omega), gI_n _ _ _ _ _ _ (by omega), gI_n _ _ _ _ _ _ (by omega)]; exact gI_s _ _ _ _
  · rw [gI_n _ _ _ _ _ _ (by omega), gI_n _ _ _ _ _ _ (by omega), gI_n _ _ _ _ _ _ (by omega)]; exact gI_s _ _ _ _
  · rw [gI_n _ _ _ _ _ _ (by omega), gI_n _ _ _ _ _ _ (by omega)]; exact gI_s _ _ _ _
  · rw [gI_n _ _ _ _ _ _ (by omega)]; exact gI_s _ _ _ _
  · exact gI_s _ _ _ _
def cpE (m m' : ba_M) (j : Nat) : Prop := (gI m' (10 + 2 * j) 1 = gI m (27 + 2 * j) 1 ∧ gI m' (10 + 2 * j) 2 = gI m (27 + 2 * j) 2 ∧ gI m' (10 + 2 * j) 3 = gI m (27 + 2 * j) 3 ∧ gI m' (10 + 2 * j) 4 = gI m (27 + 2 * j) 4 ∧ gI m' (10 + 2 * j) 5 = gI m (27 + 2 * j) 5) ∧ gI m' (11 + 2 * j) 0 = gI m (28 + 2 * j) 0 ∧ gI m' (11 + 2 * j) 1 = gI m (28 + 2 * j) 1 ∧ gI m' (11 + 2 * j) 2 = gI m (28 + 2 * j) 2 ∧ gI m' (11 + 2 * j) 3 = gI m (28 + 2 * j) 3
theorem cpE.fr {m m1 m2 : ba_M} {j : Nat} (h : cpE m m1 j) (e : ∀ k, gI m2 (10 + 2 * j) k = gI m1 (10 + 2 * j) k) (e' : ∀ k, gI m2 (11 + 2 * j) k = gI m1 (11 + 2 * j) k) : cpE m m2 j := by
  obtain ⟨⟨a1, a2, a3, a4, a5⟩, b1, b2, b3, b4⟩ := h
  exact ⟨⟨(e _).trans a1, (e _).trans a2, (e _).trans a3, (e _).trans a4, (e _).trans a5⟩, (e' _).trans b1, (e' _).trans b2, (e' _).trans b3, (e' _).trans b4⟩
theorem sp_cpL {m : ba_M} : ∀ (r i N : Nat) (m1 : ba_M), 5 - i = r → i ≤ 5 → r < N → Fr oCp m m1 → (∀ j, j < i → cpE m m1 j) →
    ∃ m', fx (fun _ _ _ _ => none) (b_Ga_copyFrom_26 SF) N 6 23 (nI i) m1 = some m' ∧ Fr oCp m m' ∧ ∀ j, j < 5 → cpE m m' j := by
  intro r
  induction r with
  | zero =>
    intro i N m1 hr hi hN hF hE
    obtain ⟨N, rfl⟩ : ∃ z, N = z + 1 := ⟨N - 1, by omega⟩
    obtain rfl : i = 5 := by omega
    refine ⟨m1, ?_, hF, hE⟩
    rw [fx_s]
    generalize fx (fun _ _ _ _ => none) (b_Ga_copyFrom_26 SF) N = K
    unfold b_Ga_copyFrom_26
    rw [if_pos (by rw [nI_leI (by omega) (by omega)]; omega)]
  | succ r ih =>
    intro i N m1 hr hi hN hF hE
    obtain ⟨N, rfl⟩ : ∃ z, N = z + 1 := ⟨N - 1, by omega⟩
    have hi5 : i < 5 := by omega
    obtain ⟨m2, u1, u2, u3⟩ := sp_cpOne (m := m1) hi5
    have hF2 := hF.tr (u2.up (fun o k h => by unfold oCp; omega))
    obtain ⟨m', w1, w2, w3⟩ := ih (i + 1) N m2 (by omega) (by omega) (by omega) hF2 (fun j hj => by
      by_cases e : j = i
      · subst e
        have q : ∀ o k, 23 ≤ o → gI m1 o k = gI m o k := fun o k h => hF.1 o k (fun z => by unfold oCp at z; omega)
        obtain ⟨⟨a1, a2, a3, a4, a5⟩, b1, b2, b3, b4⟩ := u3
        exact ⟨⟨a1.trans (q _ _ (by omega)), a2.trans (q _ _ (by omega)), a3.trans (q _ _ (by omega)), a4.trans (q _ _ (by omega)), a5.trans (q _ _ (by omega))⟩, b1.trans (q _ _ (by omega)), b2.trans (q _ _ (by omega)), b3.trans (q _ _ (by omega)), b4.trans (q _ _ (by omega))⟩
      · exact (hE j (by omega)).fr (fun k => u2.1 _ _ (by omega)) (fun k => u2.1 _ _ (by omega)))
    refine ⟨m', ?_, w2, w3⟩
    rw [fx_s]
    generalize fx (fun _ _ _ _ => none) (b_Ga_copyFrom_26 SF) N = K at w1 ⊢
    unfold b_Ga_copyFrom_26
    rw [if_neg (by rw [nI_leI (by omega) (by omega)]; omega), sp_who hi5, obS, cK_pl hi5]
    dsimp only
    rw [sp_dwho hi5, obS, cK_dp hi5]
    dsimp only
    rw [u1, obS, nI_add]
    exact w1
theorem sp_copyG {m : ba_M} {c n d : Nat} {P T : ba_T} (hG : GD m (c, n, d, P, T)) (hc : c ≤ 5) (hT : ∀ i, i < c → T i 0 ≠ 5) : ∃ m', f_Ga_copyFrom SF 6 23 m = some m' ∧ Fr (fun o _ => o = 6 ∨ 10 ≤ o ∧ o < 20) m m' ∧ GC m' c n d P T := by
  obtain ⟨j1, j2, j3, j4⟩ := hG
  dsimp only at j1 j2 j3 j4
  have hF : Fr (fun o _ => o = 6 ∨ 10 ≤ o ∧ o < 20) m (wI (wI (wI m 6 2 (nI c)) 6 3 (nI n)) 6 4 (nI d)) := ((Fr.rf.w (Or.inl rfl)).w (Or.inl rfl)).w (Or.inl rfl)
  obtain ⟨m', u1, u2, u3⟩ := sp_cpL (m := wI (wI (wI m 6 2 (nI c)) 6 3 (nI n)) 6 4 (nI d)) 5 0 FU _ rfl (by omega) (by unfold FU; omega) Fr.rf (fun j hj => by omega)
  have q : ∀ k, gI m' 6 k = gI (wI (wI (wI m 6 2 (nI c)) 6 3 (nI n)) 6 4 (nI d)) 6 k := fun k => u2.1 _ _ (fun z => by unfold oCp at z; omega)
  have q2 : ∀ o k, 23 ≤ o → gI (wI (wI (wI m 6 2 (nI c)) 6 3 (nI n)) 6 4 (nI d)) o k = gI m o k := fun o k h => hF.1 o k (fun z => by omega)
  refine ⟨m', ?_, hF.tr (u2.up (fun o k h => by unfold oCp at h; omega)), ?_, ?_, ?_, fun i hi => ?_, fun i hi => ?_⟩
  · unfold f_Ga_copyFrom
    rw [cK_6, cK_23, j1, gI_n _ _ _ _ _ _ (by omega), j2, gI_n _ _ _ _ _ _ (by omega), gI_n _ _ _ _ _ _ (by omega), j3]
    exact u1
  · rw [q, gI_n _ _ _ _ _ _ (by omega), gI_n _ _ _ _ _ _ (by omega)]; exact gI_s _ _ _ _
  · rw [q, gI_n _ _ _ _ _ _ (by omega)]; exact gI_s _ _ _ _
  · rw [q]; exact gI_s _ _ _ _
  · obtain ⟨⟨a1, a2, a3, a4, a5⟩, -⟩ := u3 i (by omega)
    obtain ⟨⟨b1, b2, b3, b4, b5⟩, -⟩ := j4 i hi
    exact ⟨(a1.trans (q2 _ _ (by omega))).trans b1, (a2.trans (q2 _ _ (by omega))).trans b2, (a3.trans (q2 _ _ (by omega))).trans b3, (a4.trans (q2 _ _ (by omega))).trans b4, (a5.trans (q2 _ _ (by omega))).trans b5⟩
  · obtain ⟨-, a1, a2, a3, a4⟩ := u3 i (by omega)
    obtain ⟨-, b1, b2, b3, b4⟩ := j4 i hi
    have hcal : cal (T i 0) = nI (T i 0) := if_neg (hT i hi)
    exact ⟨(a1.trans (q2 _ _ (by omega))).trans (b1.trans hcal), (a2.trans (q2 _ _ (by omega))).trans b2, (a3.trans (q2 _ _ (by omega))).trans b3, (a4.trans (q2 _ _ (by omega))).trans b4⟩
/-- what a text that can be played lays -/
theorem tlU_ok {c n d : Nat} {P T : ba_T} (hs : okD (c, n, d, P, T)) (h2 : 2 ≤ c) (hp : ∀ k, k < c → plD (c, n, d, P, T) k) : okG c n d P (tlU c P T c) ∧ ∀ i, i < c → tlU c P T c i 0 ≠ 5 := by
  obtain ⟨o1, o2, o3, o4, o5⟩ := id hs
  dsimp only at o1 o2 o3 o4 o5
  have hT : ∀ i, i < c → tlU c P T c i = tlD c P T i := fun i hi => if_pos hi
  have hnx : ∀ i, i < c → nxC c i < c ∧ nxC c i ≠ i := fun i hi => by unfold nxC; split <;> omega
  have key : ∀ i, i < c → tlU c P T c i 0 < c ∧ tlU c P T c i 0 ≠ i ∧ tlU c P T c i 1 ≤ n ∧ 1 ≤ tlU c P T c i 2 ∧ tlU c P T c i 2 ≤ 9 ∧ tlU c P T c i 3 ≤ 3 := by
    intro i hi
    rw [hT i hi]
    obtain ⟨-, t2, t3⟩ := o5 i hi
    unfold tlD
    by_cases h5 : T i 0 = 5
    · rw [if_pos h5]
      have p1 : P (nxC c i) 0 ≤ n := (hp _ (hnx i hi).1).1
      exact ⟨(hnx i hi).1, (hnx i hi).2, p1, Nat.le_refl 1, by show 1 ≤ 9; omega, t3⟩
    · rw [if_neg h5]
      have p2 : T i 1 ≤ n := (hp i hi).2
      rcases t2 with t2 | ⟨t2, t4, t5, t6, t7⟩
      · exact absurd t2.1 h5
      · exact ⟨t2, t4, p2, t6, t7, t3⟩
  refine ⟨⟨⟨h2, o4, o1, o2, o3⟩, fun i hi => ?_, key⟩, fun i hi => ?_⟩
  · obtain ⟨⟨q1, q2, q3, q4, q5, q6, q7⟩, -⟩ := o5 i hi
    exact ⟨(hp i hi).1, q2, q3, q4, q5, q6, q7⟩
  · have := (key i hi).1
    omega
