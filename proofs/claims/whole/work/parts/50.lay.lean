theorem sp_readC {l : Nat} {Y : Nat → Int32} {m : ba_M} (hC : CT m l Y) : ∃ r m', f_Re_read SF 3 1 23 m = some (r, m') ∧ Fr (fun o k => oGD o k ∨ o = 3 ∨ o = 4) m m' ∧ ((∃ q, rdA Y l (l + 1) 0 (0, 30, 1, fun _ _ => 0, fun _ _ => 0) = Sum.inl q ∧ q < l ∧ r = nI q) ∨ ∃ s', rdA Y l (l + 1) 0 (0, 30, 1, fun _ _ => 0, fun _ _ => 0) = Sum.inr s' ∧ r = -4 ∧ GD m' s' ∧ okD s') := by
  have hl := hC.1
  have hF : Fr (fun o _ => o = 23) m (wI (wI (wI m 23 2 (nI 0)) 23 3 (nI 30)) 23 4 (nI 1)) := ((Fr.rf.w (by rfl)).w (by rfl)).w (by rfl)
  have hG : GD (wI (wI (wI m 23 2 (nI 0)) 23 3 (nI 30)) 23 4 (nI 1)) (0, 30, 1, fun _ _ => 0, fun _ _ => 0) := ⟨by rw [gI_n _ _ _ _ _ _ (by omega), gI_n _ _ _ _ _ _ (by omega)]; exact gI_s _ _ _ _, by rw [gI_n _ _ _ _ _ _ (by omega)]; exact gI_s _ _ _ _, gI_s _ _ _ _, fun i hi => absurd hi (Nat.not_lt_zero _)⟩
  have hs : okD (0, 30, 1, fun _ _ => 0, fun _ _ => 0) := ⟨by decide, by decide, by decide, by decide, fun i hi => absurd hi (Nat.not_lt_zero _)⟩
  obtain ⟨r, m', u1, u2, u3⟩ := sp_read (l + 1) 0 FU _ _ (Nat.zero_le _) (by omega) (by unfold FU; omega) (hC.fr hF (by intro o k ho; omega)) hG hs
  refine ⟨r, m', ?_, (hF.up (fun o k h => Or.inl (Or.inl h))).tr u2, u3⟩
  unfold f_Re_read f_Ga_empty
  rw [cK_3, cK_1, cK_23, cK_23, obS]
  exact u1
theorem sp_readM {l : Nat} {Y : Nat → Int32} {m : ba_M} (hM : MT m l Y) : ∃ r m', f_Mo_fault SF 102 m = some (r, m') ∧ Fr oGR m m' ∧ ((∃ q, rdA Y l (l + 1) 0 (0, 30, 1, fun _ _ => 0, fun _ _ => 0) = Sum.inl q ∧ q < l ∧ r = nI q) ∨ ∃ s', rdA Y l (l + 1) 0 (0, 30, 1, fun _ _ => 0, fun _ _ => 0) = Sum.inr s' ∧ r = -4 ∧ GR m' s' ∧ okD s') := by
  have hl := hM.1
  have hF : Fr (fun o k => o = 102 ∧ (k = 7 ∨ 9 ≤ k ∧ k ≤ 11)) m (wI (wI (wI (wI m 102 7 (nI 0)) 102 9 (nI 30)) 102 10 (nI 1)) 102 11 (nI 0)) := (((Fr.rf.w ⟨rfl, by omega⟩).w ⟨rfl, by omega⟩).w ⟨rfl, by omega⟩).w ⟨rfl, by omega⟩
  have h7 : gI (wI (wI (wI (wI m 102 7 (nI 0)) 102 9 (nI 30)) 102 10 (nI 1)) 102 11 (nI 0)) 102 7 = nI 0 := by rw [gI_n _ _ _ _ _ _ (by omega), gI_n _ _ _ _ _ _ (by omega), gI_n _ _ _ _ _ _ (by omega)]; exact gI_s _ _ _ _
  have hG : GR (wI (wI (wI (wI m 102 7 (nI 0)) 102 9 (nI 30)) 102 10 (nI 1)) 102 11 (nI 0)) (0, 30, 1, fun _ _ => 0, fun _ _ => 0) := ⟨gI_s _ _ _ _, by rw [gI_n _ _ _ _ _ _ (by omega), gI_n _ _ _ _ _ _ (by omega)]; exact gI_s _ _ _ _, by rw [gI_n _ _ _ _ _ _ (by omega)]; exact gI_s _ _ _ _, fun i hi => absurd hi (Nat.not_lt_zero _)⟩
  have hs : okD (0, 30, 1, fun _ _ => 0, fun _ _ => 0) := ⟨by decide, by decide, by decide, by decide, fun i hi => absurd hi (Nat.not_lt_zero _)⟩
  obtain ⟨r, m', u1, u2, u3⟩ := sp_mread (l + 1) 0 FU _ _ (Nat.zero_le _) (by omega) (by unfold FU; omega) (hM.fr hF (by intro o k ho; omega)) h7 hG hs
  refine ⟨r, m', ?_, (hF.up (fun o k h => by unfold oGR; omega)).tr u2, u3⟩
  unfold f_Mo_fault
  rw [cK_102]
  exact u1
def yB (m : ba_M) (l : Nat) : Nat → Int32 := fun k => if k < l then gI m 2 k else -1
theorem TX.ct {m : ba_M} {l : Nat} (h : TX m l) : CT m l (yB m l) ∧ MT m l (yB m l) := by
  obtain ⟨h1, h2, h3, h4⟩ := h
  exact ⟨⟨h1, h2, fun k hk => by unfold yB; rw [if_pos hk], fun k hk => by unfold yB; rw [if_neg (by omega)]⟩, h1, h3, fun k hk => by unfold yB; rw [if_pos hk]; exact h4 k hk, fun k hk => by unfold yB; rw [if_neg (by omega)]⟩
theorem ag_fault {m : ba_M} (hv : Inv m) : Ag (f_Ba_fault SF 0 m) (f_Mo_fault SF 102) := by
  obtain ⟨c, n, d, P, T, hC, hM, hok, ⟨l, h4⟩, -⟩ := id hv
  obtain ⟨t1, t2⟩ := h4.ct
  obtain ⟨r, m1, u1, u2, u3⟩ := sp_readC t1
  have hM1 := t2.fr u2 (by intro o k ho; unfold oGD at ho; omega)
  obtain ⟨r2, m2, w1, w2, w3⟩ := sp_readM hM1
  have hr : r2 = r := by
    rcases u3 with ⟨q, e1, -, e2⟩ | ⟨s, e1, e2, -⟩
    · rcases w3 with ⟨q', e3, -, e4⟩ | ⟨s, e3, e4, -⟩
      · rw [e1] at e3; rw [e2, e4, Sum.inl.inj e3]
      · rw [e1] at e3; cases e3
    · rcases w3 with ⟨q', e3, -, e4⟩ | ⟨s, e3, e4, -⟩
      · rw [e1] at e3; cases e3
      · rw [e2, e4]
  refine ⟨r, m1, m2, ?_, by rw [w1, hr], hv.fr ((u2.up ?_).tr (w2.up ?_))⟩
  · unfold f_Ba_fault
    rw [cK_0, ld_0_1, ld_0_0, ld_0_4, u1, obS]
  · intro o k h; unfold oGD at h; unfold scr; omega
  · intro o k h; unfold oGR at h; unfold scr; omega
/-! lay, the class's side -/
def plD (s : rdS) (i : Nat) : Prop := s.2.2.2.1 i 0 ≤ s.2.1 ∧ s.2.2.2.2 i 1 ≤ s.2.1
theorem sp_dground {m : ba_M} {n x : Nat} (hn : gI m 23 3 = nI n) (hx : x ≤ 99) (h5 : n ≤ 40) : f_Ga_onGround SF 23 (nI x) m = some (decide (x ≤ n), m) := by
  unfold f_Ga_onGround f_Ga_onGround_16 f_Ga_onGround_17
  by_cases h : x ≤ n
  · rw [decide_eq_true h, cK_23, z0, if_neg (by rw [nI_ltI (by omega) (by omega)]; omega), hn, if_neg (by rw [nI_ltI (by omega) (by omega)]; omega)]
  · rw [decide_eq_false h, cK_23, z0, if_neg (by rw [nI_ltI (by omega) (by omega)]; omega), hn, if_pos (by rw [nI_ltI (by omega) (by omega)]; omega)]
theorem okD.cell {s : rdS} (hs : okD s) {i : Nat} (hi : i < s.1) : s.2.2.2.2 i 1 ≤ 40 := by
  have h := (hs.2.2.2.2 i hi).2.1
  omega
theorem sp_canL {m : ba_M} {s : rdS} (hG : GD m s) (hs : okD s) : ∀ (r i N : Nat), s.1 - i = r → i ≤ s.1 → r < N →
    ∃ b, fx (fun _ _ _ => none) (b_Ga_canBePlayed_12 SF) N 23 (nI i) m = some (b, m) ∧ (b = true ↔ ∀ k, i ≤ k → k < s.1 → plD s k) := by
  have hc5 : s.1 ≤ 5 := hs.2.2.2.1
  intro r
  induction r with
  | zero =>
    intro i N hr hi hN
    obtain ⟨N, rfl⟩ : ∃ z, N = z + 1 := ⟨N - 1, by omega⟩
    refine ⟨true, ?_, fun _ k h1 h2 => by omega, fun _ => rfl⟩
    rw [fx_s]
    generalize fx (fun _ _ _ => none) (b_Ga_canBePlayed_12 SF) N = K
    unfold b_Ga_canBePlayed_12
    rw [hG.1, if_pos (by rw [nI_leI (by omega) (by omega)]; omega)]
  | succ r ih =>
    intro i N hr hi hN
    obtain ⟨N, rfl⟩ : ∃ z, N = z + 1 := ⟨N - 1, by omega⟩
    have hi' : i < s.1 := by omega
    obtain ⟨b, u1, u2⟩ := ih (i + 1) N (by omega) (by omega) (by omega)
    obtain ⟨⟨a1, -⟩, -, b2, -⟩ := hG.2.2.2 i hi'
    have hp := (hs.2.2.2.2 i hi').1.1
    have ht := hs.cell hi'
    have w := fun m => sp_dwho (show i < 5 by omega) m
    have g1 := sp_dground hG.2.1 (x := s.2.2.2.1 i 0) (by omega) hs.2.1
    have g2 := sp_dground hG.2.1 (x := s.2.2.2.2 i 1) (by omega) hs.2.1
    rw [fx_s]
    generalize fx (fun _ _ _ => none) (b_Ga_canBePlayed_12 SF) N = K at u1 ⊢
    unfold b_Ga_canBePlayed_12 f_Ga_canBePlayed_53
    rw [hG.1, if_neg (by rw [nI_leI (by omega) (by omega)]; omega), w, obS, cK_dp (by omega)]
    dsimp only
    rw [a1, g1, obS, ite_dec]
    dsimp only
    by_cases h1 : s.2.2.2.1 i 0 ≤ s.2.1
    · rw [if_pos h1, w, obS, cK_dp (by omega), ld_dt (by omega)]
      dsimp only
      rw [b2, g2, obS, ite_dec]
      dsimp only
      by_cases h2 : s.2.2.2.2 i 1 ≤ s.2.1
      · rw [if_pos h2, nI_add, u1]
        refine ⟨b, rfl, u2.trans ⟨fun h k h3 h4 => ?_, fun h k h3 h4 => h k (by omega) h4⟩⟩
        by_cases e : k = i
        · subst e; exact ⟨h1, h2⟩
        · exact h k (by omega) h4
      · rw [if_neg h2]
        exact ⟨false, rfl, fun h => absurd h Bool.false_ne_true, fun h => absurd (h i (Nat.le_refl _) hi').2 h2⟩
    · rw [if_neg h1]
      exact ⟨false, rfl, fun h => absurd h Bool.false_ne_true, fun h => absurd (h i (Nat.le_refl _) hi').1 h1⟩
theorem sp_can {m : ba_M} {s : rdS} (hG : GD m s) (hs : okD s) : ∃ b, f_Ga_canBePlayed SF 23 m = some (b, m) ∧ (b = true ↔ 2 ≤ s.1 ∧ ∀ k, k < s.1 → plD s k) := by
  have hc5 : s.1 ≤ 5 := hs.2.2.2.1
  obtain ⟨b, u1, u2⟩ := sp_canL hG hs s.1 0 FU (by omega) (by omega) (by unfold FU; omega)
  have u1 : f_Ga_canBePlayed_12 SF 23 (nI 0) m = some (b, m) := u1
  unfold f_Ga_canBePlayed
  rw [cK_23, hG.1]
  by_cases h : 2 ≤ s.1
  · rw [if_pos (by rw [nI_leI (by omega) (by omega)]; omega)]
    exact ⟨b, u1, u2.trans ⟨fun q => ⟨h, fun k hk => q k (Nat.zero_le _) hk⟩, fun q k _ hk => q.2 k hk⟩⟩
  · rw [if_neg (by rw [nI_leI (by omega) (by omega)]; omega)]
    exact ⟨false, rfl, fun q => absurd q Bool.false_ne_true, fun q => absurd q.1 h⟩
def nxC (c i : Nat) : Nat := if i + 1 < c then i + 1 else 0
def tlD (c : Nat) (P T : ba_T) (i : Nat) : Nat → Nat := if T i 0 = 5 then (fun k => if k = 0 then nxC c i else if k = 1 then P (nxC c i) 0 else if k = 2 then 1 else T i 3) else T i
def tlU (c : Nat) (P T : ba_T) (j : Nat) : ba_T := fun i => if i < j then tlD c P T i else T i
theorem sp_tellL {c n d : Nat} {P T : ba_T} (hs : okD (c, n, d, P, T)) : ∀ (r i N : Nat) (m : ba_M), c - i = r → i ≤ c → r < N → GD m (c, n, d, P, tlU c P T i) →
    ∃ m', fx (fun _ _ _ => none) (b_Ga_tellUntoldCalls_2 SF) N 23 (nI i) m = some m' ∧ Fr oGD m m' ∧ GD m' (c, n, d, P, tlU c P T c) := by
  obtain ⟨o1, o2, o3, o4, o5⟩ := id hs
  dsimp only at o1 o2 o3 o4 o5
  intro r
  induction r with
  | zero =>
    intro i N m hr hi hN hG
    obtain ⟨N, rfl⟩ : ∃ z, N = z + 1 := ⟨N - 1, by omega⟩
    obtain rfl : i = c := by omega
    refine ⟨m, ?_, Fr.rf, hG⟩
    have h1 : gI m 23 2 = nI i := hG.1
    rw [fx_s]
    generalize fx (fun _ _ _ => none) (b_Ga_tellUntoldCalls_2 SF) N = K
    unfold b_Ga_tellUntoldCalls_2
    rw [h1, if_pos (by rw [nI_leI (by omega) (by omega)]; omega)]
  | succ r ih =>
    intro i N m hr hi hN hG
    obtain ⟨N, rfl⟩ : ∃ z, N = z + 1 := ⟨N - 1, by omega⟩
    obtain ⟨j1, j2, j3, j4⟩ := id hG
    dsimp only at j1 j2 j3 j4
    have hi5 : i < 5 := by omega
    obtain ⟨-, b1, b2, b3, b4⟩ := j4 i (by omega)
    have hT : tlU c P T i i = T i := if_neg (by omega)
    rw [hT] at b1 b2 b3 b4
    obtain ⟨-, t2, -⟩ := o5 i (by omega)
    have hU : ∀ k, k ≠ i → tlU c P T (i + 1) k = tlU c P T i k := fun k hk => by
      unfold tlU
      by_cases h1 : k < i
      · rw [if_pos (by omega), if_pos h1]
      · rw [if_neg (by omega), if_neg h1]
    have hUi : tlU c P T (i + 1) i = tlD c P T i := if_pos (by omega)
    have w := fun m => sp_dwho hi5 m
    have ih' := fun m => ih (i + 1) N m (by omega) (by omega) (by omega)
    rw [fx_s]
    generalize fx (fun _ _ _ => none) (b_Ga_tellUntoldCalls_2 SF) N = K at ih' ⊢
    unfold b_Ga_tellUntoldCalls_2
    rw [j1, if_neg (by rw [nI_leI (by omega) (by omega)]; omega), w, obS, cK_dp hi5, ld_dt hi5]
    dsimp only
    rw [b1]
    by_cases h5 : T i 0 = 5
    · have hnx : nxC c i < c := by unfold nxC; split <;> omega
      have hcal : cal (T i 0) = -4 := if_pos h5
      rw [if_pos hcal, j1, nI_add]
      have hp := (j4 (nxC c i) hnx).1.1
      have wn := fun m => sp_dwho (show nxC c i < 5 by omega) m
      have h45 : f_Ga_tellUntoldCalls_45 SF K 23 (nI i) (28 + 2 * i) (nI (nxC c i)) m = K 23 (nI (i + 1)) (wI (wI (wI m (28 + 2 * i) 0 (nI (nxC c i))) (28 + 2 * i) 1 (nI (P (nxC c i) 0))) (28 + 2 * i) 2 (nI 1)) := by
        unfold f_Ga_tellUntoldCalls_45 f_Ga_tellUntoldCalls_60 f_To_tellCall
        rw [wn, obS, cK_dp (by omega), cK_dt hi5]
        dsimp only
        rw [hp, obS, nI_add]
      have hF : Fr (fun o k => o = 28 + 2 * i ∧ k < 3) m (wI (wI (wI m (28 + 2 * i) 0 (nI (nxC c i))) (28 + 2 * i) 1 (nI (P (nxC c i) 0))) (28 + 2 * i) 2 (nI 1)) := ((Fr.rf.w ⟨rfl, by omega⟩).w ⟨rfl, by omega⟩).w ⟨rfl, by omega⟩
      have x0 : gI (wI (wI (wI m (28 + 2 * i) 0 (nI (nxC c i))) (28 + 2 * i) 1 (nI (P (nxC c i) 0))) (28 + 2 * i) 2 (nI 1)) (28 + 2 * i) 0 = nI (nxC c i) := by rw [gI_n _ _ _ _ _ _ (by omega), gI_n _ _ _ _ _ _ (by omega)]; exact gI_s _ _ _ _
      have x1 : gI (wI (wI (wI m (28 + 2 * i) 0 (nI (nxC c i))) (28 + 2 * i) 1 (nI (P (nxC c i) 0))) (28 + 2 * i) 2 (nI 1)) (28 + 2 * i) 1 = nI (P (nxC c i) 0) := by rw [gI_n _ _ _ _ _ _ (by omega)]; exact gI_s _ _ _ _
      have x2 : gI (wI (wI (wI m (28 + 2 * i) 0 (nI (nxC c i))) (28 + 2 * i) 1 (nI (P (nxC c i) 0))) (28 + 2 * i) 2 (nI 1)) (28 + 2 * i) 2 = nI 1 := gI_s _ _ _ _
      have hif : (if nI c ≤ nI (i + 1) then f_Ga_tellUntoldCalls_45 SF K 23 (nI i) (28 + 2 * i) (nI 0) m else f_Ga_tellUntoldCalls_45 SF K 23 (nI i) (28 + 2 * i) (nI (i + 1)) m) = f_Ga_tellUntoldCalls_45 SF K 23 (nI i) (28 + 2 * i) (nI (nxC c i)) m := by
        unfold nxC
        by_cases hl : i + 1 < c
        · rw [if_neg (by rw [nI_leI (by omega) (by omega)]; omega), if_pos hl]
        · rw [if_pos (by rw [nI_leI (by omega) (by omega)]; omega), if_neg hl]
      rw [hif, h45]
      generalize wI (wI (wI m (28 + 2 * i) 0 (nI (nxC c i))) (28 + 2 * i) 1 (nI (P (nxC c i) 0))) (28 + 2 * i) 2 (nI 1) = m2 at hF x0 x1 x2 ⊢
      have e : ∀ o k, (o = 28 + 2 * i → 3 ≤ k) → gI m2 o k = gI m o k := fun o k h1 => hF.1 o k (fun q => by have := h1 q.1; omega)
      obtain ⟨m', u1, u2, u3⟩ := ih' m2 ⟨(e _ _ (by omega)).trans j1, (e _ _ (by omega)).trans j2, (e _ _ (by omega)).trans j3, fun k hk => by
        obtain ⟨⟨a1, a2, a3, a4, a5⟩, c1, c2, c3, c4⟩ := j4 k hk
        refine ⟨⟨(e _ _ (by omega)).trans a1, (e _ _ (by omega)).trans a2, (e _ _ (by omega)).trans a3, (e _ _ (by omega)).trans a4, (e _ _ (by omega)).trans a5⟩, ?_⟩
        dsimp only
        by_cases hk0 : k = i
        · subst hk0
          rw [hUi]
          unfold tlD
          rw [if_pos h5]
          refine ⟨x0.trans ?_, x1, x2, (e _ _ (by omega)).trans b4⟩
          show nI (nxC c k) = cal (nxC c k)
          unfold cal
          rw [if_neg (by omega)]
        · rw [hU k hk0]
          exact ⟨(e _ _ (by omega)).trans c1, (e _ _ (by omega)).trans c2, (e _ _ (by omega)).trans c3, (e _ _ (by omega)).trans c4⟩⟩
      exact ⟨m', u1, (hF.up (fun o k h => by unfold oGD; omega)).tr u2, u3⟩
    · have hcal : ¬ cal (T i 0) = -4 := by
        unfold cal
        rw [if_neg h5]
        exact nI_nneg (by omega) _ (by decide)
      obtain ⟨m', u1, u2, u3⟩ := ih' m ⟨j1, j2, j3, fun k hk => by
        dsimp only
        by_cases hk0 : k = i
        · subst hk0
          have hT2 : tlU c P T (k + 1) k = tlU c P T k k := by
            rw [hUi, hT]
            exact if_neg h5
          rw [hT2]
          exact j4 k hk
        · rw [hU k hk0]
          exact j4 k hk⟩
      refine ⟨m', ?_, u2, u3⟩
      unfold f_Ga_tellUntoldCalls_60
      rw [if_neg hcal, nI_add]
      exact u1
