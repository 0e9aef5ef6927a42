/-! the start and the script -/
theorem mfe (j : Nat) {o k : Nat} {x : Int32} (h : SFi[j]? = some (o, k, x)) : gI mF o k = x := by
  have h1 := List.all_eq_true.mp mf_i _ (List.mem_of_getElem? h)
  exact of_decide_eq_true h1
def P0 : ba_T
  | 0, 0 => 10 | 0, 1 => 2 | 0, 2 => 5 | 0, 3 => 5 | 0, _ => 0
  | 1, 0 => 14 | 1, 1 => 2 | 1, 2 => 5 | 1, 3 => 3 | 1, _ => 0
  | _, 0 => 20 | _, 1 => 3 | _, 2 => 4 | _, 3 => 6 | _, _ => 0
def T0 : ba_T
  | 0, 0 => 1 | 0, 1 => 14 | 0, 2 => 1 | 0, _ => 0
  | 1, 0 => 2 | 1, 1 => 20 | 1, 2 => 1 | 1, _ => 0
  | _, 0 => 0 | _, 1 => 10 | _, 2 => 1 | _, _ => 0
theorem inv_0 : Inv mF := by
  refine ⟨3, 30, 1, P0, T0, ⟨(mfe 1 rfl), (mfe 2 rfl), (mfe 3 rfl), fun i hi => ?_, fun i hi => ?_⟩, ⟨(mfe 40 rfl), (mfe 38 rfl), (mfe 39 rfl), fun i hi => ?_, fun i hi => ?_⟩, ⟨by decide, fun i hi => ?_, fun i hi => ?_⟩, ⟨0, by omega, (mfe 0 rfl), (mfe 41 rfl), fun j hj => absurd hj (Nat.not_lt_zero _)⟩, ⟨0, T0, by omega, (mfe 31 rfl), (mfe 43 rfl), fun j hj => absurd hj (Nat.not_lt_zero _)⟩, ⟨0, 0, fun _ => T0, fun _ => 0, by omega, by omega, (mfe 32 rfl), (mfe 33 rfl), (mfe 34 rfl), (mfe 42 rfl), fun _ _ _ _ => rfl, fun j hj => absurd hj (Nat.not_lt_zero _)⟩, ⟨0, 0, fun _ => T0, by omega, by omega, (mfe 35 rfl), (mfe 36 rfl), (mfe 37 rfl), (mfe 44 rfl), fun j hj => absurd hj (Nat.not_lt_zero _)⟩, mf_p⟩
  · match i, hi with
    | 0, _ => exact ⟨(mfe 4 rfl), (mfe 5 rfl), (mfe 6 rfl), (mfe 7 rfl), (mfe 8 rfl)⟩
    | 1, _ => exact ⟨(mfe 9 rfl), (mfe 10 rfl), (mfe 11 rfl), (mfe 12 rfl), (mfe 13 rfl)⟩
    | 2, _ => exact ⟨(mfe 14 rfl), (mfe 15 rfl), (mfe 16 rfl), (mfe 17 rfl), (mfe 18 rfl)⟩
  · match i, hi with
    | 0, _ => exact ⟨(mfe 19 rfl), (mfe 20 rfl), (mfe 21 rfl), (mfe 22 rfl)⟩
    | 1, _ => exact ⟨(mfe 23 rfl), (mfe 24 rfl), (mfe 25 rfl), (mfe 26 rfl)⟩
    | 2, _ => exact ⟨(mfe 27 rfl), (mfe 28 rfl), (mfe 29 rfl), (mfe 30 rfl)⟩
  · match i, hi with
    | 0, _ => exact ⟨(mfe 45 rfl), (mfe 46 rfl), (mfe 47 rfl), (mfe 48 rfl), (mfe 49 rfl)⟩
    | 1, _ => exact ⟨(mfe 50 rfl), (mfe 51 rfl), (mfe 52 rfl), (mfe 53 rfl), (mfe 54 rfl)⟩
    | 2, _ => exact ⟨(mfe 55 rfl), (mfe 56 rfl), (mfe 57 rfl), (mfe 58 rfl), (mfe 59 rfl)⟩
  · match i, hi with
    | 0, _ => exact ⟨(mfe 60 rfl), (mfe 63 rfl), (mfe 66 rfl), (mfe 69 rfl)⟩
    | 1, _ => exact ⟨(mfe 61 rfl), (mfe 64 rfl), (mfe 67 rfl), (mfe 70 rfl)⟩
    | 2, _ => exact ⟨(mfe 62 rfl), (mfe 65 rfl), (mfe 68 rfl), (mfe 71 rfl)⟩
  · match i, hi with
    | 0, _ => decide
    | 1, _ => decide
    | 2, _ => decide
  · match i, hi with
    | 0, _ => decide
    | 1, _ => decide
    | 2, _ => decide
theorem sD_k {β : Type} {N t : Nat} (h : t < N) (hN : N ≤ 320) (r : Option β) : sD N (nI t) r = r := by
  unfold sD
  rw [if_neg]
  rw [nI_clamp (by omega)]
  rintro (h1 | h1)
  · exact absurd h1 (nI_pos (by omega))
  · omega
theorem lw_cond {N t : Nat} (hN : N ≤ 320) (ht : t ≤ 400) : (nI N - nI 5 < nI t) ↔ N < t + 5 := by
  rw [i32_lt, Int32.toInt_sub, nI_toInt (by omega), nI_toInt (by omega), nI_toInt (by omega), Int.bmod_eq_of_le (by omega) (by omega)]
  omega
theorem lw_i {α : Type} [DecidableEq α] {F : Option (α × ba_M)} {G : ba_M → Option (α × ba_M)} (h : Ag F G) (K E : ba_M → Option (Bool × ba_S × ba_M)) : ∃ m', (F.bind fun q => (G q.2).bind fun z => if q.1 = z.1 then K z.2 else E z.2) = K m' ∧ Inv m' := by
  obtain ⟨r, m1, m2, h1, h2, h3⟩ := h
  refine ⟨m2, ?_, h3⟩
  rw [h1, obS]
  dsimp only
  rw [h2, obS, if_pos rfl]
theorem lw_l {F : Option (Int64 × ba_M)} {G : ba_M → Option (Int64 × ba_M)} (h : Ag F G) (K E : ba_M → Option (Bool × ba_S × ba_M)) : ∃ m', (F.bind fun q => (G q.2).bind fun z => if lg_cmp q.1 z.1 = 0 then K z.2 else E z.2) = K m' ∧ Inv m' := by
  obtain ⟨r, m1, m2, h1, h2, h3⟩ := h
  refine ⟨m2, ?_, h3⟩
  rw [h1, obS]
  dsimp only
  rw [h2, obS, if_pos ((lg_cmp_eq _ _).mpr rfl)]
theorem lw_step {N t : Nat} {xs : Nat → Int32} {m : ba_M} (hN : N ≤ 320) (ht : t + 5 ≤ N) (hv : Inv m) (K : ba_S → Nat → Nat → Int32 → ba_M → Option (Bool × ba_S × ba_M)) : ∃ m', b_La_law_18 N xs K SF 0 102 (nI t) m = K SF 0 102 (nI (t + 5)) m' ∧ Inv m' := by
  have h0 := fun r : Option (Bool × ba_S × ba_M) => sD_k (show t < N by omega) hN r
  have h1 := fun r : Option (Bool × ba_S × ba_M) => sD_k (show t + 1 < N by omega) hN r
  have h2 := fun r : Option (Bool × ba_S × ba_M) => sD_k (show t + 2 < N by omega) hN r
  have h3 := fun r : Option (Bool × ba_S × ba_M) => sD_k (show t + 3 < N by omega) hN r
  have h4 := fun r : Option (Bool × ba_S × ba_M) => sD_k (show t + 4 < N by omega) hN r
  unfold b_La_law_18
  rw [if_neg (fun e => by have := (lw_cond hN (by omega)).mp e; omega), h0]
  generalize (xs (nI t).toNatClampNeg &&& nI 31) = w
  by_cases e0 : w = 0
  · rw [if_pos e0]
    simp only [nI_add, h1, h2, h3, h4, cK_0, cK_102, f_La_law_858]
    exact lw_i (ag_write hv _ _) (fun m => K SF 0 102 (nI (t + 5)) m) (fun m => some (false, SF, m))
  rw [if_neg e0]
  by_cases e1 : w = 1
  · rw [if_pos e1]
    simp only [nI_add, h1, h2, h3, h4, cK_0, cK_102, f_La_law_858]
    exact lw_i (ag_wipe hv ) (fun m => K SF 0 102 (nI (t + 5)) m) (fun m => some (false, SF, m))
  rw [if_neg e1]
  by_cases e2 : w = 2
  · rw [if_pos e2]
    simp only [nI_add, h1, h2, h3, h4, cK_0, cK_102, f_La_law_858]
    exact lw_i (ag_fault hv ) (fun m => K SF 0 102 (nI (t + 5)) m) (fun m => some (false, SF, m))
  rw [if_neg e2]
  by_cases e3 : w = 3
  · rw [if_pos e3]
    simp only [nI_add, h1, h2, h3, h4, cK_0, cK_102, f_La_law_858]
    exact lw_i (ag_lay hv ) (fun m => K SF 0 102 (nI (t + 5)) m) (fun m => some (false, SF, m))
  rw [if_neg e3]
  by_cases e4 : w = 4
  · rw [if_pos e4]
    simp only [nI_add, h1, h2, h3, h4, cK_0, cK_102, f_La_law_858]
    exact lw_i (ag_player hv _ _) (fun m => K SF 0 102 (nI (t + 5)) m) (fun m => some (false, SF, m))
  rw [if_neg e4]
  by_cases e5 : w = 5
  · rw [if_pos e5]
    simp only [nI_add, h1, h2, h3, h4, cK_0, cK_102, f_La_law_858]
    exact lw_i (ag_called hv _ _) (fun m => K SF 0 102 (nI (t + 5)) m) (fun m => some (false, SF, m))
  rw [if_neg e5]
  by_cases e6 : w = 6
  · rw [if_pos e6]
    simp only [nI_add, h1, h2, h3, h4, cK_0, cK_102, f_La_law_858]
    exact lw_i (ag_stands hv _ _) (fun m => K SF 0 102 (nI (t + 5)) m) (fun m => some (false, SF, m))
  rw [if_neg e6]
  by_cases e7 : w = 7
  · rw [if_pos e7]
    simp only [nI_add, h1, h2, h3, h4, cK_0, cK_102, f_La_law_858]
    exact lw_i (ag_chance hv _ _) (fun m => K SF 0 102 (nI (t + 5)) m) (fun m => some (false, SF, m))
  rw [if_neg e7]
  by_cases e8 : w = 8
  · rw [if_pos e8]
    simp only [nI_add, h1, h2, h3, h4, cK_0, cK_102, f_La_law_858]
    exact lw_i (ag_thrown hv _ _) (fun m => K SF 0 102 (nI (t + 5)) m) (fun m => some (false, SF, m))
  rw [if_neg e8]
  by_cases e9 : w = 9
  · rw [if_pos e9]
    simp only [nI_add, h1, h2, h3, h4, cK_0, cK_102, f_La_law_858]
    exact lw_i (ag_hidden hv _ _) (fun m => K SF 0 102 (nI (t + 5)) m) (fun m => some (false, SF, m))
  rw [if_neg e9]
  by_cases e10 : w = 10
  · rw [if_pos e10]
    simp only [nI_add, h1, h2, h3, h4, cK_0, cK_102, f_La_law_858]
    exact lw_i (ag_safe hv _ _) (fun m => K SF 0 102 (nI (t + 5)) m) (fun m => some (false, SF, m))
  rw [if_neg e10]
  by_cases e11 : w = 11
  · rw [if_pos e11]
    simp only [nI_add, h1, h2, h3, h4, cK_0, cK_102, f_La_law_858]
    exact lw_i (ag_run hv _ _ _) (fun m => K SF 0 102 (nI (t + 5)) m) (fun m => some (false, SF, m))
  rw [if_neg e11]
  by_cases e12 : w = 12
  · rw [if_pos e12]
    simp only [nI_add, h1, h2, h3, h4, cK_0, cK_102, f_La_law_858]
    exact lw_l (ag_first hv _ _ _) (fun m => K SF 0 102 (nI (t + 5)) m) (fun m => some (false, SF, m))
  rw [if_neg e12]
  by_cases e13 : w = 13
  · rw [if_pos e13]
    simp only [nI_add, h1, h2, h3, h4, cK_0, cK_102, f_La_law_858]
    exact lw_l (ag_rounds hv _ _) (fun m => K SF 0 102 (nI (t + 5)) m) (fun m => some (false, SF, m))
  rw [if_neg e13]
  by_cases e14 : w = 14
  · rw [if_pos e14]
    simp only [nI_add, h1, h2, h3, h4, cK_0, cK_102, f_La_law_858]
    exact lw_i (ag_call hv _ _ _ _) (fun m => K SF 0 102 (nI (t + 5)) m) (fun m => some (false, SF, m))
  rw [if_neg e14]
  by_cases e15 : w = 15
  · rw [if_pos e15]
    simp only [nI_add, h1, h2, h3, h4, cK_0, cK_102, f_La_law_858]
    exact lw_i (ag_letters hv _ _) (fun m => K SF 0 102 (nI (t + 5)) m) (fun m => some (false, SF, m))
  rw [if_neg e15]
  by_cases e16 : w = 16
  · rw [if_pos e16]
    simp only [nI_add, h1, h2, h3, h4, cK_0, cK_102, f_La_law_858]
    exact lw_i (ag_undo hv ) (fun m => K SF 0 102 (nI (t + 5)) m) (fun m => some (false, SF, m))
  rw [if_neg e16]
  by_cases e17 : w = 17
  · rw [if_pos e17]
    simp only [nI_add, h1, h2, h3, h4, cK_0, cK_102, f_La_law_858]
    exact lw_i (ag_seen hv _ _ _) (fun m => K SF 0 102 (nI (t + 5)) m) (fun m => some (false, SF, m))
  rw [if_neg e17]
  by_cases e18 : w = 18
  · rw [if_pos e18]
    simp only [nI_add, h1, h2, h3, h4, cK_0, cK_102, f_La_law_858]
    exact lw_i (ag_forget hv ) (fun m => K SF 0 102 (nI (t + 5)) m) (fun m => some (false, SF, m))
  rw [if_neg e18]
  by_cases e19 : w = 19
  · rw [if_pos e19]
    simp only [nI_add, h1, h2, h3, h4, cK_0, cK_102, f_La_law_858]
    exact lw_i (ag_kinds hv _) (fun m => K SF 0 102 (nI (t + 5)) m) (fun m => some (false, SF, m))
  rw [if_neg e19]
  by_cases e20 : w = 20
  · rw [if_pos e20]
    simp only [nI_add, h1, h2, h3, h4, cK_0, cK_102, f_La_law_858]
    exact lw_i (ag_afternoon hv _ _) (fun m => K SF 0 102 (nI (t + 5)) m) (fun m => some (false, SF, m))
  rw [if_neg e20]
  by_cases e21 : w = 21
  · rw [if_pos e21]
    simp only [nI_add, h1, h2, h3, h4, cK_0, cK_102, f_La_law_858]
    exact lw_i (ag_keep hv ) (fun m => K SF 0 102 (nI (t + 5)) m) (fun m => some (false, SF, m))
  rw [if_neg e21]
  by_cases e22 : w = 22
  · rw [if_pos e22]
    simp only [nI_add, h1, h2, h3, h4, cK_0, cK_102, f_La_law_858]
    exact lw_i (ag_back hv ) (fun m => K SF 0 102 (nI (t + 5)) m) (fun m => some (false, SF, m))
  rw [if_neg e22]
  by_cases e23 : w = 23
  · rw [if_pos e23]
    simp only [nI_add, h1, h2, h3, h4, cK_0, cK_102, f_La_law_858]
    exact lw_i (ag_count hv _) (fun m => K SF 0 102 (nI (t + 5)) m) (fun m => some (false, SF, m))
  rw [if_neg e23]
  refine ⟨m, ?_, hv⟩
  unfold f_La_law_858
  rw [nI_add]
theorem lw_loop {N : Nat} {xs : Nat → Int32} (hN : N ≤ 320) : ∀ (r t Z : Nat) (m : ba_M), N + 5 - t ≤ 5 * r → t ≤ N → r < Z → Inv m → ∃ m', fx (fun _ _ _ _ _ => none) (b_La_law_18 N xs) Z SF 0 102 (nI t) m = some (true, SF, m') := by
  intro r
  induction r with
  | zero => intro t Z m h1 h2; omega
  | succ r ih =>
    intro t Z m h1 h2 hZ hv
    obtain ⟨Z, rfl⟩ : ∃ z, Z = z + 1 := ⟨Z - 1, by omega⟩
    rw [fx_s]
    have ih' := fun t => ih t Z
    generalize fx (fun _ _ _ _ _ => none) (b_La_law_18 N xs) Z = K at ih' ⊢
    by_cases ht : t + 5 ≤ N
    · obtain ⟨m1, u1, u2⟩ := lw_step (xs := xs) hN ht hv K
      obtain ⟨m2, v1⟩ := ih' (t + 5) m1 (by omega) (by omega) (by omega) u2
      exact ⟨m2, u1.trans v1⟩
    · refine ⟨m, ?_⟩
      unfold b_La_law_18
      exact if_pos ((lw_cond hN (by omega)).mpr (by omega))
theorem law_eq {N : Nat} {xs : Nat → Int32} (S : ba_S) (m : ba_M) : f_La_law N xs S m = ((f_Ba_init (pS S 10 0 (nF 10)) (nN S) (pM (nN S) m)).bind fun q123 => ((f_Mo_init (pS q123.1 11 0 (nF 11)) (nN q123.1) (pM (nN q123.1) q123.2)).bind fun q126 => f_La_law_18 N xs q126.1 (nN S) (nN q123.1) (nI 0) q126.2)) := rfl
theorem ctM_b {b : ba_S × ba_M} (h : ctB = some b) : ctM = f_Mo_init (pS b.1 11 0 (nF 11)) (nN b.1) (pM (nN b.1) b.2) := by
  unfold ctM
  rw [h]
theorem law_true : ∀ (N : Nat) (xs : Nat → Int32), N ≤ 320 → ∃ (S' : ba_S) (m' : ba_M), f_La_law N xs S0 m0 = some (true, S', m') ∧ nN S' ≤ 600000 ∧ nS S' ≤ 7302250 := by
  intro N xs hN
  obtain ⟨m', u1⟩ := lw_loop (xs := xs) hN 100 0 FU mF (by omega) (by omega) (by unfold FU; omega) inv_0
  have u1 : f_La_law_18 N xs SF 0 102 (nI 0) mF = some (true, SF, m') := u1
  refine ⟨SF, m', ?_, by have := sf_n.1; omega, by have := sf_n.2; omega⟩
  obtain ⟨q, hq⟩ := Option.isSome_iff_exists.mp ct_some
  have hQ : ctQ = q := by unfold ctQ; rw [hq]; rfl
  have hSF : SF = q.1 := by unfold SF; rw [hQ]
  have hmF : mF = q.2 := by unfold mF; rw [hQ]
  rw [hSF, hmF] at u1
  rw [hSF]
  obtain ⟨b, hB, hn⟩ := Option.map_eq_some_iff.mp ctB_some
  rw [ctM_b hB] at hq
  have hB : f_Ba_init (pS S0 10 0 (nF 10)) (nN S0) (pM (nN S0) m0) = some b := hB
  have h0 : nN S0 = 0 := rfl
  rw [law_eq]
  rw [hB, obS, hq, obS, hn, h0]
  exact u1
