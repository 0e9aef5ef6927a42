/-! the reader: numbers -/
def CT (m : ba_M) (l : Nat) (Y : Nat → Int32) : Prop := l ≤ 300 ∧ gI m 1 1 = nI l ∧ (∀ k, k < l → gI m 2 k = Y k) ∧ ∀ k, l ≤ k → Y k = -1
def MT (m : ba_M) (l : Nat) (Y : Nat → Int32) : Prop := l ≤ 300 ∧ gI m 102 6 = nI l ∧ (∀ k, k < l → gI m 105 k = Y k) ∧ ∀ k, l ≤ k → Y k = -1
theorem CT.fr {m m' : ba_M} {l : Nat} {Y : Nat → Int32} (h : CT m l Y) {O : Nat → Nat → Prop} (hF : Fr O m m') (hO : ∀ o k, O o k → ¬ (o = 1 ∨ o = 2)) : CT m' l Y := by
  have e : ∀ o k, (o = 1 ∨ o = 2) → gI m' o k = gI m o k := fun o k ho => hF.1 o k (fun q => hO o k q ho)
  exact ⟨h.1, by rw [e _ _ (by omega)]; exact h.2.1, fun k hk => by rw [e _ _ (by omega)]; exact h.2.2.1 k hk, h.2.2.2⟩
theorem MT.fr {m m' : ba_M} {l : Nat} {Y : Nat → Int32} (h : MT m l Y) {O : Nat → Nat → Prop} (hF : Fr O m m') (hO : ∀ o k, O o k → ¬ (o = 102 ∧ k = 6 ∨ o = 105)) : MT m' l Y := by
  have e : ∀ o k, (o = 102 ∧ k = 6 ∨ o = 105) → gI m' o k = gI m o k := fun o k ho => hF.1 o k (fun q => hO o k q ho)
  exact ⟨h.1, by rw [e _ _ (by omega)]; exact h.2.1, fun k hk => by rw [e _ _ (by omega)]; exact h.2.2.1 k hk, h.2.2.2⟩
theorem sp_byte {m : ba_M} {l k : Nat} {Y : Nat → Int32} (h : CT m l Y) (hk : k < 1000) : f_Te_byteAt SF 1 (nI k) m = some (Y k, m) := by
  obtain ⟨h1, h2, h3, h4⟩ := h
  unfold f_Te_byteAt f_Te_byteAt_20
  by_cases hl : k < l
  · have hn : ¬ nI l ≤ nI k := by rw [nI_leI (by omega) (by omega)]; omega
    have ha := sp_at ck_2 kl_2 (show k < 300 by omega) (by omega) m
    simp only [oN, Option.bind_some, ↓reduceIte, ifT, ifF, eq_self, reduceCtorEq, cK_0, cK_1, cK_2, kl_2, bd_2, cK_3, cK_4, kl_4, bd_4, cK_5, cK_6, cK_7, kl_7, bd_7, cK_8, cK_25, cK_20, kl_20, bd_20, cK_21, kl_21, bd_21, cK_22, kl_22, bd_22, cK_23, cK_24, kl_24, bd_24, cK_37, cK_38, cK_39, kl_39, bd_39, cK_40, kl_40, bd_40, cK_41, kl_41, bd_41, cK_42, kl_42, bd_42, cK_43, kl_43, bd_43, cK_44, cK_45, kl_45, bd_45, cK_46, kl_46, bd_46, cK_47, kl_47, bd_47, cK_48, cK_49, kl_49, bd_49, cK_90, cK_91, kl_91, bd_91, cK_102, cK_103, kl_103, bd_103, cK_104, kl_104, bd_104, cK_105, kl_105, bd_105, cK_106, kl_106, bd_106, cK_107, kl_107, bd_107, cK_108, kl_108, bd_108, cK_109, kl_109, bd_109, cK_110, kl_110, bd_110, cK_111, kl_111, bd_111, cK_112, kl_112, bd_112, cK_113, kl_113, bd_113, cK_114, kl_114, bd_114, cK_115, kl_115, bd_115, cK_116, kl_116, bd_116, cK_117, kl_117, bd_117, cK_118, kl_118, bd_118, cK_119, kl_119, bd_119, cK_120, kl_120, bd_120, cK_121, kl_121, bd_121, ld_0_0, ld_0_1, ld_0_2, ld_0_3, ld_0_4, ld_0_5, ld_0_6, ld_0_7, ld_0_8, ld_0_9, ld_1_0, ld_3_0, ld_5_0, ld_5_1, ld_5_2, ld_5_3, ld_6_0, ld_6_1, ld_23_0, ld_23_1, ld_38_0, ld_38_1, ld_38_2, ld_38_3, ld_38_4, ld_44_0, ld_44_1, ld_44_2, ld_48_1, ld_90_1, ld_102_3, ld_102_4, ld_102_5, ld_102_8, ld_102_12, ld_102_13, ld_102_14, ld_102_15, ld_102_16, ld_102_17, ld_102_19, ld_102_20, ld_102_21, ld_102_22, ld_102_23, ld_102_25, ld_102_27, ld_102_28, ld_102_30, cK_pl, cK_to, cK_dp, cK_dt, cK_un, cK_ke, ld_pl, ld_to, ld_dp, ld_dt, ld_un, ld_ke, h2, hn, ha, h3 k hl]
  · have hn : nI l ≤ nI k := by rw [nI_leI (by omega) (by omega)]; omega
    simp only [oN, Option.bind_some, ↓reduceIte, ifT, ifF, eq_self, reduceCtorEq, cK_0, cK_1, cK_2, kl_2, bd_2, cK_3, cK_4, kl_4, bd_4, cK_5, cK_6, cK_7, kl_7, bd_7, cK_8, cK_25, cK_20, kl_20, bd_20, cK_21, kl_21, bd_21, cK_22, kl_22, bd_22, cK_23, cK_24, kl_24, bd_24, cK_37, cK_38, cK_39, kl_39, bd_39, cK_40, kl_40, bd_40, cK_41, kl_41, bd_41, cK_42, kl_42, bd_42, cK_43, kl_43, bd_43, cK_44, cK_45, kl_45, bd_45, cK_46, kl_46, bd_46, cK_47, kl_47, bd_47, cK_48, cK_49, kl_49, bd_49, cK_90, cK_91, kl_91, bd_91, cK_102, cK_103, kl_103, bd_103, cK_104, kl_104, bd_104, cK_105, kl_105, bd_105, cK_106, kl_106, bd_106, cK_107, kl_107, bd_107, cK_108, kl_108, bd_108, cK_109, kl_109, bd_109, cK_110, kl_110, bd_110, cK_111, kl_111, bd_111, cK_112, kl_112, bd_112, cK_113, kl_113, bd_113, cK_114, kl_114, bd_114, cK_115, kl_115, bd_115, cK_116, kl_116, bd_116, cK_117, kl_117, bd_117, cK_118, kl_118, bd_118, cK_119, kl_119, bd_119, cK_120, kl_120, bd_120, cK_121, kl_121, bd_121, ld_0_0, ld_0_1, ld_0_2, ld_0_3, ld_0_4, ld_0_5, ld_0_6, ld_0_7, ld_0_8, ld_0_9, ld_1_0, ld_3_0, ld_5_0, ld_5_1, ld_5_2, ld_5_3, ld_6_0, ld_6_1, ld_23_0, ld_23_1, ld_38_0, ld_38_1, ld_38_2, ld_38_3, ld_38_4, ld_44_0, ld_44_1, ld_44_2, ld_48_1, ld_90_1, ld_102_3, ld_102_4, ld_102_5, ld_102_8, ld_102_12, ld_102_13, ld_102_14, ld_102_15, ld_102_16, ld_102_17, ld_102_19, ld_102_20, ld_102_21, ld_102_22, ld_102_23, ld_102_25, ld_102_27, ld_102_28, ld_102_30, cK_pl, cK_to, cK_dp, cK_dt, cK_un, cK_ke, ld_pl, ld_to, ld_dp, ld_dt, ld_un, ld_ke, h2, hn, h4 k (by omega)]
theorem sp_mbyte {m : ba_M} {l k : Nat} {Y : Nat → Int32} (h : MT m l Y) (hk : k < 1000) : f_Mo_byteAt SF 102 (nI k) m = some (Y k, m) := by
  obtain ⟨h1, h2, h3, h4⟩ := h
  unfold f_Mo_byteAt f_Mo_byteAt_18
  by_cases hl : k < l
  · have hn : ¬ nI l ≤ nI k := by rw [nI_leI (by omega) (by omega)]; omega
    have hb := fun r : Option (Int32 × ba_M) => bd_105 (show k < 300 by omega) r
    simp only [oN, Option.bind_some, ↓reduceIte, ifT, ifF, eq_self, reduceCtorEq, cK_0, cK_1, cK_2, kl_2, bd_2, cK_3, cK_4, kl_4, bd_4, cK_5, cK_6, cK_7, kl_7, bd_7, cK_8, cK_25, cK_20, kl_20, bd_20, cK_21, kl_21, bd_21, cK_22, kl_22, bd_22, cK_23, cK_24, kl_24, bd_24, cK_37, cK_38, cK_39, kl_39, bd_39, cK_40, kl_40, bd_40, cK_41, kl_41, bd_41, cK_42, kl_42, bd_42, cK_43, kl_43, bd_43, cK_44, cK_45, kl_45, bd_45, cK_46, kl_46, bd_46, cK_47, kl_47, bd_47, cK_48, cK_49, kl_49, bd_49, cK_90, cK_91, kl_91, bd_91, cK_102, cK_103, kl_103, bd_103, cK_104, kl_104, bd_104, cK_105, kl_105, bd_105, cK_106, kl_106, bd_106, cK_107, kl_107, bd_107, cK_108, kl_108, bd_108, cK_109, kl_109, bd_109, cK_110, kl_110, bd_110, cK_111, kl_111, bd_111, cK_112, kl_112, bd_112, cK_113, kl_113, bd_113, cK_114, kl_114, bd_114, cK_115, kl_115, bd_115, cK_116, kl_116, bd_116, cK_117, kl_117, bd_117, cK_118, kl_118, bd_118, cK_119, kl_119, bd_119, cK_120, kl_120, bd_120, cK_121, kl_121, bd_121, ld_0_0, ld_0_1, ld_0_2, ld_0_3, ld_0_4, ld_0_5, ld_0_6, ld_0_7, ld_0_8, ld_0_9, ld_1_0, ld_3_0, ld_5_0, ld_5_1, ld_5_2, ld_5_3, ld_6_0, ld_6_1, ld_23_0, ld_23_1, ld_38_0, ld_38_1, ld_38_2, ld_38_3, ld_38_4, ld_44_0, ld_44_1, ld_44_2, ld_48_1, ld_90_1, ld_102_3, ld_102_4, ld_102_5, ld_102_8, ld_102_12, ld_102_13, ld_102_14, ld_102_15, ld_102_16, ld_102_17, ld_102_19, ld_102_20, ld_102_21, ld_102_22, ld_102_23, ld_102_25, ld_102_27, ld_102_28, ld_102_30, cK_pl, cK_to, cK_dp, cK_dt, cK_un, cK_ke, ld_pl, ld_to, ld_dp, ld_dt, ld_un, ld_ke, h2, hn, hb, nI_clamp (show k < 2 ^ 31 by omega), h3 k hl]
  · have hn : nI l ≤ nI k := by rw [nI_leI (by omega) (by omega)]; omega
    simp only [oN, Option.bind_some, ↓reduceIte, ifT, ifF, eq_self, reduceCtorEq, cK_0, cK_1, cK_2, kl_2, bd_2, cK_3, cK_4, kl_4, bd_4, cK_5, cK_6, cK_7, kl_7, bd_7, cK_8, cK_25, cK_20, kl_20, bd_20, cK_21, kl_21, bd_21, cK_22, kl_22, bd_22, cK_23, cK_24, kl_24, bd_24, cK_37, cK_38, cK_39, kl_39, bd_39, cK_40, kl_40, bd_40, cK_41, kl_41, bd_41, cK_42, kl_42, bd_42, cK_43, kl_43, bd_43, cK_44, cK_45, kl_45, bd_45, cK_46, kl_46, bd_46, cK_47, kl_47, bd_47, cK_48, cK_49, kl_49, bd_49, cK_90, cK_91, kl_91, bd_91, cK_102, cK_103, kl_103, bd_103, cK_104, kl_104, bd_104, cK_105, kl_105, bd_105, cK_106, kl_106, bd_106, cK_107, kl_107, bd_107, cK_108, kl_108, bd_108, cK_109, kl_109, bd_109, cK_110, kl_110, bd_110, cK_111, kl_111, bd_111, cK_112, kl_112, bd_112, cK_113, kl_113, bd_113, cK_114, kl_114, bd_114, cK_115, kl_115, bd_115, cK_116, kl_116, bd_116, cK_117, kl_117, bd_117, cK_118, kl_118, bd_118, cK_119, kl_119, bd_119, cK_120, kl_120, bd_120, cK_121, kl_121, bd_121, ld_0_0, ld_0_1, ld_0_2, ld_0_3, ld_0_4, ld_0_5, ld_0_6, ld_0_7, ld_0_8, ld_0_9, ld_1_0, ld_3_0, ld_5_0, ld_5_1, ld_5_2, ld_5_3, ld_6_0, ld_6_1, ld_23_0, ld_23_1, ld_38_0, ld_38_1, ld_38_2, ld_38_3, ld_38_4, ld_44_0, ld_44_1, ld_44_2, ld_48_1, ld_90_1, ld_102_3, ld_102_4, ld_102_5, ld_102_8, ld_102_12, ld_102_13, ld_102_14, ld_102_15, ld_102_16, ld_102_17, ld_102_19, ld_102_20, ld_102_21, ld_102_22, ld_102_23, ld_102_25, ld_102_27, ld_102_28, ld_102_30, cK_pl, cK_to, cK_dp, cK_dt, cK_un, cK_ke, ld_pl, ld_to, ld_dp, ld_dt, ld_un, ld_ke, h2, hn, h4 k (by omega)]
def fgN (y : Int32) : Option Nat := if decide (nI 48 ≤ y ∧ y ≤ nI 57) = true then some (y.toInt.toNat - 48) else none
theorem fg_cases (y : Int32) : (∃ b, b < 10 ∧ y = nI (48 + b) ∧ fgN y = some b ∧ decide (nI 48 ≤ y ∧ y ≤ nI 57) = true) ∨ (fgN y = none ∧ decide (nI 48 ≤ y ∧ y ≤ nI 57) = false) := by
  cases h : decide (nI 48 ≤ y ∧ y ≤ nI 57) with
  | false => exact Or.inr ⟨by unfold fgN; rw [h]; rfl, rfl⟩
  | true =>
    obtain ⟨i, h1, h2, h3⟩ := (dec_in (by omega) (by omega)).mp h
    refine Or.inl ⟨i - 48, by omega, by rw [h3]; congr 1; omega, ?_, rfl⟩
    unfold fgN
    rw [h, if_pos rfl, h3, nI_toInt (by omega)]
    rfl
def numN (Y : Nat → Int32) (p : Nat) : Option (Nat × Nat) := (fgN (Y p)).bind fun a => match fgN (Y (p + 1)) with
  | none => some (a, p + 1)
  | some b => some (10 * a + b, p + 2)
def rdL (Y : Nat → Int32) : Nat → Nat → Option (List Nat × Nat)
  | 0, _ => none
  | f + 1, p => (numN Y p).bind fun q => if Y q.2 = nI 59 then some ([q.1], q.2 + 1) else if Y q.2 = nI 44 then (rdL Y f (q.2 + 1)).map fun z => (q.1 :: z.1, z.2) else none
theorem num_in {Y : Nat → Int32} {p : Nat} {q : Nat × Nat} (h : numN Y p = some q) : q.1 ≤ 99 ∧ p < q.2 ∧ q.2 ≤ p + 2 := by
  unfold numN at h
  rcases fg_cases (Y p) with ⟨a, ha, -, hf, -⟩ | ⟨hf, -⟩
  · rw [hf] at h
    rcases fg_cases (Y (p + 1)) with ⟨b, hb, -, hg, -⟩ | ⟨hg, -⟩
    · rw [hg] at h; obtain rfl := Option.some.inj h; exact ⟨by show 10 * a + b ≤ 99; omega, by show p < p + 2; omega, Nat.le_refl _⟩
    · rw [hg] at h; obtain rfl := Option.some.inj h; exact ⟨by show a ≤ 99; omega, by show p < p + 1; omega, by show p + 1 ≤ p + 2; omega⟩
  · rw [hf] at h; cases h
theorem rdL_in {Y : Nat → Int32} {l : Nat} (hY : ∀ k, l ≤ k → Y k = -1) : ∀ (f p : Nat) (vs : List Nat) (e : Nat), rdL Y f p = some (vs, e) → 1 ≤ vs.length ∧ vs.length ≤ f ∧ p < e ∧ e ≤ l ∧ ∀ k, vs.getD k 0 ≤ 99 := by
  intro f
  induction f with
  | zero => intro p vs e h; cases h
  | succ f ih =>
    intro p vs e h
    unfold rdL at h
    cases hn : numN Y p with
    | none => rw [hn] at h; cases h
    | some q =>
      obtain ⟨q1, q2, q3⟩ := num_in hn
      rw [hn] at h
      have hl : (Y q.2 = nI 59 ∨ Y q.2 = nI 44) → q.2 < l := by
        intro h
        rcases Nat.lt_or_ge q.2 l with h1 | h1
        · exact h1
        · rw [hY _ h1] at h; exact absurd h (by decide)
      rw [Option.bind_some] at h
      by_cases h1 : Y q.2 = nI 59
      · rw [if_pos h1] at h
        obtain ⟨rfl, rfl⟩ := Prod.mk.inj (Option.some.inj h)
        have := hl (Or.inl h1)
        refine ⟨Nat.le_refl _, by show 1 ≤ f + 1; omega, by omega, by omega, fun k => ?_⟩
        match k with
        | 0 => exact q1
        | k + 1 => exact Nat.zero_le _
      · rw [if_neg h1] at h
        by_cases h2 : Y q.2 = nI 44
        · rw [if_pos h2] at h
          cases hr : rdL Y f (q.2 + 1) with
          | none => rw [hr] at h; cases h
          | some z =>
            rw [hr] at h
            obtain ⟨i1, i2, i3, i4, i5⟩ := ih _ z.1 z.2 hr
            obtain ⟨rfl, rfl⟩ := Prod.mk.inj (Option.some.inj h)
            refine ⟨by show 1 ≤ z.1.length + 1; omega, by show z.1.length + 1 ≤ f + 1; omega, by omega, i4, fun k => ?_⟩
            match k with
            | 0 => exact q1
            | k + 1 => exact i5 k
        · rw [if_neg h2] at h; cases h
theorem sp_fig {m : ba_M} {l k : Nat} {Y : Nat → Int32} (h : CT m l Y) (hk : k < 1000) : f_Te_hasFigureAt SF 1 (nI k) m = some (decide (nI 48 ≤ Y k ∧ Y k ≤ nI 57), m) := by
  unfold f_Te_hasFigureAt
  simp only [oN, Option.bind_some, ↓reduceIte, ifT, ifF, eq_self, reduceCtorEq, cK_0, cK_1, cK_2, kl_2, bd_2, cK_3, cK_4, kl_4, bd_4, cK_5, cK_6, cK_7, kl_7, bd_7, cK_8, cK_25, cK_20, kl_20, bd_20, cK_21, kl_21, bd_21, cK_22, kl_22, bd_22, cK_23, cK_24, kl_24, bd_24, cK_37, cK_38, cK_39, kl_39, bd_39, cK_40, kl_40, bd_40, cK_41, kl_41, bd_41, cK_42, kl_42, bd_42, cK_43, kl_43, bd_43, cK_44, cK_45, kl_45, bd_45, cK_46, kl_46, bd_46, cK_47, kl_47, bd_47, cK_48, cK_49, kl_49, bd_49, cK_90, cK_91, kl_91, bd_91, cK_102, cK_103, kl_103, bd_103, cK_104, kl_104, bd_104, cK_105, kl_105, bd_105, cK_106, kl_106, bd_106, cK_107, kl_107, bd_107, cK_108, kl_108, bd_108, cK_109, kl_109, bd_109, cK_110, kl_110, bd_110, cK_111, kl_111, bd_111, cK_112, kl_112, bd_112, cK_113, kl_113, bd_113, cK_114, kl_114, bd_114, cK_115, kl_115, bd_115, cK_116, kl_116, bd_116, cK_117, kl_117, bd_117, cK_118, kl_118, bd_118, cK_119, kl_119, bd_119, cK_120, kl_120, bd_120, cK_121, kl_121, bd_121, ld_0_0, ld_0_1, ld_0_2, ld_0_3, ld_0_4, ld_0_5, ld_0_6, ld_0_7, ld_0_8, ld_0_9, ld_1_0, ld_3_0, ld_5_0, ld_5_1, ld_5_2, ld_5_3, ld_6_0, ld_6_1, ld_23_0, ld_23_1, ld_38_0, ld_38_1, ld_38_2, ld_38_3, ld_38_4, ld_44_0, ld_44_1, ld_44_2, ld_48_1, ld_90_1, ld_102_3, ld_102_4, ld_102_5, ld_102_8, ld_102_12, ld_102_13, ld_102_14, ld_102_15, ld_102_16, ld_102_17, ld_102_19, ld_102_20, ld_102_21, ld_102_22, ld_102_23, ld_102_25, ld_102_27, ld_102_28, ld_102_30, cK_pl, cK_to, cK_dp, cK_dt, cK_un, cK_ke, ld_pl, ld_to, ld_dp, ld_dt, ld_un, ld_ke, sp_byte h hk, sp_within]
theorem sp_mfig {S : ba_S} (y : Int32) (m : ba_M) : f_Mo_isFigure S y m = some (decide (nI 48 ≤ y ∧ y ≤ nI 57), m) := by
  unfold f_Mo_isFigure
  simp only [oN, Option.bind_some, ↓reduceIte, ifT, ifF, eq_self, reduceCtorEq, sp_in]
def oRN (i : Nat) : Nat → Nat → Prop := fun o k => o = 4 ∧ i ≤ k ∨ o = 3 ∧ k = 1
theorem sp_rd67 {m : ba_M} {l q i v : Nat} {Y : Nat → Int32} (h : CT m l Y) (hq : q < 999) (hi : i < 5) (K : Nat → Nat → Int32 → Int32 → ba_M → Option (Int32 × ba_M)) : f_Re_readNumbers_67 SF K 3 1 (nI q) (nI i) (nI v) m = (if Y q = nI 59 then some (nI (q + 1), wI (wI m 4 i (nI v)) 3 1 (nI (i + 1))) else if Y q = nI 44 then K 3 1 (nI (q + 1)) (nI (i + 1)) (wI (wI m 4 i (nI v)) 3 1 (nI (i + 1))) else some (-4, wI (wI m 4 i (nI v)) 3 1 (nI (i + 1)))) := by
  have hF : Fr (oRN 0) m (wI (wI m 4 i (nI v)) 3 1 (nI (i + 1))) := (Fr.rf.w (Or.inl ⟨rfl, Nat.zero_le _⟩)).w (Or.inr ⟨rfl, rfl⟩)
  have hC := h.fr hF (by intro o k ho; simp only [oRN] at ho; omega)
  have hp := sp_put (x := nI v) ck_4 kl_4 hi (by omega) m
  have hb := sp_byte hC (show q < 1000 by omega)
  unfold f_Re_readNumbers_67
  simp only [oN, Option.bind_some, ↓reduceIte, ifT, ifF, eq_self, reduceCtorEq, cK_0, cK_1, cK_2, kl_2, bd_2, cK_3, cK_4, kl_4, bd_4, cK_5, cK_6, cK_7, kl_7, bd_7, cK_8, cK_25, cK_20, kl_20, bd_20, cK_21, kl_21, bd_21, cK_22, kl_22, bd_22, cK_23, cK_24, kl_24, bd_24, cK_37, cK_38, cK_39, kl_39, bd_39, cK_40, kl_40, bd_40, cK_41, kl_41, bd_41, cK_42, kl_42, bd_42, cK_43, kl_43, bd_43, cK_44, cK_45, kl_45, bd_45, cK_46, kl_46, bd_46, cK_47, kl_47, bd_47, cK_48, cK_49, kl_49, bd_49, cK_90, cK_91, kl_91, bd_91, cK_102, cK_103, kl_103, bd_103, cK_104, kl_104, bd_104, cK_105, kl_105, bd_105, cK_106, kl_106, bd_106, cK_107, kl_107, bd_107, cK_108, kl_108, bd_108, cK_109, kl_109, bd_109, cK_110, kl_110, bd_110, cK_111, kl_111, bd_111, cK_112, kl_112, bd_112, cK_113, kl_113, bd_113, cK_114, kl_114, bd_114, cK_115, kl_115, bd_115, cK_116, kl_116, bd_116, cK_117, kl_117, bd_117, cK_118, kl_118, bd_118, cK_119, kl_119, bd_119, cK_120, kl_120, bd_120, cK_121, kl_121, bd_121, ld_0_0, ld_0_1, ld_0_2, ld_0_3, ld_0_4, ld_0_5, ld_0_6, ld_0_7, ld_0_8, ld_0_9, ld_1_0, ld_3_0, ld_5_0, ld_5_1, ld_5_2, ld_5_3, ld_6_0, ld_6_1, ld_23_0, ld_23_1, ld_38_0, ld_38_1, ld_38_2, ld_38_3, ld_38_4, ld_44_0, ld_44_1, ld_44_2, ld_48_1, ld_90_1, ld_102_3, ld_102_4, ld_102_5, ld_102_8, ld_102_12, ld_102_13, ld_102_14, ld_102_15, ld_102_16, ld_102_17, ld_102_19, ld_102_20, ld_102_21, ld_102_22, ld_102_23, ld_102_25, ld_102_27, ld_102_28, ld_102_30, cK_pl, cK_to, cK_dp, cK_dt, cK_un, cK_ke, ld_pl, ld_to, ld_dp, ld_dt, ld_un, ld_ke, hp, nI_add, hb]
theorem sp_rdC {l : Nat} {Y : Nat → Int32} : ∀ (f i p N : Nat) (m : ba_M), i + f = 5 → p + 3 * f ≤ 900 → f < N → CT m l Y →
    ∃ r m', fx (fun _ _ _ _ _ => none) (b_Re_readNumbers_10 SF) N 3 1 (nI p) (nI i) m = some (r, m') ∧ Fr (oRN i) m m' ∧ ((rdL Y f p = none ∧ r = -4) ∨ ∃ vs e, rdL Y f p = some (vs, e) ∧ r = nI e ∧ gI m' 3 1 = nI (i + vs.length) ∧ ∀ k, k < vs.length → gI m' 4 (i + k) = nI (vs.getD k 0)) := by
  intro f
  induction f with
  | zero =>
    intro i p N m hi hp hN hC
    obtain ⟨N, rfl⟩ : ∃ z, N = z + 1 := ⟨N - 1, by omega⟩
    obtain rfl : i = 5 := by omega
    refine ⟨-4, m, ?_, Fr.rf, Or.inl ⟨rfl, rfl⟩⟩
    rw [fx_s]
    generalize fx (fun _ _ _ _ _ => none) (b_Re_readNumbers_10 SF) N = K
    unfold b_Re_readNumbers_10
    exact if_pos (by rw [nI_leI (by omega) (by omega)]; omega)
  | succ f ih =>
    intro i p N m hi hp hN hC
    obtain ⟨N, rfl⟩ : ∃ z, N = z + 1 := ⟨N - 1, by omega⟩
    have hlt : ¬ nI 5 ≤ nI i := by rw [nI_leI (by omega) (by omega)]; omega
    have f1 := sp_fig hC (show p < 1000 by omega)
    have f2 := sp_fig hC (show p + 1 < 1000 by omega)
    have b1 := sp_byte hC (show p < 1000 by omega)
    have b2 := sp_byte hC (show p + 1 < 1000 by omega)
    have fin : ∀ q v, q ≤ p + 2 → numN Y p = some (v, q) → (∀ K : Nat → Nat → Int32 → Int32 → ba_M → Option (Int32 × ba_M), b_Re_readNumbers_10 SF K 3 1 (nI p) (nI i) m = f_Re_readNumbers_67 SF K 3 1 (nI q) (nI i) (nI v) m) →
        ∃ r m', fx (fun _ _ _ _ _ => none) (b_Re_readNumbers_10 SF) (N + 1) 3 1 (nI p) (nI i) m = some (r, m') ∧ Fr (oRN i) m m' ∧ ((rdL Y (f + 1) p = none ∧ r = -4) ∨ ∃ vs e, rdL Y (f + 1) p = some (vs, e) ∧ r = nI e ∧ gI m' 3 1 = nI (i + vs.length) ∧ ∀ k, k < vs.length → gI m' 4 (i + k) = nI (vs.getD k 0)) := by
      intro q v hq hnum hK
      have hF : Fr (oRN i) m (wI (wI m 4 i (nI v)) 3 1 (nI (i + 1))) := (Fr.rf.w (Or.inl ⟨rfl, Nat.le_refl _⟩)).w (Or.inr ⟨rfl, rfl⟩)
      have hC' := hC.fr hF (by intro o k ho; simp only [oRN] at ho; omega)
      have hr : rdL Y (f + 1) p = if Y q = nI 59 then some ([v], q + 1) else if Y q = nI 44 then (rdL Y f (q + 1)).map fun z => (v :: z.1, z.2) else none := by
        show (numN Y p).bind _ = _
        rw [hnum]; rfl
      rw [fx_s, hK, sp_rd67 hC (by omega) (by omega), hr]
      by_cases h1 : Y q = nI 59
      · rw [if_pos h1, if_pos h1]
        refine ⟨_, _, rfl, hF, Or.inr ⟨_, _, rfl, rfl, gI_s _ _ _ _, fun k hk => ?_⟩⟩
        obtain rfl : k = 0 := by have : k < 1 := hk; omega
        rw [gI_n _ _ _ _ _ _ (by omega)]
        exact gI_s _ _ _ _
      · rw [if_neg h1, if_neg h1]
        by_cases h2 : Y q = nI 44
        · rw [if_pos h2, if_pos h2]
          obtain ⟨r, m', u1, u2, u3⟩ := ih (i + 1) (q + 1) N _ (by omega) (by omega) (by omega) hC'
          refine ⟨r, m', u1, hF.tr (u2.up (by intro o k ho; unfold oRN at ho ⊢; omega)), ?_⟩
          rcases u3 with ⟨u3, u4⟩ | ⟨vs, e, u3, u4, u5, u6⟩
          · exact Or.inl ⟨by rw [u3]; rfl, u4⟩
          · refine Or.inr ⟨v :: vs, e, by rw [u3]; rfl, u4, u5.trans (congrArg nI (show i + 1 + vs.length = i + (vs.length + 1) by omega)), fun k hk => ?_⟩
            cases k with
            | zero =>
              have w1 : gI m' 4 i = gI (wI (wI m 4 i (nI v)) 3 1 (nI (i + 1))) 4 i := u2.1 4 i (by unfold oRN; omega)
              have w2 : gI (wI (wI m 4 i (nI v)) 3 1 (nI (i + 1))) 4 i = nI v := by rw [gI_n _ _ _ _ _ _ (by omega)]; exact gI_s _ _ _ _
              exact w1.trans w2
            | succ k =>
              have w1 := u6 k (Nat.lt_of_succ_lt_succ hk)
              have w2 : i + (k + 1) = i + 1 + k := by omega
              rw [w2]
              exact w1
        · rw [if_neg h2, if_neg h2]
          exact ⟨_, _, rfl, hF, Or.inl ⟨rfl, rfl⟩⟩
    rcases fg_cases (Y p) with ⟨a, ha, ya, fa, da⟩ | ⟨fa, da⟩
    · rw [da] at f1
      rw [ya] at b1
      have e1 : nI (48 + a) - nI 48 = nI a := by rw [pk_sub (by omega)]; exact congrArg nI (by omega)
      rcases fg_cases (Y (p + 1)) with ⟨b, hb, yb, fb, db⟩ | ⟨fb, db⟩
      · rw [db] at f2
        rw [yb] at b2
        have e2 : nI 10 * nI a + nI (48 + b) - nI 48 = nI (10 * a + b) := by rw [pk_mul, nI_add, pk_sub (by omega)]; exact congrArg nI (by omega)
        have e3 : nI (p + 1) + nI 1 = nI (p + 2) := by rw [nI_add]
        refine fin (p + 2) (10 * a + b) (by omega) (by unfold numN; rw [fa, Option.bind_some, fb]) (fun K => ?_)
        unfold b_Re_readNumbers_10
        rw [if_neg hlt, f1, obS, if_pos rfl, b1, obS, nI_add, f2, obS, if_pos rfl, b2, obS, e3]
        dsimp only
        rw [e1, e2]
      · rw [db] at f2
        refine fin (p + 1) a (by omega) (by unfold numN; rw [fa, Option.bind_some, fb]) (fun K => ?_)
        unfold b_Re_readNumbers_10
        rw [if_neg hlt, f1, obS, if_pos rfl, b1, obS, nI_add, f2, obS, if_neg Bool.false_ne_true]
        dsimp only
        rw [e1]
    · rw [da] at f1
      refine ⟨-4, m, ?_, Fr.rf, Or.inl ⟨by show (numN Y p).bind _ = none; unfold numN; rw [fa]; rfl, rfl⟩⟩
      rw [fx_s]
      generalize fx (fun _ _ _ _ _ => none) (b_Re_readNumbers_10 SF) N = K
      unfold b_Re_readNumbers_10
      rw [if_neg hlt, f1, obS, if_neg Bool.false_ne_true]
