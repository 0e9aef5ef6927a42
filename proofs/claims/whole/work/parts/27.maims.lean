def amR (m : ba_M) (c : Nat) (P : ba_T) (st : Nat → Nat) (j b k : Nat) : ba_M := wI (wI m 112 k (hI (hdF (hdP P st (fun i => tw (st i) b 3) j k) c 0))) 111 k (nI (chF c P (fun i => P i 4) st (fun i => tw (st i) b 3) j k))
theorem sp_a135 {m : ba_M} {c n d j k b : Nat} {P T : ba_T} {st : Nat → Nat} (hG : GM m c n d P T) (hok : okG c n d P T) (hst : ∀ i, i < c → gI m 110 i = nI (st i) ∧ st i ≤ 40) (hj : j < c) (hk : k < c) (hb : b ≤ 40) {s : Nat} (hs1 : s ≤ 10) (hs2 : s = min 10 (max 0 ((if P k 4 = 3 then P k 2 / 2 else P k 2) + P j 3 - ds (st k) (tw (st k) b 3)))) :
    f_Mo_aims_135 SF 102 (nI j) (nI k) (nI (tw (st k) b 3)) (nI s) m = some (amR m c P st j b k) := by
  obtain ⟨⟨o1, o2, o3, o4, o5⟩, -, -⟩ := id hok
  have htc : tw (st k) b 3 ≤ 40 := tw_le (hst k hk).2 hb
  have hh := sp_hides hG hok hst hj hk htc
  rw [hdP_tc (tc := fun i => tw (st i) b 3)] at hh
  have hn := hI_none (x := hdF (hdP P st (fun i => tw (st i) b 3) j k) c 0) (c := c) (fun t ht => by have := hdF_lt _ _ _ ht; omega) (by omega)
  unfold f_Mo_aims_135 f_Mo_aims_176 amR chF
  simp only [← hs2]
  generalize hdF (hdP P st (fun i => tw (st i) b 3) j k) c 0 = hd at hh hn ⊢
  have hk5 : k < 5 := by omega
  clear hs2 hst hG
  simp (disch := omega) only [oN, Option.bind_some, ↓reduceIte, ifT, ifF, eq_self, reduceCtorEq, cK_0, cK_1, cK_2, kl_2, bd_2, cK_3, cK_4, kl_4, bd_4, cK_5, cK_6, cK_7, kl_7, bd_7, cK_8, cK_25, cK_20, kl_20, bd_20, cK_21, kl_21, bd_21, cK_22, kl_22, bd_22, cK_23, cK_24, kl_24, bd_24, cK_37, cK_38, cK_39, kl_39, bd_39, cK_40, kl_40, bd_40, cK_41, kl_41, bd_41, cK_42, kl_42, bd_42, cK_43, kl_43, bd_43, cK_44, cK_45, kl_45, bd_45, cK_46, kl_46, bd_46, cK_47, kl_47, bd_47, cK_48, cK_49, kl_49, bd_49, cK_90, cK_91, kl_91, bd_91, cK_102, cK_103, kl_103, bd_103, cK_104, kl_104, bd_104, cK_105, kl_105, bd_105, cK_106, kl_106, bd_106, cK_107, kl_107, bd_107, cK_108, kl_108, bd_108, cK_109, kl_109, bd_109, cK_110, kl_110, bd_110, cK_111, kl_111, bd_111, cK_112, kl_112, bd_112, cK_113, kl_113, bd_113, cK_114, kl_114, bd_114, cK_115, kl_115, bd_115, cK_116, kl_116, bd_116, cK_117, kl_117, bd_117, cK_118, kl_118, bd_118, cK_119, kl_119, bd_119, cK_120, kl_120, bd_120, cK_121, kl_121, bd_121, ld_0_0, ld_0_1, ld_0_2, ld_0_3, ld_0_4, ld_0_5, ld_0_6, ld_0_7, ld_0_8, ld_0_9, ld_1_0, ld_3_0, ld_5_0, ld_5_1, ld_5_2, ld_5_3, ld_6_0, ld_6_1, ld_23_0, ld_23_1, ld_38_0, ld_38_1, ld_38_2, ld_38_3, ld_38_4, ld_44_0, ld_44_1, ld_44_2, ld_48_1, ld_90_1, ld_102_3, ld_102_4, ld_102_5, ld_102_8, ld_102_12, ld_102_13, ld_102_14, ld_102_15, ld_102_16, ld_102_17, ld_102_19, ld_102_20, ld_102_21, ld_102_22, ld_102_23, ld_102_25, ld_102_27, ld_102_28, ld_102_30, cK_pl, cK_to, cK_dp, cK_dt, cK_un, cK_ke, ld_pl, ld_to, ld_dp, ld_dt, ld_un, ld_ke, hh, nI_clamp, gI_s, z0, nI_eq, pk_div]
  simp only [hn]
  split <;> rfl
theorem ds_lo {s b : Nat} (h : s ≤ b) : ds s b = b - s := by unfold ds; omega
theorem ds_hi {s b : Nat} (h : b ≤ s) : ds s b = s - b := by unfold ds; omega
theorem tw_lo {s b : Nat} (h : s ≤ b) : tw s b 3 = max s (b - 3) := by
  unfold tw
  by_cases h1 : b ≤ s
  · rw [if_pos h1]; omega
  · rw [if_neg h1]
theorem tw_hi {s b : Nat} (h : b ≤ s) : tw s b 3 = min s (b + 3) := by
  unfold tw
  rw [if_pos h]
theorem tw_far (s b : Nat) : ds s b - min (ds s b) 3 = ds s (tw s b 3) := by
  rcases Nat.le_total s b with h | h
  · rw [ds_lo h, tw_lo h, ds_lo (Nat.le_max_left _ _)]
    omega
  · rw [ds_hi h, tw_hi h, ds_hi (Nat.min_le_left _ _)]
    omega
theorem tw_dn {s b : Nat} (h : s ≤ b) : b - min (ds s b) 3 = tw s b 3 := by
  rw [ds_lo h, tw_lo h]
  omega
theorem tw_up {s b : Nat} (h : b ≤ s) : b + min (ds s b) 3 = tw s b 3 := by
  rw [ds_hi h, tw_hi h]
  omega
theorem sp_a89 {m : ba_M} {c n d j k b : Nat} {P T : ba_T} {st : Nat → Nat} (hG : GM m c n d P T) (hok : okG c n d P T) (hst : ∀ i, i < c → gI m 110 i = nI (st i) ∧ st i ≤ 40) (hj : j < c) (hk : k < c) (hb : b ≤ 40) {s far steps : Nat} (hs1 : s ≤ 9) (hf1 : far ≤ 40) (hs2 : steps ≤ far) (hf2 : far - steps = ds (st k) (tw (st k) b 3)) (hs3 : s = if P k 4 = 3 then P k 2 / 2 else P k 2) :
    f_Mo_aims_89 SF 102 (nI j) (nI k) (nI far) (nI steps) (nI (tw (st k) b 3)) (nI s) m = some (amR m c P st j b k) := by
  have key := fun (s' : Nat) (h1 : s' ≤ 10) (h2 : s' = min 10 (max 0 (s + P j 3 - (far - steps)))) => sp_a135 hG hok hst hj hk hb (s := s') h1 (by rw [← hs3, ← hf2]; exact h2)
  obtain ⟨⟨o1, o2, o3, o4, o5⟩, o6, -⟩ := id hok
  obtain ⟨w1, w2, w3, w4, w5⟩ := hG.2.2.2.1 j hj
  obtain ⟨x1, x2, x3, x4, x5, x6, x7⟩ := o6 j hj
  generalize amR m c P st j b k = R at key ⊢
  generalize tw (st k) b 3 = fr at key ⊢
  clear hf2 hs3 hst hG hok o6
  unfold f_Mo_aims_89
  simp (disch := omega) only [oN, Option.bind_some, ↓reduceIte, ifT, ifF, eq_self, reduceCtorEq, cK_0, cK_1, cK_2, kl_2, bd_2, cK_3, cK_4, kl_4, bd_4, cK_5, cK_6, cK_7, kl_7, bd_7, cK_8, cK_25, cK_20, kl_20, bd_20, cK_21, kl_21, bd_21, cK_22, kl_22, bd_22, cK_23, cK_24, kl_24, bd_24, cK_37, cK_38, cK_39, kl_39, bd_39, cK_40, kl_40, bd_40, cK_41, kl_41, bd_41, cK_42, kl_42, bd_42, cK_43, kl_43, bd_43, cK_44, cK_45, kl_45, bd_45, cK_46, kl_46, bd_46, cK_47, kl_47, bd_47, cK_48, cK_49, kl_49, bd_49, cK_90, cK_91, kl_91, bd_91, cK_102, cK_103, kl_103, bd_103, cK_104, kl_104, bd_104, cK_105, kl_105, bd_105, cK_106, kl_106, bd_106, cK_107, kl_107, bd_107, cK_108, kl_108, bd_108, cK_109, kl_109, bd_109, cK_110, kl_110, bd_110, cK_111, kl_111, bd_111, cK_112, kl_112, bd_112, cK_113, kl_113, bd_113, cK_114, kl_114, bd_114, cK_115, kl_115, bd_115, cK_116, kl_116, bd_116, cK_117, kl_117, bd_117, cK_118, kl_118, bd_118, cK_119, kl_119, bd_119, cK_120, kl_120, bd_120, cK_121, kl_121, bd_121, ld_0_0, ld_0_1, ld_0_2, ld_0_3, ld_0_4, ld_0_5, ld_0_6, ld_0_7, ld_0_8, ld_0_9, ld_1_0, ld_3_0, ld_5_0, ld_5_1, ld_5_2, ld_5_3, ld_6_0, ld_6_1, ld_23_0, ld_23_1, ld_38_0, ld_38_1, ld_38_2, ld_38_3, ld_38_4, ld_44_0, ld_44_1, ld_44_2, ld_48_1, ld_90_1, ld_102_3, ld_102_4, ld_102_5, ld_102_8, ld_102_12, ld_102_13, ld_102_14, ld_102_15, ld_102_16, ld_102_17, ld_102_19, ld_102_20, ld_102_21, ld_102_22, ld_102_23, ld_102_25, ld_102_27, ld_102_28, ld_102_30, cK_pl, cK_to, cK_dp, cK_dt, cK_un, cK_ke, ld_pl, ld_to, ld_dp, ld_dt, ld_un, ld_ke, nI_add, pk_mul, nI_clamp, w4, pk_sub, z0, sub_nn, nI_leI]
  by_cases c1 : far - steps ≤ s + P j 3
  · simp (disch := omega) only [c1, ↓reduceIte, pk_sub, nI_leI]
    by_cases c2 : s + P j 3 - (far - steps) ≤ 10
    · simp only [c2, ↓reduceIte]
      exact key _ c2 (by omega)
    · simp only [c2, ↓reduceIte]
      exact key 10 (by omega) (by omega)
  · simp only [c1, ↓reduceIte]
    exact key 0 (by omega) (by omega)
theorem sp_a48 {m : ba_M} {c n d j k b : Nat} {P T : ba_T} {st : Nat → Nat} (hG : GM m c n d P T) (hok : okG c n d P T) (hst : ∀ i, i < c → gI m 110 i = nI (st i) ∧ st i ≤ 40) (hj : j < c) (hk : k < c) (hb : b ≤ 40) {far steps : Nat} (hf1 : far ≤ 40) (hs2 : steps ≤ far) (hf2 : far - steps = ds (st k) (tw (st k) b 3)) :
    f_Mo_aims_48 SF 102 (nI j) (nI k) (nI far) (nI steps) (nI (tw (st k) b 3)) m = some (amR m c P st j b k) := by
  have key := fun (s : Nat) (h1 : s ≤ 9) (h2 : s = if P k 4 = 3 then P k 2 / 2 else P k 2) => sp_a89 hG hok hst hj hk hb (s := s) h1 hf1 hs2 hf2 h2
  obtain ⟨⟨o1, o2, o3, o4, o5⟩, o6, -⟩ := id hok
  obtain ⟨p1, p2, p3, p4, p5⟩ := hG.2.2.2.1 k hk
  obtain ⟨v1, v2, v3, v4, v5, v6, v7⟩ := o6 k hk
  generalize amR m c P st j b k = R at key ⊢
  generalize tw (st k) b 3 = fr at key ⊢
  clear hf2 hst hG hok o6
  unfold f_Mo_aims_48
  simp (disch := omega) only [oN, Option.bind_some, ↓reduceIte, ifT, ifF, eq_self, reduceCtorEq, cK_0, cK_1, cK_2, kl_2, bd_2, cK_3, cK_4, kl_4, bd_4, cK_5, cK_6, cK_7, kl_7, bd_7, cK_8, cK_25, cK_20, kl_20, bd_20, cK_21, kl_21, bd_21, cK_22, kl_22, bd_22, cK_23, cK_24, kl_24, bd_24, cK_37, cK_38, cK_39, kl_39, bd_39, cK_40, kl_40, bd_40, cK_41, kl_41, bd_41, cK_42, kl_42, bd_42, cK_43, kl_43, bd_43, cK_44, cK_45, kl_45, bd_45, cK_46, kl_46, bd_46, cK_47, kl_47, bd_47, cK_48, cK_49, kl_49, bd_49, cK_90, cK_91, kl_91, bd_91, cK_102, cK_103, kl_103, bd_103, cK_104, kl_104, bd_104, cK_105, kl_105, bd_105, cK_106, kl_106, bd_106, cK_107, kl_107, bd_107, cK_108, kl_108, bd_108, cK_109, kl_109, bd_109, cK_110, kl_110, bd_110, cK_111, kl_111, bd_111, cK_112, kl_112, bd_112, cK_113, kl_113, bd_113, cK_114, kl_114, bd_114, cK_115, kl_115, bd_115, cK_116, kl_116, bd_116, cK_117, kl_117, bd_117, cK_118, kl_118, bd_118, cK_119, kl_119, bd_119, cK_120, kl_120, bd_120, cK_121, kl_121, bd_121, ld_0_0, ld_0_1, ld_0_2, ld_0_3, ld_0_4, ld_0_5, ld_0_6, ld_0_7, ld_0_8, ld_0_9, ld_1_0, ld_3_0, ld_5_0, ld_5_1, ld_5_2, ld_5_3, ld_6_0, ld_6_1, ld_23_0, ld_23_1, ld_38_0, ld_38_1, ld_38_2, ld_38_3, ld_38_4, ld_44_0, ld_44_1, ld_44_2, ld_48_1, ld_90_1, ld_102_3, ld_102_4, ld_102_5, ld_102_8, ld_102_12, ld_102_13, ld_102_14, ld_102_15, ld_102_16, ld_102_17, ld_102_19, ld_102_20, ld_102_21, ld_102_22, ld_102_23, ld_102_25, ld_102_27, ld_102_28, ld_102_30, cK_pl, cK_to, cK_dp, cK_dt, cK_un, cK_ke, ld_pl, ld_to, ld_dp, ld_dt, ld_un, ld_ke, nI_add, pk_mul, nI_clamp, p5, p3, nI_eq, z0, pk_div]
  by_cases c1 : P k 4 = 3
  · simp only [c1, ↓reduceIte]
    exact key _ (by omega) (by rw [if_pos c1])
  · simp only [c1, ↓reduceIte]
    exact key _ (by omega) (by rw [if_neg c1])
theorem sp_a25 {m : ba_M} {c n d j k b : Nat} {P T : ba_T} {st : Nat → Nat} (hG : GM m c n d P T) (hok : okG c n d P T) (hst : ∀ i, i < c → gI m 110 i = nI (st i) ∧ st i ≤ 40) (hj : j < c) (hk : k < c) (hb : b ≤ 40) {steps : Nat} (hs : steps = min (ds (st k) b) 3) :
    f_Mo_aims_25 SF 102 (nI j) (nI b) (nI k) (nI (ds (st k) b)) (nI steps) m = some (amR m c P st j b k) := by
  obtain ⟨k1, k2⟩ := hst k hk
  have h40 : ds (st k) b ≤ 40 := by unfold ds; omega
  have key := sp_a48 hG hok hst hj hk hb (far := ds (st k) b) (steps := steps) h40 (by omega) (by rw [hs]; exact tw_far _ _)
  have hc5 := hok.1
  have hdn : st k ≤ b → b - steps = tw (st k) b 3 := fun h => by rw [hs]; exact tw_dn h
  have hup : b ≤ st k → b + steps = tw (st k) b 3 := fun h => by rw [hs]; exact tw_up h
  have hsb : st k ≤ b → steps ≤ b := fun h => by rw [hs, ds_lo h]; omega
  generalize amR m c P st j b k = R at key ⊢
  generalize tw (st k) b 3 = fr at key hdn hup ⊢
  generalize ds (st k) b = far at key hs h40 ⊢
  generalize st k = sk at k1 k2 hdn hup hsb
  clear hst hG hok
  unfold f_Mo_aims_25
  simp (disch := omega) only [oN, Option.bind_some, ↓reduceIte, ifT, ifF, eq_self, reduceCtorEq, cK_0, cK_1, cK_2, kl_2, bd_2, cK_3, cK_4, kl_4, bd_4, cK_5, cK_6, cK_7, kl_7, bd_7, cK_8, cK_25, cK_20, kl_20, bd_20, cK_21, kl_21, bd_21, cK_22, kl_22, bd_22, cK_23, cK_24, kl_24, bd_24, cK_37, cK_38, cK_39, kl_39, bd_39, cK_40, kl_40, bd_40, cK_41, kl_41, bd_41, cK_42, kl_42, bd_42, cK_43, kl_43, bd_43, cK_44, cK_45, kl_45, bd_45, cK_46, kl_46, bd_46, cK_47, kl_47, bd_47, cK_48, cK_49, kl_49, bd_49, cK_90, cK_91, kl_91, bd_91, cK_102, cK_103, kl_103, bd_103, cK_104, kl_104, bd_104, cK_105, kl_105, bd_105, cK_106, kl_106, bd_106, cK_107, kl_107, bd_107, cK_108, kl_108, bd_108, cK_109, kl_109, bd_109, cK_110, kl_110, bd_110, cK_111, kl_111, bd_111, cK_112, kl_112, bd_112, cK_113, kl_113, bd_113, cK_114, kl_114, bd_114, cK_115, kl_115, bd_115, cK_116, kl_116, bd_116, cK_117, kl_117, bd_117, cK_118, kl_118, bd_118, cK_119, kl_119, bd_119, cK_120, kl_120, bd_120, cK_121, kl_121, bd_121, ld_0_0, ld_0_1, ld_0_2, ld_0_3, ld_0_4, ld_0_5, ld_0_6, ld_0_7, ld_0_8, ld_0_9, ld_1_0, ld_3_0, ld_5_0, ld_5_1, ld_5_2, ld_5_3, ld_6_0, ld_6_1, ld_23_0, ld_23_1, ld_38_0, ld_38_1, ld_38_2, ld_38_3, ld_38_4, ld_44_0, ld_44_1, ld_44_2, ld_48_1, ld_90_1, ld_102_3, ld_102_4, ld_102_5, ld_102_8, ld_102_12, ld_102_13, ld_102_14, ld_102_15, ld_102_16, ld_102_17, ld_102_19, ld_102_20, ld_102_21, ld_102_22, ld_102_23, ld_102_25, ld_102_27, ld_102_28, ld_102_30, cK_pl, cK_to, cK_dp, cK_dt, cK_un, cK_ke, ld_pl, ld_to, ld_dp, ld_dt, ld_un, ld_ke, nI_clamp, k1, nI_leI]
  by_cases c1 : sk ≤ b
  · have e : nI b - nI steps = nI fr := by rw [pk_sub (hsb c1), hdn c1]
    simp only [c1, ↓reduceIte, e]
    exact key
  · have e : nI b + nI steps = nI fr := by rw [nI_add, hup (by omega)]
    simp only [c1, ↓reduceIte, e]
    exact key
theorem sp_aims {m : ba_M} {c n d j k b : Nat} {P T : ba_T} {st : Nat → Nat} (hG : GM m c n d P T) (hok : okG c n d P T) (hst : ∀ i, i < c → gI m 110 i = nI (st i) ∧ st i ≤ 40) (hj : j < c) (hk : k < c) (hb : b ≤ 40) :
    f_Mo_aims SF 102 (nI j) (nI b) (nI k) m = some (amR m c P st j b k) := by
  have key := fun (steps : Nat) => sp_a25 hG hok hst hj hk hb (steps := steps)
  obtain ⟨k1, k2⟩ := hst k hk
  have hc5 := hok.1
  have h40 : ds (st k) b ≤ 40 := by unfold ds; omega
  generalize amR m c P st j b k = R at key ⊢
  have hsz : f_Mo_size SF (nI (st k) - nI b) m = some (nI (ds (st k) b), m) := sp_size (by omega) (by omega) m
  generalize ds (st k) b = far at key hsz h40 ⊢
  generalize st k = sk at k1 k2 hsz
  clear hst hG hok
  unfold f_Mo_aims
  simp (disch := omega) only [oN, Option.bind_some, ↓reduceIte, ifT, ifF, eq_self, reduceCtorEq, cK_0, cK_1, cK_2, kl_2, bd_2, cK_3, cK_4, kl_4, bd_4, cK_5, cK_6, cK_7, kl_7, bd_7, cK_8, cK_25, cK_20, kl_20, bd_20, cK_21, kl_21, bd_21, cK_22, kl_22, bd_22, cK_23, cK_24, kl_24, bd_24, cK_37, cK_38, cK_39, kl_39, bd_39, cK_40, kl_40, bd_40, cK_41, kl_41, bd_41, cK_42, kl_42, bd_42, cK_43, kl_43, bd_43, cK_44, cK_45, kl_45, bd_45, cK_46, kl_46, bd_46, cK_47, kl_47, bd_47, cK_48, cK_49, kl_49, bd_49, cK_90, cK_91, kl_91, bd_91, cK_102, cK_103, kl_103, bd_103, cK_104, kl_104, bd_104, cK_105, kl_105, bd_105, cK_106, kl_106, bd_106, cK_107, kl_107, bd_107, cK_108, kl_108, bd_108, cK_109, kl_109, bd_109, cK_110, kl_110, bd_110, cK_111, kl_111, bd_111, cK_112, kl_112, bd_112, cK_113, kl_113, bd_113, cK_114, kl_114, bd_114, cK_115, kl_115, bd_115, cK_116, kl_116, bd_116, cK_117, kl_117, bd_117, cK_118, kl_118, bd_118, cK_119, kl_119, bd_119, cK_120, kl_120, bd_120, cK_121, kl_121, bd_121, ld_0_0, ld_0_1, ld_0_2, ld_0_3, ld_0_4, ld_0_5, ld_0_6, ld_0_7, ld_0_8, ld_0_9, ld_1_0, ld_3_0, ld_5_0, ld_5_1, ld_5_2, ld_5_3, ld_6_0, ld_6_1, ld_23_0, ld_23_1, ld_38_0, ld_38_1, ld_38_2, ld_38_3, ld_38_4, ld_44_0, ld_44_1, ld_44_2, ld_48_1, ld_90_1, ld_102_3, ld_102_4, ld_102_5, ld_102_8, ld_102_12, ld_102_13, ld_102_14, ld_102_15, ld_102_16, ld_102_17, ld_102_19, ld_102_20, ld_102_21, ld_102_22, ld_102_23, ld_102_25, ld_102_27, ld_102_28, ld_102_30, cK_pl, cK_to, cK_dp, cK_dt, cK_un, cK_ke, ld_pl, ld_to, ld_dp, ld_dt, ld_un, ld_ke, nI_clamp, k1, hsz, nI_leI]
  by_cases c1 : 3 ≤ far
  · simp only [c1, ↓reduceIte]
    exact key 3 (by omega)
  · simp only [c1, ↓reduceIte]
    exact key _ (by omega)
