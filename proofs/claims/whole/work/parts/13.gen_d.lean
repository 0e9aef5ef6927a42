abbrev Y_Sc_init : ba_Y (ba_S × ba_M) := mC cX6_init RX6 1 1 20
def f_Sc_init (S : ba_S) (a0 : Nat) (m : ba_M) : Option (ba_S × ba_M) :=
  (cK S a0 5 (sB S (wI m a0 0 (nI 0)) fun S2 m3 => (cK S2 a0 5 (sB S2 (wI m3 a0 1 (nI 0)) fun S5 m6 => (cK S5 a0 5 (sB S5 (wI m6 a0 2 (nI 0)) fun S8 m9 => (cK S8 a0 5 (sB S8 (wI m9 a0 3 (nI 0)) fun S11 m12 => (cK S11 a0 5 (sB S11 (wI m12 a0 4 (nI 0)) fun S14 m15 => (some (S14, m15))))))))))))
set_option maxRecDepth 100000 in
theorem e_Sc_init (S : ba_S) (a0 : Nat) (m : ba_M) : AW Y_Sc_init 0 [some (aR (some a0))] [] S m (f_Sc_init S a0 m) := by
  unfold f_Sc_init
  refine a_aload_n dX6_init_0 rfl ?_
  refine a_obj dX6_init_1 lo_RX6_3 rfl rfl rfl ?_
  refine a_aload_n dX6_init_4 rfl ?_
  refine a_iconst (v := nI 0) dX6_init_5 (by decide) ?_
  refine AW.ck (fun h1 => ?_)
  refine a_putI dX6_init_6 fl_RX6_9 (rfl : _ = FieldType.boolean) rfl rfl rfl h1 ?_
  refine AW.sB (fun S2 m3 => ?_)
  refine a_aload_n dX6_init_9 rfl ?_
  refine a_iconst (v := nI 0) dX6_init_10 (by decide) ?_
  refine AW.ck (fun h4 => ?_)
  refine a_putI dX6_init_11 fl_RX6_15 (rfl : _ = FieldType.int) rfl rfl rfl h4 ?_
  refine AW.sB (fun S5 m6 => ?_)
  refine a_aload_n dX6_init_14 rfl ?_
  refine a_iconst (v := nI 0) dX6_init_15 (by decide) ?_
  refine AW.ck (fun h7 => ?_)
  refine a_putI dX6_init_16 fl_RX6_19 (rfl : _ = FieldType.int) rfl rfl rfl h7 ?_
  refine AW.sB (fun S8 m9 => ?_)
  refine a_aload_n dX6_init_19 rfl ?_
  refine a_iconst (v := nI 0) dX6_init_20 (by decide) ?_
  refine AW.ck (fun h10 => ?_)
  refine a_putI dX6_init_21 fl_RX6_22 (rfl : _ = FieldType.int) rfl rfl rfl h10 ?_
  refine AW.sB (fun S11 m12 => ?_)
  refine a_aload_n dX6_init_24 rfl ?_
  refine a_iconst (v := nI 0) dX6_init_25 (by decide) ?_
  refine AW.ck (fun h13 => ?_)
  refine a_putI dX6_init_26 fl_RX6_25 (rfl : _ = FieldType.int) rfl rfl rfl h13 ?_
  refine AW.sB (fun S14 m15 => ?_)
  exact AW.ret dX6_init_29 rfl rfl
theorem m_Sc_init {S : ba_S} {a0 : Nat} {m : ba_M} {q : ba_S × ba_M} (h : f_Sc_init S a0 m = some q) : MA Y_Sc_init yX6_init none [aR (some a0)] S m q :=
  ba_met ⟨by decide +kernel, rfl⟩ rfl (fun _ => rfl) (Or.inr (Or.inr (Or.inr (Or.inl ⟨rfl, rfl, rfl⟩)))) rfl (h ▸ e_Sc_init S a0 m)

abbrev Y_Mr_init : ba_Y (ba_S × ba_M) := mC cX1_init RX1 1 1 20
def f_Mr_init (S : ba_S) (a0 : Nat) (m : ba_M) : Option (ba_S × ba_M) :=
  (nA (nI 5) (sB (pS S 20 ((nI 5)).toNatClampNeg ((nI 5)).toNatClampNeg) (pM (nN S) m) fun S1 m2 => (cK S1 a0 1 (sB (wR S1 a0 0 (some (nN S))) m2 fun S4 m5 => (nA (nI 5) (sB (pS S4 20 ((nI 5)).toNatClampNeg ((nI 5)).toNatClampNeg) (pM (nN S4) m5) fun S6 m7 => (cK S6 a0 1 (sB (wR S6 a0 1 (some (nN S4))) m7 fun S9 m10 => (nA (nI 5) (sB (pS S9 20 ((nI 5)).toNatClampNeg ((nI 5)).toNatClampNeg) (pM (nN S9) m10) fun S11 m12 => (cK S11 a0 1 (sB (wR S11 a0 2 (some (nN S9))) m12 fun S14 m15 => (nA (nI 5120) (sB (pS S14 21 ((nI 5120)).toNatClampNeg ((nI 5120)).toNatClampNeg) (pM (nN S14) m15) fun S16 m17 => (cK S16 a0 1 (sB (wR S16 a0 3 (some (nN S14))) m17 fun S19 m20 => (nA (nI 5) (sB (pS S19 21 ((nI 5)).toNatClampNeg ((nI 5)).toNatClampNeg) (pM (nN S19) m20) fun S21 m22 => (cK S21 a0 1 (sB (wR S21 a0 4 (some (nN S19))) m22 fun S24 m25 => (cK S24 a0 1 (sB S24 (wL m25 a0 5 (lN 0)) fun S27 m28 => (cK S27 a0 1 (sB S27 (wI m28 a0 6 (nI 0)) fun S30 m31 => (cK S30 a0 1 (sB S30 (wI m31 a0 7 (nI 0)) fun S33 m34 => (some (S33, m34))))))))))))))))))))))))))))
set_option maxRecDepth 100000 in
theorem e_Mr_init (S : ba_S) (a0 : Nat) (m : ba_M) : AW Y_Mr_init 0 [some (aR (some a0))] [] S m (f_Mr_init S a0 m) := by
  unfold f_Mr_init
  refine a_aload_n dX1_init_0 rfl ?_
  refine a_obj dX1_init_1 lo_RX1_5 rfl rfl rfl ?_
  refine a_aload_n dX1_init_4 rfl ?_
  refine a_iconst (v := nI 5) dX1_init_5 (by decide) ?_
  refine a_newI dX1_init_6 ?_
  refine AW.sB (fun S1 m2 => ?_)
  refine AW.ck (fun h3 => ?_)
  refine a_putR rfl dX1_init_8 fl_RX1_11 ⟨_, rfl, rfl⟩ rfl rfl (fun _ => ⟨rfl, rfl⟩) h3 ?_
  refine AW.sB (fun S4 m5 => ?_)
  refine a_aload_n dX1_init_11 rfl ?_
  refine a_iconst (v := nI 5) dX1_init_12 (by decide) ?_
  refine a_newI dX1_init_13 ?_
  refine AW.sB (fun S6 m7 => ?_)
  refine AW.ck (fun h8 => ?_)
  refine a_putR rfl dX1_init_15 fl_RX1_15 ⟨_, rfl, rfl⟩ rfl rfl (fun _ => ⟨rfl, rfl⟩) h8 ?_
  refine AW.sB (fun S9 m10 => ?_)
  refine a_aload_n dX1_init_18 rfl ?_
  refine a_iconst (v := nI 5) dX1_init_19 (by decide) ?_
  refine a_newI dX1_init_20 ?_
  refine AW.sB (fun S11 m12 => ?_)
  refine AW.ck (fun h13 => ?_)
  refine a_putR rfl dX1_init_22 fl_RX1_18 ⟨_, rfl, rfl⟩ rfl rfl (fun _ => ⟨rfl, rfl⟩) h13 ?_
  refine AW.sB (fun S14 m15 => ?_)
  refine a_aload_n dX1_init_25 rfl ?_
  refine a_sipush (v := nI 5120) dX1_init_26 (by decide) ?_
  refine a_newL dX1_init_29 ?_
  refine AW.sB (fun S16 m17 => ?_)
  refine AW.ck (fun h18 => ?_)
  refine a_putR rfl dX1_init_31 fl_RX1_21 ⟨_, rfl, rfl⟩ rfl rfl (fun _ => ⟨rfl, rfl⟩) h18 ?_
  refine AW.sB (fun S19 m20 => ?_)
  refine a_aload_n dX1_init_34 rfl ?_
  refine a_iconst (v := nI 5) dX1_init_35 (by decide) ?_
  refine a_newL dX1_init_36 ?_
  refine AW.sB (fun S21 m22 => ?_)
  refine AW.ck (fun h23 => ?_)
  refine a_putR rfl dX1_init_38 fl_RX1_25 ⟨_, rfl, rfl⟩ rfl rfl (fun _ => ⟨rfl, rfl⟩) h23 ?_
  refine AW.sB (fun S24 m25 => ?_)
  refine a_aload_n dX1_init_41 rfl ?_
  refine a_lconst (v := lN 0) dX1_init_42 (by decide) ?_
  refine AW.ck (fun h26 => ?_)
  refine a_putL dX1_init_43 fl_RX1_28 rfl h26 ?_
  refine AW.sB (fun S27 m28 => ?_)
  refine a_aload_n dX1_init_46 rfl ?_
  refine a_iconst (v := nI 0) dX1_init_47 (by decide) ?_
  refine AW.ck (fun h29 => ?_)
  refine a_putI dX1_init_48 fl_RX1_32 (rfl : _ = FieldType.int) rfl rfl rfl h29 ?_
  refine AW.sB (fun S30 m31 => ?_)
  refine a_aload_n dX1_init_51 rfl ?_
  refine a_iconst (v := nI 0) dX1_init_52 (by decide) ?_
  refine AW.ck (fun h32 => ?_)
  refine a_putI dX1_init_53 fl_RX1_36 (rfl : _ = FieldType.int) rfl rfl rfl h32 ?_
  refine AW.sB (fun S33 m34 => ?_)
  exact AW.ret dX1_init_56 rfl rfl
theorem m_Mr_init {S : ba_S} {a0 : Nat} {m : ba_M} {q : ba_S × ba_M} (h : f_Mr_init S a0 m = some q) : MA Y_Mr_init yX1_init none [aR (some a0)] S m q :=
  ba_met ⟨by decide +kernel, rfl⟩ rfl (fun _ => rfl) (Or.inr (Or.inr (Or.inr (Or.inl ⟨rfl, rfl, rfl⟩)))) rfl (h ▸ e_Mr_init S a0 m)

abbrev Y_Si_init : ba_Y (ba_S × ba_M) := mC cX8_init RX8 1 1 20
def f_Si_init (S : ba_S) (a0 : Nat) (m : ba_M) : Option (ba_S × ba_M) :=
  (nA (nI 8) (sB (pS S 20 ((nI 8)).toNatClampNeg ((nI 8)).toNatClampNeg) (pM (nN S) m) fun S1 m2 => (cK S1 a0 7 (sB (wR S1 a0 0 (some (nN S))) m2 fun S4 m5 => (nA (nI 8) (sB (pS S4 20 ((nI 8)).toNatClampNeg ((nI 8)).toNatClampNeg) (pM (nN S4) m5) fun S6 m7 => (cK S6 a0 7 (sB (wR S6 a0 1 (some (nN S4))) m7 fun S9 m10 => (nA (nI 8) (sB (pS S9 20 ((nI 8)).toNatClampNeg ((nI 8)).toNatClampNeg) (pM (nN S9) m10) fun S11 m12 => (cK S11 a0 7 (sB (wR S11 a0 2 (some (nN S9))) m12 fun S14 m15 => (cK S14 a0 7 (sB S14 (wI m15 a0 3 (nI 0)) fun S17 m18 => (some (S17, m18))))))))))))))))
set_option maxRecDepth 100000 in
theorem e_Si_init (S : ba_S) (a0 : Nat) (m : ba_M) : AW Y_Si_init 0 [some (aR (some a0))] [] S m (f_Si_init S a0 m) := by
  unfold f_Si_init
  refine a_aload_n dX8_init_0 rfl ?_
  refine a_obj dX8_init_1 lo_RX8_3 rfl rfl rfl ?_
  refine a_aload_n dX8_init_4 rfl ?_
  refine a_bipush (v := nI 8) dX8_init_5 (by decide) ?_
  refine a_newI dX8_init_7 ?_
  refine AW.sB (fun S1 m2 => ?_)
  refine AW.ck (fun h3 => ?_)
  refine a_putR rfl dX8_init_9 fl_RX8_9 ⟨_, rfl, rfl⟩ rfl rfl (fun _ => ⟨rfl, rfl⟩) h3 ?_
  refine AW.sB (fun S4 m5 => ?_)
  refine a_aload_n dX8_init_12 rfl ?_
  refine a_bipush (v := nI 8) dX8_init_13 (by decide) ?_
  refine a_newI dX8_init_15 ?_
  refine AW.sB (fun S6 m7 => ?_)
  refine AW.ck (fun h8 => ?_)
  refine a_putR rfl dX8_init_17 fl_RX8_15 ⟨_, rfl, rfl⟩ rfl rfl (fun _ => ⟨rfl, rfl⟩) h8 ?_
  refine AW.sB (fun S9 m10 => ?_)
  refine a_aload_n dX8_init_20 rfl ?_
  refine a_bipush (v := nI 8) dX8_init_21 (by decide) ?_
  refine a_newI dX8_init_23 ?_
  refine AW.sB (fun S11 m12 => ?_)
  refine AW.ck (fun h13 => ?_)
  refine a_putR rfl dX8_init_25 fl_RX8_18 ⟨_, rfl, rfl⟩ rfl rfl (fun _ => ⟨rfl, rfl⟩) h13 ?_
  refine AW.sB (fun S14 m15 => ?_)
  refine a_aload_n dX8_init_28 rfl ?_
  refine a_iconst (v := nI 0) dX8_init_29 (by decide) ?_
  refine AW.ck (fun h16 => ?_)
  refine a_putI dX8_init_30 fl_RX8_21 (rfl : _ = FieldType.int) rfl rfl rfl h16 ?_
  refine AW.sB (fun S17 m18 => ?_)
  exact AW.ret dX8_init_33 rfl rfl
theorem m_Si_init {S : ba_S} {a0 : Nat} {m : ba_M} {q : ba_S × ba_M} (h : f_Si_init S a0 m = some q) : MA Y_Si_init yX8_init none [aR (some a0)] S m q :=
  ba_met ⟨by decide +kernel, rfl⟩ rfl (fun _ => rfl) (Or.inr (Or.inr (Or.inr (Or.inl ⟨rfl, rfl, rfl⟩)))) rfl (h ▸ e_Si_init S a0 m)

abbrev Y_Sh_init : ba_Y (ba_S × ba_M) := mC cX7_init RX7 3 2 40
def b_Sh_init_38 (k38 : ba_S → Nat → Int32 → ba_M → Option (ba_S × ba_M)) (S : ba_S) (v0 : Nat) (v2 : Int32) (m : ba_M) : Option (ba_S × ba_M) :=
  (cK S v0 6 (ldR S v0 1 23 fun r2 => (cK S r2 23 (if (nI (kL S r2)) ≤ v2 then (some (S, m)) else (cK S v0 6 (ldR S v0 1 23 fun r6 => (sB (pS S 9 0 (nF 9)) (pM (nN S) m) fun S8 m9 => ((f_To_init S8 (nN S) m9).bind fun q10 => (cK q10.1 r6 23 (cK q10.1 (nN S) 9 (bD q10.1 r6 v2 (sB (wR q10.1 r6 (v2).toNatClampNeg (some (nN S))) q10.2 fun S13 m14 => (k38 S13 v0 (v2 + (nI 1)) m14)))))))))))))
set_option maxRecDepth 100000 in
theorem w_Sh_init_38 {k38 : ba_S → Nat → Int32 → ba_M → Option (ba_S × ba_M)} (hk38 : ∀ (S : ba_S) (v0 : Nat) (v2 : Int32) (m : ba_M), AW Y_Sh_init 38 [some (aR (some v0)), none, some (aI v2)] [] S m (k38 S v0 v2 m)) : ∀ (S : ba_S) (v0 : Nat) (v2 : Int32) (m : ba_M), AW Y_Sh_init 38 [some (aR (some v0)), none, some (aI v2)] [] S m (b_Sh_init_38 k38 S v0 v2 m) := by
  intro S v0 v2 m
  unfold b_Sh_init_38
  refine a_iload_n dX7_init_38 rfl ?_
  refine a_aload_n dX7_init_39 rfl ?_
  refine AW.ck (fun h1 => ?_)
  refine a_getR dX7_init_40 fl_RX7_29 rfl h1 (fun r2 h3 => ?_)
  refine AW.ck (fun h4 => ?_)
  refine a_alen dX7_init_43 h4 (by decide) ?_
  refine a_ige (tgt := 66) dX7_init_44 (by decide) (fun _ => ?_) (fun _ => ?_)
  · skip
    exact AW.ret dX7_init_66 rfl rfl
  · skip
    refine a_aload_n dX7_init_47 rfl ?_
    refine AW.ck (fun h5 => ?_)
    refine a_getR dX7_init_48 fl_RX7_29 rfl h5 (fun r6 h7 => ?_)
    refine a_iload_n dX7_init_51 rfl ?_
    refine a_new dX7_init_52 nw_RX7_27 ?_
    refine AW.sB (fun S8 m9 => ?_)
    refine a_dup dX7_init_55 rfl ?_
    refine a_callIN_C dX7_init_56 lk_RX7_33 mt_To_init iv_To_init (fun _ h => m_To_init h) rfl rfl ⟨rfl, rfl, rfl⟩ (fun q10 => ?_)
    refine AW.ck (fun h11 => ?_)
    refine AW.ck (fun h12 => ?_)
    refine a_tast dX7_init_59 h11 h12 ?_
    refine AW.sB (fun S13 m14 => ?_)
    refine a_iinc (v := nI 1) dX7_init_60 rfl (by decide) rfl rfl ?_
    refine a_goto (tgt := 38) dX7_init_63 (by decide) ?_
    exact AW.weak (Lw_so rfl (Lw_no (Lw_so rfl Lw_end))) (hk38 _ _ _ _)
def f_Sh_init_38 : ba_S → Nat → Int32 → ba_M → Option (ba_S × ba_M) := fx (fun _ _ _ _ => none) (b_Sh_init_38) FU
theorem l_Sh_init_38 : ∀ (n : Nat) (S : ba_S) (v0 : Nat) (v2 : Int32) (m : ba_M), AW Y_Sh_init 38 [some (aR (some v0)), none, some (aI v2)] [] S m ((fx (F := ba_S → Nat → Int32 → ba_M → Option (ba_S × ba_M)) (fun _ _ _ _ => none) (b_Sh_init_38) n) S v0 v2 m) := by
  intro n
  induction n with
  | zero => intro _ _ _ _; exact AW.none
  | succ n ih => exact w_Sh_init_38 ih
def f_Sh_init (S : ba_S) (a0 : Nat) (a1 : Int32) (m : ba_M) : Option (ba_S × ba_M) :=
  (cK S a0 6 (sB S (wI m a0 2 (nI 0)) fun S16 m17 => (cK S16 a0 6 (sB S16 (wI m17 a0 3 (nI 0)) fun S19 m20 => (cK S19 a0 6 (sB S19 (wI m20 a0 0 (jmax (nI 1) a1)) fun S22 m23 => (cK S22 a0 6 (nA ((gI m23 a0 0) * (nI 5)) (sB (pS S22 23 (((gI m23 a0 0) * (nI 5))).toNatClampNeg (((gI m23 a0 0) * (nI 5))).toNatClampNeg) (pM (nN S22) m23) fun S25 m26 => (cK S25 a0 6 (sB (wR S25 a0 1 (some (nN S22))) m26 fun S28 m29 => (f_Sh_init_38  S28 a0 (nI 0) m29))))))))))))
set_option maxRecDepth 100000 in
theorem e_Sh_init (S : ba_S) (a0 : Nat) (a1 : Int32) (m : ba_M) : AW Y_Sh_init 0 [some (aR (some a0)), some (aI a1), none] [] S m (f_Sh_init S a0 a1 m) := by
  unfold f_Sh_init
  refine a_aload_n dX7_init_0 rfl ?_
  refine a_obj dX7_init_1 lo_RX7_3 rfl rfl rfl ?_
  refine a_aload_n dX7_init_4 rfl ?_
  refine a_iconst (v := nI 0) dX7_init_5 (by decide) ?_
  refine AW.ck (fun h15 => ?_)
  refine a_putI dX7_init_6 fl_RX7_9 (rfl : _ = FieldType.int) rfl rfl rfl h15 ?_
  refine AW.sB (fun S16 m17 => ?_)
  refine a_aload_n dX7_init_9 rfl ?_
  refine a_iconst (v := nI 0) dX7_init_10 (by decide) ?_
  refine AW.ck (fun h18 => ?_)
  refine a_putI dX7_init_11 fl_RX7_15 (rfl : _ = FieldType.int) rfl rfl rfl h18 ?_
  refine AW.sB (fun S19 m20 => ?_)
  refine a_aload_n dX7_init_14 rfl ?_
  refine a_iconst (v := nI 1) dX7_init_15 (by decide) ?_
  refine a_iload_n dX7_init_16 rfl ?_
  refine a_max dX7_init_17 lk_RX7_18 rfl rfl rfl ?_
  refine AW.ck (fun h21 => ?_)
  refine a_putIF rfl dX7_init_20 fl_RX7_24 ⟨_, rfl, rfl⟩ rfl h21 ?_
  refine AW.sB (fun S22 m23 => ?_)
  refine a_aload_n dX7_init_23 rfl ?_
  refine a_aload_n dX7_init_24 rfl ?_
  refine AW.ck (fun h24 => ?_)
  refine a_getI dX7_init_25 fl_RX7_24 rfl h24 ?_
  refine a_iconst (v := nI 5) dX7_init_28 (by decide) ?_
  refine a_imul dX7_init_29 ?_
  refine a_newT dX7_init_30 ca_RX7_27 ?_
  refine AW.sB (fun S25 m26 => ?_)
  refine AW.ck (fun h27 => ?_)
  refine a_putR rfl dX7_init_33 fl_RX7_29 ⟨_, rfl, rfl⟩ rfl rfl (fun _ => ⟨rfl, rfl⟩) h27 ?_
  refine AW.sB (fun S28 m29 => ?_)
  refine a_iconst (v := nI 0) dX7_init_36 (by decide) ?_
  refine a_istore_n dX7_init_37 rfl rfl ?_
  exact AW.weak (Lw_so rfl (Lw_no (Lw_so rfl Lw_end))) (l_Sh_init_38 FU _ _ _ _)
theorem m_Sh_init {S : ba_S} {a0 : Nat} {a1 : Int32} {m : ba_M} {q : ba_S × ba_M} (h : f_Sh_init S a0 a1 m = some q) : MA Y_Sh_init yX7_init none [aR (some a0), aI a1] S m q :=
  ba_met ⟨by decide +kernel, rfl⟩ rfl (fun _ => rfl) (Or.inr (Or.inr (Or.inr (Or.inl ⟨rfl, rfl, rfl⟩)))) rfl (h ▸ e_Sh_init S a0 a1 m)

abbrev Y_Si_empty (S : ba_S) : ba_Y (Int32 × ba_M) := mI cX8_empty RX8 2 0 0 S
def f_Si_empty (S : ba_S) (a0 : Nat) (m : ba_M) : Option (Int32 × ba_M) :=
  cK S a0 7 ((some ((gI m a0 3), (wI m a0 3 (nI 0)))))
set_option maxRecDepth 100000 in
theorem e_Si_empty (S : ba_S) (a0 : Nat) (m : ba_M) : AW (Y_Si_empty S) 0 [some (aR (some a0)), none] [] S m (f_Si_empty S a0 m) := by
  unfold f_Si_empty
  refine AW.ck (fun g0 => ?_)
  refine a_aload_n dX8_empty_0 rfl ?_
  refine a_getI dX8_empty_1 fl_RX8_21 rfl g0 ?_
  refine a_istore_n dX8_empty_4 rfl rfl ?_
  refine a_aload_n dX8_empty_5 rfl ?_
  refine a_iconst (v := nI 0) dX8_empty_6 (by decide) ?_
  refine a_putI dX8_empty_7 fl_RX8_21 (rfl : _ = FieldType.int) rfl rfl rfl g0 ?_
  refine a_iload_n dX8_empty_10 rfl ?_
  exact AW.ret dX8_empty_11 rfl rfl
theorem m_Si_empty {S : ba_S} {a0 : Nat} {m : ba_M} {q : Int32 × ba_M} (h : f_Si_empty S a0 m = some q) : MA (Y_Si_empty S) yX8_empty (some .int) [aR (some a0)] S m q :=
  ba_met ⟨by decide +kernel, rfl⟩ rfl (fun h => by cases h) (Or.inl ⟨rfl, rfl, _, rfl⟩) rfl (h ▸ e_Si_empty S a0 m)

abbrev Y_Sh_empty (S : ba_S) : ba_Y (ba_M) := mV cX7_empty RX7 1 0 0 S
def f_Sh_empty (S : ba_S) (a0 : Nat) (m : ba_M) : Option (ba_M) :=
  cK S a0 6 ((some (wI m a0 2 (nI 0))))
set_option maxRecDepth 100000 in
theorem e_Sh_empty (S : ba_S) (a0 : Nat) (m : ba_M) : AW (Y_Sh_empty S) 0 [some (aR (some a0))] [] S m (f_Sh_empty S a0 m) := by
  unfold f_Sh_empty
  refine AW.ck (fun g0 => ?_)
  refine a_aload_n dX7_empty_0 rfl ?_
  refine a_iconst (v := nI 0) dX7_empty_1 (by decide) ?_
  refine a_putI dX7_empty_2 fl_RX7_9 (rfl : _ = FieldType.int) rfl rfl rfl g0 ?_
  exact AW.ret dX7_empty_5 rfl rfl
theorem m_Sh_empty {S : ba_S} {a0 : Nat} {m : ba_M} {q : ba_M} (h : f_Sh_empty S a0 m = some q) : MA (Y_Sh_empty S) yX7_empty none [aR (some a0)] S m q :=
  ba_met ⟨by decide +kernel, rfl⟩ rfl (fun h => by cases h) (Or.inr (Or.inr (Or.inr (Or.inl ⟨rfl, rfl, rfl⟩)))) rfl (h ▸ e_Sh_empty S a0 m)

abbrev Y_Sc_tryCall (S : ba_S) : ba_Y (ba_M) := mV cX6_tryCall RX6 10 4 98 S
def f_Sc_tryCall_31 (S : ba_S) (m : ba_M) : Option (ba_M) :=
  (some m)
set_option maxRecDepth 100000 in
theorem w_Sc_tryCall_31 {S : ba_S} : ∀ (m : ba_M), AW (Y_Sc_tryCall S) 31 [none, none, none, none, none, none, none, none, none, none] [] S m (f_Sc_tryCall_31 S m) := by
  intro m
  unfold f_Sc_tryCall_31
  exact AW.ret dX6_tryCall_31 rfl rfl
def f_Sc_tryCall_117 (S : ba_S) (m : ba_M) : Option (ba_M) :=
  (some m)
set_option maxRecDepth 100000 in
theorem w_Sc_tryCall_117 {S : ba_S} : ∀ (m : ba_M), AW (Y_Sc_tryCall S) 117 [none, none, none, none, none, none, none, none, none, none] [] S m (f_Sc_tryCall_117 S m) := by
  intro m
  unfold f_Sc_tryCall_117
  exact AW.ret dX6_tryCall_117 rfl rfl
def f_Sc_tryCall_76 (S : ba_S) (v0 : Nat) (v2 : Int32) (v3 : Int32) (v4 : Int32) (v5 : Int32) (v7 : Int32) (v8 : Int32) (s0 : Bool) (m : ba_M) : Option (ba_M) :=
  (if v7 = v2 then (f_Sc_tryCall_117 S m) else (if s0 = true then (f_Sc_tryCall_117 S (wI (wI (wI (wI (wI m v0 0 (nI 1)) v0 1 v3) v0 2 v4) v0 3 v5) v0 4 v8)) else (f_Sc_tryCall_117 S m)))
set_option maxRecDepth 100000 in
theorem w_Sc_tryCall_76 {S : ba_S} : ∀ (v0 : Nat) (v2 : Int32) (v3 : Int32) (v4 : Int32) (v5 : Int32) (v7 : Int32) (v8 : Int32) (s0 : Bool) (m : ba_M), ck S v0 5 = true → AW (Y_Sc_tryCall S) 76 [some (aR (some v0)), none, some (aI v2), some (aI v3), some (aI v4), some (aI v5), none, some (aI v7), some (aI v8), none] [aI (b2i s0)] S m (f_Sc_tryCall_76 S v0 v2 v3 v4 v5 v7 v8 s0 m) := by
  intro v0 v2 v3 v4 v5 v7 v8 s0 m g0
  unfold f_Sc_tryCall_76
  refine a_istore dX6_tryCall_76 rfl rfl ?_
  refine a_iload dX6_tryCall_78 rfl ?_
  refine a_iload_n dX6_tryCall_80 rfl ?_
  refine a_ieq (tgt := 117) dX6_tryCall_81 (by decide) (fun _ => ?_) (fun _ => ?_)
  · skip
    exact AW.weak (Lw_no (Lw_no (Lw_no (Lw_no (Lw_no (Lw_no (Lw_no (Lw_no (Lw_no (Lw_no Lw_end)))))))))) (w_Sc_tryCall_117 _)
  · skip
    refine a_iload dX6_tryCall_84 rfl ?_
    refine a_beq (tgt := 117) dX6_tryCall_86 (by decide) (fun _ => ?_) (fun _ => ?_)
    · skip
      exact AW.weak (Lw_no (Lw_no (Lw_no (Lw_no (Lw_no (Lw_no (Lw_no (Lw_no (Lw_no (Lw_no Lw_end)))))))))) (w_Sc_tryCall_117 _)
    · skip
      refine a_aload_n dX6_tryCall_89 rfl ?_
      refine a_iconst (v := nI 1) dX6_tryCall_90 (by decide) ?_
      refine a_putI dX6_tryCall_91 fl_RX6_9 (rfl : _ = FieldType.boolean) rfl rfl rfl g0 ?_
      refine a_aload_n dX6_tryCall_94 rfl ?_
      refine a_iload_n dX6_tryCall_95 rfl ?_
      refine a_putI dX6_tryCall_96 fl_RX6_15 (rfl : _ = FieldType.int) rfl rfl rfl g0 ?_
      refine a_aload_n dX6_tryCall_99 rfl ?_
      refine a_iload dX6_tryCall_100 rfl ?_
      refine a_putI dX6_tryCall_102 fl_RX6_19 (rfl : _ = FieldType.int) rfl rfl rfl g0 ?_
      refine a_aload_n dX6_tryCall_105 rfl ?_
      refine a_iload dX6_tryCall_106 rfl ?_
      refine a_putI dX6_tryCall_108 fl_RX6_22 (rfl : _ = FieldType.int) rfl rfl rfl g0 ?_
      refine a_aload_n dX6_tryCall_111 rfl ?_
      refine a_iload dX6_tryCall_112 rfl ?_
      refine a_putI dX6_tryCall_114 fl_RX6_25 (rfl : _ = FieldType.int) rfl rfl rfl g0 ?_
      exact AW.weak (Lw_no (Lw_no (Lw_no (Lw_no (Lw_no (Lw_no (Lw_no (Lw_no (Lw_no (Lw_no Lw_end)))))))))) (w_Sc_tryCall_117 _)
def f_Sc_tryCall_71 (S : ba_S) (v0 : Nat) (v2 : Int32) (v3 : Int32) (v4 : Int32) (v5 : Int32) (v7 : Int32) (v8 : Int32) (m : ba_M) : Option (ba_M) :=
  (f_Sc_tryCall_76 S v0 v2 v3 v4 v5 v7 v8 true m)
set_option maxRecDepth 100000 in
theorem w_Sc_tryCall_71 {S : ba_S} : ∀ (v0 : Nat) (v2 : Int32) (v3 : Int32) (v4 : Int32) (v5 : Int32) (v7 : Int32) (v8 : Int32) (m : ba_M), ck S v0 5 = true → AW (Y_Sc_tryCall S) 71 [some (aR (some v0)), none, some (aI v2), some (aI v3), some (aI v4), some (aI v5), none, some (aI v7), some (aI v8), none] [] S m (f_Sc_tryCall_71 S v0 v2 v3 v4 v5 v7 v8 m) := by
  intro v0 v2 v3 v4 v5 v7 v8 m g0
  unfold f_Sc_tryCall_71
  refine a_iconst (v := nI 1) dX6_tryCall_71 (by decide) ?_
  refine a_goto (tgt := 76) dX6_tryCall_72 (by decide) ?_
  exact AW.weak (Lw_so rfl (Lw_no (Lw_so rfl (Lw_so rfl (Lw_so rfl (Lw_so rfl (Lw_no (Lw_so rfl (Lw_so rfl (Lw_no Lw_end)))))))))) (w_Sc_tryCall_76 _ _ _ _ _ _ _ _ _ g0)
def f_Sc_tryCall_19 (S : ba_S) (v0 : Nat) (v1 : Nat) (v2 : Int32) (v3 : Int32) (v4 : Int32) (v5 : Int32) (s0 : Bool) (m : ba_M) : Option (ba_M) :=
  (if v2 = v3 then (f_Sc_tryCall_31 S m) else (if s0 = true then (f_Sc_tryCall_31 S m) else ((f_Ro_playCall S v1 v3 v4 v5 m).bind fun q1 => ((f_Ro_target S v1 q1).bind fun q2 => ((f_Ro_chanceOf S v1 q2.1 q2.2).bind fun q3 => (if (gI q3.2 v0 0) = 0 then (f_Sc_tryCall_71 S v0 v2 v3 v4 v5 q2.1 q3.1 q3.2) else (if (gI q3.2 v0 4) ≤ q3.1 then (f_Sc_tryCall_76 S v0 v2 v3 v4 v5 q2.1 q3.1 false q3.2) else (f_Sc_tryCall_71 S v0 v2 v3 v4 v5 q2.1 q3.1 q3.2))))))))
set_option maxRecDepth 100000 in
theorem w_Sc_tryCall_19 {S : ba_S} : ∀ (v0 : Nat) (v1 : Nat) (v2 : Int32) (v3 : Int32) (v4 : Int32) (v5 : Int32) (s0 : Bool) (m : ba_M), ck S v0 5 = true → ck S v1 4 = true → AW (Y_Sc_tryCall S) 19 [some (aR (some v0)), some (aR (some v1)), some (aI v2), some (aI v3), some (aI v4), some (aI v5), none, none, none, none] [aI (b2i s0)] S m (f_Sc_tryCall_19 S v0 v1 v2 v3 v4 v5 s0 m) := by
  intro v0 v1 v2 v3 v4 v5 s0 m g0 g1
  unfold f_Sc_tryCall_19
  refine a_istore dX6_tryCall_19 rfl rfl ?_
  refine a_iload_n dX6_tryCall_21 rfl ?_
  refine a_iload_n dX6_tryCall_22 rfl ?_
  refine a_ieq (tgt := 31) dX6_tryCall_23 (by decide) (fun _ => ?_) (fun _ => ?_)
  · skip
    exact AW.weak (Lw_no (Lw_no (Lw_no (Lw_no (Lw_no (Lw_no (Lw_no (Lw_no (Lw_no (Lw_no Lw_end)))))))))) (w_Sc_tryCall_31 _)
  · skip
    refine a_iload dX6_tryCall_26 rfl ?_
    refine a_beq (tgt := 32) dX6_tryCall_28 (by decide) (fun _ => ?_) (fun _ => ?_)
    · skip
      refine a_aload_n dX6_tryCall_32 rfl ?_
      refine a_iload_n dX6_tryCall_33 rfl ?_
      refine a_iload dX6_tryCall_34 rfl ?_
      refine a_iload dX6_tryCall_36 rfl ?_
      refine a_callV_V dX6_tryCall_38 lk_RX6_46 mt_Ro_playCall vt_Ro_playCall ⟨_, rfl, rfl⟩ (fun _ h => m_Ro_playCall h) rfl rfl g1 ⟨rfl, rfl, rfl⟩ (fun q1 => ?_)
      refine a_aload_n dX6_tryCall_41 rfl ?_
      refine a_callV_I dX6_tryCall_42 lk_RX6_50 mt_Ro_target vt_Ro_target ⟨_, rfl, rfl⟩ (fun _ h => m_Ro_target h) rfl rfl g1 ⟨rfl, rfl, rfl⟩ (fun q2 => ?_)
      refine a_istore dX6_tryCall_45 rfl rfl ?_
      refine a_aload_n dX6_tryCall_47 rfl ?_
      refine a_iload dX6_tryCall_48 rfl ?_
      refine a_callV_I dX6_tryCall_50 lk_RX6_54 mt_Ro_chanceOf vt_Ro_chanceOf ⟨_, rfl, rfl⟩ (fun _ h => m_Ro_chanceOf h) rfl rfl g1 ⟨rfl, rfl, rfl⟩ (fun q3 => ?_)
      refine a_istore dX6_tryCall_53 rfl rfl ?_
      refine a_aload_n dX6_tryCall_55 rfl ?_
      refine a_getI dX6_tryCall_56 fl_RX6_9 rfl g0 ?_
      refine a_zeq (tgt := 71) dX6_tryCall_59 (by decide) (fun _ => ?_) (fun _ => ?_)
      · skip
        exact AW.weak (Lw_so rfl (Lw_no (Lw_so rfl (Lw_so rfl (Lw_so rfl (Lw_so rfl (Lw_no (Lw_so rfl (Lw_so rfl (Lw_no Lw_end)))))))))) (w_Sc_tryCall_71 _ _ _ _ _ _ _ _ g0)
      · skip
        refine a_iload dX6_tryCall_62 rfl ?_
        refine a_aload_n dX6_tryCall_64 rfl ?_
        refine a_getI dX6_tryCall_65 fl_RX6_25 rfl g0 ?_
        refine a_ige (tgt := 75) dX6_tryCall_68 (by decide) (fun _ => ?_) (fun _ => ?_)
        · skip
          refine a_iconst (v := nI 0) dX6_tryCall_75 (by decide) ?_
          exact AW.weak (Lw_so rfl (Lw_no (Lw_so rfl (Lw_so rfl (Lw_so rfl (Lw_so rfl (Lw_no (Lw_so rfl (Lw_so rfl (Lw_no Lw_end)))))))))) (w_Sc_tryCall_76 _ _ _ _ _ _ _ _ _ g0)
        · skip
          exact AW.weak (Lw_so rfl (Lw_no (Lw_so rfl (Lw_so rfl (Lw_so rfl (Lw_so rfl (Lw_no (Lw_so rfl (Lw_so rfl (Lw_no Lw_end)))))))))) (w_Sc_tryCall_71 _ _ _ _ _ _ _ _ g0)
    · skip
      exact AW.weak (Lw_no (Lw_no (Lw_no (Lw_no (Lw_no (Lw_no (Lw_no (Lw_no (Lw_no (Lw_no Lw_end)))))))))) (w_Sc_tryCall_31 _)
def f_Sc_tryCall_18 (S : ba_S) (v0 : Nat) (v1 : Nat) (v2 : Int32) (v3 : Int32) (v4 : Int32) (v5 : Int32) (m : ba_M) : Option (ba_M) :=
  (f_Sc_tryCall_19 S v0 v1 v2 v3 v4 v5 false m)
set_option maxRecDepth 100000 in
theorem w_Sc_tryCall_18 {S : ba_S} : ∀ (v0 : Nat) (v1 : Nat) (v2 : Int32) (v3 : Int32) (v4 : Int32) (v5 : Int32) (m : ba_M), ck S v0 5 = true → ck S v1 4 = true → AW (Y_Sc_tryCall S) 18 [some (aR (some v0)), some (aR (some v1)), some (aI v2), some (aI v3), some (aI v4), some (aI v5), none, none, none, none] [] S m (f_Sc_tryCall_18 S v0 v1 v2 v3 v4 v5 m) := by
  intro v0 v1 v2 v3 v4 v5 m g0 g1
  unfold f_Sc_tryCall_18
  refine a_iconst (v := nI 0) dX6_tryCall_18 (by decide) ?_
  exact AW.weak (Lw_so rfl (Lw_so rfl (Lw_so rfl (Lw_so rfl (Lw_so rfl (Lw_so rfl (Lw_no (Lw_no (Lw_no (Lw_no Lw_end)))))))))) (w_Sc_tryCall_19 _ _ _ _ _ _ _ _ g0 g1)
def f_Sc_tryCall (S : ba_S) (a0 : Nat) (a1 : Nat) (a2 : Int32) (a3 : Int32) (a4 : Int32) (a5 : Int32) (m : ba_M) : Option (ba_M) :=
  cK S a0 5 (cK S a1 4 ((if (gI m a0 0) = 0 then (f_Sc_tryCall_18 S a0 a1 a2 a3 a4 a5 m) else (if (gI m a0 4) = 0 then (f_Sc_tryCall_19 S a0 a1 a2 a3 a4 a5 true m) else (f_Sc_tryCall_18 S a0 a1 a2 a3 a4 a5 m)))))
set_option maxRecDepth 100000 in
theorem e_Sc_tryCall (S : ba_S) (a0 : Nat) (a1 : Nat) (a2 : Int32) (a3 : Int32) (a4 : Int32) (a5 : Int32) (m : ba_M) : AW (Y_Sc_tryCall S) 0 [some (aR (some a0)), some (aR (some a1)), some (aI a2), some (aI a3), some (aI a4), some (aI a5), none, none, none, none] [] S m (f_Sc_tryCall S a0 a1 a2 a3 a4 a5 m) := by
  unfold f_Sc_tryCall
  refine AW.ck (fun g0 => ?_)
  refine AW.ck (fun g1 => ?_)
  refine a_aload_n dX6_tryCall_0 rfl ?_
  refine a_getI dX6_tryCall_1 fl_RX6_9 rfl g0 ?_
  refine a_zeq (tgt := 18) dX6_tryCall_4 (by decide) (fun _ => ?_) (fun _ => ?_)
  · skip
    exact AW.weak (Lw_so rfl (Lw_so rfl (Lw_so rfl (Lw_so rfl (Lw_so rfl (Lw_so rfl (Lw_no (Lw_no (Lw_no (Lw_no Lw_end)))))))))) (w_Sc_tryCall_18 _ _ _ _ _ _ _ g0 g1)
  · skip
    refine a_aload_n dX6_tryCall_7 rfl ?_
    refine a_getI dX6_tryCall_8 fl_RX6_25 rfl g0 ?_
    refine a_zne (tgt := 18) dX6_tryCall_11 (by decide) (fun _ => ?_) (fun _ => ?_)
    · skip
      exact AW.weak (Lw_so rfl (Lw_so rfl (Lw_so rfl (Lw_so rfl (Lw_so rfl (Lw_so rfl (Lw_no (Lw_no (Lw_no (Lw_no Lw_end)))))))))) (w_Sc_tryCall_18 _ _ _ _ _ _ _ g0 g1)
    · skip
      refine a_iconst (v := nI 1) dX6_tryCall_14 (by decide) ?_
      refine a_goto (tgt := 19) dX6_tryCall_15 (by decide) ?_
      exact AW.weak (Lw_so rfl (Lw_so rfl (Lw_so rfl (Lw_so rfl (Lw_so rfl (Lw_so rfl (Lw_no (Lw_no (Lw_no (Lw_no Lw_end)))))))))) (w_Sc_tryCall_19 _ _ _ _ _ _ _ _ g0 g1)
theorem m_Sc_tryCall {S : ba_S} {a0 : Nat} {a1 : Nat} {a2 : Int32} {a3 : Int32} {a4 : Int32} {a5 : Int32} {m : ba_M} {q : ba_M} (h : f_Sc_tryCall S a0 a1 a2 a3 a4 a5 m = some q) : MA (Y_Sc_tryCall S) yX6_tryCall none [aR (some a0), aR (some a1), aI a2, aI a3, aI a4, aI a5] S m q :=
  ba_met ⟨by decide +kernel, rfl⟩ rfl (fun h => by cases h) (Or.inr (Or.inr (Or.inr (Or.inl ⟨rfl, rfl, rfl⟩)))) rfl (h ▸ e_Sc_tryCall S a0 a1 a2 a3 a4 a5 m)

abbrev Y_Sc_search (S : ba_S) : ba_Y (ba_M) := mV cX6_search RX6 6 5 127 S
def b_Sc_search_36 (S : ba_S) (k7 : Nat → Nat → Int32 → Int32 → ba_M → Option (ba_M)) (k21 : Nat → Nat → Int32 → Int32 → Int32 → ba_M → Option (ba_M)) (k36 : Nat → Nat → Int32 → Int32 → Int32 → Int32 → ba_M → Option (ba_M)) (v0 : Nat) (v1 : Nat) (v2 : Int32) (v3 : Int32) (v4 : Int32) (v5 : Int32) (m : ba_M) : Option (ba_M) :=
  (if (nI 9) < v5 then (k21 v0 v1 v2 v3 (v4 + (nI 1)) m) else ((f_Sc_tryCall S v0 v1 v2 v3 v4 v5 m).bind fun q1 => (k36 v0 v1 v2 v3 v4 (v5 + (nI 1)) q1)))
set_option maxRecDepth 100000 in
theorem w_Sc_search_36 {S : ba_S} {k7 : Nat → Nat → Int32 → Int32 → ba_M → Option (ba_M)} (hk7 : ∀ (v0 : Nat) (v1 : Nat) (v2 : Int32) (v3 : Int32) (m : ba_M), ck S v0 5 = true → ck S v1 4 = true → AW (Y_Sc_search S) 7 [some (aR (some v0)), some (aR (some v1)), some (aI v2), some (aI v3), none, none] [] S m (k7 v0 v1 v2 v3 m)) {k21 : Nat → Nat → Int32 → Int32 → Int32 → ba_M → Option (ba_M)} (hk21 : ∀ (v0 : Nat) (v1 : Nat) (v2 : Int32) (v3 : Int32) (v4 : Int32) (m : ba_M), ck S v0 5 = true → ck S v1 4 = true → AW (Y_Sc_search S) 21 [some (aR (some v0)), some (aR (some v1)), some (aI v2), some (aI v3), some (aI v4), none] [] S m (k21 v0 v1 v2 v3 v4 m)) {k36 : Nat → Nat → Int32 → Int32 → Int32 → Int32 → ba_M → Option (ba_M)} (hk36 : ∀ (v0 : Nat) (v1 : Nat) (v2 : Int32) (v3 : Int32) (v4 : Int32) (v5 : Int32) (m : ba_M), ck S v0 5 = true → ck S v1 4 = true → AW (Y_Sc_search S) 36 [some (aR (some v0)), some (aR (some v1)), some (aI v2), some (aI v3), some (aI v4), some (aI v5)] [] S m (k36 v0 v1 v2 v3 v4 v5 m)) : ∀ (v0 : Nat) (v1 : Nat) (v2 : Int32) (v3 : Int32) (v4 : Int32) (v5 : Int32) (m : ba_M), ck S v0 5 = true → ck S v1 4 = true → AW (Y_Sc_search S) 36 [some (aR (some v0)), some (aR (some v1)), some (aI v2), some (aI v3), some (aI v4), some (aI v5)] [] S m (b_Sc_search_36 S k7 k21 k36 v0 v1 v2 v3 v4 v5 m) := by
  intro v0 v1 v2 v3 v4 v5 m g0 g1
  unfold b_Sc_search_36
  refine a_iload dX6_search_36 rfl ?_
  refine a_bipush (v := nI 9) dX6_search_38 (by decide) ?_
  refine a_igt (tgt := 60) dX6_search_40 (by decide) (fun _ => ?_) (fun _ => ?_)
  · skip
    refine a_iinc (v := nI 1) dX6_search_60 rfl (by decide) rfl rfl ?_
    refine a_goto (tgt := 21) dX6_search_63 (by decide) ?_
    exact AW.weak (Lw_so rfl (Lw_so rfl (Lw_so rfl (Lw_so rfl (Lw_so rfl (Lw_no Lw_end)))))) (hk21 _ _ _ _ _ _ g0 g1)
  · skip
    refine a_aload_n dX6_search_43 rfl ?_
    refine a_aload_n dX6_search_44 rfl ?_
    refine a_iload_n dX6_search_45 rfl ?_
    refine a_iload_n dX6_search_46 rfl ?_
    refine a_iload dX6_search_47 rfl ?_
    refine a_iload dX6_search_49 rfl ?_
    refine a_callV_V dX6_search_51 lk_RX6_42 mt_Sc_tryCall vt_Sc_tryCall ⟨_, rfl, rfl⟩ (fun _ h => m_Sc_tryCall h) rfl rfl g0 ⟨rfl, rfl, rfl⟩ (fun q1 => ?_)
    refine a_iinc (v := nI 1) dX6_search_54 rfl (by decide) rfl rfl ?_
    refine a_goto (tgt := 36) dX6_search_57 (by decide) ?_
    exact AW.weak (Lw_so rfl (Lw_so rfl (Lw_so rfl (Lw_so rfl (Lw_so rfl (Lw_so rfl Lw_end)))))) (hk36 _ _ _ _ _ _ _ g0 g1)
def f_Sc_search_36 (S : ba_S) (k7 : Nat → Nat → Int32 → Int32 → ba_M → Option (ba_M)) (k21 : Nat → Nat → Int32 → Int32 → Int32 → ba_M → Option (ba_M)) : Nat → Nat → Int32 → Int32 → Int32 → Int32 → ba_M → Option (ba_M) := fx (fun _ _ _ _ _ _ _ => none) (b_Sc_search_36 S k7 k21) FU
theorem l_Sc_search_36 {S : ba_S} {k7 : Nat → Nat → Int32 → Int32 → ba_M → Option (ba_M)} (hk7 : ∀ (v0 : Nat) (v1 : Nat) (v2 : Int32) (v3 : Int32) (m : ba_M), ck S v0 5 = true → ck S v1 4 = true → AW (Y_Sc_search S) 7 [some (aR (some v0)), some (aR (some v1)), some (aI v2), some (aI v3), none, none] [] S m (k7 v0 v1 v2 v3 m)) {k21 : Nat → Nat → Int32 → Int32 → Int32 → ba_M → Option (ba_M)} (hk21 : ∀ (v0 : Nat) (v1 : Nat) (v2 : Int32) (v3 : Int32) (v4 : Int32) (m : ba_M), ck S v0 5 = true → ck S v1 4 = true → AW (Y_Sc_search S) 21 [some (aR (some v0)), some (aR (some v1)), some (aI v2), some (aI v3), some (aI v4), none] [] S m (k21 v0 v1 v2 v3 v4 m)) : ∀ (n : Nat) (v0 : Nat) (v1 : Nat) (v2 : Int32) (v3 : Int32) (v4 : Int32) (v5 : Int32) (m : ba_M), ck S v0 5 = true → ck S v1 4 = true → AW (Y_Sc_search S) 36 [some (aR (some v0)), some (aR (some v1)), some (aI v2), some (aI v3), some (aI v4), some (aI v5)] [] S m ((fx (F := Nat → Nat → Int32 → Int32 → Int32 → Int32 → ba_M → Option (ba_M)) (fun _ _ _ _ _ _ _ => none) (b_Sc_search_36 S k7 k21) n) v0 v1 v2 v3 v4 v5 m) := by
  intro n
  induction n with
  | zero => intro _ _ _ _ _ _ _ _ _; exact AW.none
  | succ n ih => exact w_Sc_search_36 hk7 hk21 ih
def b_Sc_search_21 (S : ba_S) (k7 : Nat → Nat → Int32 → Int32 → ba_M → Option (ba_M)) (k21 : Nat → Nat → Int32 → Int32 → Int32 → ba_M → Option (ba_M)) (v0 : Nat) (v1 : Nat) (v2 : Int32) (v3 : Int32) (v4 : Int32) (m : ba_M) : Option (ba_M) :=
  (ldR S v1 0 0 fun r2 => (if (gI m r2 3) < v4 then (k7 v0 v1 v2 (v3 + (nI 1)) m) else (f_Sc_search_36 S k7 k21 v0 v1 v2 v3 v4 (nI 1) m)))
set_option maxRecDepth 100000 in
theorem w_Sc_search_21 {S : ba_S} {k7 : Nat → Nat → Int32 → Int32 → ba_M → Option (ba_M)} (hk7 : ∀ (v0 : Nat) (v1 : Nat) (v2 : Int32) (v3 : Int32) (m : ba_M), ck S v0 5 = true → ck S v1 4 = true → AW (Y_Sc_search S) 7 [some (aR (some v0)), some (aR (some v1)), some (aI v2), some (aI v3), none, none] [] S m (k7 v0 v1 v2 v3 m)) {k21 : Nat → Nat → Int32 → Int32 → Int32 → ba_M → Option (ba_M)} (hk21 : ∀ (v0 : Nat) (v1 : Nat) (v2 : Int32) (v3 : Int32) (v4 : Int32) (m : ba_M), ck S v0 5 = true → ck S v1 4 = true → AW (Y_Sc_search S) 21 [some (aR (some v0)), some (aR (some v1)), some (aI v2), some (aI v3), some (aI v4), none] [] S m (k21 v0 v1 v2 v3 v4 m)) : ∀ (v0 : Nat) (v1 : Nat) (v2 : Int32) (v3 : Int32) (v4 : Int32) (m : ba_M), ck S v0 5 = true → ck S v1 4 = true → AW (Y_Sc_search S) 21 [some (aR (some v0)), some (aR (some v1)), some (aI v2), some (aI v3), some (aI v4), none] [] S m (b_Sc_search_21 S k7 k21 v0 v1 v2 v3 v4 m) := by
  intro v0 v1 v2 v3 v4 m g0 g1
  unfold b_Sc_search_21
  refine a_iload dX6_search_21 rfl ?_
  refine a_aload_n dX6_search_23 rfl ?_
  refine a_getR dX6_search_24 fl_RX6_28 rfl g1 (fun r2 h3 => ?_)
  refine a_getI dX6_search_27 fl_RX6_39 rfl h3 ?_
  refine a_igt (tgt := 66) dX6_search_30 (by decide) (fun _ => ?_) (fun _ => ?_)
  · skip
    refine a_iinc (v := nI 1) dX6_search_66 rfl (by decide) rfl rfl ?_
    refine a_goto (tgt := 7) dX6_search_69 (by decide) ?_
    exact AW.weak (Lw_so rfl (Lw_so rfl (Lw_so rfl (Lw_so rfl (Lw_no (Lw_no Lw_end)))))) (hk7 _ _ _ _ _ g0 g1)
  · skip
    refine a_iconst (v := nI 1) dX6_search_33 (by decide) ?_
    refine a_istore dX6_search_34 rfl rfl ?_
    exact AW.weak (Lw_so rfl (Lw_so rfl (Lw_so rfl (Lw_so rfl (Lw_so rfl (Lw_so rfl Lw_end)))))) (l_Sc_search_36 hk7 hk21 FU _ _ _ _ _ _ _ g0 g1)
def f_Sc_search_21 (S : ba_S) (k7 : Nat → Nat → Int32 → Int32 → ba_M → Option (ba_M)) : Nat → Nat → Int32 → Int32 → Int32 → ba_M → Option (ba_M) := fx (fun _ _ _ _ _ _ => none) (b_Sc_search_21 S k7) FU
theorem l_Sc_search_21 {S : ba_S} {k7 : Nat → Nat → Int32 → Int32 → ba_M → Option (ba_M)} (hk7 : ∀ (v0 : Nat) (v1 : Nat) (v2 : Int32) (v3 : Int32) (m : ba_M), ck S v0 5 = true → ck S v1 4 = true → AW (Y_Sc_search S) 7 [some (aR (some v0)), some (aR (some v1)), some (aI v2), some (aI v3), none, none] [] S m (k7 v0 v1 v2 v3 m)) : ∀ (n : Nat) (v0 : Nat) (v1 : Nat) (v2 : Int32) (v3 : Int32) (v4 : Int32) (m : ba_M), ck S v0 5 = true → ck S v1 4 = true → AW (Y_Sc_search S) 21 [some (aR (some v0)), some (aR (some v1)), some (aI v2), some (aI v3), some (aI v4), none] [] S m ((fx (F := Nat → Nat → Int32 → Int32 → Int32 → ba_M → Option (ba_M)) (fun _ _ _ _ _ _ => none) (b_Sc_search_21 S k7) n) v0 v1 v2 v3 v4 m) := by
  intro n
  induction n with
  | zero => intro _ _ _ _ _ _ _ _; exact AW.none
  | succ n ih => exact w_Sc_search_21 hk7 ih
def b_Sc_search_7 (S : ba_S) (k7 : Nat → Nat → Int32 → Int32 → ba_M → Option (ba_M)) (v0 : Nat) (v1 : Nat) (v2 : Int32) (v3 : Int32) (m : ba_M) : Option (ba_M) :=
  (ldR S v1 0 0 fun r4 => (if (gI m r4 2) ≤ v3 then (some m) else (f_Sc_search_21 S k7 v0 v1 v2 v3 (nI 0) m)))
set_option maxRecDepth 100000 in
theorem w_Sc_search_7 {S : ba_S} {k7 : Nat → Nat → Int32 → Int32 → ba_M → Option (ba_M)} (hk7 : ∀ (v0 : Nat) (v1 : Nat) (v2 : Int32) (v3 : Int32) (m : ba_M), ck S v0 5 = true → ck S v1 4 = true → AW (Y_Sc_search S) 7 [some (aR (some v0)), some (aR (some v1)), some (aI v2), some (aI v3), none, none] [] S m (k7 v0 v1 v2 v3 m)) : ∀ (v0 : Nat) (v1 : Nat) (v2 : Int32) (v3 : Int32) (m : ba_M), ck S v0 5 = true → ck S v1 4 = true → AW (Y_Sc_search S) 7 [some (aR (some v0)), some (aR (some v1)), some (aI v2), some (aI v3), none, none] [] S m (b_Sc_search_7 S k7 v0 v1 v2 v3 m) := by
  intro v0 v1 v2 v3 m g0 g1
  unfold b_Sc_search_7
  refine a_iload_n dX6_search_7 rfl ?_
  refine a_aload_n dX6_search_8 rfl ?_
  refine a_getR dX6_search_9 fl_RX6_28 rfl g1 (fun r4 h5 => ?_)
  refine a_getI dX6_search_12 fl_RX6_34 rfl h5 ?_
  refine a_ige (tgt := 72) dX6_search_15 (by decide) (fun _ => ?_) (fun _ => ?_)
  · skip
    exact AW.ret dX6_search_72 rfl rfl
  · skip
    refine a_iconst (v := nI 0) dX6_search_18 (by decide) ?_
    refine a_istore dX6_search_19 rfl rfl ?_
    exact AW.weak (Lw_so rfl (Lw_so rfl (Lw_so rfl (Lw_so rfl (Lw_so rfl (Lw_no Lw_end)))))) (l_Sc_search_21 hk7 FU _ _ _ _ _ _ g0 g1)
def f_Sc_search_7 (S : ba_S) : Nat → Nat → Int32 → Int32 → ba_M → Option (ba_M) := fx (fun _ _ _ _ _ => none) (b_Sc_search_7 S) FU
theorem l_Sc_search_7 {S : ba_S} : ∀ (n : Nat) (v0 : Nat) (v1 : Nat) (v2 : Int32) (v3 : Int32) (m : ba_M), ck S v0 5 = true → ck S v1 4 = true → AW (Y_Sc_search S) 7 [some (aR (some v0)), some (aR (some v1)), some (aI v2), some (aI v3), none, none] [] S m ((fx (F := Nat → Nat → Int32 → Int32 → ba_M → Option (ba_M)) (fun _ _ _ _ _ => none) (b_Sc_search_7 S) n) v0 v1 v2 v3 m) := by
  intro n
  induction n with
  | zero => intro _ _ _ _ _ _ _; exact AW.none
  | succ n ih => exact w_Sc_search_7 ih
def f_Sc_search (S : ba_S) (a0 : Nat) (a1 : Nat) (a2 : Int32) (m : ba_M) : Option (ba_M) :=
  cK S a0 5 (cK S a1 4 ((f_Sc_search_7 S a0 a1 a2 (nI 0) (wI m a0 0 (nI 0)))))
set_option maxRecDepth 100000 in
theorem e_Sc_search (S : ba_S) (a0 : Nat) (a1 : Nat) (a2 : Int32) (m : ba_M) : AW (Y_Sc_search S) 0 [some (aR (some a0)), some (aR (some a1)), some (aI a2), none, none, none] [] S m (f_Sc_search S a0 a1 a2 m) := by
  unfold f_Sc_search
  refine AW.ck (fun g0 => ?_)
  refine AW.ck (fun g1 => ?_)
  refine a_aload_n dX6_search_0 rfl ?_
  refine a_iconst (v := nI 0) dX6_search_1 (by decide) ?_
  refine a_putI dX6_search_2 fl_RX6_9 (rfl : _ = FieldType.boolean) rfl rfl rfl g0 ?_
  refine a_iconst (v := nI 0) dX6_search_5 (by decide) ?_
  refine a_istore_n dX6_search_6 rfl rfl ?_
  exact AW.weak (Lw_so rfl (Lw_so rfl (Lw_so rfl (Lw_so rfl (Lw_no (Lw_no Lw_end)))))) (l_Sc_search_7 FU _ _ _ _ _ g0 g1)
theorem m_Sc_search {S : ba_S} {a0 : Nat} {a1 : Nat} {a2 : Int32} {m : ba_M} {q : ba_M} (h : f_Sc_search S a0 a1 a2 m = some q) : MA (Y_Sc_search S) yX6_search none [aR (some a0), aR (some a1), aI a2] S m q :=
  ba_met ⟨by decide +kernel, rfl⟩ rfl (fun h => by cases h) (Or.inr (Or.inr (Or.inr (Or.inl ⟨rfl, rfl, rfl⟩)))) rfl (h ▸ e_Sc_search S a0 a1 a2 m)

abbrev Y_Mr_prepareThrows (S : ba_S) : ba_Y (ba_M) := mV cX1_prepareThrows RX1 4 5 117 S
def b_Mr_prepareThrows_2 (S : ba_S) (k2 : Nat → Nat → Int32 → ba_M → Option (ba_M)) (v0 : Nat) (v1 : Nat) (v2 : Int32) (m : ba_M) : Option (ba_M) :=
  (ldR S v1 0 0 fun r1 => (if (gI m r1 2) ≤ v2 then (some m) else ((f_Ro_playAsTold S v1 v2 m).bind fun q3 => ((f_Ro_target S v1 q3).bind fun q4 => (ldR S v0 0 20 fun r5 => ((f_Rw_put S r5 v2 (gI q4.2 v1 4) q4.2).bind fun q7 => (ldR S v0 1 20 fun r8 => ((f_Rw_put S r8 v2 q4.1 q7).bind fun q10 => (ldR S v0 2 20 fun r11 => ((f_Ro_chanceOf S v1 q4.1 q10).bind fun q13 => ((f_Rw_put S r11 v2 q13.1 q13.2).bind fun q14 => (k2 v0 v1 (v2 + (nI 1)) q14))))))))))))
set_option maxRecDepth 100000 in
theorem w_Mr_prepareThrows_2 {S : ba_S} {k2 : Nat → Nat → Int32 → ba_M → Option (ba_M)} (hk2 : ∀ (v0 : Nat) (v1 : Nat) (v2 : Int32) (m : ba_M), ck S v0 1 = true → ck S v1 4 = true → AW (Y_Mr_prepareThrows S) 2 [some (aR (some v0)), some (aR (some v1)), some (aI v2), none] [] S m (k2 v0 v1 v2 m)) : ∀ (v0 : Nat) (v1 : Nat) (v2 : Int32) (m : ba_M), ck S v0 1 = true → ck S v1 4 = true → AW (Y_Mr_prepareThrows S) 2 [some (aR (some v0)), some (aR (some v1)), some (aI v2), none] [] S m (b_Mr_prepareThrows_2 S k2 v0 v1 v2 m) := by
  intro v0 v1 v2 m g0 g1
  unfold b_Mr_prepareThrows_2
  refine a_iload_n dX1_prepareThrows_2 rfl ?_
  refine a_aload_n dX1_prepareThrows_3 rfl ?_
  refine a_getR dX1_prepareThrows_4 fl_RX1_45 rfl g1 (fun r1 h2 => ?_)
  refine a_getI dX1_prepareThrows_7 fl_RX1_51 rfl h2 ?_
  refine a_ige (tgt := 63) dX1_prepareThrows_10 (by decide) (fun _ => ?_) (fun _ => ?_)
  · skip
    exact AW.ret dX1_prepareThrows_63 rfl rfl
  · skip
    refine a_aload_n dX1_prepareThrows_13 rfl ?_
    refine a_iload_n dX1_prepareThrows_14 rfl ?_
    refine a_callV_V dX1_prepareThrows_15 lk_RX1_56 mt_Ro_playAsTold vt_Ro_playAsTold ⟨_, rfl, rfl⟩ (fun _ h => m_Ro_playAsTold h) rfl rfl g1 ⟨rfl, rfl, rfl⟩ (fun q3 => ?_)
    refine a_aload_n dX1_prepareThrows_18 rfl ?_
    refine a_callV_I dX1_prepareThrows_19 lk_RX1_60 mt_Ro_target vt_Ro_target ⟨_, rfl, rfl⟩ (fun _ h => m_Ro_target h) rfl rfl g1 ⟨rfl, rfl, rfl⟩ (fun q4 => ?_)
    refine a_istore_n dX1_prepareThrows_22 rfl rfl ?_
    refine a_aload_n dX1_prepareThrows_23 rfl ?_
    refine a_getR dX1_prepareThrows_24 fl_RX1_11 rfl g0 (fun r5 h6 => ?_)
    refine a_iload_n dX1_prepareThrows_27 rfl ?_
    refine a_aload_n dX1_prepareThrows_28 rfl ?_
    refine a_getI dX1_prepareThrows_29 fl_RX1_64 rfl g1 ?_
    refine a_callS_V dX1_prepareThrows_32 lk_RX1_67 mt_Rw_put sv_Rw_put (fun _ h => m_Rw_put h) rfl rfl ⟨rfl, rfl, rfl⟩ (fun q7 => ?_)
    refine a_aload_n dX1_prepareThrows_35 rfl ?_
    refine a_getR dX1_prepareThrows_36 fl_RX1_15 rfl g0 (fun r8 h9 => ?_)
    refine a_iload_n dX1_prepareThrows_39 rfl ?_
    refine a_iload_n dX1_prepareThrows_40 rfl ?_
    refine a_callS_V dX1_prepareThrows_41 lk_RX1_67 mt_Rw_put sv_Rw_put (fun _ h => m_Rw_put h) rfl rfl ⟨rfl, rfl, rfl⟩ (fun q10 => ?_)
    refine a_aload_n dX1_prepareThrows_44 rfl ?_
    refine a_getR dX1_prepareThrows_45 fl_RX1_18 rfl g0 (fun r11 h12 => ?_)
    refine a_iload_n dX1_prepareThrows_48 rfl ?_
    refine a_aload_n dX1_prepareThrows_49 rfl ?_
    refine a_iload_n dX1_prepareThrows_50 rfl ?_
    refine a_callV_I dX1_prepareThrows_51 lk_RX1_71 mt_Ro_chanceOf vt_Ro_chanceOf ⟨_, rfl, rfl⟩ (fun _ h => m_Ro_chanceOf h) rfl rfl g1 ⟨rfl, rfl, rfl⟩ (fun q13 => ?_)
    refine a_callS_V dX1_prepareThrows_54 lk_RX1_67 mt_Rw_put sv_Rw_put (fun _ h => m_Rw_put h) rfl rfl ⟨rfl, rfl, rfl⟩ (fun q14 => ?_)
    refine a_iinc (v := nI 1) dX1_prepareThrows_57 rfl (by decide) rfl rfl ?_
    refine a_goto (tgt := 2) dX1_prepareThrows_60 (by decide) ?_
    exact AW.weak (Lw_so rfl (Lw_so rfl (Lw_so rfl (Lw_no Lw_end)))) (hk2 _ _ _ _ g0 g1)
def f_Mr_prepareThrows_2 (S : ba_S) : Nat → Nat → Int32 → ba_M → Option (ba_M) := fx (fun _ _ _ _ => none) (b_Mr_prepareThrows_2 S) FU
theorem l_Mr_prepareThrows_2 {S : ba_S} : ∀ (n : Nat) (v0 : Nat) (v1 : Nat) (v2 : Int32) (m : ba_M), ck S v0 1 = true → ck S v1 4 = true → AW (Y_Mr_prepareThrows S) 2 [some (aR (some v0)), some (aR (some v1)), some (aI v2), none] [] S m ((fx (F := Nat → Nat → Int32 → ba_M → Option (ba_M)) (fun _ _ _ _ => none) (b_Mr_prepareThrows_2 S) n) v0 v1 v2 m) := by
  intro n
  induction n with
  | zero => intro _ _ _ _ _ _; exact AW.none
  | succ n ih => exact w_Mr_prepareThrows_2 ih
def f_Mr_prepareThrows (S : ba_S) (a0 : Nat) (a1 : Nat) (m : ba_M) : Option (ba_M) :=
  cK S a0 1 (cK S a1 4 ((f_Mr_prepareThrows_2 S a0 a1 (nI 0) m)))
set_option maxRecDepth 100000 in
theorem e_Mr_prepareThrows (S : ba_S) (a0 : Nat) (a1 : Nat) (m : ba_M) : AW (Y_Mr_prepareThrows S) 0 [some (aR (some a0)), some (aR (some a1)), none, none] [] S m (f_Mr_prepareThrows S a0 a1 m) := by
  unfold f_Mr_prepareThrows
  refine AW.ck (fun g0 => ?_)
  refine AW.ck (fun g1 => ?_)
  refine a_iconst (v := nI 0) dX1_prepareThrows_0 (by decide) ?_
  refine a_istore_n dX1_prepareThrows_1 rfl rfl ?_
  exact AW.weak (Lw_so rfl (Lw_so rfl (Lw_so rfl (Lw_no Lw_end)))) (l_Mr_prepareThrows_2 FU _ _ _ _ g0 g1)
theorem m_Mr_prepareThrows {S : ba_S} {a0 : Nat} {a1 : Nat} {m : ba_M} {q : ba_M} (h : f_Mr_prepareThrows S a0 a1 m = some q) : MA (Y_Mr_prepareThrows S) yX1_prepareThrows none [aR (some a0), aR (some a1)] S m q :=
  ba_met ⟨by decide +kernel, rfl⟩ rfl (fun h => by cases h) (Or.inr (Or.inr (Or.inr (Or.inl ⟨rfl, rfl, rfl⟩)))) rfl (h ▸ e_Mr_prepareThrows S a0 a1 m)

abbrev Y_Mr_oneLetterOf (S : ba_S) : ba_Y (Int32 × ba_M) := mI cX1_oneLetterOf RX1 1 0 0 S
def f_Mr_oneLetterOf (S : ba_S) (a0 : Int32) (m : ba_M) : Option (Int32 × ba_M) :=
  (some (((nI 1) <<< (((nI 2) * a0) &&& 31)), m))
set_option maxRecDepth 100000 in
theorem e_Mr_oneLetterOf (S : ba_S) (a0 : Int32) (m : ba_M) : AW (Y_Mr_oneLetterOf S) 0 [some (aI a0)] [] S m (f_Mr_oneLetterOf S a0 m) := by
  unfold f_Mr_oneLetterOf
  refine a_iconst (v := nI 1) dX1_oneLetterOf_0 (by decide) ?_
  refine a_iconst (v := nI 2) dX1_oneLetterOf_1 (by decide) ?_
  refine a_iload_n dX1_oneLetterOf_2 rfl ?_
  refine a_imul dX1_oneLetterOf_3 ?_
  refine a_ishl dX1_oneLetterOf_4 ?_
  exact AW.ret dX1_oneLetterOf_5 rfl rfl
theorem m_Mr_oneLetterOf {S : ba_S} {a0 : Int32} {m : ba_M} {q : Int32 × ba_M} (h : f_Mr_oneLetterOf S a0 m = some q) : MA (Y_Mr_oneLetterOf S) yX1_oneLetterOf (some .int) [aI a0] S m q :=
  ba_met ⟨by decide +kernel, rfl⟩ rfl (fun h => by cases h) (Or.inl ⟨rfl, rfl, _, rfl⟩) rfl (h ▸ e_Mr_oneLetterOf S a0 m)

abbrev Y_Mr_lettersOf (S : ba_S) : ba_Y (Int32 × ba_M) := mI cX1_lettersOf RX1 3 1 22 S
def b_Mr_lettersOf_4 (S : ba_S) (k4 : Nat → Int32 → Int32 → ba_M → Option (Int32 × ba_M)) (v0 : Nat) (v1 : Int32) (v2 : Int32) (m : ba_M) : Option (Int32 × ba_M) :=
  (if (gI m v0 2) ≤ v2 then (some (v1, m)) else ((f_Ga_who S v0 v2 m).bind fun q1 => cK S q1.1 2 (ldR S q1.1 0 9 fun r3 => ((f_Mr_oneLetterOf S v2 q1.2).bind fun q5 => (k4 v0 (v1 + ((gI q1.2 r3 3) * q5.1)) (v2 + (nI 1)) q5.2)))))
set_option maxRecDepth 100000 in
theorem w_Mr_lettersOf_4 {S : ba_S} {k4 : Nat → Int32 → Int32 → ba_M → Option (Int32 × ba_M)} (hk4 : ∀ (v0 : Nat) (v1 : Int32) (v2 : Int32) (m : ba_M), ck S v0 0 = true → AW (Y_Mr_lettersOf S) 4 [some (aR (some v0)), some (aI v1), some (aI v2)] [] S m (k4 v0 v1 v2 m)) : ∀ (v0 : Nat) (v1 : Int32) (v2 : Int32) (m : ba_M), ck S v0 0 = true → AW (Y_Mr_lettersOf S) 4 [some (aR (some v0)), some (aI v1), some (aI v2)] [] S m (b_Mr_lettersOf_4 S k4 v0 v1 v2 m) := by
  intro v0 v1 v2 m g0
  unfold b_Mr_lettersOf_4
  refine a_iload_n dX1_lettersOf_4 rfl ?_
  refine a_aload_n dX1_lettersOf_5 rfl ?_
  refine a_getI dX1_lettersOf_6 fl_RX1_51 rfl g0 ?_
  refine a_ige (tgt := 37) dX1_lettersOf_9 (by decide) (fun _ => ?_) (fun _ => ?_)
  · skip
    refine a_iload_n dX1_lettersOf_37 rfl ?_
    exact AW.ret dX1_lettersOf_38 rfl rfl
  · skip
    refine a_iload_n dX1_lettersOf_12 rfl ?_
    refine a_aload_n dX1_lettersOf_13 rfl ?_
    refine a_iload_n dX1_lettersOf_14 rfl ?_
    refine a_callV_R dX1_lettersOf_15 lk_RX1_120 mt_Ga_who vt_Ga_who ⟨_, rfl, rfl⟩ (fun _ h => m_Ga_who h) rfl rfl g0 ⟨rfl, rfl, rfl⟩ (fun q1 => ?_)
    refine AW.ck (fun h2 => ?_)
    refine a_getR dX1_lettersOf_18 fl_RX1_124 rfl h2 (fun r3 h4 => ?_)
    refine a_getI dX1_lettersOf_21 fl_RX1_130 rfl h4 ?_
    refine a_iload_n dX1_lettersOf_24 rfl ?_
    refine a_callS_I dX1_lettersOf_25 lk_RX1_108 mt_Mr_oneLetterOf sv_Mr_oneLetterOf (fun _ h => m_Mr_oneLetterOf h) rfl rfl ⟨rfl, rfl, rfl⟩ (fun q5 => ?_)
    refine a_imul dX1_lettersOf_28 ?_
    refine a_iadd dX1_lettersOf_29 ?_
    refine a_istore_n dX1_lettersOf_30 rfl rfl ?_
    refine a_iinc (v := nI 1) dX1_lettersOf_31 rfl (by decide) rfl rfl ?_
    refine a_goto (tgt := 4) dX1_lettersOf_34 (by decide) ?_
    exact AW.weak (Lw_so rfl (Lw_so rfl (Lw_so rfl Lw_end))) (hk4 _ _ _ _ g0)
def f_Mr_lettersOf_4 (S : ba_S) : Nat → Int32 → Int32 → ba_M → Option (Int32 × ba_M) := fx (fun _ _ _ _ => none) (b_Mr_lettersOf_4 S) FU
theorem l_Mr_lettersOf_4 {S : ba_S} : ∀ (n : Nat) (v0 : Nat) (v1 : Int32) (v2 : Int32) (m : ba_M), ck S v0 0 = true → AW (Y_Mr_lettersOf S) 4 [some (aR (some v0)), some (aI v1), some (aI v2)] [] S m ((fx (F := Nat → Int32 → Int32 → ba_M → Option (Int32 × ba_M)) (fun _ _ _ _ => none) (b_Mr_lettersOf_4 S) n) v0 v1 v2 m) := by
  intro n
  induction n with
  | zero => intro _ _ _ _ _; exact AW.none
  | succ n ih => exact w_Mr_lettersOf_4 ih
def f_Mr_lettersOf (S : ba_S) (a0 : Nat) (m : ba_M) : Option (Int32 × ba_M) :=
  cK S a0 0 ((f_Mr_lettersOf_4 S a0 (nI 0) (nI 0) m))
set_option maxRecDepth 100000 in
theorem e_Mr_lettersOf (S : ba_S) (a0 : Nat) (m : ba_M) : AW (Y_Mr_lettersOf S) 0 [some (aR (some a0)), none, none] [] S m (f_Mr_lettersOf S a0 m) := by
  unfold f_Mr_lettersOf
  refine AW.ck (fun g0 => ?_)
  refine a_iconst (v := nI 0) dX1_lettersOf_0 (by decide) ?_
  refine a_istore_n dX1_lettersOf_1 rfl rfl ?_
  refine a_iconst (v := nI 0) dX1_lettersOf_2 (by decide) ?_
  refine a_istore_n dX1_lettersOf_3 rfl rfl ?_
  exact AW.weak (Lw_so rfl (Lw_so rfl (Lw_so rfl Lw_end))) (l_Mr_lettersOf_4 FU _ _ _ _ g0)
theorem m_Mr_lettersOf {S : ba_S} {a0 : Nat} {m : ba_M} {q : Int32 × ba_M} (h : f_Mr_lettersOf S a0 m = some q) : MA (Y_Mr_lettersOf S) yX1_lettersOf (some .int) [aR (some a0)] S m q :=
  ba_met ⟨by decide +kernel, rfl⟩ rfl (fun h => by cases h) (Or.inl ⟨rfl, rfl, _, rfl⟩) rfl (h ▸ e_Mr_lettersOf S a0 m)

abbrev Y_Mr_lettersOf2 (S : ba_S) : ba_Y (Int32 × ba_M) := mI cX1_lettersOf_ RX1 2 0 0 S
def f_Mr_lettersOf2 (S : ba_S) (a0 : Int32) (a1 : Int32) (m : ba_M) : Option (Int32 × ba_M) :=
  (some (((a0 >>> (((nI 2) * a1) &&& 31)) &&& (nI 3)), m))
set_option maxRecDepth 100000 in
theorem e_Mr_lettersOf2 (S : ba_S) (a0 : Int32) (a1 : Int32) (m : ba_M) : AW (Y_Mr_lettersOf2 S) 0 [some (aI a0), some (aI a1)] [] S m (f_Mr_lettersOf2 S a0 a1 m) := by
  unfold f_Mr_lettersOf2
  refine a_iload_n dX1_lettersOf__0 rfl ?_
  refine a_iconst (v := nI 2) dX1_lettersOf__1 (by decide) ?_
  refine a_iload_n dX1_lettersOf__2 rfl ?_
  refine a_imul dX1_lettersOf__3 ?_
  refine a_ishr dX1_lettersOf__4 ?_
  refine a_iconst (v := nI 3) dX1_lettersOf__5 (by decide) ?_
  refine a_iand dX1_lettersOf__6 ?_
  exact AW.ret dX1_lettersOf__7 rfl rfl
theorem m_Mr_lettersOf2 {S : ba_S} {a0 : Int32} {a1 : Int32} {m : ba_M} {q : Int32 × ba_M} (h : f_Mr_lettersOf2 S a0 a1 m = some q) : MA (Y_Mr_lettersOf2 S) yX1_lettersOf_ (some .int) [aI a0, aI a1] S m q :=
  ba_met ⟨by decide +kernel, rfl⟩ rfl (fun h => by cases h) (Or.inl ⟨rfl, rfl, _, rfl⟩) rfl (h ▸ e_Mr_lettersOf2 S a0 a1 m)

abbrev Y_Mr_giveLetter (S : ba_S) : ba_Y (ba_M) := mV cX1_giveLetter RX1 5 1 23 S
def f_Mr_giveLetter_39 (S : ba_S) (m : ba_M) : Option (ba_M) :=
  (some m)
set_option maxRecDepth 100000 in
theorem w_Mr_giveLetter_39 {S : ba_S} : ∀ (m : ba_M), AW (Y_Mr_giveLetter S) 39 [none, none, none, none, none] [] S m (f_Mr_giveLetter_39 S m) := by
  intro m
  unfold f_Mr_giveLetter_39
  exact AW.ret dX1_giveLetter_39 rfl rfl
def f_Mr_giveLetter (S : ba_S) (a0 : Nat) (a1 : Int32) (a2 : Int32) (a3 : Int64) (m : ba_M) : Option (ba_M) :=
  cK S a0 1 (((f_Mr_lettersOf2 S a1 a2 m).bind fun q1 => (if q1.1 < (nI 3) then (ldR S a0 3 21 fun r2 => ((f_Mr_oneLetterOf S a2 q1.2).bind fun q4 => ((f_Rw_addLong S r2 (((a1 + q4.1) * (nI 5)) + a2) a3 q4.2).bind fun q5 => (f_Mr_giveLetter_39 S q5)))) else (ldR S a0 4 21 fun r6 => ((f_Rw_addLong S r6 a2 a3 q1.2).bind fun q8 => (f_Mr_giveLetter_39 S q8))))))
set_option maxRecDepth 100000 in
theorem e_Mr_giveLetter (S : ba_S) (a0 : Nat) (a1 : Int32) (a2 : Int32) (a3 : Int64) (m : ba_M) : AW (Y_Mr_giveLetter S) 0 [some (aR (some a0)), some (aI a1), some (aI a2), some (aJ a3), none] [] S m (f_Mr_giveLetter S a0 a1 a2 a3 m) := by
  unfold f_Mr_giveLetter
  refine AW.ck (fun g0 => ?_)
  refine a_iload_n dX1_giveLetter_0 rfl ?_
  refine a_iload_n dX1_giveLetter_1 rfl ?_
  refine a_callS_I dX1_giveLetter_2 lk_RX1_105 mt_Mr_lettersOf2 sv_Mr_lettersOf2 (fun _ h => m_Mr_lettersOf2 h) rfl rfl ⟨rfl, rfl, rfl⟩ (fun q1 => ?_)
  refine a_iconst (v := nI 3) dX1_giveLetter_5 (by decide) ?_
  refine a_ilt (tgt := 21) dX1_giveLetter_6 (by decide) (fun _ => ?_) (fun _ => ?_)
  · skip
    refine a_aload_n dX1_giveLetter_21 rfl ?_
    refine a_getR dX1_giveLetter_22 fl_RX1_21 rfl g0 (fun r2 h3 => ?_)
    refine a_iload_n dX1_giveLetter_25 rfl ?_
    refine a_iload_n dX1_giveLetter_26 rfl ?_
    refine a_callS_I dX1_giveLetter_27 lk_RX1_108 mt_Mr_oneLetterOf sv_Mr_oneLetterOf (fun _ h => m_Mr_oneLetterOf h) rfl rfl ⟨rfl, rfl, rfl⟩ (fun q4 => ?_)
    refine a_iadd dX1_giveLetter_30 ?_
    refine a_iconst (v := nI 5) dX1_giveLetter_31 (by decide) ?_
    refine a_imul dX1_giveLetter_32 ?_
    refine a_iload_n dX1_giveLetter_33 rfl ?_
    refine a_iadd dX1_giveLetter_34 ?_
    refine a_lload_n dX1_giveLetter_35 rfl ?_
    refine a_callS_V dX1_giveLetter_36 lk_RX1_87 mt_Rw_addLong sv_Rw_addLong (fun _ h => m_Rw_addLong h) rfl rfl ⟨rfl, rfl, rfl⟩ (fun q5 => ?_)
    exact AW.weak (Lw_no (Lw_no (Lw_no (Lw_no (Lw_no Lw_end))))) (w_Mr_giveLetter_39 _)
  · skip
    refine a_aload_n dX1_giveLetter_9 rfl ?_
    refine a_getR dX1_giveLetter_10 fl_RX1_25 rfl g0 (fun r6 h7 => ?_)
    refine a_iload_n dX1_giveLetter_13 rfl ?_
    refine a_lload_n dX1_giveLetter_14 rfl ?_
    refine a_callS_V dX1_giveLetter_15 lk_RX1_87 mt_Rw_addLong sv_Rw_addLong (fun _ h => m_Rw_addLong h) rfl rfl ⟨rfl, rfl, rfl⟩ (fun q8 => ?_)
    refine a_goto (tgt := 39) dX1_giveLetter_18 (by decide) ?_
    exact AW.weak (Lw_no (Lw_no (Lw_no (Lw_no (Lw_no Lw_end))))) (w_Mr_giveLetter_39 _)
theorem m_Mr_giveLetter {S : ba_S} {a0 : Nat} {a1 : Int32} {a2 : Int32} {a3 : Int64} {m : ba_M} {q : ba_M} (h : f_Mr_giveLetter S a0 a1 a2 a3 m = some q) : MA (Y_Mr_giveLetter S) yX1_giveLetter none [aR (some a0), aI a1, aI a2, aJ a3] S m q :=
  ba_met ⟨by decide +kernel, rfl⟩ rfl (fun h => by cases h) (Or.inr (Or.inr (Or.inr (Or.inl ⟨rfl, rfl, rfl⟩)))) rfl (h ▸ e_Mr_giveLetter S a0 a1 a2 a3 m)

abbrev Y_Mr_shareOut (S : ba_S) : ba_Y (ba_M) := mV cX1_shareOut RX1 8 2 47 S
def f_Mr_shareOut (S : ba_S) (a0 : Nat) (a1 : Int32) (a2 : Int32) (m : ba_M) : Option (ba_M) :=
  cK S a0 1 ((ldR S a0 3 21 fun r1 => ((f_Rw_longAt S r1 ((a1 * (nI 5)) + a2) m).bind fun q3 => (if (lg_cmp q3.1 (lN 0)) = 0 then (some q3.2) else (if (lN 10) = 0 then none else (ldR S a0 2 20 fun r4 => ((f_Rw_at S r4 a2 (wL q3.2 a0 5 ((gL q3.2 a0 5) + q3.1))).bind fun q6 => (ldR S a0 1 20 fun r7 => ((f_Rw_at S r7 a2 q6.2).bind fun q9 => ((f_Mr_giveLetter S a0 a1 q9.1 ((q3.1 / (lN 10)) * (Int32.toInt64 q6.1)) q9.2).bind fun q10 => (ldR S a0 0 20 fun r11 => ((f_Rw_at S r11 a2 q10).bind fun q13 => ((f_Mr_giveLetter S a0 a1 q13.1 ((q3.1 / (lN 10)) * (Int32.toInt64 ((nI 10) - q6.1))) q13.2).bind fun q14 => (some q14))))))))))))))
set_option maxRecDepth 100000 in
theorem e_Mr_shareOut (S : ba_S) (a0 : Nat) (a1 : Int32) (a2 : Int32) (m : ba_M) : AW (Y_Mr_shareOut S) 0 [some (aR (some a0)), some (aI a1), some (aI a2), none, none, none, none, none] [] S m (f_Mr_shareOut S a0 a1 a2 m) := by
  unfold f_Mr_shareOut
  refine AW.ck (fun g0 => ?_)
  refine a_aload_n dX1_shareOut_0 rfl ?_
  refine a_getR dX1_shareOut_1 fl_RX1_21 rfl g0 (fun r1 h2 => ?_)
  refine a_iload_n dX1_shareOut_4 rfl ?_
  refine a_iconst (v := nI 5) dX1_shareOut_5 (by decide) ?_
  refine a_imul dX1_shareOut_6 ?_
  refine a_iload_n dX1_shareOut_7 rfl ?_
  refine a_iadd dX1_shareOut_8 ?_
  refine a_callS_J dX1_shareOut_9 lk_RX1_39 mt_Rw_longAt sv_Rw_longAt (fun _ h => m_Rw_longAt h) rfl rfl ⟨rfl, rfl, rfl⟩ (fun q3 => ?_)
  refine a_lstore_n dX1_shareOut_12 rfl rfl ?_
  refine a_lload_n dX1_shareOut_13 rfl ?_
  refine a_lconst (v := lN 0) dX1_shareOut_14 (by decide) ?_
  refine a_lcmp dX1_shareOut_15 ?_
  refine a_zne (tgt := 20) dX1_shareOut_16 (by decide) (fun _ => ?_) (fun _ => ?_)
  · skip
    refine a_aload_n dX1_shareOut_20 rfl ?_
    refine a_dup dX1_shareOut_21 rfl ?_
    refine a_getL dX1_shareOut_22 fl_RX1_28 rfl g0 ?_
    refine a_lload_n dX1_shareOut_25 rfl ?_
    refine a_ladd dX1_shareOut_26 ?_
    refine a_putL dX1_shareOut_27 fl_RX1_28 rfl g0 ?_
    refine a_lload_n dX1_shareOut_30 rfl ?_
    refine a_ldc2 dX1_shareOut_31 cl_RX1_95 ?_
    refine a_ldiv dX1_shareOut_34 ?_
    refine a_lstore dX1_shareOut_35 rfl rfl ?_
    refine a_aload_n dX1_shareOut_37 rfl ?_
    refine a_getR dX1_shareOut_38 fl_RX1_18 rfl g0 (fun r4 h5 => ?_)
    refine a_iload_n dX1_shareOut_41 rfl ?_
    refine a_callS_I dX1_shareOut_42 lk_RX1_97 mt_Rw_at sv_Rw_at (fun _ h => m_Rw_at h) rfl rfl ⟨rfl, rfl, rfl⟩ (fun q6 => ?_)
    refine a_istore dX1_shareOut_45 rfl rfl ?_
    refine a_aload_n dX1_shareOut_47 rfl ?_
    refine a_iload_n dX1_shareOut_48 rfl ?_
    refine a_aload_n dX1_shareOut_49 rfl ?_
    refine a_getR dX1_shareOut_50 fl_RX1_15 rfl g0 (fun r7 h8 => ?_)
    refine a_iload_n dX1_shareOut_53 rfl ?_
    refine a_callS_I dX1_shareOut_54 lk_RX1_97 mt_Rw_at sv_Rw_at (fun _ h => m_Rw_at h) rfl rfl ⟨rfl, rfl, rfl⟩ (fun q9 => ?_)
    refine a_lload dX1_shareOut_57 rfl ?_
    refine a_iload dX1_shareOut_59 rfl ?_
    refine a_i2l dX1_shareOut_61 ?_
    refine a_lmul dX1_shareOut_62 ?_
    refine a_callV_V dX1_shareOut_63 lk_RX1_101 mt_Mr_giveLetter vt_Mr_giveLetter ⟨_, rfl, rfl⟩ (fun _ h => m_Mr_giveLetter h) rfl rfl g0 ⟨rfl, rfl, rfl⟩ (fun q10 => ?_)
    refine a_aload_n dX1_shareOut_66 rfl ?_
    refine a_iload_n dX1_shareOut_67 rfl ?_
    refine a_aload_n dX1_shareOut_68 rfl ?_
    refine a_getR dX1_shareOut_69 fl_RX1_11 rfl g0 (fun r11 h12 => ?_)
    refine a_iload_n dX1_shareOut_72 rfl ?_
    refine a_callS_I dX1_shareOut_73 lk_RX1_97 mt_Rw_at sv_Rw_at (fun _ h => m_Rw_at h) rfl rfl ⟨rfl, rfl, rfl⟩ (fun q13 => ?_)
    refine a_lload dX1_shareOut_76 rfl ?_
    refine a_bipush (v := nI 10) dX1_shareOut_78 (by decide) ?_
    refine a_iload dX1_shareOut_80 rfl ?_
    refine a_isub dX1_shareOut_82 ?_
    refine a_i2l dX1_shareOut_83 ?_
    refine a_lmul dX1_shareOut_84 ?_
    refine a_callV_V dX1_shareOut_85 lk_RX1_101 mt_Mr_giveLetter vt_Mr_giveLetter ⟨_, rfl, rfl⟩ (fun _ h => m_Mr_giveLetter h) rfl rfl g0 ⟨rfl, rfl, rfl⟩ (fun q14 => ?_)
    exact AW.ret dX1_shareOut_88 rfl rfl
  · skip
    exact AW.ret dX1_shareOut_19 rfl rfl
theorem m_Mr_shareOut {S : ba_S} {a0 : Nat} {a1 : Int32} {a2 : Int32} {m : ba_M} {q : ba_M} (h : f_Mr_shareOut S a0 a1 a2 m = some q) : MA (Y_Mr_shareOut S) yX1_shareOut none [aR (some a0), aI a1, aI a2] S m q :=
  ba_met ⟨by decide +kernel, rfl⟩ rfl (fun h => by cases h) (Or.inr (Or.inr (Or.inr (Or.inl ⟨rfl, rfl, rfl⟩)))) rfl (h ▸ e_Mr_shareOut S a0 a1 a2 m)

abbrev Y_Mr_weigh (S : ba_S) : ba_Y (ba_M) := mV cX1_weigh RX1 6 3 74 S
def b_Mr_weigh_55 (S : ba_S) (k44 : Nat → Nat → Int32 → ba_M → Option (ba_M)) (k55 : Nat → Nat → Int32 → Int32 → ba_M → Option (ba_M)) (v0 : Nat) (v1 : Nat) (v4 : Int32) (v5 : Int32) (m : ba_M) : Option (ba_M) :=
  (if (gI m v1 2) ≤ v5 then (k44 v0 v1 (v4 + (nI 1)) m) else ((f_Mr_shareOut S v0 v4 v5 m).bind fun q1 => (k55 v0 v1 v4 (v5 + (nI 1)) q1)))
set_option maxRecDepth 100000 in
theorem w_Mr_weigh_55 {S : ba_S} {k44 : Nat → Nat → Int32 → ba_M → Option (ba_M)} (hk44 : ∀ (v0 : Nat) (v1 : Nat) (v4 : Int32) (m : ba_M), ck S v0 1 = true → ck S v1 0 = true → AW (Y_Mr_weigh S) 44 [some (aR (some v0)), some (aR (some v1)), none, none, some (aI v4), none] [] S m (k44 v0 v1 v4 m)) {k55 : Nat → Nat → Int32 → Int32 → ba_M → Option (ba_M)} (hk55 : ∀ (v0 : Nat) (v1 : Nat) (v4 : Int32) (v5 : Int32) (m : ba_M), ck S v0 1 = true → ck S v1 0 = true → AW (Y_Mr_weigh S) 55 [some (aR (some v0)), some (aR (some v1)), none, none, some (aI v4), some (aI v5)] [] S m (k55 v0 v1 v4 v5 m)) : ∀ (v0 : Nat) (v1 : Nat) (v4 : Int32) (v5 : Int32) (m : ba_M), ck S v0 1 = true → ck S v1 0 = true → AW (Y_Mr_weigh S) 55 [some (aR (some v0)), some (aR (some v1)), none, none, some (aI v4), some (aI v5)] [] S m (b_Mr_weigh_55 S k44 k55 v0 v1 v4 v5 m) := by
  intro v0 v1 v4 v5 m g0 g1
  unfold b_Mr_weigh_55
  refine a_iload dX1_weigh_55 rfl ?_
  refine a_aload_n dX1_weigh_57 rfl ?_
  refine a_getI dX1_weigh_58 fl_RX1_51 rfl g1 ?_
  refine a_ige (tgt := 78) dX1_weigh_61 (by decide) (fun _ => ?_) (fun _ => ?_)
  · skip
    refine a_iinc (v := nI 1) dX1_weigh_78 rfl (by decide) rfl rfl ?_
    refine a_goto (tgt := 44) dX1_weigh_81 (by decide) ?_
    exact AW.weak (Lw_so rfl (Lw_so rfl (Lw_no (Lw_no (Lw_so rfl (Lw_no Lw_end)))))) (hk44 _ _ _ _ g0 g1)
  · skip
    refine a_aload_n dX1_weigh_64 rfl ?_
    refine a_iload dX1_weigh_65 rfl ?_
    refine a_iload dX1_weigh_67 rfl ?_
    refine a_callV_V dX1_weigh_69 lk_RX1_91 mt_Mr_shareOut vt_Mr_shareOut ⟨_, rfl, rfl⟩ (fun _ h => m_Mr_shareOut h) rfl rfl g0 ⟨rfl, rfl, rfl⟩ (fun q1 => ?_)
    refine a_iinc (v := nI 1) dX1_weigh_72 rfl (by decide) rfl rfl ?_
    refine a_goto (tgt := 55) dX1_weigh_75 (by decide) ?_
    exact AW.weak (Lw_so rfl (Lw_so rfl (Lw_no (Lw_no (Lw_so rfl (Lw_so rfl Lw_end)))))) (hk55 _ _ _ _ _ g0 g1)
def f_Mr_weigh_55 (S : ba_S) (k44 : Nat → Nat → Int32 → ba_M → Option (ba_M)) : Nat → Nat → Int32 → Int32 → ba_M → Option (ba_M) := fx (fun _ _ _ _ _ => none) (b_Mr_weigh_55 S k44) FU
theorem l_Mr_weigh_55 {S : ba_S} {k44 : Nat → Nat → Int32 → ba_M → Option (ba_M)} (hk44 : ∀ (v0 : Nat) (v1 : Nat) (v4 : Int32) (m : ba_M), ck S v0 1 = true → ck S v1 0 = true → AW (Y_Mr_weigh S) 44 [some (aR (some v0)), some (aR (some v1)), none, none, some (aI v4), none] [] S m (k44 v0 v1 v4 m)) : ∀ (n : Nat) (v0 : Nat) (v1 : Nat) (v4 : Int32) (v5 : Int32) (m : ba_M), ck S v0 1 = true → ck S v1 0 = true → AW (Y_Mr_weigh S) 55 [some (aR (some v0)), some (aR (some v1)), none, none, some (aI v4), some (aI v5)] [] S m ((fx (F := Nat → Nat → Int32 → Int32 → ba_M → Option (ba_M)) (fun _ _ _ _ _ => none) (b_Mr_weigh_55 S k44) n) v0 v1 v4 v5 m) := by
  intro n
  induction n with
  | zero => intro _ _ _ _ _ _ _; exact AW.none
  | succ n ih => exact w_Mr_weigh_55 hk44 ih
def b_Mr_weigh_44 (S : ba_S) (k44 : Nat → Nat → Int32 → ba_M → Option (ba_M)) (v0 : Nat) (v1 : Nat) (v4 : Int32) (m : ba_M) : Option (ba_M) :=
  (if (nI 1024) ≤ v4 then (some m) else (f_Mr_weigh_55 S k44 v0 v1 v4 (nI 0) m))
set_option maxRecDepth 100000 in
theorem w_Mr_weigh_44 {S : ba_S} {k44 : Nat → Nat → Int32 → ba_M → Option (ba_M)} (hk44 : ∀ (v0 : Nat) (v1 : Nat) (v4 : Int32) (m : ba_M), ck S v0 1 = true → ck S v1 0 = true → AW (Y_Mr_weigh S) 44 [some (aR (some v0)), some (aR (some v1)), none, none, some (aI v4), none] [] S m (k44 v0 v1 v4 m)) : ∀ (v0 : Nat) (v1 : Nat) (v4 : Int32) (m : ba_M), ck S v0 1 = true → ck S v1 0 = true → AW (Y_Mr_weigh S) 44 [some (aR (some v0)), some (aR (some v1)), none, none, some (aI v4), none] [] S m (b_Mr_weigh_44 S k44 v0 v1 v4 m) := by
  intro v0 v1 v4 m g0 g1
  unfold b_Mr_weigh_44
  refine a_iload dX1_weigh_44 rfl ?_
  refine a_sipush (v := nI 1024) dX1_weigh_46 (by decide) ?_
  refine a_ige (tgt := 84) dX1_weigh_49 (by decide) (fun _ => ?_) (fun _ => ?_)
  · skip
    exact AW.ret dX1_weigh_84 rfl rfl
  · skip
    refine a_iconst (v := nI 0) dX1_weigh_52 (by decide) ?_
    refine a_istore dX1_weigh_53 rfl rfl ?_
    exact AW.weak (Lw_so rfl (Lw_so rfl (Lw_no (Lw_no (Lw_so rfl (Lw_so rfl Lw_end)))))) (l_Mr_weigh_55 hk44 FU _ _ _ _ _ g0 g1)
def f_Mr_weigh_44 (S : ba_S) : Nat → Nat → Int32 → ba_M → Option (ba_M) := fx (fun _ _ _ _ => none) (b_Mr_weigh_44 S) FU
theorem l_Mr_weigh_44 {S : ba_S} : ∀ (n : Nat) (v0 : Nat) (v1 : Nat) (v4 : Int32) (m : ba_M), ck S v0 1 = true → ck S v1 0 = true → AW (Y_Mr_weigh S) 44 [some (aR (some v0)), some (aR (some v1)), none, none, some (aI v4), none] [] S m ((fx (F := Nat → Nat → Int32 → ba_M → Option (ba_M)) (fun _ _ _ _ => none) (b_Mr_weigh_44 S) n) v0 v1 v4 m) := by
  intro n
  induction n with
  | zero => intro _ _ _ _ _ _; exact AW.none
  | succ n ih => exact w_Mr_weigh_44 ih
def f_Mr_weigh (S : ba_S) (a0 : Nat) (a1 : Nat) (a2 : Int32) (m : ba_M) : Option (ba_M) :=
  cK S a0 1 (cK S a1 0 ((ldR S a0 3 21 fun r2 => ((f_Ar_fill S r2 (lN 0) m).bind fun q4 => (ldR S a0 4 21 fun r5 => ((f_Ar_fill S r5 (lN 0) q4).bind fun q7 => ((f_Mr_lettersOf S a1 (wL q7 a0 5 (lN 0))).bind fun q8 => (ldR S a0 3 21 fun r9 => ((f_Rw_addLong S r9 ((q8.1 * (nI 5)) + a2) (lN 10000000000000000) q8.2).bind fun q11 => (f_Mr_weigh_44 S a0 a1 q8.1 q11))))))))))
set_option maxRecDepth 100000 in
theorem e_Mr_weigh (S : ba_S) (a0 : Nat) (a1 : Nat) (a2 : Int32) (m : ba_M) : AW (Y_Mr_weigh S) 0 [some (aR (some a0)), some (aR (some a1)), some (aI a2), none, none, none] [] S m (f_Mr_weigh S a0 a1 a2 m) := by
  unfold f_Mr_weigh
  refine AW.ck (fun g0 => ?_)
  refine AW.ck (fun g1 => ?_)
  refine a_aload_n dX1_weigh_0 rfl ?_
  refine a_getR dX1_weigh_1 fl_RX1_21 rfl g0 (fun r2 h3 => ?_)
  refine a_lconst (v := lN 0) dX1_weigh_4 (by decide) ?_
  refine a_callS_V dX1_weigh_5 lk_RX1_75 mt_Ar_fill sv_Ar_fill (fun _ h => m_Ar_fill h) rfl rfl ⟨rfl, rfl, rfl⟩ (fun q4 => ?_)
  refine a_aload_n dX1_weigh_8 rfl ?_
  refine a_getR dX1_weigh_9 fl_RX1_25 rfl g0 (fun r5 h6 => ?_)
  refine a_lconst (v := lN 0) dX1_weigh_12 (by decide) ?_
  refine a_callS_V dX1_weigh_13 lk_RX1_75 mt_Ar_fill sv_Ar_fill (fun _ h => m_Ar_fill h) rfl rfl ⟨rfl, rfl, rfl⟩ (fun q7 => ?_)
  refine a_aload_n dX1_weigh_16 rfl ?_
  refine a_lconst (v := lN 0) dX1_weigh_17 (by decide) ?_
  refine a_putL dX1_weigh_18 fl_RX1_28 rfl g0 ?_
  refine a_aload_n dX1_weigh_21 rfl ?_
  refine a_callS_I dX1_weigh_22 lk_RX1_81 mt_Mr_lettersOf sv_Mr_lettersOf (fun _ h => m_Mr_lettersOf h) rfl rfl ⟨rfl, rfl, rfl⟩ (fun q8 => ?_)
  refine a_istore_n dX1_weigh_25 rfl rfl ?_
  refine a_aload_n dX1_weigh_26 rfl ?_
  refine a_getR dX1_weigh_27 fl_RX1_21 rfl g0 (fun r9 h10 => ?_)
  refine a_iload_n dX1_weigh_30 rfl ?_
  refine a_iconst (v := nI 5) dX1_weigh_31 (by decide) ?_
  refine a_imul dX1_weigh_32 ?_
  refine a_iload_n dX1_weigh_33 rfl ?_
  refine a_iadd dX1_weigh_34 ?_
  refine a_ldc2 dX1_weigh_35 cl_RX1_85 ?_
  refine a_callS_V dX1_weigh_38 lk_RX1_87 mt_Rw_addLong sv_Rw_addLong (fun _ h => m_Rw_addLong h) rfl rfl ⟨rfl, rfl, rfl⟩ (fun q11 => ?_)
  refine a_iload_n dX1_weigh_41 rfl ?_
  refine a_istore dX1_weigh_42 rfl rfl ?_
  exact AW.weak (Lw_so rfl (Lw_so rfl (Lw_no (Lw_no (Lw_so rfl (Lw_no Lw_end)))))) (l_Mr_weigh_44 FU _ _ _ _ g0 g1)
theorem m_Mr_weigh {S : ba_S} {a0 : Nat} {a1 : Nat} {a2 : Int32} {m : ba_M} {q : ba_M} (h : f_Mr_weigh S a0 a1 a2 m = some q) : MA (Y_Mr_weigh S) yX1_weigh none [aR (some a0), aR (some a1), aI a2] S m q :=
  ba_met ⟨by decide +kernel, rfl⟩ rfl (fun h => by cases h) (Or.inr (Or.inr (Or.inr (Or.inl ⟨rfl, rfl, rfl⟩)))) rfl (h ▸ e_Mr_weigh S a0 a1 a2 m)

abbrev Y_Mr_outWeight (S : ba_S) : ba_Y (Int64 × ba_M) := mJ cX1_outWeight RX1 2 1 21 S
def f_Mr_outWeight (S : ba_S) (a0 : Nat) (a1 : Int32) (m : ba_M) : Option (Int64 × ba_M) :=
  cK S a0 1 ((ldR S a0 4 21 fun r1 => ((f_Rw_longAt S r1 a1 m).bind fun q3 => (some (q3.1, q3.2)))))
set_option maxRecDepth 100000 in
theorem e_Mr_outWeight (S : ba_S) (a0 : Nat) (a1 : Int32) (m : ba_M) : AW (Y_Mr_outWeight S) 0 [some (aR (some a0)), some (aI a1)] [] S m (f_Mr_outWeight S a0 a1 m) := by
  unfold f_Mr_outWeight
  refine AW.ck (fun g0 => ?_)
  refine a_aload_n dX1_outWeight_0 rfl ?_
  refine a_getR dX1_outWeight_1 fl_RX1_25 rfl g0 (fun r1 h2 => ?_)
  refine a_iload_n dX1_outWeight_4 rfl ?_
  refine a_callS_J dX1_outWeight_5 lk_RX1_39 mt_Rw_longAt sv_Rw_longAt (fun _ h => m_Rw_longAt h) rfl rfl ⟨rfl, rfl, rfl⟩ (fun q3 => ?_)
  exact AW.ret dX1_outWeight_8 rfl rfl
theorem m_Mr_outWeight {S : ba_S} {a0 : Nat} {a1 : Int32} {m : ba_M} {q : Int64 × ba_M} (h : f_Mr_outWeight S a0 a1 m = some q) : MA (Y_Mr_outWeight S) yX1_outWeight (some .long) [aR (some a0), aI a1] S m q :=
  ba_met ⟨by decide +kernel, rfl⟩ rfl (fun h => by cases h) (Or.inr (Or.inr (Or.inl ⟨rfl, rfl, _, rfl⟩))) rfl (h ▸ e_Mr_outWeight S a0 a1 m)

abbrev Y_Sh_copyOf (S : ba_S) : ba_Y (Option Nat × ba_M) := mN cX7_copyOf RX7 3 0 0 S
def f_Sh_copyOf_32 (S : ba_S) (s0 : Option Nat) (m : ba_M) : Option (Option Nat × ba_M) :=
  (some (s0, m))
set_option maxRecDepth 100000 in
theorem w_Sh_copyOf_32 {S : ba_S} : ∀ (s0 : Option Nat) (m : ba_M), AW (Y_Sh_copyOf S) 32 [none, none, none] [aR s0] S m (f_Sh_copyOf_32 S s0 m) := by
  intro s0 m
  unfold f_Sh_copyOf_32
  exact AW.ret dX7_copyOf_32 rfl rfl
def f_Sh_copyOf_31 (S : ba_S) (m : ba_M) : Option (Option Nat × ba_M) :=
  (f_Sh_copyOf_32 S none m)
set_option maxRecDepth 100000 in
theorem w_Sh_copyOf_31 {S : ba_S} : ∀ (m : ba_M), AW (Y_Sh_copyOf S) 31 [none, none, none] [] S m (f_Sh_copyOf_31 S m) := by
  intro m
  unfold f_Sh_copyOf_31
  refine a_aconst_null dX7_copyOf_31 ?_
  exact AW.weak (Lw_no (Lw_no (Lw_no Lw_end))) (w_Sh_copyOf_32 _ _)
def f_Sh_copyOf (S : ba_S) (a0 : Nat) (a1 : Int32) (m : ba_M) : Option (Option Nat × ba_M) :=
  cK S a0 6 ((if (((gI m a0 3) * (nI 5)) + a1) < 0 then (f_Sh_copyOf_31 S m) else (ldR S a0 1 23 fun r1 => (if (nI (kL S r1)) ≤ (((gI m a0 3) * (nI 5)) + a1) then (f_Sh_copyOf_31 S m) else (ldR S a0 1 23 fun r3 => (bD S r3 (((gI m a0 3) * (nI 5)) + a1) (ldR S r3 ((((gI m a0 3) * (nI 5)) + a1)).toNatClampNeg 9 fun r5 => (f_Sh_copyOf_32 S (some r5) m))))))))
set_option maxRecDepth 100000 in
theorem e_Sh_copyOf (S : ba_S) (a0 : Nat) (a1 : Int32) (m : ba_M) : AW (Y_Sh_copyOf S) 0 [some (aR (some a0)), some (aI a1), none] [] S m (f_Sh_copyOf S a0 a1 m) := by
  unfold f_Sh_copyOf
  refine AW.ck (fun g0 => ?_)
  refine a_aload_n dX7_copyOf_0 rfl ?_
  refine a_getI dX7_copyOf_1 fl_RX7_15 rfl g0 ?_
  refine a_iconst (v := nI 5) dX7_copyOf_4 (by decide) ?_
  refine a_imul dX7_copyOf_5 ?_
  refine a_iload_n dX7_copyOf_6 rfl ?_
  refine a_iadd dX7_copyOf_7 ?_
  refine a_istore_n dX7_copyOf_8 rfl rfl ?_
  refine a_iload_n dX7_copyOf_9 rfl ?_
  refine a_zlt (tgt := 31) dX7_copyOf_10 (by decide) (fun _ => ?_) (fun _ => ?_)
  · skip
    exact AW.weak (Lw_no (Lw_no (Lw_no Lw_end))) (w_Sh_copyOf_31 _)
  · skip
    refine a_iload_n dX7_copyOf_13 rfl ?_
    refine a_aload_n dX7_copyOf_14 rfl ?_
    refine a_getR dX7_copyOf_15 fl_RX7_29 rfl g0 (fun r1 h2 => ?_)
    refine a_alen dX7_copyOf_18 h2 (by decide) ?_
    refine a_ige (tgt := 31) dX7_copyOf_19 (by decide) (fun _ => ?_) (fun _ => ?_)
    · skip
      exact AW.weak (Lw_no (Lw_no (Lw_no Lw_end))) (w_Sh_copyOf_31 _)
    · skip
      refine a_aload_n dX7_copyOf_22 rfl ?_
      refine a_getR dX7_copyOf_23 fl_RX7_29 rfl g0 (fun r3 h4 => ?_)
      refine a_iload_n dX7_copyOf_26 rfl ?_
      refine a_tald dX7_copyOf_27 h4 (fun r5 h6 => ?_)
      refine a_goto (tgt := 32) dX7_copyOf_28 (by decide) ?_
      exact AW.weak (Lw_no (Lw_no (Lw_no Lw_end))) (w_Sh_copyOf_32 _ _)
theorem m_Sh_copyOf {S : ba_S} {a0 : Nat} {a1 : Int32} {m : ba_M} {q : Option Nat × ba_M} (h : f_Sh_copyOf S a0 a1 m = some q) : MA (Y_Sh_copyOf S) yX7_copyOf (some (.object "BallAndName$Told")) [aR (some a0), aI a1] S m q :=
  ba_met ⟨by decide +kernel, rfl⟩ rfl (fun h => by cases h) (Or.inr (Or.inr (Or.inr (Or.inr ⟨_, rfl, rfl, _, rfl⟩)))) rfl (h ▸ e_Sh_copyOf S a0 a1 m)

abbrev Y_Sh_putNewest (S : ba_S) : ba_Y (ba_M) := mV cX7_putNewest RX7 4 2 44 S
def f_Sh_putNewest_73 (S : ba_S) (k46 : Nat → Nat → Int32 → ba_M → Option (ba_M)) (v0 : Nat) (v1 : Nat) (v2 : Int32) (m : ba_M) : Option (ba_M) :=
  (k46 v0 v1 (v2 + (nI 1)) m)
set_option maxRecDepth 100000 in
theorem w_Sh_putNewest_73 {S : ba_S} {k46 : Nat → Nat → Int32 → ba_M → Option (ba_M)} (hk46 : ∀ (v0 : Nat) (v1 : Nat) (v2 : Int32) (m : ba_M), ck S v0 6 = true → ck S v1 0 = true → AW (Y_Sh_putNewest S) 46 [some (aR (some v0)), some (aR (some v1)), some (aI v2), none] [] S m (k46 v0 v1 v2 m)) : ∀ (v0 : Nat) (v1 : Nat) (v2 : Int32) (m : ba_M), ck S v0 6 = true → ck S v1 0 = true → AW (Y_Sh_putNewest S) 73 [some (aR (some v0)), some (aR (some v1)), some (aI v2), none] [] S m (f_Sh_putNewest_73 S k46 v0 v1 v2 m) := by
  intro v0 v1 v2 m g0 g1
  unfold f_Sh_putNewest_73
  refine a_iinc (v := nI 1) dX7_putNewest_73 rfl (by decide) rfl rfl ?_
  refine a_goto (tgt := 46) dX7_putNewest_76 (by decide) ?_
  exact AW.weak (Lw_so rfl (Lw_so rfl (Lw_so rfl (Lw_no Lw_end)))) (hk46 _ _ _ _ g0 g1)
def b_Sh_putNewest_46 (S : ba_S) (k46 : Nat → Nat → Int32 → ba_M → Option (ba_M)) (v0 : Nat) (v1 : Nat) (v2 : Int32) (m : ba_M) : Option (ba_M) :=
  (if (nI 5) ≤ v2 then (some m) else ((f_Sh_copyOf S v0 v2 m).bind fun q1 => (oN q1.1 (f_Sh_putNewest_73 S k46 v0 v1 v2 q1.2) (fun r4 => cK S r4 9 ((f_Ga_who S v1 v2 q1.2).bind fun q6 => cK S q6.1 2 (ldR S q6.1 0 9 fun r8 => ((f_To_copyFrom S r4 r8 q6.2).bind fun q10 => (f_Sh_putNewest_73 S k46 v0 v1 v2 q10))))))))
set_option maxRecDepth 100000 in
theorem w_Sh_putNewest_46 {S : ba_S} {k46 : Nat → Nat → Int32 → ba_M → Option (ba_M)} (hk46 : ∀ (v0 : Nat) (v1 : Nat) (v2 : Int32) (m : ba_M), ck S v0 6 = true → ck S v1 0 = true → AW (Y_Sh_putNewest S) 46 [some (aR (some v0)), some (aR (some v1)), some (aI v2), none] [] S m (k46 v0 v1 v2 m)) : ∀ (v0 : Nat) (v1 : Nat) (v2 : Int32) (m : ba_M), ck S v0 6 = true → ck S v1 0 = true → AW (Y_Sh_putNewest S) 46 [some (aR (some v0)), some (aR (some v1)), some (aI v2), none] [] S m (b_Sh_putNewest_46 S k46 v0 v1 v2 m) := by
  intro v0 v1 v2 m g0 g1
  unfold b_Sh_putNewest_46
  refine a_iload_n dX7_putNewest_46 rfl ?_
  refine a_iconst (v := nI 5) dX7_putNewest_47 (by decide) ?_
  refine a_ige (tgt := 79) dX7_putNewest_48 (by decide) (fun _ => ?_) (fun _ => ?_)
  · skip
    exact AW.ret dX7_putNewest_79 rfl rfl
  · skip
    refine a_aload_n dX7_putNewest_51 rfl ?_
    refine a_iload_n dX7_putNewest_52 rfl ?_
    refine a_callV_N dX7_putNewest_53 lk_RX7_37 mt_Sh_copyOf vt_Sh_copyOf ⟨_, rfl, rfl⟩ (fun _ h => m_Sh_copyOf h) rfl rfl g0 ⟨rfl, rfl, rfl⟩ (fun q1 => ?_)
    obtain ⟨x2, m3⟩ := q1
    refine a_astore_n dX7_putNewest_56 rfl rfl ?_
    refine a_aload_n dX7_putNewest_57 rfl ?_
    refine a_ifnull (tgt := 73) dX7_putNewest_58 (by decide) (fun _ => ?_) (fun r4 e => ?_)
    · skip
      exact AW.weak (Lw_so rfl (Lw_so rfl (Lw_so rfl (Lw_no Lw_end)))) (w_Sh_putNewest_73 hk46 _ _ _ _ g0 g1)
    · have e : x2 = some r4 := e
      subst e
      refine AW.ck (fun h5 => ?_)
      refine a_aload_n dX7_putNewest_61 rfl ?_
      refine a_aload_n dX7_putNewest_62 rfl ?_
      refine a_iload_n dX7_putNewest_63 rfl ?_
      refine a_callV_R dX7_putNewest_64 lk_RX7_41 mt_Ga_who vt_Ga_who ⟨_, rfl, rfl⟩ (fun _ h => m_Ga_who h) rfl rfl g1 ⟨rfl, rfl, rfl⟩ (fun q6 => ?_)
      refine AW.ck (fun h7 => ?_)
      refine a_getR dX7_putNewest_67 fl_RX7_47 rfl h7 (fun r8 h9 => ?_)
      refine a_callV_V dX7_putNewest_70 lk_RX7_53 mt_To_copyFrom vt_To_copyFrom ⟨_, rfl, rfl⟩ (fun _ h => m_To_copyFrom h) rfl rfl h5 ⟨rfl, rfl, rfl⟩ (fun q10 => ?_)
      exact AW.weak (Lw_so rfl (Lw_so rfl (Lw_so rfl (Lw_no Lw_end)))) (w_Sh_putNewest_73 hk46 _ _ _ _ g0 g1)
def f_Sh_putNewest_46 (S : ba_S) : Nat → Nat → Int32 → ba_M → Option (ba_M) := fx (fun _ _ _ _ => none) (b_Sh_putNewest_46 S) FU
theorem l_Sh_putNewest_46 {S : ba_S} : ∀ (n : Nat) (v0 : Nat) (v1 : Nat) (v2 : Int32) (m : ba_M), ck S v0 6 = true → ck S v1 0 = true → AW (Y_Sh_putNewest S) 46 [some (aR (some v0)), some (aR (some v1)), some (aI v2), none] [] S m ((fx (F := Nat → Nat → Int32 → ba_M → Option (ba_M)) (fun _ _ _ _ => none) (b_Sh_putNewest_46 S) n) v0 v1 v2 m) := by
  intro n
  induction n with
  | zero => intro _ _ _ _ _ _; exact AW.none
  | succ n ih => exact w_Sh_putNewest_46 ih
def f_Sh_putNewest_24 (S : ba_S) (v0 : Nat) (v1 : Nat) (s0 : Nat) (s1 : Int32) (m : ba_M) : Option (ba_M) :=
  (f_Sh_putNewest_46 S v0 v1 (nI 0) (wI (wI m s0 3 s1) v0 2 (jmin (gI (wI m s0 3 s1) v0 0) ((gI (wI m s0 3 s1) v0 2) + (nI 1)))))
set_option maxRecDepth 100000 in
theorem w_Sh_putNewest_24 {S : ba_S} : ∀ (v0 : Nat) (v1 : Nat) (s0 : Nat) (s1 : Int32) (m : ba_M), ck S v0 6 = true → ck S v1 0 = true → ck S s0 6 = true → AW (Y_Sh_putNewest S) 24 [some (aR (some v0)), some (aR (some v1)), none, none] [aI s1, aR (some s0)] S m (f_Sh_putNewest_24 S v0 v1 s0 s1 m) := by
  intro v0 v1 s0 s1 m g0 g1 gs0
  unfold f_Sh_putNewest_24
  refine a_putI dX7_putNewest_24 fl_RX7_15 (rfl : _ = FieldType.int) rfl rfl rfl gs0 ?_
  refine a_aload_n dX7_putNewest_27 rfl ?_
  refine a_aload_n dX7_putNewest_28 rfl ?_
  refine a_getI dX7_putNewest_29 fl_RX7_24 rfl g0 ?_
  refine a_aload_n dX7_putNewest_32 rfl ?_
  refine a_getI dX7_putNewest_33 fl_RX7_9 rfl g0 ?_
  refine a_iconst (v := nI 1) dX7_putNewest_36 (by decide) ?_
  refine a_iadd dX7_putNewest_37 ?_
  refine a_min dX7_putNewest_38 lk_RX7_34 rfl rfl rfl ?_
  refine a_putI dX7_putNewest_41 fl_RX7_9 (rfl : _ = FieldType.int) rfl rfl rfl g0 ?_
  refine a_iconst (v := nI 0) dX7_putNewest_44 (by decide) ?_
  refine a_istore_n dX7_putNewest_45 rfl rfl ?_
  exact AW.weak (Lw_so rfl (Lw_so rfl (Lw_so rfl (Lw_no Lw_end)))) (l_Sh_putNewest_46 FU _ _ _ _ g0 g1)
def f_Sh_putNewest (S : ba_S) (a0 : Nat) (a1 : Nat) (m : ba_M) : Option (ba_M) :=
  cK S a0 6 (cK S a1 0 ((if (gI m a0 0) ≤ ((gI m a0 3) + (nI 1)) then (f_Sh_putNewest_24 S a0 a1 a0 (nI 0) m) else (f_Sh_putNewest_24 S a0 a1 a0 ((gI m a0 3) + (nI 1)) m))))
set_option maxRecDepth 100000 in
theorem e_Sh_putNewest (S : ba_S) (a0 : Nat) (a1 : Nat) (m : ba_M) : AW (Y_Sh_putNewest S) 0 [some (aR (some a0)), some (aR (some a1)), none, none] [] S m (f_Sh_putNewest S a0 a1 m) := by
  unfold f_Sh_putNewest
  refine AW.ck (fun g0 => ?_)
  refine AW.ck (fun g1 => ?_)
  refine a_aload_n dX7_putNewest_0 rfl ?_
  refine a_aload_n dX7_putNewest_1 rfl ?_
  refine a_getI dX7_putNewest_2 fl_RX7_15 rfl g0 ?_
  refine a_iconst (v := nI 1) dX7_putNewest_5 (by decide) ?_
  refine a_iadd dX7_putNewest_6 ?_
  refine a_aload_n dX7_putNewest_7 rfl ?_
  refine a_getI dX7_putNewest_8 fl_RX7_24 rfl g0 ?_
  refine a_ige (tgt := 23) dX7_putNewest_11 (by decide) (fun _ => ?_) (fun _ => ?_)
  · skip
    refine a_iconst (v := nI 0) dX7_putNewest_23 (by decide) ?_
    exact AW.weak (Lw_so rfl (Lw_so rfl (Lw_no (Lw_no Lw_end)))) (w_Sh_putNewest_24 _ _ _ _ _ g0 g1 g0)
  · skip
    refine a_aload_n dX7_putNewest_14 rfl ?_
    refine a_getI dX7_putNewest_15 fl_RX7_15 rfl g0 ?_
    refine a_iconst (v := nI 1) dX7_putNewest_18 (by decide) ?_
    refine a_iadd dX7_putNewest_19 ?_
    refine a_goto (tgt := 24) dX7_putNewest_20 (by decide) ?_
    exact AW.weak (Lw_so rfl (Lw_so rfl (Lw_no (Lw_no Lw_end)))) (w_Sh_putNewest_24 _ _ _ _ _ g0 g1 g0)
theorem m_Sh_putNewest {S : ba_S} {a0 : Nat} {a1 : Nat} {m : ba_M} {q : ba_M} (h : f_Sh_putNewest S a0 a1 m = some q) : MA (Y_Sh_putNewest S) yX7_putNewest none [aR (some a0), aR (some a1)] S m q :=
  ba_met ⟨by decide +kernel, rfl⟩ rfl (fun h => by cases h) (Or.inr (Or.inr (Or.inr (Or.inl ⟨rfl, rfl, rfl⟩)))) rfl (h ▸ e_Sh_putNewest S a0 a1 m)

abbrev Y_Sh_takeNewest (S : ba_S) : ba_Y (ba_M) := mV cX7_takeNewest RX7 4 2 44 S
def f_Sh_takeNewest_66 (S : ba_S) (v0 : Nat) (s0 : Nat) (s1 : Int32) (m : ba_M) : Option (ba_M) :=
  (some (wI (wI m s0 3 s1) v0 2 ((gI (wI m s0 3 s1) v0 2) - (nI 1))))
set_option maxRecDepth 100000 in
theorem w_Sh_takeNewest_66 {S : ba_S} : ∀ (v0 : Nat) (s0 : Nat) (s1 : Int32) (m : ba_M), ck S v0 6 = true → ck S s0 6 = true → AW (Y_Sh_takeNewest S) 66 [some (aR (some v0)), none, none, none] [aI s1, aR (some s0)] S m (f_Sh_takeNewest_66 S v0 s0 s1 m) := by
  intro v0 s0 s1 m g0 gs0
  unfold f_Sh_takeNewest_66
  refine a_putI dX7_takeNewest_66 fl_RX7_15 (rfl : _ = FieldType.int) rfl rfl rfl gs0 ?_
  refine a_aload_n dX7_takeNewest_69 rfl ?_
  refine a_dup dX7_takeNewest_70 rfl ?_
  refine a_getI dX7_takeNewest_71 fl_RX7_9 rfl g0 ?_
  refine a_iconst (v := nI 1) dX7_takeNewest_74 (by decide) ?_
  refine a_isub dX7_takeNewest_75 ?_
  refine a_putI dX7_takeNewest_76 fl_RX7_9 (rfl : _ = FieldType.int) rfl rfl rfl g0 ?_
  exact AW.ret dX7_takeNewest_79 rfl rfl
def f_Sh_takeNewest_37 (S : ba_S) (k10 : Nat → Nat → Int32 → ba_M → Option (ba_M)) (v0 : Nat) (v1 : Nat) (v2 : Int32) (m : ba_M) : Option (ba_M) :=
  (k10 v0 v1 (v2 + (nI 1)) m)
set_option maxRecDepth 100000 in
theorem w_Sh_takeNewest_37 {S : ba_S} {k10 : Nat → Nat → Int32 → ba_M → Option (ba_M)} (hk10 : ∀ (v0 : Nat) (v1 : Nat) (v2 : Int32) (m : ba_M), ck S v0 6 = true → ck S v1 0 = true → AW (Y_Sh_takeNewest S) 10 [some (aR (some v0)), some (aR (some v1)), some (aI v2), none] [] S m (k10 v0 v1 v2 m)) : ∀ (v0 : Nat) (v1 : Nat) (v2 : Int32) (m : ba_M), ck S v0 6 = true → ck S v1 0 = true → AW (Y_Sh_takeNewest S) 37 [some (aR (some v0)), some (aR (some v1)), some (aI v2), none] [] S m (f_Sh_takeNewest_37 S k10 v0 v1 v2 m) := by
  intro v0 v1 v2 m g0 g1
  unfold f_Sh_takeNewest_37
  refine a_iinc (v := nI 1) dX7_takeNewest_37 rfl (by decide) rfl rfl ?_
  refine a_goto (tgt := 10) dX7_takeNewest_40 (by decide) ?_
  exact AW.weak (Lw_so rfl (Lw_so rfl (Lw_so rfl (Lw_no Lw_end)))) (hk10 _ _ _ _ g0 g1)
def b_Sh_takeNewest_10 (S : ba_S) (k10 : Nat → Nat → Int32 → ba_M → Option (ba_M)) (v0 : Nat) (v1 : Nat) (v2 : Int32) (m : ba_M) : Option (ba_M) :=
  (if (nI 5) ≤ v2 then (if (gI m v0 3) ≤ 0 then (f_Sh_takeNewest_66 S v0 v0 ((gI m v0 0) - (nI 1)) m) else (f_Sh_takeNewest_66 S v0 v0 ((gI m v0 3) - (nI 1)) m)) else ((f_Sh_copyOf S v0 v2 m).bind fun q1 => (oN q1.1 (f_Sh_takeNewest_37 S k10 v0 v1 v2 q1.2) (fun r4 => cK S r4 9 ((f_Ga_who S v1 v2 q1.2).bind fun q6 => cK S q6.1 2 (ldR S q6.1 0 9 fun r8 => ((f_To_copyFrom S r8 r4 q6.2).bind fun q10 => (f_Sh_takeNewest_37 S k10 v0 v1 v2 q10))))))))
set_option maxRecDepth 100000 in
theorem w_Sh_takeNewest_10 {S : ba_S} {k10 : Nat → Nat → Int32 → ba_M → Option (ba_M)} (hk10 : ∀ (v0 : Nat) (v1 : Nat) (v2 : Int32) (m : ba_M), ck S v0 6 = true → ck S v1 0 = true → AW (Y_Sh_takeNewest S) 10 [some (aR (some v0)), some (aR (some v1)), some (aI v2), none] [] S m (k10 v0 v1 v2 m)) : ∀ (v0 : Nat) (v1 : Nat) (v2 : Int32) (m : ba_M), ck S v0 6 = true → ck S v1 0 = true → AW (Y_Sh_takeNewest S) 10 [some (aR (some v0)), some (aR (some v1)), some (aI v2), none] [] S m (b_Sh_takeNewest_10 S k10 v0 v1 v2 m) := by
  intro v0 v1 v2 m g0 g1
  unfold b_Sh_takeNewest_10
  refine a_iload_n dX7_takeNewest_10 rfl ?_
  refine a_iconst (v := nI 5) dX7_takeNewest_11 (by decide) ?_
  refine a_ige (tgt := 43) dX7_takeNewest_12 (by decide) (fun _ => ?_) (fun _ => ?_)
  · skip
    refine a_aload_n dX7_takeNewest_43 rfl ?_
    refine a_aload_n dX7_takeNewest_44 rfl ?_
    refine a_getI dX7_takeNewest_45 fl_RX7_15 rfl g0 ?_
    refine a_zle (tgt := 60) dX7_takeNewest_48 (by decide) (fun _ => ?_) (fun _ => ?_)
    · skip
      refine a_aload_n dX7_takeNewest_60 rfl ?_
      refine a_getI dX7_takeNewest_61 fl_RX7_24 rfl g0 ?_
      refine a_iconst (v := nI 1) dX7_takeNewest_64 (by decide) ?_
      refine a_isub dX7_takeNewest_65 ?_
      exact AW.weak (Lw_so rfl (Lw_no (Lw_no (Lw_no Lw_end)))) (w_Sh_takeNewest_66 _ _ _ _ g0 g0)
    · skip
      refine a_aload_n dX7_takeNewest_51 rfl ?_
      refine a_getI dX7_takeNewest_52 fl_RX7_15 rfl g0 ?_
      refine a_iconst (v := nI 1) dX7_takeNewest_55 (by decide) ?_
      refine a_isub dX7_takeNewest_56 ?_
      refine a_goto (tgt := 66) dX7_takeNewest_57 (by decide) ?_
      exact AW.weak (Lw_so rfl (Lw_no (Lw_no (Lw_no Lw_end)))) (w_Sh_takeNewest_66 _ _ _ _ g0 g0)
  · skip
    refine a_aload_n dX7_takeNewest_15 rfl ?_
    refine a_iload_n dX7_takeNewest_16 rfl ?_
    refine a_callV_N dX7_takeNewest_17 lk_RX7_37 mt_Sh_copyOf vt_Sh_copyOf ⟨_, rfl, rfl⟩ (fun _ h => m_Sh_copyOf h) rfl rfl g0 ⟨rfl, rfl, rfl⟩ (fun q1 => ?_)
    obtain ⟨x2, m3⟩ := q1
    refine a_astore_n dX7_takeNewest_20 rfl rfl ?_
    refine a_aload_n dX7_takeNewest_21 rfl ?_
    refine a_ifnull (tgt := 37) dX7_takeNewest_22 (by decide) (fun _ => ?_) (fun r4 e => ?_)
    · skip
      exact AW.weak (Lw_so rfl (Lw_so rfl (Lw_so rfl (Lw_no Lw_end)))) (w_Sh_takeNewest_37 hk10 _ _ _ _ g0 g1)
    · have e : x2 = some r4 := e
      subst e
      refine AW.ck (fun h5 => ?_)
      refine a_aload_n dX7_takeNewest_25 rfl ?_
      refine a_iload_n dX7_takeNewest_26 rfl ?_
      refine a_callV_R dX7_takeNewest_27 lk_RX7_41 mt_Ga_who vt_Ga_who ⟨_, rfl, rfl⟩ (fun _ h => m_Ga_who h) rfl rfl g1 ⟨rfl, rfl, rfl⟩ (fun q6 => ?_)
      refine AW.ck (fun h7 => ?_)
      refine a_getR dX7_takeNewest_30 fl_RX7_47 rfl h7 (fun r8 h9 => ?_)
      refine a_aload_n dX7_takeNewest_33 rfl ?_
      refine a_callV_V dX7_takeNewest_34 lk_RX7_53 mt_To_copyFrom vt_To_copyFrom ⟨_, rfl, rfl⟩ (fun _ h => m_To_copyFrom h) rfl rfl h9 ⟨rfl, rfl, rfl⟩ (fun q10 => ?_)
      exact AW.weak (Lw_so rfl (Lw_so rfl (Lw_so rfl (Lw_no Lw_end)))) (w_Sh_takeNewest_37 hk10 _ _ _ _ g0 g1)
def f_Sh_takeNewest_10 (S : ba_S) : Nat → Nat → Int32 → ba_M → Option (ba_M) := fx (fun _ _ _ _ => none) (b_Sh_takeNewest_10 S) FU
theorem l_Sh_takeNewest_10 {S : ba_S} : ∀ (n : Nat) (v0 : Nat) (v1 : Nat) (v2 : Int32) (m : ba_M), ck S v0 6 = true → ck S v1 0 = true → AW (Y_Sh_takeNewest S) 10 [some (aR (some v0)), some (aR (some v1)), some (aI v2), none] [] S m ((fx (F := Nat → Nat → Int32 → ba_M → Option (ba_M)) (fun _ _ _ _ => none) (b_Sh_takeNewest_10 S) n) v0 v1 v2 m) := by
  intro n
  induction n with
  | zero => intro _ _ _ _ _ _; exact AW.none
  | succ n ih => exact w_Sh_takeNewest_10 ih
def f_Sh_takeNewest (S : ba_S) (a0 : Nat) (a1 : Nat) (m : ba_M) : Option (ba_M) :=
  cK S a0 6 (cK S a1 0 ((if (gI m a0 2) = 0 then (some m) else (f_Sh_takeNewest_10 S a0 a1 (nI 0) m))))
set_option maxRecDepth 100000 in
theorem e_Sh_takeNewest (S : ba_S) (a0 : Nat) (a1 : Nat) (m : ba_M) : AW (Y_Sh_takeNewest S) 0 [some (aR (some a0)), some (aR (some a1)), none, none] [] S m (f_Sh_takeNewest S a0 a1 m) := by
  unfold f_Sh_takeNewest
  refine AW.ck (fun g0 => ?_)
  refine AW.ck (fun g1 => ?_)
  refine a_aload_n dX7_takeNewest_0 rfl ?_
  refine a_getI dX7_takeNewest_1 fl_RX7_9 rfl g0 ?_
  refine a_zne (tgt := 8) dX7_takeNewest_4 (by decide) (fun _ => ?_) (fun _ => ?_)
  · skip
    refine a_iconst (v := nI 0) dX7_takeNewest_8 (by decide) ?_
    refine a_istore_n dX7_takeNewest_9 rfl rfl ?_
    exact AW.weak (Lw_so rfl (Lw_so rfl (Lw_so rfl (Lw_no Lw_end)))) (l_Sh_takeNewest_10 FU _ _ _ _ g0 g1)
  · skip
    exact AW.ret dX7_takeNewest_7 rfl rfl
theorem m_Sh_takeNewest {S : ba_S} {a0 : Nat} {a1 : Nat} {m : ba_M} {q : ba_M} (h : f_Sh_takeNewest S a0 a1 m = some q) : MA (Y_Sh_takeNewest S) yX7_takeNewest none [aR (some a0), aR (some a1)] S m q :=
  ba_met ⟨by decide +kernel, rfl⟩ rfl (fun h => by cases h) (Or.inr (Or.inr (Or.inr (Or.inl ⟨rfl, rfl, rfl⟩)))) rfl (h ▸ e_Sh_takeNewest S a0 a1 m)

abbrev Y_Si_add (S : ba_S) : ba_Y (Int32 × ba_M) := mI cX8_add RX8 4 1 22 S
def f_Si_add (S : ba_S) (a0 : Nat) (a1 : Int32) (a2 : Int32) (a3 : Int32) (m : ba_M) : Option (Int32 × ba_M) :=
  cK S a0 7 ((ldR S a0 0 20 fun r1 => ((f_Rw_put S r1 (gI m a0 3) a1 m).bind fun q3 => (ldR S a0 1 20 fun r4 => ((f_Rw_put S r4 (gI q3 a0 3) a2 q3).bind fun q6 => (ldR S a0 2 20 fun r7 => ((f_Rw_put S r7 (gI q6 a0 3) a3 q6).bind fun q9 => (some ((gI (wI q9 a0 3 ((gI q9 a0 3) + (nI 1))) a0 3), (wI q9 a0 3 ((gI q9 a0 3) + (nI 1))))))))))))
set_option maxRecDepth 100000 in
theorem e_Si_add (S : ba_S) (a0 : Nat) (a1 : Int32) (a2 : Int32) (a3 : Int32) (m : ba_M) : AW (Y_Si_add S) 0 [some (aR (some a0)), some (aI a1), some (aI a2), some (aI a3)] [] S m (f_Si_add S a0 a1 a2 a3 m) := by
  unfold f_Si_add
  refine AW.ck (fun g0 => ?_)
  refine a_aload_n dX8_add_0 rfl ?_
  refine a_getR dX8_add_1 fl_RX8_9 rfl g0 (fun r1 h2 => ?_)
  refine a_aload_n dX8_add_4 rfl ?_
  refine a_getI dX8_add_5 fl_RX8_21 rfl g0 ?_
  refine a_iload_n dX8_add_8 rfl ?_
  refine a_callS_V dX8_add_9 lk_RX8_25 mt_Rw_put sv_Rw_put (fun _ h => m_Rw_put h) rfl rfl ⟨rfl, rfl, rfl⟩ (fun q3 => ?_)
  refine a_aload_n dX8_add_12 rfl ?_
  refine a_getR dX8_add_13 fl_RX8_15 rfl g0 (fun r4 h5 => ?_)
  refine a_aload_n dX8_add_16 rfl ?_
  refine a_getI dX8_add_17 fl_RX8_21 rfl g0 ?_
  refine a_iload_n dX8_add_20 rfl ?_
  refine a_callS_V dX8_add_21 lk_RX8_25 mt_Rw_put sv_Rw_put (fun _ h => m_Rw_put h) rfl rfl ⟨rfl, rfl, rfl⟩ (fun q6 => ?_)
  refine a_aload_n dX8_add_24 rfl ?_
  refine a_getR dX8_add_25 fl_RX8_18 rfl g0 (fun r7 h8 => ?_)
  refine a_aload_n dX8_add_28 rfl ?_
  refine a_getI dX8_add_29 fl_RX8_21 rfl g0 ?_
  refine a_iload_n dX8_add_32 rfl ?_
  refine a_callS_V dX8_add_33 lk_RX8_25 mt_Rw_put sv_Rw_put (fun _ h => m_Rw_put h) rfl rfl ⟨rfl, rfl, rfl⟩ (fun q9 => ?_)
  refine a_aload_n dX8_add_36 rfl ?_
  refine a_dup dX8_add_37 rfl ?_
  refine a_getI dX8_add_38 fl_RX8_21 rfl g0 ?_
  refine a_iconst (v := nI 1) dX8_add_41 (by decide) ?_
  refine a_iadd dX8_add_42 ?_
  refine a_putI dX8_add_43 fl_RX8_21 (rfl : _ = FieldType.int) rfl rfl rfl g0 ?_
  refine a_aload_n dX8_add_46 rfl ?_
  refine a_getI dX8_add_47 fl_RX8_21 rfl g0 ?_
  exact AW.ret dX8_add_50 rfl rfl
theorem m_Si_add {S : ba_S} {a0 : Nat} {a1 : Int32} {a2 : Int32} {a3 : Int32} {m : ba_M} {q : Int32 × ba_M} (h : f_Si_add S a0 a1 a2 a3 m = some q) : MA (Y_Si_add S) yX8_add (some .int) [aR (some a0), aI a1, aI a2, aI a3] S m q :=
  ba_met ⟨by decide +kernel, rfl⟩ rfl (fun h => by cases h) (Or.inl ⟨rfl, rfl, _, rfl⟩) rfl (h ▸ e_Si_add S a0 a1 a2 a3 m)

abbrev Y_Si_allAreSo (S : ba_S) : ba_Y (Bool × ba_M) := mZ cX8_allAreSo RX8 5 5 117 S
def f_Si_allAreSo_63 (S : ba_S) (k3 : Nat → Int32 → Int32 → Nat → Int32 → ba_M → Option (Bool × ba_M)) (v0 : Nat) (v1 : Int32) (v2 : Int32) (v3 : Nat) (v4 : Int32) (m : ba_M) : Option (Bool × ba_M) :=
  (k3 v0 v1 v2 v3 (v4 + (nI 1)) m)
set_option maxRecDepth 100000 in
theorem w_Si_allAreSo_63 {S : ba_S} {k3 : Nat → Int32 → Int32 → Nat → Int32 → ba_M → Option (Bool × ba_M)} (hk3 : ∀ (v0 : Nat) (v1 : Int32) (v2 : Int32) (v3 : Nat) (v4 : Int32) (m : ba_M), ck S v0 7 = true → ck S v3 4 = true → AW (Y_Si_allAreSo S) 3 [some (aR (some v0)), some (aI v1), some (aI v2), some (aR (some v3)), some (aI v4)] [] S m (k3 v0 v1 v2 v3 v4 m)) : ∀ (v0 : Nat) (v1 : Int32) (v2 : Int32) (v3 : Nat) (v4 : Int32) (m : ba_M), ck S v0 7 = true → ck S v3 4 = true → AW (Y_Si_allAreSo S) 63 [some (aR (some v0)), some (aI v1), some (aI v2), some (aR (some v3)), some (aI v4)] [] S m (f_Si_allAreSo_63 S k3 v0 v1 v2 v3 v4 m) := by
  intro v0 v1 v2 v3 v4 m g0 g3
  unfold f_Si_allAreSo_63
  refine a_iinc (v := nI 1) dX8_allAreSo_63 rfl (by decide) rfl rfl ?_
  refine a_goto (tgt := 3) dX8_allAreSo_66 (by decide) ?_
  exact AW.weak (Lw_so rfl (Lw_so rfl (Lw_so rfl (Lw_so rfl (Lw_so rfl Lw_end))))) (hk3 _ _ _ _ _ _ g0 g3)
def b_Si_allAreSo_3 (S : ba_S) (k3 : Nat → Int32 → Int32 → Nat → Int32 → ba_M → Option (Bool × ba_M)) (v0 : Nat) (v1 : Int32) (v2 : Int32) (v3 : Nat) (v4 : Int32) (m : ba_M) : Option (Bool × ba_M) :=
  (if (gI m v0 3) ≤ v4 then (some (true, m)) else (ldR S v0 1 20 fun r1 => ((f_Rw_at S r1 v4 m).bind fun q3 => (if q3.1 = v1 then (ldR S v0 0 20 fun r4 => ((f_Rw_at S r4 v4 q3.2).bind fun q6 => ((f_Ro_playAsTold S v3 q6.1 q6.2).bind fun q7 => ((f_Ro_suppose S v3 v1 v2 q7).bind fun q8 => ((f_Ro_standOf S v3 v1 q8).bind fun q9 => (ldR S v0 2 20 fun r10 => ((f_Rw_at S r10 v4 q9.2).bind fun q12 => (if q9.1 = q12.1 then (f_Si_allAreSo_63 S k3 v0 v1 v2 v3 v4 q12.2) else (some (false, q12.2)))))))))) else (f_Si_allAreSo_63 S k3 v0 v1 v2 v3 v4 q3.2)))))
set_option maxRecDepth 100000 in
theorem w_Si_allAreSo_3 {S : ba_S} {k3 : Nat → Int32 → Int32 → Nat → Int32 → ba_M → Option (Bool × ba_M)} (hk3 : ∀ (v0 : Nat) (v1 : Int32) (v2 : Int32) (v3 : Nat) (v4 : Int32) (m : ba_M), ck S v0 7 = true → ck S v3 4 = true → AW (Y_Si_allAreSo S) 3 [some (aR (some v0)), some (aI v1), some (aI v2), some (aR (some v3)), some (aI v4)] [] S m (k3 v0 v1 v2 v3 v4 m)) : ∀ (v0 : Nat) (v1 : Int32) (v2 : Int32) (v3 : Nat) (v4 : Int32) (m : ba_M), ck S v0 7 = true → ck S v3 4 = true → AW (Y_Si_allAreSo S) 3 [some (aR (some v0)), some (aI v1), some (aI v2), some (aR (some v3)), some (aI v4)] [] S m (b_Si_allAreSo_3 S k3 v0 v1 v2 v3 v4 m) := by
  intro v0 v1 v2 v3 v4 m g0 g3
  unfold b_Si_allAreSo_3
  refine a_iload dX8_allAreSo_3 rfl ?_
  refine a_aload_n dX8_allAreSo_5 rfl ?_
  refine a_getI dX8_allAreSo_6 fl_RX8_21 rfl g0 ?_
  refine a_ige (tgt := 69) dX8_allAreSo_9 (by decide) (fun _ => ?_) (fun _ => ?_)
  · skip
    refine a_iconst (v := nI 1) dX8_allAreSo_69 (by decide) ?_
    exact AW.ret dX8_allAreSo_70 rfl rfl
  · skip
    refine a_aload_n dX8_allAreSo_12 rfl ?_
    refine a_getR dX8_allAreSo_13 fl_RX8_15 rfl g0 (fun r1 h2 => ?_)
    refine a_iload dX8_allAreSo_16 rfl ?_
    refine a_callS_I dX8_allAreSo_18 lk_RX8_35 mt_Rw_at sv_Rw_at (fun _ h => m_Rw_at h) rfl rfl ⟨rfl, rfl, rfl⟩ (fun q3 => ?_)
    refine a_iload_n dX8_allAreSo_21 rfl ?_
    refine a_ine (tgt := 63) dX8_allAreSo_22 (by decide) (fun _ => ?_) (fun _ => ?_)
    · skip
      exact AW.weak (Lw_so rfl (Lw_so rfl (Lw_so rfl (Lw_so rfl (Lw_so rfl Lw_end))))) (w_Si_allAreSo_63 hk3 _ _ _ _ _ _ g0 g3)
    · skip
      refine a_aload_n dX8_allAreSo_25 rfl ?_
      refine a_aload_n dX8_allAreSo_26 rfl ?_
      refine a_getR dX8_allAreSo_27 fl_RX8_9 rfl g0 (fun r4 h5 => ?_)
      refine a_iload dX8_allAreSo_30 rfl ?_
      refine a_callS_I dX8_allAreSo_32 lk_RX8_35 mt_Rw_at sv_Rw_at (fun _ h => m_Rw_at h) rfl rfl ⟨rfl, rfl, rfl⟩ (fun q6 => ?_)
      refine a_callV_V dX8_allAreSo_35 lk_RX8_39 mt_Ro_playAsTold vt_Ro_playAsTold ⟨_, rfl, rfl⟩ (fun _ h => m_Ro_playAsTold h) rfl rfl g3 ⟨rfl, rfl, rfl⟩ (fun q7 => ?_)
      refine a_aload_n dX8_allAreSo_38 rfl ?_
      refine a_iload_n dX8_allAreSo_39 rfl ?_
      refine a_iload_n dX8_allAreSo_40 rfl ?_
      refine a_callV_V dX8_allAreSo_41 lk_RX8_45 mt_Ro_suppose vt_Ro_suppose ⟨_, rfl, rfl⟩ (fun _ h => m_Ro_suppose h) rfl rfl g3 ⟨rfl, rfl, rfl⟩ (fun q8 => ?_)
      refine a_aload_n dX8_allAreSo_44 rfl ?_
      refine a_iload_n dX8_allAreSo_45 rfl ?_
      refine a_callV_I dX8_allAreSo_46 lk_RX8_49 mt_Ro_standOf vt_Ro_standOf ⟨_, rfl, rfl⟩ (fun _ h => m_Ro_standOf h) rfl rfl g3 ⟨rfl, rfl, rfl⟩ (fun q9 => ?_)
      refine a_aload_n dX8_allAreSo_49 rfl ?_
      refine a_getR dX8_allAreSo_50 fl_RX8_18 rfl g0 (fun r10 h11 => ?_)
      refine a_iload dX8_allAreSo_53 rfl ?_
      refine a_callS_I dX8_allAreSo_55 lk_RX8_35 mt_Rw_at sv_Rw_at (fun _ h => m_Rw_at h) rfl rfl ⟨rfl, rfl, rfl⟩ (fun q12 => ?_)
      refine a_ieq (tgt := 63) dX8_allAreSo_58 (by decide) (fun _ => ?_) (fun _ => ?_)
      · skip
        exact AW.weak (Lw_so rfl (Lw_so rfl (Lw_so rfl (Lw_so rfl (Lw_so rfl Lw_end))))) (w_Si_allAreSo_63 hk3 _ _ _ _ _ _ g0 g3)
      · skip
        refine a_iconst (v := nI 0) dX8_allAreSo_61 (by decide) ?_
        exact AW.ret dX8_allAreSo_62 rfl rfl
def f_Si_allAreSo_3 (S : ba_S) : Nat → Int32 → Int32 → Nat → Int32 → ba_M → Option (Bool × ba_M) := fx (fun _ _ _ _ _ _ => none) (b_Si_allAreSo_3 S) FU
theorem l_Si_allAreSo_3 {S : ba_S} : ∀ (n : Nat) (v0 : Nat) (v1 : Int32) (v2 : Int32) (v3 : Nat) (v4 : Int32) (m : ba_M), ck S v0 7 = true → ck S v3 4 = true → AW (Y_Si_allAreSo S) 3 [some (aR (some v0)), some (aI v1), some (aI v2), some (aR (some v3)), some (aI v4)] [] S m ((fx (F := Nat → Int32 → Int32 → Nat → Int32 → ba_M → Option (Bool × ba_M)) (fun _ _ _ _ _ _ => none) (b_Si_allAreSo_3 S) n) v0 v1 v2 v3 v4 m) := by
  intro n
  induction n with
  | zero => intro _ _ _ _ _ _ _ _; exact AW.none
  | succ n ih => exact w_Si_allAreSo_3 ih
def f_Si_allAreSo (S : ba_S) (a0 : Nat) (a1 : Int32) (a2 : Int32) (a3 : Nat) (m : ba_M) : Option (Bool × ba_M) :=
  cK S a0 7 (cK S a3 4 ((f_Si_allAreSo_3 S a0 a1 a2 a3 (nI 0) m)))
set_option maxRecDepth 100000 in
theorem e_Si_allAreSo (S : ba_S) (a0 : Nat) (a1 : Int32) (a2 : Int32) (a3 : Nat) (m : ba_M) : AW (Y_Si_allAreSo S) 0 [some (aR (some a0)), some (aI a1), some (aI a2), some (aR (some a3)), none] [] S m (f_Si_allAreSo S a0 a1 a2 a3 m) := by
  unfold f_Si_allAreSo
  refine AW.ck (fun g0 => ?_)
  refine AW.ck (fun g3 => ?_)
  refine a_iconst (v := nI 0) dX8_allAreSo_0 (by decide) ?_
  refine a_istore dX8_allAreSo_1 rfl rfl ?_
  exact AW.weak (Lw_so rfl (Lw_so rfl (Lw_so rfl (Lw_so rfl (Lw_so rfl Lw_end))))) (l_Si_allAreSo_3 FU _ _ _ _ _ _ g0 g3)
theorem m_Si_allAreSo {S : ba_S} {a0 : Nat} {a1 : Int32} {a2 : Int32} {a3 : Nat} {m : ba_M} {q : Bool × ba_M} (h : f_Si_allAreSo S a0 a1 a2 a3 m = some q) : MA (Y_Si_allAreSo S) yX8_allAreSo (some .boolean) [aR (some a0), aI a1, aI a2, aR (some a3)] S m q :=
  ba_met ⟨by decide +kernel, rfl⟩ rfl (fun h => by cases h) (Or.inr (Or.inl ⟨rfl, rfl, _, rfl⟩)) rfl (h ▸ e_Si_allAreSo S a0 a1 a2 a3 m)

abbrev Y_Si_kindsOf (S : ba_S) : ba_Y (Int32 × ba_M) := mI cX8_kindsOf RX8 5 6 141 S
def f_Si_kindsOf_29 (S : ba_S) (k5 : Nat → Int32 → Nat → Int32 → Int32 → ba_M → Option (Int32 × ba_M)) (v0 : Nat) (v1 : Int32) (v2 : Nat) (v3 : Int32) (v4 : Int32) (m : ba_M) : Option (Int32 × ba_M) :=
  (k5 v0 v1 v2 v3 (v4 + (nI 1)) m)
set_option maxRecDepth 100000 in
theorem w_Si_kindsOf_29 {S : ba_S} {k5 : Nat → Int32 → Nat → Int32 → Int32 → ba_M → Option (Int32 × ba_M)} (hk5 : ∀ (v0 : Nat) (v1 : Int32) (v2 : Nat) (v3 : Int32) (v4 : Int32) (m : ba_M), ck S v0 7 = true → ck S v2 4 = true → AW (Y_Si_kindsOf S) 5 [some (aR (some v0)), some (aI v1), some (aR (some v2)), some (aI v3), some (aI v4)] [] S m (k5 v0 v1 v2 v3 v4 m)) : ∀ (v0 : Nat) (v1 : Int32) (v2 : Nat) (v3 : Int32) (v4 : Int32) (m : ba_M), ck S v0 7 = true → ck S v2 4 = true → AW (Y_Si_kindsOf S) 29 [some (aR (some v0)), some (aI v1), some (aR (some v2)), some (aI v3), some (aI v4)] [] S m (f_Si_kindsOf_29 S k5 v0 v1 v2 v3 v4 m) := by
  intro v0 v1 v2 v3 v4 m g0 g2
  unfold f_Si_kindsOf_29
  refine a_iinc (v := nI 1) dX8_kindsOf_29 rfl (by decide) rfl rfl ?_
  refine a_goto (tgt := 5) dX8_kindsOf_32 (by decide) ?_
  exact AW.weak (Lw_so rfl (Lw_so rfl (Lw_so rfl (Lw_so rfl (Lw_so rfl Lw_end))))) (hk5 _ _ _ _ _ _ g0 g2)
def b_Si_kindsOf_5 (S : ba_S) (k5 : Nat → Int32 → Nat → Int32 → Int32 → ba_M → Option (Int32 × ba_M)) (v0 : Nat) (v1 : Int32) (v2 : Nat) (v3 : Int32) (v4 : Int32) (m : ba_M) : Option (Int32 × ba_M) :=
  (if (nI 4) ≤ v4 then (some (v3, m)) else ((f_Si_allAreSo S v0 v1 v4 v2 m).bind fun q1 => (if q1.1 = true then (f_Si_kindsOf_29 S k5 v0 v1 v2 (v3 ||| ((nI 1) <<< (v4 &&& 31))) v4 q1.2) else (f_Si_kindsOf_29 S k5 v0 v1 v2 v3 v4 q1.2))))
set_option maxRecDepth 100000 in
theorem w_Si_kindsOf_5 {S : ba_S} {k5 : Nat → Int32 → Nat → Int32 → Int32 → ba_M → Option (Int32 × ba_M)} (hk5 : ∀ (v0 : Nat) (v1 : Int32) (v2 : Nat) (v3 : Int32) (v4 : Int32) (m : ba_M), ck S v0 7 = true → ck S v2 4 = true → AW (Y_Si_kindsOf S) 5 [some (aR (some v0)), some (aI v1), some (aR (some v2)), some (aI v3), some (aI v4)] [] S m (k5 v0 v1 v2 v3 v4 m)) : ∀ (v0 : Nat) (v1 : Int32) (v2 : Nat) (v3 : Int32) (v4 : Int32) (m : ba_M), ck S v0 7 = true → ck S v2 4 = true → AW (Y_Si_kindsOf S) 5 [some (aR (some v0)), some (aI v1), some (aR (some v2)), some (aI v3), some (aI v4)] [] S m (b_Si_kindsOf_5 S k5 v0 v1 v2 v3 v4 m) := by
  intro v0 v1 v2 v3 v4 m g0 g2
  unfold b_Si_kindsOf_5
  refine a_iload dX8_kindsOf_5 rfl ?_
  refine a_iconst (v := nI 4) dX8_kindsOf_7 (by decide) ?_
  refine a_ige (tgt := 35) dX8_kindsOf_8 (by decide) (fun _ => ?_) (fun _ => ?_)
  · skip
    refine a_iload_n dX8_kindsOf_35 rfl ?_
    exact AW.ret dX8_kindsOf_36 rfl rfl
  · skip
    refine a_aload_n dX8_kindsOf_11 rfl ?_
    refine a_iload_n dX8_kindsOf_12 rfl ?_
    refine a_iload dX8_kindsOf_13 rfl ?_
    refine a_aload_n dX8_kindsOf_15 rfl ?_
    refine a_callV_Z dX8_kindsOf_16 lk_RX8_31 mt_Si_allAreSo vt_Si_allAreSo ⟨_, rfl, rfl⟩ (fun _ h => m_Si_allAreSo h) rfl rfl g0 ⟨rfl, rfl, rfl⟩ (fun q1 => ?_)
    refine a_beq (tgt := 29) dX8_kindsOf_19 (by decide) (fun _ => ?_) (fun _ => ?_)
    · skip
      exact AW.weak (Lw_so rfl (Lw_so rfl (Lw_so rfl (Lw_so rfl (Lw_so rfl Lw_end))))) (w_Si_kindsOf_29 hk5 _ _ _ _ _ _ g0 g2)
    · skip
      refine a_iload_n dX8_kindsOf_22 rfl ?_
      refine a_iconst (v := nI 1) dX8_kindsOf_23 (by decide) ?_
      refine a_iload dX8_kindsOf_24 rfl ?_
      refine a_ishl dX8_kindsOf_26 ?_
      refine a_ior dX8_kindsOf_27 ?_
      refine a_istore_n dX8_kindsOf_28 rfl rfl ?_
      exact AW.weak (Lw_so rfl (Lw_so rfl (Lw_so rfl (Lw_so rfl (Lw_so rfl Lw_end))))) (w_Si_kindsOf_29 hk5 _ _ _ _ _ _ g0 g2)
def f_Si_kindsOf_5 (S : ba_S) : Nat → Int32 → Nat → Int32 → Int32 → ba_M → Option (Int32 × ba_M) := fx (fun _ _ _ _ _ _ => none) (b_Si_kindsOf_5 S) FU
theorem l_Si_kindsOf_5 {S : ba_S} : ∀ (n : Nat) (v0 : Nat) (v1 : Int32) (v2 : Nat) (v3 : Int32) (v4 : Int32) (m : ba_M), ck S v0 7 = true → ck S v2 4 = true → AW (Y_Si_kindsOf S) 5 [some (aR (some v0)), some (aI v1), some (aR (some v2)), some (aI v3), some (aI v4)] [] S m ((fx (F := Nat → Int32 → Nat → Int32 → Int32 → ba_M → Option (Int32 × ba_M)) (fun _ _ _ _ _ _ => none) (b_Si_kindsOf_5 S) n) v0 v1 v2 v3 v4 m) := by
  intro n
  induction n with
  | zero => intro _ _ _ _ _ _ _ _; exact AW.none
  | succ n ih => exact w_Si_kindsOf_5 ih
def f_Si_kindsOf (S : ba_S) (a0 : Nat) (a1 : Int32) (a2 : Nat) (m : ba_M) : Option (Int32 × ba_M) :=
  cK S a0 7 (cK S a2 4 ((f_Si_kindsOf_5 S a0 a1 a2 (nI 0) (nI 0) m)))
set_option maxRecDepth 100000 in
theorem e_Si_kindsOf (S : ba_S) (a0 : Nat) (a1 : Int32) (a2 : Nat) (m : ba_M) : AW (Y_Si_kindsOf S) 0 [some (aR (some a0)), some (aI a1), some (aR (some a2)), none, none] [] S m (f_Si_kindsOf S a0 a1 a2 m) := by
  unfold f_Si_kindsOf
  refine AW.ck (fun g0 => ?_)
  refine AW.ck (fun g2 => ?_)
  refine a_iconst (v := nI 0) dX8_kindsOf_0 (by decide) ?_
  refine a_istore_n dX8_kindsOf_1 rfl rfl ?_
  refine a_iconst (v := nI 0) dX8_kindsOf_2 (by decide) ?_
  refine a_istore dX8_kindsOf_3 rfl rfl ?_
  exact AW.weak (Lw_so rfl (Lw_so rfl (Lw_so rfl (Lw_so rfl (Lw_so rfl Lw_end))))) (l_Si_kindsOf_5 FU _ _ _ _ _ _ g0 g2)
theorem m_Si_kindsOf {S : ba_S} {a0 : Nat} {a1 : Int32} {a2 : Nat} {m : ba_M} {q : Int32 × ba_M} (h : f_Si_kindsOf S a0 a1 a2 m = some q) : MA (Y_Si_kindsOf S) yX8_kindsOf (some .int) [aR (some a0), aI a1, aR (some a2)] S m q :=
  ba_met ⟨by decide +kernel, rfl⟩ rfl (fun h => by cases h) (Or.inl ⟨rfl, rfl, _, rfl⟩) rfl (h ▸ e_Si_kindsOf S a0 a1 a2 m)

abbrev Y_Mr_draw (S : ba_S) : ba_Y (Int32 × ba_M) := mI cX1_draw RX1 4 0 0 S
def f_Mr_draw (S : ba_S) (a0 : Int32) (a1 : Int32) (m : ba_M) : Option (Int32 × ba_M) :=
  (if (lN 65521) = 0 then none else (if (lN 10) = 0 then none else (some ((Int64.toInt32 (((((((lN 7919) * (Int32.toInt64 a0)) + ((lN 6151) * (Int32.toInt64 a1))) + (lN 1)) * ((((lN 7919) * (Int32.toInt64 a0)) + ((lN 6151) * (Int32.toInt64 a1))) + (lN 1))) - (((((lN 7919) * (Int32.toInt64 a0)) + ((lN 6151) * (Int32.toInt64 a1))) + (lN 1)) * ((((lN 7919) * (Int32.toInt64 a0)) + ((lN 6151) * (Int32.toInt64 a1))) + (lN 1))) / (lN 65521) * (lN 65521)) - ((((((lN 7919) * (Int32.toInt64 a0)) + ((lN 6151) * (Int32.toInt64 a1))) + (lN 1)) * ((((lN 7919) * (Int32.toInt64 a0)) + ((lN 6151) * (Int32.toInt64 a1))) + (lN 1))) - (((((lN 7919) * (Int32.toInt64 a0)) + ((lN 6151) * (Int32.toInt64 a1))) + (lN 1)) * ((((lN 7919) * (Int32.toInt64 a0)) + ((lN 6151) * (Int32.toInt64 a1))) + (lN 1))) / (lN 65521) * (lN 65521)) / (lN 10) * (lN 10))), m))))
set_option maxRecDepth 100000 in
theorem e_Mr_draw (S : ba_S) (a0 : Int32) (a1 : Int32) (m : ba_M) : AW (Y_Mr_draw S) 0 [some (aI a0), some (aI a1), none, none] [] S m (f_Mr_draw S a0 a1 m) := by
  unfold f_Mr_draw
  refine a_ldc2 dX1_draw_0 cl_RX1_114 ?_
  refine a_iload_n dX1_draw_3 rfl ?_
  refine a_i2l dX1_draw_4 ?_
  refine a_lmul dX1_draw_5 ?_
  refine a_ldc2 dX1_draw_6 cl_RX1_116 ?_
  refine a_iload_n dX1_draw_9 rfl ?_
  refine a_i2l dX1_draw_10 ?_
  refine a_lmul dX1_draw_11 ?_
  refine a_ladd dX1_draw_12 ?_
  refine a_lconst (v := lN 1) dX1_draw_13 (by decide) ?_
  refine a_ladd dX1_draw_14 ?_
  refine a_lstore_n dX1_draw_15 rfl rfl ?_
  refine a_lload_n dX1_draw_16 rfl ?_
  refine a_lload_n dX1_draw_17 rfl ?_
  refine a_lmul dX1_draw_18 ?_
  refine a_ldc2 dX1_draw_19 cl_RX1_118 ?_
  refine a_lrem dX1_draw_22 ?_
  refine a_ldc2 dX1_draw_23 cl_RX1_95 ?_
  refine a_lrem dX1_draw_26 ?_
  refine a_l2i dX1_draw_27 ?_
  exact AW.ret dX1_draw_28 rfl rfl
theorem m_Mr_draw {S : ba_S} {a0 : Int32} {a1 : Int32} {m : ba_M} {q : Int32 × ba_M} (h : f_Mr_draw S a0 a1 m = some q) : MA (Y_Mr_draw S) yX1_draw (some .int) [aI a0, aI a1] S m q :=
  ba_met ⟨by decide +kernel, rfl⟩ rfl (fun h => by cases h) (Or.inl ⟨rfl, rfl, _, rfl⟩) rfl (h ▸ e_Mr_draw S a0 a1 m)

abbrev Y_Mr_playAfternoon (S : ba_S) : ba_Y (ba_M) := mV cX1_playAfternoon RX1 7 2 44 S
def f_Mr_playAfternoon_57 (S : ba_S) (k11 : Nat → Int32 → Int32 → Int32 → Int32 → ba_M → Option (ba_M)) (v0 : Nat) (v2 : Int32) (v3 : Int32) (v5 : Int32) (s0 : Int32) (m : ba_M) : Option (ba_M) :=
  ((f_Mr_lettersOf2 S v3 s0 (wI (wI m v0 6 s0) v0 7 (v5 + (nI 1)))).bind fun q1 => (if q1.1 < (nI 3) then ((f_Mr_oneLetterOf S s0 q1.2).bind fun q2 => (k11 v0 v2 (v3 + q2.1) s0 (v5 + (nI 1)) q2.2)) else (some q1.2)))
set_option maxRecDepth 100000 in
theorem w_Mr_playAfternoon_57 {S : ba_S} {k11 : Nat → Int32 → Int32 → Int32 → Int32 → ba_M → Option (ba_M)} (hk11 : ∀ (v0 : Nat) (v2 : Int32) (v3 : Int32) (v4 : Int32) (v5 : Int32) (m : ba_M), ck S v0 1 = true → AW (Y_Mr_playAfternoon S) 11 [some (aR (some v0)), none, some (aI v2), some (aI v3), some (aI v4), some (aI v5), none] [] S m (k11 v0 v2 v3 v4 v5 m)) : ∀ (v0 : Nat) (v2 : Int32) (v3 : Int32) (v5 : Int32) (s0 : Int32) (m : ba_M), ck S v0 1 = true → AW (Y_Mr_playAfternoon S) 57 [some (aR (some v0)), none, some (aI v2), some (aI v3), none, some (aI v5), none] [aI s0] S m (f_Mr_playAfternoon_57 S k11 v0 v2 v3 v5 s0 m) := by
  intro v0 v2 v3 v5 s0 m g0
  unfold f_Mr_playAfternoon_57
  refine a_istore dX1_playAfternoon_57 rfl rfl ?_
  refine a_aload_n dX1_playAfternoon_59 rfl ?_
  refine a_iload dX1_playAfternoon_60 rfl ?_
  refine a_putI dX1_playAfternoon_62 fl_RX1_32 (rfl : _ = FieldType.int) rfl rfl rfl g0 ?_
  refine a_aload_n dX1_playAfternoon_65 rfl ?_
  refine a_iload dX1_playAfternoon_66 rfl ?_
  refine a_iconst (v := nI 1) dX1_playAfternoon_68 (by decide) ?_
  refine a_iadd dX1_playAfternoon_69 ?_
  refine a_putI dX1_playAfternoon_70 fl_RX1_36 (rfl : _ = FieldType.int) rfl rfl rfl g0 ?_
  refine a_iload_n dX1_playAfternoon_73 rfl ?_
  refine a_iload dX1_playAfternoon_74 rfl ?_
  refine a_callS_I dX1_playAfternoon_76 lk_RX1_105 mt_Mr_lettersOf2 sv_Mr_lettersOf2 (fun _ h => m_Mr_lettersOf2 h) rfl rfl ⟨rfl, rfl, rfl⟩ (fun q1 => ?_)
  refine a_iconst (v := nI 3) dX1_playAfternoon_79 (by decide) ?_
  refine a_ilt (tgt := 84) dX1_playAfternoon_80 (by decide) (fun _ => ?_) (fun _ => ?_)
  · skip
    refine a_iload_n dX1_playAfternoon_84 rfl ?_
    refine a_iload dX1_playAfternoon_85 rfl ?_
    refine a_callS_I dX1_playAfternoon_87 lk_RX1_108 mt_Mr_oneLetterOf sv_Mr_oneLetterOf (fun _ h => m_Mr_oneLetterOf h) rfl rfl ⟨rfl, rfl, rfl⟩ (fun q2 => ?_)
    refine a_iadd dX1_playAfternoon_90 ?_
    refine a_istore_n dX1_playAfternoon_91 rfl rfl ?_
    refine a_iload dX1_playAfternoon_92 rfl ?_
    refine a_istore dX1_playAfternoon_94 rfl rfl ?_
    refine a_iinc (v := nI 1) dX1_playAfternoon_96 rfl (by decide) rfl rfl ?_
    refine a_goto (tgt := 11) dX1_playAfternoon_99 (by decide) ?_
    exact AW.weak (Lw_so rfl (Lw_no (Lw_so rfl (Lw_so rfl (Lw_so rfl (Lw_so rfl (Lw_no Lw_end))))))) (hk11 _ _ _ _ _ _ g0)
  · skip
    exact AW.ret dX1_playAfternoon_83 rfl rfl
def b_Mr_playAfternoon_11 (S : ba_S) (k11 : Nat → Int32 → Int32 → Int32 → Int32 → ba_M → Option (ba_M)) (v0 : Nat) (v2 : Int32) (v3 : Int32) (v4 : Int32) (v5 : Int32) (m : ba_M) : Option (ba_M) :=
  (if (nI 16) ≤ v5 then (some m) else ((f_Mr_draw S v2 v5 m).bind fun q3 => (ldR S v0 2 20 fun r4 => ((f_Rw_at S r4 v4 q3.2).bind fun q6 => (if q6.1 ≤ q3.1 then (ldR S v0 0 20 fun r7 => ((f_Rw_at S r7 v4 q6.2).bind fun q9 => (f_Mr_playAfternoon_57 S k11 v0 v2 v3 v5 q9.1 q9.2))) else (ldR S v0 1 20 fun r10 => ((f_Rw_at S r10 v4 q6.2).bind fun q12 => (f_Mr_playAfternoon_57 S k11 v0 v2 v3 v5 q12.1 q12.2))))))))
set_option maxRecDepth 100000 in
theorem w_Mr_playAfternoon_11 {S : ba_S} {k11 : Nat → Int32 → Int32 → Int32 → Int32 → ba_M → Option (ba_M)} (hk11 : ∀ (v0 : Nat) (v2 : Int32) (v3 : Int32) (v4 : Int32) (v5 : Int32) (m : ba_M), ck S v0 1 = true → AW (Y_Mr_playAfternoon S) 11 [some (aR (some v0)), none, some (aI v2), some (aI v3), some (aI v4), some (aI v5), none] [] S m (k11 v0 v2 v3 v4 v5 m)) : ∀ (v0 : Nat) (v2 : Int32) (v3 : Int32) (v4 : Int32) (v5 : Int32) (m : ba_M), ck S v0 1 = true → AW (Y_Mr_playAfternoon S) 11 [some (aR (some v0)), none, some (aI v2), some (aI v3), some (aI v4), some (aI v5), none] [] S m (b_Mr_playAfternoon_11 S k11 v0 v2 v3 v4 v5 m) := by
  intro v0 v2 v3 v4 v5 m g0
  unfold b_Mr_playAfternoon_11
  refine a_iload dX1_playAfternoon_11 rfl ?_
  refine a_bipush (v := nI 16) dX1_playAfternoon_13 (by decide) ?_
  refine a_ige (tgt := 102) dX1_playAfternoon_15 (by decide) (fun _ => ?_) (fun _ => ?_)
  · skip
    exact AW.ret dX1_playAfternoon_102 rfl rfl
  · skip
    refine a_iload_n dX1_playAfternoon_18 rfl ?_
    refine a_iload dX1_playAfternoon_19 rfl ?_
    refine a_callS_I dX1_playAfternoon_21 lk_RX1_111 mt_Mr_draw sv_Mr_draw (fun _ h => m_Mr_draw h) rfl rfl ⟨rfl, rfl, rfl⟩ (fun q3 => ?_)
    refine a_aload_n dX1_playAfternoon_24 rfl ?_
    refine a_getR dX1_playAfternoon_25 fl_RX1_18 rfl g0 (fun r4 h5 => ?_)
    refine a_iload dX1_playAfternoon_28 rfl ?_
    refine a_callS_I dX1_playAfternoon_30 lk_RX1_97 mt_Rw_at sv_Rw_at (fun _ h => m_Rw_at h) rfl rfl ⟨rfl, rfl, rfl⟩ (fun q6 => ?_)
    refine a_ige (tgt := 48) dX1_playAfternoon_33 (by decide) (fun _ => ?_) (fun _ => ?_)
    · skip
      refine a_aload_n dX1_playAfternoon_48 rfl ?_
      refine a_getR dX1_playAfternoon_49 fl_RX1_11 rfl g0 (fun r7 h8 => ?_)
      refine a_iload dX1_playAfternoon_52 rfl ?_
      refine a_callS_I dX1_playAfternoon_54 lk_RX1_97 mt_Rw_at sv_Rw_at (fun _ h => m_Rw_at h) rfl rfl ⟨rfl, rfl, rfl⟩ (fun q9 => ?_)
      exact AW.weak (Lw_so rfl (Lw_no (Lw_so rfl (Lw_so rfl (Lw_no (Lw_so rfl (Lw_no Lw_end))))))) (w_Mr_playAfternoon_57 hk11 _ _ _ _ _ _ g0)
    · skip
      refine a_aload_n dX1_playAfternoon_36 rfl ?_
      refine a_getR dX1_playAfternoon_37 fl_RX1_15 rfl g0 (fun r10 h11 => ?_)
      refine a_iload dX1_playAfternoon_40 rfl ?_
      refine a_callS_I dX1_playAfternoon_42 lk_RX1_97 mt_Rw_at sv_Rw_at (fun _ h => m_Rw_at h) rfl rfl ⟨rfl, rfl, rfl⟩ (fun q12 => ?_)
      refine a_goto (tgt := 57) dX1_playAfternoon_45 (by decide) ?_
      exact AW.weak (Lw_so rfl (Lw_no (Lw_so rfl (Lw_so rfl (Lw_no (Lw_so rfl (Lw_no Lw_end))))))) (w_Mr_playAfternoon_57 hk11 _ _ _ _ _ _ g0)
def f_Mr_playAfternoon_11 (S : ba_S) : Nat → Int32 → Int32 → Int32 → Int32 → ba_M → Option (ba_M) := fx (fun _ _ _ _ _ _ => none) (b_Mr_playAfternoon_11 S) FU
theorem l_Mr_playAfternoon_11 {S : ba_S} : ∀ (n : Nat) (v0 : Nat) (v2 : Int32) (v3 : Int32) (v4 : Int32) (v5 : Int32) (m : ba_M), ck S v0 1 = true → AW (Y_Mr_playAfternoon S) 11 [some (aR (some v0)), none, some (aI v2), some (aI v3), some (aI v4), some (aI v5), none] [] S m ((fx (F := Nat → Int32 → Int32 → Int32 → Int32 → ba_M → Option (ba_M)) (fun _ _ _ _ _ _ => none) (b_Mr_playAfternoon_11 S) n) v0 v2 v3 v4 v5 m) := by
  intro n
  induction n with
  | zero => intro _ _ _ _ _ _ _; exact AW.none
  | succ n ih => exact w_Mr_playAfternoon_11 ih
def f_Mr_playAfternoon (S : ba_S) (a0 : Nat) (a1 : Nat) (a2 : Int32) (m : ba_M) : Option (ba_M) :=
  cK S a0 1 (cK S a1 0 (((f_Mr_lettersOf S a1 m).bind fun q13 => (f_Mr_playAfternoon_11 S a0 a2 q13.1 (nI 0) (nI 0) q13.2))))
set_option maxRecDepth 100000 in
theorem e_Mr_playAfternoon (S : ba_S) (a0 : Nat) (a1 : Nat) (a2 : Int32) (m : ba_M) : AW (Y_Mr_playAfternoon S) 0 [some (aR (some a0)), some (aR (some a1)), some (aI a2), none, none, none, none] [] S m (f_Mr_playAfternoon S a0 a1 a2 m) := by
  unfold f_Mr_playAfternoon
  refine AW.ck (fun g0 => ?_)
  refine AW.ck (fun g1 => ?_)
  refine a_aload_n dX1_playAfternoon_0 rfl ?_
  refine a_callS_I dX1_playAfternoon_1 lk_RX1_81 mt_Mr_lettersOf sv_Mr_lettersOf (fun _ h => m_Mr_lettersOf h) rfl rfl ⟨rfl, rfl, rfl⟩ (fun q13 => ?_)
  refine a_istore_n dX1_playAfternoon_4 rfl rfl ?_
  refine a_iconst (v := nI 0) dX1_playAfternoon_5 (by decide) ?_
  refine a_istore dX1_playAfternoon_6 rfl rfl ?_
  refine a_iconst (v := nI 0) dX1_playAfternoon_8 (by decide) ?_
  refine a_istore dX1_playAfternoon_9 rfl rfl ?_
  exact AW.weak (Lw_so rfl (Lw_no (Lw_so rfl (Lw_so rfl (Lw_so rfl (Lw_so rfl (Lw_no Lw_end))))))) (l_Mr_playAfternoon_11 FU _ _ _ _ _ _ g0)
theorem m_Mr_playAfternoon {S : ba_S} {a0 : Nat} {a1 : Nat} {a2 : Int32} {m : ba_M} {q : ba_M} (h : f_Mr_playAfternoon S a0 a1 a2 m = some q) : MA (Y_Mr_playAfternoon S) yX1_playAfternoon none [aR (some a0), aR (some a1), aI a2] S m q :=
  ba_met ⟨by decide +kernel, rfl⟩ rfl (fun h => by cases h) (Or.inr (Or.inr (Or.inr (Or.inl ⟨rfl, rfl, rfl⟩)))) rfl (h ▸ e_Mr_playAfternoon S a0 a1 a2 m)

