abbrev Y_Te_init : ba_Y (ba_S × ba_M) := mC cX9_init RX9 1 1 20
def f_Te_init (S : ba_S) (a0 : Nat) (m : ba_M) : Option (ba_S × ba_M) :=
  (nA (nI 300) (sB (pS S 20 ((nI 300)).toNatClampNeg ((nI 300)).toNatClampNeg) (pM (nN S) m) fun S1 m2 => (cK S1 a0 8 (sB (wR S1 a0 0 (some (nN S))) m2 fun S4 m5 => (cK S4 a0 8 (sB S4 (wI m5 a0 1 (nI 0)) fun S7 m8 => (some (S7, m8))))))))
set_option maxRecDepth 100000 in
theorem e_Te_init (S : ba_S) (a0 : Nat) (m : ba_M) : AW Y_Te_init 0 [some (aR (some a0))] [] S m (f_Te_init S a0 m) := by
  unfold f_Te_init
  refine a_aload_n dX9_init_0 rfl ?_
  refine a_obj dX9_init_1 lo_RX9_3 rfl rfl rfl ?_
  refine a_aload_n dX9_init_4 rfl ?_
  refine a_sipush (v := nI 300) dX9_init_5 (by decide) ?_
  refine a_newI dX9_init_8 ?_
  refine AW.sB (fun S1 m2 => ?_)
  refine AW.ck (fun h3 => ?_)
  refine a_putR rfl dX9_init_10 fl_RX9_9 ⟨_, rfl, rfl⟩ rfl rfl (fun _ => ⟨rfl, rfl⟩) h3 ?_
  refine AW.sB (fun S4 m5 => ?_)
  refine a_aload_n dX9_init_13 rfl ?_
  refine a_iconst (v := nI 0) dX9_init_14 (by decide) ?_
  refine AW.ck (fun h6 => ?_)
  refine a_putI dX9_init_15 fl_RX9_15 (rfl : _ = FieldType.int) rfl rfl rfl h6 ?_
  refine AW.sB (fun S7 m8 => ?_)
  exact AW.ret dX9_init_18 rfl rfl
theorem m_Te_init {S : ba_S} {a0 : Nat} {m : ba_M} {q : ba_S × ba_M} (h : f_Te_init S a0 m = some q) : MA Y_Te_init yX9_init none [aR (some a0)] S m q :=
  ba_met ⟨by decide +kernel, rfl⟩ rfl (fun _ => rfl) (Or.inr (Or.inr (Or.inr (Or.inl ⟨rfl, rfl, rfl⟩)))) rfl (h ▸ e_Te_init S a0 m)

abbrev Y_Ga_init : ba_Y (ba_S × ba_M) := mC cX0_init RX0 2 3 60
def b_Ga_init_41 (k41 : ba_S → Nat → Int32 → ba_M → Option (ba_S × ba_M)) (S : ba_S) (v0 : Nat) (v1 : Int32) (m : ba_M) : Option (ba_S × ba_M) :=
  (cK S v0 0 (ldR S v0 0 22 fun r2 => (cK S r2 22 (if (nI (kL S r2)) ≤ v1 then (some (S, m)) else (cK S v0 0 (ldR S v0 0 22 fun r6 => (sB (pS S 2 0 (nF 2)) (pM (nN S) m) fun S8 m9 => ((f_Pl_init S8 (nN S) m9).bind fun q10 => (cK q10.1 r6 22 (cK q10.1 (nN S) 2 (bD q10.1 r6 v1 (sB (wR q10.1 r6 (v1).toNatClampNeg (some (nN S))) q10.2 fun S13 m14 => (k41 S13 v0 (v1 + (nI 1)) m14)))))))))))))
set_option maxRecDepth 100000 in
theorem w_Ga_init_41 {k41 : ba_S → Nat → Int32 → ba_M → Option (ba_S × ba_M)} (hk41 : ∀ (S : ba_S) (v0 : Nat) (v1 : Int32) (m : ba_M), AW Y_Ga_init 41 [some (aR (some v0)), some (aI v1)] [] S m (k41 S v0 v1 m)) : ∀ (S : ba_S) (v0 : Nat) (v1 : Int32) (m : ba_M), AW Y_Ga_init 41 [some (aR (some v0)), some (aI v1)] [] S m (b_Ga_init_41 k41 S v0 v1 m) := by
  intro S v0 v1 m
  unfold b_Ga_init_41
  refine a_iload_n dX0_init_41 rfl ?_
  refine a_aload_n dX0_init_42 rfl ?_
  refine AW.ck (fun h1 => ?_)
  refine a_getR dX0_init_43 fl_RX0_11 rfl h1 (fun r2 h3 => ?_)
  refine AW.ck (fun h4 => ?_)
  refine a_alen dX0_init_46 h4 (by decide) ?_
  refine a_ige (tgt := 69) dX0_init_47 (by decide) (fun _ => ?_) (fun _ => ?_)
  · skip
    exact AW.ret dX0_init_69 rfl rfl
  · skip
    refine a_aload_n dX0_init_50 rfl ?_
    refine AW.ck (fun h5 => ?_)
    refine a_getR dX0_init_51 fl_RX0_11 rfl h5 (fun r6 h7 => ?_)
    refine a_iload_n dX0_init_54 rfl ?_
    refine a_new dX0_init_55 nw_RX0_9 ?_
    refine AW.sB (fun S8 m9 => ?_)
    refine a_dup dX0_init_58 rfl ?_
    refine a_callIN_C dX0_init_59 lk_RX0_17 mt_Pl_init iv_Pl_init (fun _ h => m_Pl_init h) rfl rfl ⟨rfl, rfl, rfl⟩ (fun q10 => ?_)
    refine AW.ck (fun h11 => ?_)
    refine AW.ck (fun h12 => ?_)
    refine a_past dX0_init_62 h11 h12 ?_
    refine AW.sB (fun S13 m14 => ?_)
    refine a_iinc (v := nI 1) dX0_init_63 rfl (by decide) rfl rfl ?_
    refine a_goto (tgt := 41) dX0_init_66 (by decide) ?_
    exact AW.weak (Lw_so rfl (Lw_so rfl Lw_end)) (hk41 _ _ _ _)
def f_Ga_init_41 : ba_S → Nat → Int32 → ba_M → Option (ba_S × ba_M) := fx (fun _ _ _ _ => none) (b_Ga_init_41) FU
theorem l_Ga_init_41 : ∀ (n : Nat) (S : ba_S) (v0 : Nat) (v1 : Int32) (m : ba_M), AW Y_Ga_init 41 [some (aR (some v0)), some (aI v1)] [] S m ((fx (F := ba_S → Nat → Int32 → ba_M → Option (ba_S × ba_M)) (fun _ _ _ _ => none) (b_Ga_init_41) n) S v0 v1 m) := by
  intro n
  induction n with
  | zero => intro _ _ _ _; exact AW.none
  | succ n ih => exact w_Ga_init_41 ih
def f_Ga_init (S : ba_S) (a0 : Nat) (m : ba_M) : Option (ba_S × ba_M) :=
  (nA (nI 5) (sB (pS S 22 ((nI 5)).toNatClampNeg ((nI 5)).toNatClampNeg) (pM (nN S) m) fun S15 m16 => (cK S15 a0 0 (sB (wR S15 a0 0 (some (nN S))) m16 fun S18 m19 => (sB (pS S18 2 0 (nF 2)) (pM (nN S18) m19) fun S20 m21 => ((f_Pl_init S20 (nN S18) m21).bind fun q22 => (cK q22.1 a0 0 (sB (wR q22.1 a0 1 (some (nN S18))) q22.2 fun S24 m25 => (cK S24 a0 0 (sB S24 (wI m25 a0 2 (nI 0)) fun S27 m28 => (cK S27 a0 0 (sB S27 (wI m28 a0 3 (nI 30)) fun S30 m31 => (cK S30 a0 0 (sB S30 (wI m31 a0 4 (nI 1)) fun S33 m34 => (f_Ga_init_41  S33 a0 (nI 0) m34)))))))))))))))
set_option maxRecDepth 100000 in
theorem e_Ga_init (S : ba_S) (a0 : Nat) (m : ba_M) : AW Y_Ga_init 0 [some (aR (some a0)), none] [] S m (f_Ga_init S a0 m) := by
  unfold f_Ga_init
  refine a_aload_n dX0_init_0 rfl ?_
  refine a_obj dX0_init_1 lo_RX0_3 rfl rfl rfl ?_
  refine a_aload_n dX0_init_4 rfl ?_
  refine a_iconst (v := nI 5) dX0_init_5 (by decide) ?_
  refine a_newP dX0_init_6 ca_RX0_9 ?_
  refine AW.sB (fun S15 m16 => ?_)
  refine AW.ck (fun h17 => ?_)
  refine a_putR rfl dX0_init_9 fl_RX0_11 ⟨_, rfl, rfl⟩ rfl rfl (fun _ => ⟨rfl, rfl⟩) h17 ?_
  refine AW.sB (fun S18 m19 => ?_)
  refine a_aload_n dX0_init_12 rfl ?_
  refine a_new dX0_init_13 nw_RX0_9 ?_
  refine AW.sB (fun S20 m21 => ?_)
  refine a_dup dX0_init_16 rfl ?_
  refine a_callIN_C dX0_init_17 lk_RX0_17 mt_Pl_init iv_Pl_init (fun _ h => m_Pl_init h) rfl rfl ⟨rfl, rfl, rfl⟩ (fun q22 => ?_)
  refine AW.ck (fun h23 => ?_)
  refine a_putR rfl dX0_init_20 fl_RX0_18 ⟨_, rfl, rfl⟩ rfl rfl (fun _ => ⟨rfl, rfl⟩) h23 ?_
  refine AW.sB (fun S24 m25 => ?_)
  refine a_aload_n dX0_init_23 rfl ?_
  refine a_iconst (v := nI 0) dX0_init_24 (by decide) ?_
  refine AW.ck (fun h26 => ?_)
  refine a_putI dX0_init_25 fl_RX0_22 (rfl : _ = FieldType.int) rfl rfl rfl h26 ?_
  refine AW.sB (fun S27 m28 => ?_)
  refine a_aload_n dX0_init_28 rfl ?_
  refine a_bipush (v := nI 30) dX0_init_29 (by decide) ?_
  refine AW.ck (fun h29 => ?_)
  refine a_putI dX0_init_31 fl_RX0_26 (rfl : _ = FieldType.int) rfl rfl rfl h29 ?_
  refine AW.sB (fun S30 m31 => ?_)
  refine a_aload_n dX0_init_34 rfl ?_
  refine a_iconst (v := nI 1) dX0_init_35 (by decide) ?_
  refine AW.ck (fun h32 => ?_)
  refine a_putI dX0_init_36 fl_RX0_29 (rfl : _ = FieldType.int) rfl rfl rfl h32 ?_
  refine AW.sB (fun S33 m34 => ?_)
  refine a_iconst (v := nI 0) dX0_init_39 (by decide) ?_
  refine a_istore_n dX0_init_40 rfl rfl ?_
  exact AW.weak (Lw_so rfl (Lw_so rfl Lw_end)) (l_Ga_init_41 FU _ _ _ _)
theorem m_Ga_init {S : ba_S} {a0 : Nat} {m : ba_M} {q : ba_S × ba_M} (h : f_Ga_init S a0 m = some q) : MA Y_Ga_init yX0_init none [aR (some a0)] S m q :=
  ba_met ⟨by decide +kernel, rfl⟩ rfl (fun _ => rfl) (Or.inr (Or.inr (Or.inr (Or.inl ⟨rfl, rfl, rfl⟩)))) rfl (h ▸ e_Ga_init S a0 m)

abbrev Y_Ro_init : ba_Y (ba_S × ba_M) := mC cX4_init RX4 1 4 81
def f_Ro_init (S : ba_S) (a0 : Nat) (m : ba_M) : Option (ba_S × ba_M) :=
  (sB (pS S 0 0 (nF 0)) (pM (nN S) m) fun S1 m2 => ((f_Ga_init S1 (nN S) m2).bind fun q3 => (cK q3.1 a0 4 (sB (wR q3.1 a0 0 (some (nN S))) q3.2 fun S5 m6 => (nA (nI 5) (sB (pS S5 20 ((nI 5)).toNatClampNeg ((nI 5)).toNatClampNeg) (pM (nN S5) m6) fun S7 m8 => (cK S7 a0 4 (sB (wR S7 a0 1 (some (nN S5))) m8 fun S10 m11 => (nA (nI 5) (sB (pS S10 20 ((nI 5)).toNatClampNeg ((nI 5)).toNatClampNeg) (pM (nN S10) m11) fun S12 m13 => (cK S12 a0 4 (sB (wR S12 a0 2 (some (nN S10))) m13 fun S15 m16 => (nA (nI 5) (sB (pS S15 20 ((nI 5)).toNatClampNeg ((nI 5)).toNatClampNeg) (pM (nN S15) m16) fun S17 m18 => (cK S17 a0 4 (sB (wR S17 a0 3 (some (nN S15))) m18 fun S20 m21 => (cK S20 a0 4 (sB S20 (wI m21 a0 4 (nI 0)) fun S23 m24 => (cK S23 a0 4 (sB S23 (wI m24 a0 5 (nI 0)) fun S26 m27 => (cK S26 a0 4 (sB S26 (wI m27 a0 6 (nI 0)) fun S29 m30 => (some (S29, m30))))))))))))))))))))))))
set_option maxRecDepth 100000 in
theorem e_Ro_init (S : ba_S) (a0 : Nat) (m : ba_M) : AW Y_Ro_init 0 [some (aR (some a0))] [] S m (f_Ro_init S a0 m) := by
  unfold f_Ro_init
  refine a_aload_n dX4_init_0 rfl ?_
  refine a_obj dX4_init_1 lo_RX4_3 rfl rfl rfl ?_
  refine a_aload_n dX4_init_4 rfl ?_
  refine a_new dX4_init_5 nw_RX4_9 ?_
  refine AW.sB (fun S1 m2 => ?_)
  refine a_dup dX4_init_8 rfl ?_
  refine a_callI_C dX4_init_9 lk_RX4_11 mt_Ga_init iv_Ga_init (fun _ h => m_Ga_init h) rfl rfl ⟨rfl, rfl, rfl⟩ (fun q3 => ?_)
  refine AW.ck (fun h4 => ?_)
  refine a_putR rfl dX4_init_12 fl_RX4_12 ⟨_, rfl, rfl⟩ rfl rfl (fun _ => ⟨rfl, rfl⟩) h4 ?_
  refine AW.sB (fun S5 m6 => ?_)
  refine a_aload_n dX4_init_15 rfl ?_
  refine a_iconst (v := nI 5) dX4_init_16 (by decide) ?_
  refine a_newI dX4_init_17 ?_
  refine AW.sB (fun S7 m8 => ?_)
  refine AW.ck (fun h9 => ?_)
  refine a_putR rfl dX4_init_19 fl_RX4_18 ⟨_, rfl, rfl⟩ rfl rfl (fun _ => ⟨rfl, rfl⟩) h9 ?_
  refine AW.sB (fun S10 m11 => ?_)
  refine a_aload_n dX4_init_22 rfl ?_
  refine a_iconst (v := nI 5) dX4_init_23 (by decide) ?_
  refine a_newI dX4_init_24 ?_
  refine AW.sB (fun S12 m13 => ?_)
  refine AW.ck (fun h14 => ?_)
  refine a_putR rfl dX4_init_26 fl_RX4_22 ⟨_, rfl, rfl⟩ rfl rfl (fun _ => ⟨rfl, rfl⟩) h14 ?_
  refine AW.sB (fun S15 m16 => ?_)
  refine a_aload_n dX4_init_29 rfl ?_
  refine a_iconst (v := nI 5) dX4_init_30 (by decide) ?_
  refine a_newI dX4_init_31 ?_
  refine AW.sB (fun S17 m18 => ?_)
  refine AW.ck (fun h19 => ?_)
  refine a_putR rfl dX4_init_33 fl_RX4_25 ⟨_, rfl, rfl⟩ rfl rfl (fun _ => ⟨rfl, rfl⟩) h19 ?_
  refine AW.sB (fun S20 m21 => ?_)
  refine a_aload_n dX4_init_36 rfl ?_
  refine a_iconst (v := nI 0) dX4_init_37 (by decide) ?_
  refine AW.ck (fun h22 => ?_)
  refine a_putI dX4_init_38 fl_RX4_28 (rfl : _ = FieldType.int) rfl rfl rfl h22 ?_
  refine AW.sB (fun S23 m24 => ?_)
  refine a_aload_n dX4_init_41 rfl ?_
  refine a_iconst (v := nI 0) dX4_init_42 (by decide) ?_
  refine AW.ck (fun h25 => ?_)
  refine a_putI dX4_init_43 fl_RX4_32 (rfl : _ = FieldType.int) rfl rfl rfl h25 ?_
  refine AW.sB (fun S26 m27 => ?_)
  refine a_aload_n dX4_init_46 rfl ?_
  refine a_iconst (v := nI 0) dX4_init_47 (by decide) ?_
  refine AW.ck (fun h28 => ?_)
  refine a_putI dX4_init_48 fl_RX4_35 (rfl : _ = FieldType.int) rfl rfl rfl h28 ?_
  refine AW.sB (fun S29 m30 => ?_)
  exact AW.ret dX4_init_51 rfl rfl
theorem m_Ro_init {S : ba_S} {a0 : Nat} {m : ba_M} {q : ba_S × ba_M} (h : f_Ro_init S a0 m = some q) : MA Y_Ro_init yX4_init none [aR (some a0)] S m q :=
  ba_met ⟨by decide +kernel, rfl⟩ rfl (fun _ => rfl) (Or.inr (Or.inr (Or.inr (Or.inl ⟨rfl, rfl, rfl⟩)))) rfl (h ▸ e_Ro_init S a0 m)

abbrev Y_Ga_who (S : ba_S) : ba_Y (Nat × ba_M) := mR cX0_who RX0 3 0 0 S
def f_Ga_who_36 (S : ba_S) (s0 : Nat) (m : ba_M) : Option (Nat × ba_M) :=
  (some (s0, m))
set_option maxRecDepth 100000 in
theorem w_Ga_who_36 {S : ba_S} : ∀ (s0 : Nat) (m : ba_M), ck S s0 2 = true → AW (Y_Ga_who S) 36 [none, none, none] [aR (some s0)] S m (f_Ga_who_36 S s0 m) := by
  intro s0 m gs0
  unfold f_Ga_who_36
  exact AW.ret dX0_who_36 rfl rfl
def f_Ga_who_23 (S : ba_S) (v0 : Nat) (s0 : Option Nat) (m : ba_M) : Option (Nat × ba_M) :=
  (oN s0 (ldR S v0 1 2 fun r3 => (f_Ga_who_36 S r3 m)) (fun r1 => cK S r1 2 (f_Ga_who_36 S r1 m)))
set_option maxRecDepth 100000 in
theorem w_Ga_who_23 {S : ba_S} : ∀ (v0 : Nat) (s0 : Option Nat) (m : ba_M), ck S v0 0 = true → AW (Y_Ga_who S) 23 [some (aR (some v0)), none, none] [aR s0] S m (f_Ga_who_23 S v0 s0 m) := by
  intro v0 s0 m g0
  unfold f_Ga_who_23
  refine a_astore_n dX0_who_23 rfl rfl ?_
  refine a_aload_n dX0_who_24 rfl ?_
  refine a_ifnonnull (tgt := 35) dX0_who_25 (by decide) (fun _ => ?_) (fun r1 e => ?_)
  · skip
    refine a_aload_n dX0_who_28 rfl ?_
    refine a_getR dX0_who_29 fl_RX0_18 rfl g0 (fun r3 h4 => ?_)
    refine a_goto (tgt := 36) dX0_who_32 (by decide) ?_
    exact AW.weak (Lw_no (Lw_no (Lw_no Lw_end))) (w_Ga_who_36 _ _ h4)
  · have e : s0 = some r1 := e
    subst e
    refine AW.ck (fun h2 => ?_)
    refine a_aload_n dX0_who_35 rfl ?_
    exact AW.weak (Lw_no (Lw_no (Lw_no Lw_end))) (w_Ga_who_36 _ _ h2)
def f_Ga_who_22 (S : ba_S) (v0 : Nat) (m : ba_M) : Option (Nat × ba_M) :=
  (f_Ga_who_23 S v0 none m)
set_option maxRecDepth 100000 in
theorem w_Ga_who_22 {S : ba_S} : ∀ (v0 : Nat) (m : ba_M), ck S v0 0 = true → AW (Y_Ga_who S) 22 [some (aR (some v0)), none, none] [] S m (f_Ga_who_22 S v0 m) := by
  intro v0 m g0
  unfold f_Ga_who_22
  refine a_aconst_null dX0_who_22 ?_
  exact AW.weak (Lw_so rfl (Lw_no (Lw_no Lw_end))) (w_Ga_who_23 _ _ _ g0)
def f_Ga_who (S : ba_S) (a0 : Nat) (a1 : Int32) (m : ba_M) : Option (Nat × ba_M) :=
  cK S a0 0 ((if a1 < 0 then (f_Ga_who_22 S a0 m) else (ldR S a0 0 22 fun r5 => (if (nI (kL S r5)) ≤ a1 then (f_Ga_who_22 S a0 m) else (ldR S a0 0 22 fun r7 => (bD S r7 a1 (ldR S r7 (a1).toNatClampNeg 2 fun r9 => (f_Ga_who_23 S a0 (some r9) m))))))))
set_option maxRecDepth 100000 in
theorem e_Ga_who (S : ba_S) (a0 : Nat) (a1 : Int32) (m : ba_M) : AW (Y_Ga_who S) 0 [some (aR (some a0)), some (aI a1), none] [] S m (f_Ga_who S a0 a1 m) := by
  unfold f_Ga_who
  refine AW.ck (fun g0 => ?_)
  refine a_iload_n dX0_who_0 rfl ?_
  refine a_zlt (tgt := 22) dX0_who_1 (by decide) (fun _ => ?_) (fun _ => ?_)
  · skip
    exact AW.weak (Lw_so rfl (Lw_no (Lw_no Lw_end))) (w_Ga_who_22 _ _ g0)
  · skip
    refine a_iload_n dX0_who_4 rfl ?_
    refine a_aload_n dX0_who_5 rfl ?_
    refine a_getR dX0_who_6 fl_RX0_11 rfl g0 (fun r5 h6 => ?_)
    refine a_alen dX0_who_9 h6 (by decide) ?_
    refine a_ige (tgt := 22) dX0_who_10 (by decide) (fun _ => ?_) (fun _ => ?_)
    · skip
      exact AW.weak (Lw_so rfl (Lw_no (Lw_no Lw_end))) (w_Ga_who_22 _ _ g0)
    · skip
      refine a_aload_n dX0_who_13 rfl ?_
      refine a_getR dX0_who_14 fl_RX0_11 rfl g0 (fun r7 h8 => ?_)
      refine a_iload_n dX0_who_17 rfl ?_
      refine a_pald dX0_who_18 h8 (fun r9 h10 => ?_)
      refine a_goto (tgt := 23) dX0_who_19 (by decide) ?_
      exact AW.weak (Lw_so rfl (Lw_no (Lw_no Lw_end))) (w_Ga_who_23 _ _ _ g0)
theorem m_Ga_who {S : ba_S} {a0 : Nat} {a1 : Int32} {m : ba_M} {q : Nat × ba_M} (h : f_Ga_who S a0 a1 m = some q) : MA (Y_Ga_who S) yX0_who (some (.object "BallAndName$Player")) [aR (some a0), aI a1] S m q :=
  ba_met ⟨by decide +kernel, rfl⟩ rfl (fun h => by cases h) (Or.inr (Or.inr (Or.inr (Or.inr ⟨_, rfl, rfl, _, rfl⟩)))) rfl (h ▸ e_Ga_who S a0 a1 m)

abbrev Y_Ga_addPlayer (S : ba_S) : ba_Y (ba_M) := mV cX0_addPlayer RX0 7 1 25 S
def f_Ga_addPlayer (S : ba_S) (a0 : Nat) (a1 : Int32) (a2 : Int32) (a3 : Int32) (a4 : Int32) (a5 : Int32) (m : ba_M) : Option (ba_M) :=
  cK S a0 0 ((if (gI m a0 2) < (nI 5) then ((f_Ga_who S a0 (gI m a0 2) m).bind fun q1 => cK S q1.1 2 ((f_Pl_become S q1.1 a1 a2 a3 a4 a5 q1.2).bind fun q3 => (ldR S q1.1 0 9 fun r4 => ((f_To_tellCall S r4 (-4 : Int32) (nI 0) (nI 1) q3).bind fun q6 => (ldR S q1.1 0 9 fun r7 => (some (wI (wI q6 r7 3 (nI 0)) a0 2 ((gI (wI q6 r7 3 (nI 0)) a0 2) + (nI 1))))))))) else (some m)))
set_option maxRecDepth 100000 in
theorem e_Ga_addPlayer (S : ba_S) (a0 : Nat) (a1 : Int32) (a2 : Int32) (a3 : Int32) (a4 : Int32) (a5 : Int32) (m : ba_M) : AW (Y_Ga_addPlayer S) 0 [some (aR (some a0)), some (aI a1), some (aI a2), some (aI a3), some (aI a4), some (aI a5), none] [] S m (f_Ga_addPlayer S a0 a1 a2 a3 a4 a5 m) := by
  unfold f_Ga_addPlayer
  refine AW.ck (fun g0 => ?_)
  refine a_aload_n dX0_addPlayer_0 rfl ?_
  refine a_getI dX0_addPlayer_1 fl_RX0_22 rfl g0 ?_
  refine a_iconst (v := nI 5) dX0_addPlayer_4 (by decide) ?_
  refine a_ilt (tgt := 9) dX0_addPlayer_5 (by decide) (fun _ => ?_) (fun _ => ?_)
  · skip
    refine a_aload_n dX0_addPlayer_9 rfl ?_
    refine a_aload_n dX0_addPlayer_10 rfl ?_
    refine a_getI dX0_addPlayer_11 fl_RX0_22 rfl g0 ?_
    refine a_callV_R dX0_addPlayer_14 lk_RX0_32 mt_Ga_who vt_Ga_who ⟨_, rfl, rfl⟩ (fun _ h => m_Ga_who h) rfl rfl g0 ⟨rfl, rfl, rfl⟩ (fun q1 => ?_)
    refine AW.ck (fun h2 => ?_)
    refine a_astore dX0_addPlayer_17 rfl rfl ?_
    refine a_aload dX0_addPlayer_19 rfl ?_
    refine a_iload_n dX0_addPlayer_21 rfl ?_
    refine a_iload_n dX0_addPlayer_22 rfl ?_
    refine a_iload_n dX0_addPlayer_23 rfl ?_
    refine a_iload dX0_addPlayer_24 rfl ?_
    refine a_iload dX0_addPlayer_26 rfl ?_
    refine a_callV_V dX0_addPlayer_28 lk_RX0_36 mt_Pl_become vt_Pl_become ⟨_, rfl, rfl⟩ (fun _ h => m_Pl_become h) rfl rfl h2 ⟨rfl, rfl, rfl⟩ (fun q3 => ?_)
    refine a_aload dX0_addPlayer_31 rfl ?_
    refine a_getR dX0_addPlayer_33 fl_RX0_40 rfl h2 (fun r4 h5 => ?_)
    refine a_bipush (v := -4) dX0_addPlayer_36 (by decide) ?_
    refine a_iconst (v := nI 0) dX0_addPlayer_38 (by decide) ?_
    refine a_iconst (v := nI 1) dX0_addPlayer_39 (by decide) ?_
    refine a_callV_V dX0_addPlayer_40 lk_RX0_44 mt_To_tellCall vt_To_tellCall ⟨_, rfl, rfl⟩ (fun _ h => m_To_tellCall h) rfl rfl h5 ⟨rfl, rfl, rfl⟩ (fun q6 => ?_)
    refine a_aload dX0_addPlayer_43 rfl ?_
    refine a_getR dX0_addPlayer_45 fl_RX0_40 rfl h2 (fun r7 h8 => ?_)
    refine a_iconst (v := nI 0) dX0_addPlayer_48 (by decide) ?_
    refine a_putI dX0_addPlayer_49 fl_RX0_50 (rfl : _ = FieldType.int) rfl rfl rfl h8 ?_
    refine a_aload_n dX0_addPlayer_52 rfl ?_
    refine a_dup dX0_addPlayer_53 rfl ?_
    refine a_getI dX0_addPlayer_54 fl_RX0_22 rfl g0 ?_
    refine a_iconst (v := nI 1) dX0_addPlayer_57 (by decide) ?_
    refine a_iadd dX0_addPlayer_58 ?_
    refine a_putI dX0_addPlayer_59 fl_RX0_22 (rfl : _ = FieldType.int) rfl rfl rfl g0 ?_
    exact AW.ret dX0_addPlayer_62 rfl rfl
  · skip
    exact AW.ret dX0_addPlayer_8 rfl rfl
theorem m_Ga_addPlayer {S : ba_S} {a0 : Nat} {a1 : Int32} {a2 : Int32} {a3 : Int32} {a4 : Int32} {a5 : Int32} {m : ba_M} {q : ba_M} (h : f_Ga_addPlayer S a0 a1 a2 a3 a4 a5 m = some q) : MA (Y_Ga_addPlayer S) yX0_addPlayer none [aR (some a0), aI a1, aI a2, aI a3, aI a4, aI a5] S m q :=
  ba_met ⟨by decide +kernel, rfl⟩ rfl (fun h => by cases h) (Or.inr (Or.inr (Or.inr (Or.inl ⟨rfl, rfl, rfl⟩)))) rfl (h ▸ e_Ga_addPlayer S a0 a1 a2 a3 a4 a5 m)

abbrev Y_Ga_tellUntoldCalls (S : ba_S) : ba_Y (ba_M) := mV cX0_tellUntoldCalls RX0 4 1 23 S
def f_Ga_tellUntoldCalls_60 (S : ba_S) (k2 : Nat → Int32 → ba_M → Option (ba_M)) (v0 : Nat) (v1 : Int32) (m : ba_M) : Option (ba_M) :=
  (k2 v0 (v1 + (nI 1)) m)
set_option maxRecDepth 100000 in
theorem w_Ga_tellUntoldCalls_60 {S : ba_S} {k2 : Nat → Int32 → ba_M → Option (ba_M)} (hk2 : ∀ (v0 : Nat) (v1 : Int32) (m : ba_M), ck S v0 0 = true → AW (Y_Ga_tellUntoldCalls S) 2 [some (aR (some v0)), some (aI v1), none, none] [] S m (k2 v0 v1 m)) : ∀ (v0 : Nat) (v1 : Int32) (m : ba_M), ck S v0 0 = true → AW (Y_Ga_tellUntoldCalls S) 60 [some (aR (some v0)), some (aI v1), none, none] [] S m (f_Ga_tellUntoldCalls_60 S k2 v0 v1 m) := by
  intro v0 v1 m g0
  unfold f_Ga_tellUntoldCalls_60
  refine a_iinc (v := nI 1) dX0_tellUntoldCalls_60 rfl (by decide) rfl rfl ?_
  refine a_goto (tgt := 2) dX0_tellUntoldCalls_63 (by decide) ?_
  exact AW.weak (Lw_so rfl (Lw_so rfl (Lw_no (Lw_no Lw_end)))) (hk2 _ _ _ g0)
def f_Ga_tellUntoldCalls_45 (S : ba_S) (k2 : Nat → Int32 → ba_M → Option (ba_M)) (v0 : Nat) (v1 : Int32) (v2 : Nat) (s0 : Int32) (m : ba_M) : Option (ba_M) :=
  ((f_Ga_who S v0 s0 m).bind fun q1 => cK S q1.1 2 ((f_To_tellCall S v2 s0 (gI q1.2 q1.1 1) (nI 1) q1.2).bind fun q3 => (f_Ga_tellUntoldCalls_60 S k2 v0 v1 q3)))
set_option maxRecDepth 100000 in
theorem w_Ga_tellUntoldCalls_45 {S : ba_S} {k2 : Nat → Int32 → ba_M → Option (ba_M)} (hk2 : ∀ (v0 : Nat) (v1 : Int32) (m : ba_M), ck S v0 0 = true → AW (Y_Ga_tellUntoldCalls S) 2 [some (aR (some v0)), some (aI v1), none, none] [] S m (k2 v0 v1 m)) : ∀ (v0 : Nat) (v1 : Int32) (v2 : Nat) (s0 : Int32) (m : ba_M), ck S v0 0 = true → ck S v2 9 = true → AW (Y_Ga_tellUntoldCalls S) 45 [some (aR (some v0)), some (aI v1), some (aR (some v2)), none] [aI s0] S m (f_Ga_tellUntoldCalls_45 S k2 v0 v1 v2 s0 m) := by
  intro v0 v1 v2 s0 m g0 g2
  unfold f_Ga_tellUntoldCalls_45
  refine a_istore_n dX0_tellUntoldCalls_45 rfl rfl ?_
  refine a_aload_n dX0_tellUntoldCalls_46 rfl ?_
  refine a_iload_n dX0_tellUntoldCalls_47 rfl ?_
  refine a_aload_n dX0_tellUntoldCalls_48 rfl ?_
  refine a_iload_n dX0_tellUntoldCalls_49 rfl ?_
  refine a_callV_R dX0_tellUntoldCalls_50 lk_RX0_32 mt_Ga_who vt_Ga_who ⟨_, rfl, rfl⟩ (fun _ h => m_Ga_who h) rfl rfl g0 ⟨rfl, rfl, rfl⟩ (fun q1 => ?_)
  refine AW.ck (fun h2 => ?_)
  refine a_getI dX0_tellUntoldCalls_53 fl_RX0_56 rfl h2 ?_
  refine a_iconst (v := nI 1) dX0_tellUntoldCalls_56 (by decide) ?_
  refine a_callV_V dX0_tellUntoldCalls_57 lk_RX0_44 mt_To_tellCall vt_To_tellCall ⟨_, rfl, rfl⟩ (fun _ h => m_To_tellCall h) rfl rfl g2 ⟨rfl, rfl, rfl⟩ (fun q3 => ?_)
  exact AW.weak (Lw_so rfl (Lw_so rfl (Lw_no (Lw_no Lw_end)))) (w_Ga_tellUntoldCalls_60 hk2 _ _ _ g0)
def b_Ga_tellUntoldCalls_2 (S : ba_S) (k2 : Nat → Int32 → ba_M → Option (ba_M)) (v0 : Nat) (v1 : Int32) (m : ba_M) : Option (ba_M) :=
  (if (gI m v0 2) ≤ v1 then (some m) else ((f_Ga_who S v0 v1 m).bind fun q4 => cK S q4.1 2 (ldR S q4.1 0 9 fun r6 => (if (gI q4.2 r6 0) = (-4 : Int32) then (if (gI q4.2 v0 2) ≤ (v1 + (nI 1)) then (f_Ga_tellUntoldCalls_45 S k2 v0 v1 r6 (nI 0) q4.2) else (f_Ga_tellUntoldCalls_45 S k2 v0 v1 r6 (v1 + (nI 1)) q4.2)) else (f_Ga_tellUntoldCalls_60 S k2 v0 v1 q4.2)))))
set_option maxRecDepth 100000 in
theorem w_Ga_tellUntoldCalls_2 {S : ba_S} {k2 : Nat → Int32 → ba_M → Option (ba_M)} (hk2 : ∀ (v0 : Nat) (v1 : Int32) (m : ba_M), ck S v0 0 = true → AW (Y_Ga_tellUntoldCalls S) 2 [some (aR (some v0)), some (aI v1), none, none] [] S m (k2 v0 v1 m)) : ∀ (v0 : Nat) (v1 : Int32) (m : ba_M), ck S v0 0 = true → AW (Y_Ga_tellUntoldCalls S) 2 [some (aR (some v0)), some (aI v1), none, none] [] S m (b_Ga_tellUntoldCalls_2 S k2 v0 v1 m) := by
  intro v0 v1 m g0
  unfold b_Ga_tellUntoldCalls_2
  refine a_iload_n dX0_tellUntoldCalls_2 rfl ?_
  refine a_aload_n dX0_tellUntoldCalls_3 rfl ?_
  refine a_getI dX0_tellUntoldCalls_4 fl_RX0_22 rfl g0 ?_
  refine a_ige (tgt := 66) dX0_tellUntoldCalls_7 (by decide) (fun _ => ?_) (fun _ => ?_)
  · skip
    exact AW.ret dX0_tellUntoldCalls_66 rfl rfl
  · skip
    refine a_aload_n dX0_tellUntoldCalls_10 rfl ?_
    refine a_iload_n dX0_tellUntoldCalls_11 rfl ?_
    refine a_callV_R dX0_tellUntoldCalls_12 lk_RX0_32 mt_Ga_who vt_Ga_who ⟨_, rfl, rfl⟩ (fun _ h => m_Ga_who h) rfl rfl g0 ⟨rfl, rfl, rfl⟩ (fun q4 => ?_)
    refine AW.ck (fun h5 => ?_)
    refine a_getR dX0_tellUntoldCalls_15 fl_RX0_40 rfl h5 (fun r6 h7 => ?_)
    refine a_astore_n dX0_tellUntoldCalls_18 rfl rfl ?_
    refine a_aload_n dX0_tellUntoldCalls_19 rfl ?_
    refine a_getI dX0_tellUntoldCalls_20 fl_RX0_53 rfl h7 ?_
    refine a_bipush (v := -4) dX0_tellUntoldCalls_23 (by decide) ?_
    refine a_ine (tgt := 60) dX0_tellUntoldCalls_25 (by decide) (fun _ => ?_) (fun _ => ?_)
    · skip
      exact AW.weak (Lw_so rfl (Lw_so rfl (Lw_no (Lw_no Lw_end)))) (w_Ga_tellUntoldCalls_60 hk2 _ _ _ g0)
    · skip
      refine a_iload_n dX0_tellUntoldCalls_28 rfl ?_
      refine a_iconst (v := nI 1) dX0_tellUntoldCalls_29 (by decide) ?_
      refine a_iadd dX0_tellUntoldCalls_30 ?_
      refine a_aload_n dX0_tellUntoldCalls_31 rfl ?_
      refine a_getI dX0_tellUntoldCalls_32 fl_RX0_22 rfl g0 ?_
      refine a_ige (tgt := 44) dX0_tellUntoldCalls_35 (by decide) (fun _ => ?_) (fun _ => ?_)
      · skip
        refine a_iconst (v := nI 0) dX0_tellUntoldCalls_44 (by decide) ?_
        exact AW.weak (Lw_so rfl (Lw_so rfl (Lw_so rfl (Lw_no Lw_end)))) (w_Ga_tellUntoldCalls_45 hk2 _ _ _ _ _ g0 h7)
      · skip
        refine a_iload_n dX0_tellUntoldCalls_38 rfl ?_
        refine a_iconst (v := nI 1) dX0_tellUntoldCalls_39 (by decide) ?_
        refine a_iadd dX0_tellUntoldCalls_40 ?_
        refine a_goto (tgt := 45) dX0_tellUntoldCalls_41 (by decide) ?_
        exact AW.weak (Lw_so rfl (Lw_so rfl (Lw_so rfl (Lw_no Lw_end)))) (w_Ga_tellUntoldCalls_45 hk2 _ _ _ _ _ g0 h7)
def f_Ga_tellUntoldCalls_2 (S : ba_S) : Nat → Int32 → ba_M → Option (ba_M) := fx (fun _ _ _ => none) (b_Ga_tellUntoldCalls_2 S) FU
theorem l_Ga_tellUntoldCalls_2 {S : ba_S} : ∀ (n : Nat) (v0 : Nat) (v1 : Int32) (m : ba_M), ck S v0 0 = true → AW (Y_Ga_tellUntoldCalls S) 2 [some (aR (some v0)), some (aI v1), none, none] [] S m ((fx (F := Nat → Int32 → ba_M → Option (ba_M)) (fun _ _ _ => none) (b_Ga_tellUntoldCalls_2 S) n) v0 v1 m) := by
  intro n
  induction n with
  | zero => intro _ _ _ _; exact AW.none
  | succ n ih => exact w_Ga_tellUntoldCalls_2 ih
def f_Ga_tellUntoldCalls (S : ba_S) (a0 : Nat) (m : ba_M) : Option (ba_M) :=
  cK S a0 0 ((f_Ga_tellUntoldCalls_2 S a0 (nI 0) m))
set_option maxRecDepth 100000 in
theorem e_Ga_tellUntoldCalls (S : ba_S) (a0 : Nat) (m : ba_M) : AW (Y_Ga_tellUntoldCalls S) 0 [some (aR (some a0)), none, none, none] [] S m (f_Ga_tellUntoldCalls S a0 m) := by
  unfold f_Ga_tellUntoldCalls
  refine AW.ck (fun g0 => ?_)
  refine a_iconst (v := nI 0) dX0_tellUntoldCalls_0 (by decide) ?_
  refine a_istore_n dX0_tellUntoldCalls_1 rfl rfl ?_
  exact AW.weak (Lw_so rfl (Lw_so rfl (Lw_no (Lw_no Lw_end)))) (l_Ga_tellUntoldCalls_2 FU _ _ _ g0)
theorem m_Ga_tellUntoldCalls {S : ba_S} {a0 : Nat} {m : ba_M} {q : ba_M} (h : f_Ga_tellUntoldCalls S a0 m = some q) : MA (Y_Ga_tellUntoldCalls S) yX0_tellUntoldCalls none [aR (some a0)] S m q :=
  ba_met ⟨by decide +kernel, rfl⟩ rfl (fun h => by cases h) (Or.inr (Or.inr (Or.inr (Or.inl ⟨rfl, rfl, rfl⟩)))) rfl (h ▸ e_Ga_tellUntoldCalls S a0 m)

abbrev Y_Te_hasRoomFor (S : ba_S) : ba_Y (Bool × ba_M) := mZ cX9_hasRoomFor RX9 2 0 0 S
def f_Te_hasRoomFor_17 (S : ba_S) (s0 : Bool) (m : ba_M) : Option (Bool × ba_M) :=
  (some (s0, m))
set_option maxRecDepth 100000 in
theorem w_Te_hasRoomFor_17 {S : ba_S} : ∀ (s0 : Bool) (m : ba_M), AW (Y_Te_hasRoomFor S) 17 [none, none] [aI (b2i s0)] S m (f_Te_hasRoomFor_17 S s0 m) := by
  intro s0 m
  unfold f_Te_hasRoomFor_17
  exact AW.ret dX9_hasRoomFor_17 rfl rfl
def f_Te_hasRoomFor (S : ba_S) (a0 : Nat) (a1 : Int32) (m : ba_M) : Option (Bool × ba_M) :=
  cK S a0 8 ((if (nI 300) < ((gI m a0 1) + a1) then (f_Te_hasRoomFor_17 S false m) else (f_Te_hasRoomFor_17 S true m)))
set_option maxRecDepth 100000 in
theorem e_Te_hasRoomFor (S : ba_S) (a0 : Nat) (a1 : Int32) (m : ba_M) : AW (Y_Te_hasRoomFor S) 0 [some (aR (some a0)), some (aI a1)] [] S m (f_Te_hasRoomFor S a0 a1 m) := by
  unfold f_Te_hasRoomFor
  refine AW.ck (fun g0 => ?_)
  refine a_aload_n dX9_hasRoomFor_0 rfl ?_
  refine a_getI dX9_hasRoomFor_1 fl_RX9_15 rfl g0 ?_
  refine a_iload_n dX9_hasRoomFor_4 rfl ?_
  refine a_iadd dX9_hasRoomFor_5 ?_
  refine a_sipush (v := nI 300) dX9_hasRoomFor_6 (by decide) ?_
  refine a_igt (tgt := 16) dX9_hasRoomFor_9 (by decide) (fun _ => ?_) (fun _ => ?_)
  · skip
    refine a_iconst (v := nI 0) dX9_hasRoomFor_16 (by decide) ?_
    exact AW.weak (Lw_no (Lw_no Lw_end)) (w_Te_hasRoomFor_17 _ _)
  · skip
    refine a_iconst (v := nI 1) dX9_hasRoomFor_12 (by decide) ?_
    refine a_goto (tgt := 17) dX9_hasRoomFor_13 (by decide) ?_
    exact AW.weak (Lw_no (Lw_no Lw_end)) (w_Te_hasRoomFor_17 _ _)
theorem m_Te_hasRoomFor {S : ba_S} {a0 : Nat} {a1 : Int32} {m : ba_M} {q : Bool × ba_M} (h : f_Te_hasRoomFor S a0 a1 m = some q) : MA (Y_Te_hasRoomFor S) yX9_hasRoomFor (some .boolean) [aR (some a0), aI a1] S m q :=
  ba_met ⟨by decide +kernel, rfl⟩ rfl (fun h => by cases h) (Or.inr (Or.inl ⟨rfl, rfl, _, rfl⟩)) rfl (h ▸ e_Te_hasRoomFor S a0 a1 m)

abbrev Y_Te_append (S : ba_S) : ba_Y (Int32 × ba_M) := mI cX9_append RX9 5 1 22 S
def b_Te_append_5 (S : ba_S) (k5 : Nat → Int64 → Int32 → ba_M → Option (Int32 × ba_M)) (v0 : Nat) (v2 : Int64) (v4 : Int32) (m : ba_M) : Option (Int32 × ba_M) :=
  (if v4 < 0 then (some ((gI m v0 1), m)) else (ldR S v0 0 20 fun r1 => ((f_Rw_put S r1 (gI m v0 1) ((Int64.toInt32 ((Int64.toUInt64 v2 >>> ((Int32.toInt64 ((nI 8) * v4)).toUInt64 &&& Int64.toUInt64 63)).toInt64)) &&& (nI 255)) m).bind fun q3 => (k5 v0 v2 (v4 + (-1 : Int32)) (wI q3 v0 1 ((gI q3 v0 1) + (nI 1)))))))
set_option maxRecDepth 100000 in
theorem w_Te_append_5 {S : ba_S} {k5 : Nat → Int64 → Int32 → ba_M → Option (Int32 × ba_M)} (hk5 : ∀ (v0 : Nat) (v2 : Int64) (v4 : Int32) (m : ba_M), ck S v0 8 = true → AW (Y_Te_append S) 5 [some (aR (some v0)), none, some (aJ v2), none, some (aI v4)] [] S m (k5 v0 v2 v4 m)) : ∀ (v0 : Nat) (v2 : Int64) (v4 : Int32) (m : ba_M), ck S v0 8 = true → AW (Y_Te_append S) 5 [some (aR (some v0)), none, some (aJ v2), none, some (aI v4)] [] S m (b_Te_append_5 S k5 v0 v2 v4 m) := by
  intro v0 v2 v4 m g0
  unfold b_Te_append_5
  refine a_iload dX9_append_5 rfl ?_
  refine a_zlt (tgt := 49) dX9_append_7 (by decide) (fun _ => ?_) (fun _ => ?_)
  · skip
    refine a_aload_n dX9_append_49 rfl ?_
    refine a_getI dX9_append_50 fl_RX9_15 rfl g0 ?_
    exact AW.ret dX9_append_53 rfl rfl
  · skip
    refine a_aload_n dX9_append_10 rfl ?_
    refine a_getR dX9_append_11 fl_RX9_9 rfl g0 (fun r1 h2 => ?_)
    refine a_aload_n dX9_append_14 rfl ?_
    refine a_getI dX9_append_15 fl_RX9_15 rfl g0 ?_
    refine a_lload_n dX9_append_18 rfl ?_
    refine a_bipush (v := nI 8) dX9_append_19 (by decide) ?_
    refine a_iload dX9_append_21 rfl ?_
    refine a_imul dX9_append_23 ?_
    refine a_lushr dX9_append_24 ?_
    refine a_l2i dX9_append_25 ?_
    refine a_sipush (v := nI 255) dX9_append_26 (by decide) ?_
    refine a_iand dX9_append_29 ?_
    refine a_callS_V dX9_append_30 lk_RX9_19 mt_Rw_put sv_Rw_put (fun _ h => m_Rw_put h) rfl rfl ⟨rfl, rfl, rfl⟩ (fun q3 => ?_)
    refine a_aload_n dX9_append_33 rfl ?_
    refine a_dup dX9_append_34 rfl ?_
    refine a_getI dX9_append_35 fl_RX9_15 rfl g0 ?_
    refine a_iconst (v := nI 1) dX9_append_38 (by decide) ?_
    refine a_iadd dX9_append_39 ?_
    refine a_putI dX9_append_40 fl_RX9_15 (rfl : _ = FieldType.int) rfl rfl rfl g0 ?_
    refine a_iinc (v := -1) dX9_append_43 rfl (by decide) rfl rfl ?_
    refine a_goto (tgt := 5) dX9_append_46 (by decide) ?_
    exact AW.weak (Lw_so rfl (Lw_no (Lw_so rfl (Lw_no (Lw_so rfl Lw_end))))) (hk5 _ _ _ _ g0)
def f_Te_append_5 (S : ba_S) : Nat → Int64 → Int32 → ba_M → Option (Int32 × ba_M) := fx (fun _ _ _ _ => none) (b_Te_append_5 S) FU
theorem l_Te_append_5 {S : ba_S} : ∀ (n : Nat) (v0 : Nat) (v2 : Int64) (v4 : Int32) (m : ba_M), ck S v0 8 = true → AW (Y_Te_append S) 5 [some (aR (some v0)), none, some (aJ v2), none, some (aI v4)] [] S m ((fx (F := Nat → Int64 → Int32 → ba_M → Option (Int32 × ba_M)) (fun _ _ _ _ => none) (b_Te_append_5 S) n) v0 v2 v4 m) := by
  intro n
  induction n with
  | zero => intro _ _ _ _ _; exact AW.none
  | succ n ih => exact w_Te_append_5 ih
def f_Te_append (S : ba_S) (a0 : Nat) (a1 : Int32) (a2 : Int64) (m : ba_M) : Option (Int32 × ba_M) :=
  cK S a0 8 ((f_Te_append_5 S a0 a2 (a1 - (nI 1)) m))
set_option maxRecDepth 100000 in
theorem e_Te_append (S : ba_S) (a0 : Nat) (a1 : Int32) (a2 : Int64) (m : ba_M) : AW (Y_Te_append S) 0 [some (aR (some a0)), some (aI a1), some (aJ a2), none, none] [] S m (f_Te_append S a0 a1 a2 m) := by
  unfold f_Te_append
  refine AW.ck (fun g0 => ?_)
  refine a_iload_n dX9_append_0 rfl ?_
  refine a_iconst (v := nI 1) dX9_append_1 (by decide) ?_
  refine a_isub dX9_append_2 ?_
  refine a_istore dX9_append_3 rfl rfl ?_
  exact AW.weak (Lw_so rfl (Lw_no (Lw_so rfl (Lw_no (Lw_so rfl Lw_end))))) (l_Te_append_5 FU _ _ _ _ g0)
theorem m_Te_append {S : ba_S} {a0 : Nat} {a1 : Int32} {a2 : Int64} {m : ba_M} {q : Int32 × ba_M} (h : f_Te_append S a0 a1 a2 m = some q) : MA (Y_Te_append S) yX9_append (some .int) [aR (some a0), aI a1, aJ a2] S m q :=
  ba_met ⟨by decide +kernel, rfl⟩ rfl (fun h => by cases h) (Or.inl ⟨rfl, rfl, _, rfl⟩) rfl (h ▸ e_Te_append S a0 a1 a2 m)

abbrev Y_Te_empty (S : ba_S) : ba_Y (Int32 × ba_M) := mI cX9_empty RX9 2 0 0 S
def f_Te_empty (S : ba_S) (a0 : Nat) (m : ba_M) : Option (Int32 × ba_M) :=
  cK S a0 8 ((some ((gI m a0 1), (wI m a0 1 (nI 0)))))
set_option maxRecDepth 100000 in
theorem e_Te_empty (S : ba_S) (a0 : Nat) (m : ba_M) : AW (Y_Te_empty S) 0 [some (aR (some a0)), none] [] S m (f_Te_empty S a0 m) := by
  unfold f_Te_empty
  refine AW.ck (fun g0 => ?_)
  refine a_aload_n dX9_empty_0 rfl ?_
  refine a_getI dX9_empty_1 fl_RX9_15 rfl g0 ?_
  refine a_istore_n dX9_empty_4 rfl rfl ?_
  refine a_aload_n dX9_empty_5 rfl ?_
  refine a_iconst (v := nI 0) dX9_empty_6 (by decide) ?_
  refine a_putI dX9_empty_7 fl_RX9_15 (rfl : _ = FieldType.int) rfl rfl rfl g0 ?_
  refine a_iload_n dX9_empty_10 rfl ?_
  exact AW.ret dX9_empty_11 rfl rfl
theorem m_Te_empty {S : ba_S} {a0 : Nat} {m : ba_M} {q : Int32 × ba_M} (h : f_Te_empty S a0 m = some q) : MA (Y_Te_empty S) yX9_empty (some .int) [aR (some a0)] S m q :=
  ba_met ⟨by decide +kernel, rfl⟩ rfl (fun h => by cases h) (Or.inl ⟨rfl, rfl, _, rfl⟩) rfl (h ▸ e_Te_empty S a0 m)

abbrev Y_Ga_empty (S : ba_S) : ba_Y (ba_M) := mV cX0_empty RX0 1 0 0 S
def f_Ga_empty (S : ba_S) (a0 : Nat) (m : ba_M) : Option (ba_M) :=
  cK S a0 0 ((some (wI (wI (wI m a0 2 (nI 0)) a0 3 (nI 30)) a0 4 (nI 1))))
set_option maxRecDepth 100000 in
theorem e_Ga_empty (S : ba_S) (a0 : Nat) (m : ba_M) : AW (Y_Ga_empty S) 0 [some (aR (some a0))] [] S m (f_Ga_empty S a0 m) := by
  unfold f_Ga_empty
  refine AW.ck (fun g0 => ?_)
  refine a_aload_n dX0_empty_0 rfl ?_
  refine a_iconst (v := nI 0) dX0_empty_1 (by decide) ?_
  refine a_putI dX0_empty_2 fl_RX0_22 (rfl : _ = FieldType.int) rfl rfl rfl g0 ?_
  refine a_aload_n dX0_empty_5 rfl ?_
  refine a_bipush (v := nI 30) dX0_empty_6 (by decide) ?_
  refine a_putI dX0_empty_8 fl_RX0_26 (rfl : _ = FieldType.int) rfl rfl rfl g0 ?_
  refine a_aload_n dX0_empty_11 rfl ?_
  refine a_iconst (v := nI 1) dX0_empty_12 (by decide) ?_
  refine a_putI dX0_empty_13 fl_RX0_29 (rfl : _ = FieldType.int) rfl rfl rfl g0 ?_
  exact AW.ret dX0_empty_16 rfl rfl
theorem m_Ga_empty {S : ba_S} {a0 : Nat} {m : ba_M} {q : ba_M} (h : f_Ga_empty S a0 m = some q) : MA (Y_Ga_empty S) yX0_empty none [aR (some a0)] S m q :=
  ba_met ⟨by decide +kernel, rfl⟩ rfl (fun h => by cases h) (Or.inr (Or.inr (Or.inr (Or.inl ⟨rfl, rfl, rfl⟩)))) rfl (h ▸ e_Ga_empty S a0 m)

abbrev Y_Te_byteAt (S : ba_S) : ba_Y (Int32 × ba_M) := mI cX9_byteAt RX9 2 1 21 S
def f_Te_byteAt_20 (S : ba_S) (s0 : Int32) (m : ba_M) : Option (Int32 × ba_M) :=
  (some (s0, m))
set_option maxRecDepth 100000 in
theorem w_Te_byteAt_20 {S : ba_S} : ∀ (s0 : Int32) (m : ba_M), AW (Y_Te_byteAt S) 20 [none, none] [aI s0] S m (f_Te_byteAt_20 S s0 m) := by
  intro s0 m
  unfold f_Te_byteAt_20
  exact AW.ret dX9_byteAt_20 rfl rfl
def f_Te_byteAt (S : ba_S) (a0 : Nat) (a1 : Int32) (m : ba_M) : Option (Int32 × ba_M) :=
  cK S a0 8 ((if (gI m a0 1) ≤ a1 then (f_Te_byteAt_20 S (-1 : Int32) m) else (ldR S a0 0 20 fun r1 => ((f_Rw_at S r1 a1 m).bind fun q3 => (f_Te_byteAt_20 S q3.1 q3.2)))))
set_option maxRecDepth 100000 in
theorem e_Te_byteAt (S : ba_S) (a0 : Nat) (a1 : Int32) (m : ba_M) : AW (Y_Te_byteAt S) 0 [some (aR (some a0)), some (aI a1)] [] S m (f_Te_byteAt S a0 a1 m) := by
  unfold f_Te_byteAt
  refine AW.ck (fun g0 => ?_)
  refine a_iload_n dX9_byteAt_0 rfl ?_
  refine a_aload_n dX9_byteAt_1 rfl ?_
  refine a_getI dX9_byteAt_2 fl_RX9_15 rfl g0 ?_
  refine a_ige (tgt := 19) dX9_byteAt_5 (by decide) (fun _ => ?_) (fun _ => ?_)
  · skip
    refine a_iconst (v := -1) dX9_byteAt_19 (by decide) ?_
    exact AW.weak (Lw_no (Lw_no Lw_end)) (w_Te_byteAt_20 _ _)
  · skip
    refine a_aload_n dX9_byteAt_8 rfl ?_
    refine a_getR dX9_byteAt_9 fl_RX9_9 rfl g0 (fun r1 h2 => ?_)
    refine a_iload_n dX9_byteAt_12 rfl ?_
    refine a_callS_I dX9_byteAt_13 lk_RX9_25 mt_Rw_at sv_Rw_at (fun _ h => m_Rw_at h) rfl rfl ⟨rfl, rfl, rfl⟩ (fun q3 => ?_)
    refine a_goto (tgt := 20) dX9_byteAt_16 (by decide) ?_
    exact AW.weak (Lw_no (Lw_no Lw_end)) (w_Te_byteAt_20 _ _)
theorem m_Te_byteAt {S : ba_S} {a0 : Nat} {a1 : Int32} {m : ba_M} {q : Int32 × ba_M} (h : f_Te_byteAt S a0 a1 m = some q) : MA (Y_Te_byteAt S) yX9_byteAt (some .int) [aR (some a0), aI a1] S m q :=
  ba_met ⟨by decide +kernel, rfl⟩ rfl (fun h => by cases h) (Or.inl ⟨rfl, rfl, _, rfl⟩) rfl (h ▸ e_Te_byteAt S a0 a1 m)

abbrev Y_Te_hasFigureAt (S : ba_S) : ba_Y (Bool × ba_M) := mZ cX9_hasFigureAt RX9 2 2 42 S
def f_Te_hasFigureAt (S : ba_S) (a0 : Nat) (a1 : Int32) (m : ba_M) : Option (Bool × ba_M) :=
  cK S a0 8 (((f_Te_byteAt S a0 a1 m).bind fun q1 => ((f_Ba_within S q1.1 (nI 48) (nI 57) q1.2).bind fun q2 => (some (q2.1, q2.2)))))
set_option maxRecDepth 100000 in
theorem e_Te_hasFigureAt (S : ba_S) (a0 : Nat) (a1 : Int32) (m : ba_M) : AW (Y_Te_hasFigureAt S) 0 [some (aR (some a0)), some (aI a1)] [] S m (f_Te_hasFigureAt S a0 a1 m) := by
  unfold f_Te_hasFigureAt
  refine AW.ck (fun g0 => ?_)
  refine a_aload_n dX9_hasFigureAt_0 rfl ?_
  refine a_iload_n dX9_hasFigureAt_1 rfl ?_
  refine a_callV_I dX9_hasFigureAt_2 lk_RX9_29 mt_Te_byteAt vt_Te_byteAt ⟨_, rfl, rfl⟩ (fun _ h => m_Te_byteAt h) rfl rfl g0 ⟨rfl, rfl, rfl⟩ (fun q1 => ?_)
  refine a_bipush (v := nI 48) dX9_hasFigureAt_5 (by decide) ?_
  refine a_bipush (v := nI 57) dX9_hasFigureAt_7 (by decide) ?_
  refine a_callSN_Z dX9_hasFigureAt_9 lk_RX9_33 mt_Ba_within sv_Ba_within (fun _ h => m_Ba_within h) rfl rfl ⟨rfl, rfl, rfl⟩ (fun q2 => ?_)
  exact AW.ret dX9_hasFigureAt_12 rfl rfl
theorem m_Te_hasFigureAt {S : ba_S} {a0 : Nat} {a1 : Int32} {m : ba_M} {q : Bool × ba_M} (h : f_Te_hasFigureAt S a0 a1 m = some q) : MA (Y_Te_hasFigureAt S) yX9_hasFigureAt (some .boolean) [aR (some a0), aI a1] S m q :=
  ba_met ⟨by decide +kernel, rfl⟩ rfl (fun h => by cases h) (Or.inr (Or.inl ⟨rfl, rfl, _, rfl⟩)) rfl (h ▸ e_Te_hasFigureAt S a0 a1 m)

abbrev Y_Ga_has (S : ba_S) : ba_Y (Bool × ba_M) := mZ cX0_has RX0 2 0 0 S
def f_Ga_has_17 (S : ba_S) (s0 : Bool) (m : ba_M) : Option (Bool × ba_M) :=
  (some (s0, m))
set_option maxRecDepth 100000 in
theorem w_Ga_has_17 {S : ba_S} : ∀ (s0 : Bool) (m : ba_M), AW (Y_Ga_has S) 17 [none, none] [aI (b2i s0)] S m (f_Ga_has_17 S s0 m) := by
  intro s0 m
  unfold f_Ga_has_17
  exact AW.ret dX0_has_17 rfl rfl
def f_Ga_has_16 (S : ba_S) (m : ba_M) : Option (Bool × ba_M) :=
  (f_Ga_has_17 S false m)
set_option maxRecDepth 100000 in
theorem w_Ga_has_16 {S : ba_S} : ∀ (m : ba_M), AW (Y_Ga_has S) 16 [none, none] [] S m (f_Ga_has_16 S m) := by
  intro m
  unfold f_Ga_has_16
  refine a_iconst (v := nI 0) dX0_has_16 (by decide) ?_
  exact AW.weak (Lw_no (Lw_no Lw_end)) (w_Ga_has_17 _ _)
def f_Ga_has (S : ba_S) (a0 : Nat) (a1 : Int32) (m : ba_M) : Option (Bool × ba_M) :=
  cK S a0 0 ((if a1 < 0 then (f_Ga_has_16 S m) else (if (gI m a0 2) ≤ a1 then (f_Ga_has_16 S m) else (f_Ga_has_17 S true m))))
set_option maxRecDepth 100000 in
theorem e_Ga_has (S : ba_S) (a0 : Nat) (a1 : Int32) (m : ba_M) : AW (Y_Ga_has S) 0 [some (aR (some a0)), some (aI a1)] [] S m (f_Ga_has S a0 a1 m) := by
  unfold f_Ga_has
  refine AW.ck (fun g0 => ?_)
  refine a_iload_n dX0_has_0 rfl ?_
  refine a_zlt (tgt := 16) dX0_has_1 (by decide) (fun _ => ?_) (fun _ => ?_)
  · skip
    exact AW.weak (Lw_no (Lw_no Lw_end)) (w_Ga_has_16 _)
  · skip
    refine a_iload_n dX0_has_4 rfl ?_
    refine a_aload_n dX0_has_5 rfl ?_
    refine a_getI dX0_has_6 fl_RX0_22 rfl g0 ?_
    refine a_ige (tgt := 16) dX0_has_9 (by decide) (fun _ => ?_) (fun _ => ?_)
    · skip
      exact AW.weak (Lw_no (Lw_no Lw_end)) (w_Ga_has_16 _)
    · skip
      refine a_iconst (v := nI 1) dX0_has_12 (by decide) ?_
      refine a_goto (tgt := 17) dX0_has_13 (by decide) ?_
      exact AW.weak (Lw_no (Lw_no Lw_end)) (w_Ga_has_17 _ _)
theorem m_Ga_has {S : ba_S} {a0 : Nat} {a1 : Int32} {m : ba_M} {q : Bool × ba_M} (h : f_Ga_has S a0 a1 m = some q) : MA (Y_Ga_has S) yX0_has (some .boolean) [aR (some a0), aI a1] S m q :=
  ba_met ⟨by decide +kernel, rfl⟩ rfl (fun h => by cases h) (Or.inr (Or.inl ⟨rfl, rfl, _, rfl⟩)) rfl (h ▸ e_Ga_has S a0 a1 m)

abbrev Y_Ga_onGround (S : ba_S) : ba_Y (Bool × ba_M) := mZ cX0_onGround RX0 2 0 0 S
def f_Ga_onGround_17 (S : ba_S) (s0 : Bool) (m : ba_M) : Option (Bool × ba_M) :=
  (some (s0, m))
set_option maxRecDepth 100000 in
theorem w_Ga_onGround_17 {S : ba_S} : ∀ (s0 : Bool) (m : ba_M), AW (Y_Ga_onGround S) 17 [none, none] [aI (b2i s0)] S m (f_Ga_onGround_17 S s0 m) := by
  intro s0 m
  unfold f_Ga_onGround_17
  exact AW.ret dX0_onGround_17 rfl rfl
def f_Ga_onGround_16 (S : ba_S) (m : ba_M) : Option (Bool × ba_M) :=
  (f_Ga_onGround_17 S false m)
set_option maxRecDepth 100000 in
theorem w_Ga_onGround_16 {S : ba_S} : ∀ (m : ba_M), AW (Y_Ga_onGround S) 16 [none, none] [] S m (f_Ga_onGround_16 S m) := by
  intro m
  unfold f_Ga_onGround_16
  refine a_iconst (v := nI 0) dX0_onGround_16 (by decide) ?_
  exact AW.weak (Lw_no (Lw_no Lw_end)) (w_Ga_onGround_17 _ _)
def f_Ga_onGround (S : ba_S) (a0 : Nat) (a1 : Int32) (m : ba_M) : Option (Bool × ba_M) :=
  cK S a0 0 ((if a1 < 0 then (f_Ga_onGround_16 S m) else (if (gI m a0 3) < a1 then (f_Ga_onGround_16 S m) else (f_Ga_onGround_17 S true m))))
set_option maxRecDepth 100000 in
theorem e_Ga_onGround (S : ba_S) (a0 : Nat) (a1 : Int32) (m : ba_M) : AW (Y_Ga_onGround S) 0 [some (aR (some a0)), some (aI a1)] [] S m (f_Ga_onGround S a0 a1 m) := by
  unfold f_Ga_onGround
  refine AW.ck (fun g0 => ?_)
  refine a_iload_n dX0_onGround_0 rfl ?_
  refine a_zlt (tgt := 16) dX0_onGround_1 (by decide) (fun _ => ?_) (fun _ => ?_)
  · skip
    exact AW.weak (Lw_no (Lw_no Lw_end)) (w_Ga_onGround_16 _)
  · skip
    refine a_iload_n dX0_onGround_4 rfl ?_
    refine a_aload_n dX0_onGround_5 rfl ?_
    refine a_getI dX0_onGround_6 fl_RX0_26 rfl g0 ?_
    refine a_igt (tgt := 16) dX0_onGround_9 (by decide) (fun _ => ?_) (fun _ => ?_)
    · skip
      exact AW.weak (Lw_no (Lw_no Lw_end)) (w_Ga_onGround_16 _)
    · skip
      refine a_iconst (v := nI 1) dX0_onGround_12 (by decide) ?_
      refine a_goto (tgt := 17) dX0_onGround_13 (by decide) ?_
      exact AW.weak (Lw_no (Lw_no Lw_end)) (w_Ga_onGround_17 _ _)
theorem m_Ga_onGround {S : ba_S} {a0 : Nat} {a1 : Int32} {m : ba_M} {q : Bool × ba_M} (h : f_Ga_onGround S a0 a1 m = some q) : MA (Y_Ga_onGround S) yX0_onGround (some .boolean) [aR (some a0), aI a1] S m q :=
  ba_met ⟨by decide +kernel, rfl⟩ rfl (fun h => by cases h) (Or.inr (Or.inl ⟨rfl, rfl, _, rfl⟩)) rfl (h ▸ e_Ga_onGround S a0 a1 m)

abbrev Y_Ga_canBePlayed (S : ba_S) : ba_Y (Bool × ba_M) := mZ cX0_canBePlayed RX0 2 1 22 S
def f_Ga_canBePlayed_53 (S : ba_S) (m : ba_M) : Option (Bool × ba_M) :=
  (some (false, m))
set_option maxRecDepth 100000 in
theorem w_Ga_canBePlayed_53 {S : ba_S} : ∀ (m : ba_M), AW (Y_Ga_canBePlayed S) 53 [none, none] [] S m (f_Ga_canBePlayed_53 S m) := by
  intro m
  unfold f_Ga_canBePlayed_53
  refine a_iconst (v := nI 0) dX0_canBePlayed_53 (by decide) ?_
  exact AW.ret dX0_canBePlayed_54 rfl rfl
def b_Ga_canBePlayed_12 (S : ba_S) (k12 : Nat → Int32 → ba_M → Option (Bool × ba_M)) (v0 : Nat) (v1 : Int32) (m : ba_M) : Option (Bool × ba_M) :=
  (if (gI m v0 2) ≤ v1 then (some (true, m)) else ((f_Ga_who S v0 v1 m).bind fun q1 => cK S q1.1 2 ((f_Ga_onGround S v0 (gI q1.2 q1.1 1) q1.2).bind fun q3 => (if q3.1 = true then ((f_Ga_who S v0 v1 q3.2).bind fun q4 => cK S q4.1 2 (ldR S q4.1 0 9 fun r6 => ((f_Ga_onGround S v0 (gI q4.2 r6 1) q4.2).bind fun q8 => (if q8.1 = true then (k12 v0 (v1 + (nI 1)) q8.2) else (f_Ga_canBePlayed_53 S q8.2))))) else (f_Ga_canBePlayed_53 S q3.2)))))
set_option maxRecDepth 100000 in
theorem w_Ga_canBePlayed_12 {S : ba_S} {k12 : Nat → Int32 → ba_M → Option (Bool × ba_M)} (hk12 : ∀ (v0 : Nat) (v1 : Int32) (m : ba_M), ck S v0 0 = true → AW (Y_Ga_canBePlayed S) 12 [some (aR (some v0)), some (aI v1)] [] S m (k12 v0 v1 m)) : ∀ (v0 : Nat) (v1 : Int32) (m : ba_M), ck S v0 0 = true → AW (Y_Ga_canBePlayed S) 12 [some (aR (some v0)), some (aI v1)] [] S m (b_Ga_canBePlayed_12 S k12 v0 v1 m) := by
  intro v0 v1 m g0
  unfold b_Ga_canBePlayed_12
  refine a_iload_n dX0_canBePlayed_12 rfl ?_
  refine a_aload_n dX0_canBePlayed_13 rfl ?_
  refine a_getI dX0_canBePlayed_14 fl_RX0_22 rfl g0 ?_
  refine a_ige (tgt := 61) dX0_canBePlayed_17 (by decide) (fun _ => ?_) (fun _ => ?_)
  · skip
    refine a_iconst (v := nI 1) dX0_canBePlayed_61 (by decide) ?_
    exact AW.ret dX0_canBePlayed_62 rfl rfl
  · skip
    refine a_aload_n dX0_canBePlayed_20 rfl ?_
    refine a_aload_n dX0_canBePlayed_21 rfl ?_
    refine a_iload_n dX0_canBePlayed_22 rfl ?_
    refine a_callV_R dX0_canBePlayed_23 lk_RX0_32 mt_Ga_who vt_Ga_who ⟨_, rfl, rfl⟩ (fun _ h => m_Ga_who h) rfl rfl g0 ⟨rfl, rfl, rfl⟩ (fun q1 => ?_)
    refine AW.ck (fun h2 => ?_)
    refine a_getI dX0_canBePlayed_26 fl_RX0_56 rfl h2 ?_
    refine a_callV_Z dX0_canBePlayed_29 lk_RX0_59 mt_Ga_onGround vt_Ga_onGround ⟨_, rfl, rfl⟩ (fun _ h => m_Ga_onGround h) rfl rfl g0 ⟨rfl, rfl, rfl⟩ (fun q3 => ?_)
    refine a_beq (tgt := 53) dX0_canBePlayed_32 (by decide) (fun _ => ?_) (fun _ => ?_)
    · skip
      exact AW.weak (Lw_no (Lw_no Lw_end)) (w_Ga_canBePlayed_53 _)
    · skip
      refine a_aload_n dX0_canBePlayed_35 rfl ?_
      refine a_aload_n dX0_canBePlayed_36 rfl ?_
      refine a_iload_n dX0_canBePlayed_37 rfl ?_
      refine a_callV_R dX0_canBePlayed_38 lk_RX0_32 mt_Ga_who vt_Ga_who ⟨_, rfl, rfl⟩ (fun _ h => m_Ga_who h) rfl rfl g0 ⟨rfl, rfl, rfl⟩ (fun q4 => ?_)
      refine AW.ck (fun h5 => ?_)
      refine a_getR dX0_canBePlayed_41 fl_RX0_40 rfl h5 (fun r6 h7 => ?_)
      refine a_getI dX0_canBePlayed_44 fl_RX0_63 rfl h7 ?_
      refine a_callV_Z dX0_canBePlayed_47 lk_RX0_59 mt_Ga_onGround vt_Ga_onGround ⟨_, rfl, rfl⟩ (fun _ h => m_Ga_onGround h) rfl rfl g0 ⟨rfl, rfl, rfl⟩ (fun q8 => ?_)
      refine a_bne (tgt := 55) dX0_canBePlayed_50 (by decide) (fun _ => ?_) (fun _ => ?_)
      · skip
        refine a_iinc (v := nI 1) dX0_canBePlayed_55 rfl (by decide) rfl rfl ?_
        refine a_goto (tgt := 12) dX0_canBePlayed_58 (by decide) ?_
        exact AW.weak (Lw_so rfl (Lw_so rfl Lw_end)) (hk12 _ _ _ g0)
      · skip
        exact AW.weak (Lw_no (Lw_no Lw_end)) (w_Ga_canBePlayed_53 _)
def f_Ga_canBePlayed_12 (S : ba_S) : Nat → Int32 → ba_M → Option (Bool × ba_M) := fx (fun _ _ _ => none) (b_Ga_canBePlayed_12 S) FU
theorem l_Ga_canBePlayed_12 {S : ba_S} : ∀ (n : Nat) (v0 : Nat) (v1 : Int32) (m : ba_M), ck S v0 0 = true → AW (Y_Ga_canBePlayed S) 12 [some (aR (some v0)), some (aI v1)] [] S m ((fx (F := Nat → Int32 → ba_M → Option (Bool × ba_M)) (fun _ _ _ => none) (b_Ga_canBePlayed_12 S) n) v0 v1 m) := by
  intro n
  induction n with
  | zero => intro _ _ _ _; exact AW.none
  | succ n ih => exact w_Ga_canBePlayed_12 ih
def f_Ga_canBePlayed (S : ba_S) (a0 : Nat) (m : ba_M) : Option (Bool × ba_M) :=
  cK S a0 0 ((if (nI 2) ≤ (gI m a0 2) then (f_Ga_canBePlayed_12 S a0 (nI 0) m) else (some (false, m))))
set_option maxRecDepth 100000 in
theorem e_Ga_canBePlayed (S : ba_S) (a0 : Nat) (m : ba_M) : AW (Y_Ga_canBePlayed S) 0 [some (aR (some a0)), none] [] S m (f_Ga_canBePlayed S a0 m) := by
  unfold f_Ga_canBePlayed
  refine AW.ck (fun g0 => ?_)
  refine a_aload_n dX0_canBePlayed_0 rfl ?_
  refine a_getI dX0_canBePlayed_1 fl_RX0_22 rfl g0 ?_
  refine a_iconst (v := nI 2) dX0_canBePlayed_4 (by decide) ?_
  refine a_ige (tgt := 10) dX0_canBePlayed_5 (by decide) (fun _ => ?_) (fun _ => ?_)
  · skip
    refine a_iconst (v := nI 0) dX0_canBePlayed_10 (by decide) ?_
    refine a_istore_n dX0_canBePlayed_11 rfl rfl ?_
    exact AW.weak (Lw_so rfl (Lw_so rfl Lw_end)) (l_Ga_canBePlayed_12 FU _ _ _ g0)
  · skip
    refine a_iconst (v := nI 0) dX0_canBePlayed_8 (by decide) ?_
    exact AW.ret dX0_canBePlayed_9 rfl rfl
theorem m_Ga_canBePlayed {S : ba_S} {a0 : Nat} {m : ba_M} {q : Bool × ba_M} (h : f_Ga_canBePlayed S a0 m = some q) : MA (Y_Ga_canBePlayed S) yX0_canBePlayed (some .boolean) [aR (some a0)] S m q :=
  ba_met ⟨by decide +kernel, rfl⟩ rfl (fun h => by cases h) (Or.inr (Or.inl ⟨rfl, rfl, _, rfl⟩)) rfl (h ▸ e_Ga_canBePlayed S a0 m)

abbrev Y_Ga_copyFrom (S : ba_S) : ba_Y (ba_M) := mV cX0_copyFrom RX0 3 3 65 S
def b_Ga_copyFrom_26 (S : ba_S) (k26 : Nat → Nat → Int32 → ba_M → Option (ba_M)) (v0 : Nat) (v1 : Nat) (v2 : Int32) (m : ba_M) : Option (ba_M) :=
  (if (nI 5) ≤ v2 then (some m) else ((f_Ga_who S v0 v2 m).bind fun q1 => cK S q1.1 2 ((f_Ga_who S v1 v2 q1.2).bind fun q3 => cK S q3.1 2 ((f_Pl_copyFrom S q1.1 q3.1 q3.2).bind fun q5 => (k26 v0 v1 (v2 + (nI 1)) q5)))))
set_option maxRecDepth 100000 in
theorem w_Ga_copyFrom_26 {S : ba_S} {k26 : Nat → Nat → Int32 → ba_M → Option (ba_M)} (hk26 : ∀ (v0 : Nat) (v1 : Nat) (v2 : Int32) (m : ba_M), ck S v0 0 = true → ck S v1 0 = true → AW (Y_Ga_copyFrom S) 26 [some (aR (some v0)), some (aR (some v1)), some (aI v2)] [] S m (k26 v0 v1 v2 m)) : ∀ (v0 : Nat) (v1 : Nat) (v2 : Int32) (m : ba_M), ck S v0 0 = true → ck S v1 0 = true → AW (Y_Ga_copyFrom S) 26 [some (aR (some v0)), some (aR (some v1)), some (aI v2)] [] S m (b_Ga_copyFrom_26 S k26 v0 v1 v2 m) := by
  intro v0 v1 v2 m g0 g1
  unfold b_Ga_copyFrom_26
  refine a_iload_n dX0_copyFrom_26 rfl ?_
  refine a_iconst (v := nI 5) dX0_copyFrom_27 (by decide) ?_
  refine a_ige (tgt := 50) dX0_copyFrom_28 (by decide) (fun _ => ?_) (fun _ => ?_)
  · skip
    exact AW.ret dX0_copyFrom_50 rfl rfl
  · skip
    refine a_aload_n dX0_copyFrom_31 rfl ?_
    refine a_iload_n dX0_copyFrom_32 rfl ?_
    refine a_callV_R dX0_copyFrom_33 lk_RX0_32 mt_Ga_who vt_Ga_who ⟨_, rfl, rfl⟩ (fun _ h => m_Ga_who h) rfl rfl g0 ⟨rfl, rfl, rfl⟩ (fun q1 => ?_)
    refine AW.ck (fun h2 => ?_)
    refine a_aload_n dX0_copyFrom_36 rfl ?_
    refine a_iload_n dX0_copyFrom_37 rfl ?_
    refine a_callV_R dX0_copyFrom_38 lk_RX0_32 mt_Ga_who vt_Ga_who ⟨_, rfl, rfl⟩ (fun _ h => m_Ga_who h) rfl rfl g1 ⟨rfl, rfl, rfl⟩ (fun q3 => ?_)
    refine AW.ck (fun h4 => ?_)
    refine a_callV_V dX0_copyFrom_41 lk_RX0_66 mt_Pl_copyFrom vt_Pl_copyFrom ⟨_, rfl, rfl⟩ (fun _ h => m_Pl_copyFrom h) rfl rfl h2 ⟨rfl, rfl, rfl⟩ (fun q5 => ?_)
    refine a_iinc (v := nI 1) dX0_copyFrom_44 rfl (by decide) rfl rfl ?_
    refine a_goto (tgt := 26) dX0_copyFrom_47 (by decide) ?_
    exact AW.weak (Lw_so rfl (Lw_so rfl (Lw_so rfl Lw_end))) (hk26 _ _ _ _ g0 g1)
def f_Ga_copyFrom_26 (S : ba_S) : Nat → Nat → Int32 → ba_M → Option (ba_M) := fx (fun _ _ _ _ => none) (b_Ga_copyFrom_26 S) FU
theorem l_Ga_copyFrom_26 {S : ba_S} : ∀ (n : Nat) (v0 : Nat) (v1 : Nat) (v2 : Int32) (m : ba_M), ck S v0 0 = true → ck S v1 0 = true → AW (Y_Ga_copyFrom S) 26 [some (aR (some v0)), some (aR (some v1)), some (aI v2)] [] S m ((fx (F := Nat → Nat → Int32 → ba_M → Option (ba_M)) (fun _ _ _ _ => none) (b_Ga_copyFrom_26 S) n) v0 v1 v2 m) := by
  intro n
  induction n with
  | zero => intro _ _ _ _ _ _; exact AW.none
  | succ n ih => exact w_Ga_copyFrom_26 ih
def f_Ga_copyFrom (S : ba_S) (a0 : Nat) (a1 : Nat) (m : ba_M) : Option (ba_M) :=
  cK S a0 0 (cK S a1 0 ((f_Ga_copyFrom_26 S a0 a1 (nI 0) (wI (wI (wI m a0 2 (gI m a1 2)) a0 3 (gI (wI m a0 2 (gI m a1 2)) a1 3)) a0 4 (gI (wI (wI m a0 2 (gI m a1 2)) a0 3 (gI (wI m a0 2 (gI m a1 2)) a1 3)) a1 4)))))
set_option maxRecDepth 100000 in
theorem e_Ga_copyFrom (S : ba_S) (a0 : Nat) (a1 : Nat) (m : ba_M) : AW (Y_Ga_copyFrom S) 0 [some (aR (some a0)), some (aR (some a1)), none] [] S m (f_Ga_copyFrom S a0 a1 m) := by
  unfold f_Ga_copyFrom
  refine AW.ck (fun g0 => ?_)
  refine AW.ck (fun g1 => ?_)
  refine a_aload_n dX0_copyFrom_0 rfl ?_
  refine a_aload_n dX0_copyFrom_1 rfl ?_
  refine a_getI dX0_copyFrom_2 fl_RX0_22 rfl g1 ?_
  refine a_putI dX0_copyFrom_5 fl_RX0_22 (rfl : _ = FieldType.int) rfl rfl rfl g0 ?_
  refine a_aload_n dX0_copyFrom_8 rfl ?_
  refine a_aload_n dX0_copyFrom_9 rfl ?_
  refine a_getI dX0_copyFrom_10 fl_RX0_26 rfl g1 ?_
  refine a_putI dX0_copyFrom_13 fl_RX0_26 (rfl : _ = FieldType.int) rfl rfl rfl g0 ?_
  refine a_aload_n dX0_copyFrom_16 rfl ?_
  refine a_aload_n dX0_copyFrom_17 rfl ?_
  refine a_getI dX0_copyFrom_18 fl_RX0_29 rfl g1 ?_
  refine a_putI dX0_copyFrom_21 fl_RX0_29 (rfl : _ = FieldType.int) rfl rfl rfl g0 ?_
  refine a_iconst (v := nI 0) dX0_copyFrom_24 (by decide) ?_
  refine a_istore_n dX0_copyFrom_25 rfl rfl ?_
  exact AW.weak (Lw_so rfl (Lw_so rfl (Lw_so rfl Lw_end))) (l_Ga_copyFrom_26 FU _ _ _ _ g0 g1)
theorem m_Ga_copyFrom {S : ba_S} {a0 : Nat} {a1 : Nat} {m : ba_M} {q : ba_M} (h : f_Ga_copyFrom S a0 a1 m = some q) : MA (Y_Ga_copyFrom S) yX0_copyFrom none [aR (some a0), aR (some a1)] S m q :=
  ba_met ⟨by decide +kernel, rfl⟩ rfl (fun h => by cases h) (Or.inr (Or.inr (Or.inr (Or.inl ⟨rfl, rfl, rfl⟩)))) rfl (h ▸ e_Ga_copyFrom S a0 a1 m)

abbrev Y_Ro_beatsToBall (S : ba_S) : ba_Y (Int32 × ba_M) := mI cX4_beatsToBall RX4 3 1 21 S
def f_Ro_beatsToBall_37 (S : ba_S) (s0 : Int32) (m : ba_M) : Option (Int32 × ba_M) :=
  (some (s0, m))
set_option maxRecDepth 100000 in
theorem w_Ro_beatsToBall_37 {S : ba_S} : ∀ (s0 : Int32) (m : ba_M), AW (Y_Ro_beatsToBall S) 37 [none, none, none] [aI s0] S m (f_Ro_beatsToBall_37 S s0 m) := by
  intro s0 m
  unfold f_Ro_beatsToBall_37
  exact AW.ret dX4_beatsToBall_37 rfl rfl
def f_Ro_beatsToBall (S : ba_S) (a0 : Nat) (a1 : Nat) (m : ba_M) : Option (Int32 × ba_M) :=
  cK S a0 4 (cK S a1 2 ((if (gI m a1 2) ≤ 0 then (f_Ro_beatsToBall_37 S (jabs ((gI m a0 5) - (gI m a1 1))) m) else (if (gI m a1 2) = 0 then none else (f_Ro_beatsToBall_37 S ((((jabs ((gI m a0 5) - (gI m a1 1))) + (gI m a1 2)) - (nI 1)) / (gI m a1 2)) m)))))
set_option maxRecDepth 100000 in
theorem e_Ro_beatsToBall (S : ba_S) (a0 : Nat) (a1 : Nat) (m : ba_M) : AW (Y_Ro_beatsToBall S) 0 [some (aR (some a0)), some (aR (some a1)), none] [] S m (f_Ro_beatsToBall S a0 a1 m) := by
  unfold f_Ro_beatsToBall
  refine AW.ck (fun g0 => ?_)
  refine AW.ck (fun g1 => ?_)
  refine a_aload_n dX4_beatsToBall_0 rfl ?_
  refine a_getI dX4_beatsToBall_1 fl_RX4_32 rfl g0 ?_
  refine a_aload_n dX4_beatsToBall_4 rfl ?_
  refine a_getI dX4_beatsToBall_5 fl_RX4_79 rfl g1 ?_
  refine a_isub dX4_beatsToBall_8 ?_
  refine a_abs dX4_beatsToBall_9 lk_RX4_112 rfl rfl rfl ?_
  refine a_istore_n dX4_beatsToBall_12 rfl rfl ?_
  refine a_aload_n dX4_beatsToBall_13 rfl ?_
  refine a_getI dX4_beatsToBall_14 fl_RX4_88 rfl g1 ?_
  refine a_zle (tgt := 36) dX4_beatsToBall_17 (by decide) (fun _ => ?_) (fun _ => ?_)
  · skip
    refine a_iload_n dX4_beatsToBall_36 rfl ?_
    exact AW.weak (Lw_no (Lw_no (Lw_no Lw_end))) (w_Ro_beatsToBall_37 _ _)
  · skip
    refine a_iload_n dX4_beatsToBall_20 rfl ?_
    refine a_aload_n dX4_beatsToBall_21 rfl ?_
    refine a_getI dX4_beatsToBall_22 fl_RX4_88 rfl g1 ?_
    refine a_iadd dX4_beatsToBall_25 ?_
    refine a_iconst (v := nI 1) dX4_beatsToBall_26 (by decide) ?_
    refine a_isub dX4_beatsToBall_27 ?_
    refine a_aload_n dX4_beatsToBall_28 rfl ?_
    refine a_getI dX4_beatsToBall_29 fl_RX4_88 rfl g1 ?_
    refine a_idiv dX4_beatsToBall_32 ?_
    refine a_goto (tgt := 37) dX4_beatsToBall_33 (by decide) ?_
    exact AW.weak (Lw_no (Lw_no (Lw_no Lw_end))) (w_Ro_beatsToBall_37 _ _)
theorem m_Ro_beatsToBall {S : ba_S} {a0 : Nat} {a1 : Nat} {m : ba_M} {q : Int32 × ba_M} (h : f_Ro_beatsToBall S a0 a1 m = some q) : MA (Y_Ro_beatsToBall S) yX4_beatsToBall (some .int) [aR (some a0), aR (some a1)] S m q :=
  ba_met ⟨by decide +kernel, rfl⟩ rfl (fun h => by cases h) (Or.inl ⟨rfl, rfl, _, rfl⟩) rfl (h ▸ e_Ro_beatsToBall S a0 a1 m)

abbrev Y_Ro_toward (S : ba_S) : ba_Y (Int32 × ba_M) := mI cX4_toward RX4 3 1 21 S
def f_Ro_toward_22 (S : ba_S) (s0 : Int32) (m : ba_M) : Option (Int32 × ba_M) :=
  (some (s0, m))
set_option maxRecDepth 100000 in
theorem w_Ro_toward_22 {S : ba_S} : ∀ (s0 : Int32) (m : ba_M), AW (Y_Ro_toward S) 22 [none, none, none] [aI s0] S m (f_Ro_toward_22 S s0 m) := by
  intro s0 m
  unfold f_Ro_toward_22
  exact AW.ret dX4_toward_22 rfl rfl
def f_Ro_toward (S : ba_S) (a0 : Int32) (a1 : Int32) (a2 : Int32) (m : ba_M) : Option (Int32 × ba_M) :=
  (if a0 < a1 then (f_Ro_toward_22 S (jmax a0 (a1 - a2)) m) else (f_Ro_toward_22 S (jmin a0 (a1 + a2)) m))
set_option maxRecDepth 100000 in
theorem e_Ro_toward (S : ba_S) (a0 : Int32) (a1 : Int32) (a2 : Int32) (m : ba_M) : AW (Y_Ro_toward S) 0 [some (aI a0), some (aI a1), some (aI a2)] [] S m (f_Ro_toward S a0 a1 a2 m) := by
  unfold f_Ro_toward
  refine a_iload_n dX4_toward_0 rfl ?_
  refine a_iload_n dX4_toward_1 rfl ?_
  refine a_ilt (tgt := 15) dX4_toward_2 (by decide) (fun _ => ?_) (fun _ => ?_)
  · skip
    refine a_iload_n dX4_toward_15 rfl ?_
    refine a_iload_n dX4_toward_16 rfl ?_
    refine a_iload_n dX4_toward_17 rfl ?_
    refine a_isub dX4_toward_18 ?_
    refine a_max dX4_toward_19 lk_RX4_63 rfl rfl rfl ?_
    exact AW.weak (Lw_no (Lw_no (Lw_no Lw_end))) (w_Ro_toward_22 _ _)
  · skip
    refine a_iload_n dX4_toward_5 rfl ?_
    refine a_iload_n dX4_toward_6 rfl ?_
    refine a_iload_n dX4_toward_7 rfl ?_
    refine a_iadd dX4_toward_8 ?_
    refine a_min dX4_toward_9 lk_RX4_118 rfl rfl rfl ?_
    refine a_goto (tgt := 22) dX4_toward_12 (by decide) ?_
    exact AW.weak (Lw_no (Lw_no (Lw_no Lw_end))) (w_Ro_toward_22 _ _)
theorem m_Ro_toward {S : ba_S} {a0 : Int32} {a1 : Int32} {a2 : Int32} {m : ba_M} {q : Int32 × ba_M} (h : f_Ro_toward S a0 a1 a2 m = some q) : MA (Y_Ro_toward S) yX4_toward (some .int) [aI a0, aI a1, aI a2] S m q :=
  ba_met ⟨by decide +kernel, rfl⟩ rfl (fun h => by cases h) (Or.inl ⟨rfl, rfl, _, rfl⟩) rfl (h ▸ e_Ro_toward S a0 a1 a2 m)

abbrev Y_Ro_suppose (S : ba_S) : ba_Y (ba_M) := mV cX4_suppose RX4 9 2 43 S
def f_Ro_suppose_121 (S : ba_S) (v0 : Nat) (v1 : Int32) (v2 : Int32) (s0 : Int32) (m : ba_M) : Option (ba_M) :=
  (ldR S v0 1 20 fun r1 => ((f_Rw_put S r1 v1 v2 m).bind fun q3 => (ldR S v0 2 20 fun r4 => ((f_Rw_put S r4 v1 s0 q3).bind fun q6 => (ldR S v0 3 20 fun r7 => ((f_Ro_toward S s0 (gI q6 v0 5) (nI 3) q6).bind fun q9 => ((f_Rw_put S r7 v1 q9.1 q9.2).bind fun q10 => (some q10))))))))
set_option maxRecDepth 100000 in
theorem w_Ro_suppose_121 {S : ba_S} : ∀ (v0 : Nat) (v1 : Int32) (v2 : Int32) (s0 : Int32) (m : ba_M), ck S v0 4 = true → AW (Y_Ro_suppose S) 121 [some (aR (some v0)), some (aI v1), some (aI v2), none, none, none, none, none, none] [aI s0] S m (f_Ro_suppose_121 S v0 v1 v2 s0 m) := by
  intro v0 v1 v2 s0 m g0
  unfold f_Ro_suppose_121
  refine a_istore dX4_suppose_121 rfl rfl ?_
  refine a_aload_n dX4_suppose_123 rfl ?_
  refine a_getR dX4_suppose_124 fl_RX4_18 rfl g0 (fun r1 h2 => ?_)
  refine a_iload_n dX4_suppose_127 rfl ?_
  refine a_iload_n dX4_suppose_128 rfl ?_
  refine a_callS_V dX4_suppose_129 lk_RX4_95 mt_Rw_put sv_Rw_put (fun _ h => m_Rw_put h) rfl rfl ⟨rfl, rfl, rfl⟩ (fun q3 => ?_)
  refine a_aload_n dX4_suppose_132 rfl ?_
  refine a_getR dX4_suppose_133 fl_RX4_22 rfl g0 (fun r4 h5 => ?_)
  refine a_iload_n dX4_suppose_136 rfl ?_
  refine a_iload dX4_suppose_137 rfl ?_
  refine a_callS_V dX4_suppose_139 lk_RX4_95 mt_Rw_put sv_Rw_put (fun _ h => m_Rw_put h) rfl rfl ⟨rfl, rfl, rfl⟩ (fun q6 => ?_)
  refine a_aload_n dX4_suppose_142 rfl ?_
  refine a_getR dX4_suppose_143 fl_RX4_25 rfl g0 (fun r7 h8 => ?_)
  refine a_iload_n dX4_suppose_146 rfl ?_
  refine a_iload dX4_suppose_147 rfl ?_
  refine a_aload_n dX4_suppose_149 rfl ?_
  refine a_getI dX4_suppose_150 fl_RX4_32 rfl g0 ?_
  refine a_iconst (v := nI 3) dX4_suppose_153 (by decide) ?_
  refine a_callS_I dX4_suppose_154 lk_RX4_91 mt_Ro_toward sv_Ro_toward (fun _ h => m_Ro_toward h) rfl rfl ⟨rfl, rfl, rfl⟩ (fun q9 => ?_)
  refine a_callS_V dX4_suppose_157 lk_RX4_95 mt_Rw_put sv_Rw_put (fun _ h => m_Rw_put h) rfl rfl ⟨rfl, rfl, rfl⟩ (fun q10 => ?_)
  exact AW.ret dX4_suppose_160 rfl rfl
def f_Ro_suppose_85 (S : ba_S) (v0 : Nat) (v1 : Int32) (v2 : Int32) (v3 : Nat) (v5 : Int32) (v6 : Int32) (s0 : Int32) (m : ba_M) : Option (ba_M) :=
  (if v1 = (gI m v0 4) then (f_Ro_suppose_121 S v0 v1 v2 (gI m v0 5) m) else ((f_Ro_toward S v5 (gI m v3 1) ((v6 * (gI m v3 2)) + s0) m).bind fun q11 => (f_Ro_suppose_121 S v0 v1 v2 q11.1 q11.2)))
set_option maxRecDepth 100000 in
theorem w_Ro_suppose_85 {S : ba_S} : ∀ (v0 : Nat) (v1 : Int32) (v2 : Int32) (v3 : Nat) (v5 : Int32) (v6 : Int32) (s0 : Int32) (m : ba_M), ck S v0 4 = true → ck S v3 2 = true → AW (Y_Ro_suppose S) 85 [some (aR (some v0)), some (aI v1), some (aI v2), some (aR (some v3)), none, some (aI v5), some (aI v6), none, none] [aI s0] S m (f_Ro_suppose_85 S v0 v1 v2 v3 v5 v6 s0 m) := by
  intro v0 v1 v2 v3 v5 v6 s0 m g0 g3
  unfold f_Ro_suppose_85
  refine a_istore dX4_suppose_85 rfl rfl ?_
  refine a_iload_n dX4_suppose_87 rfl ?_
  refine a_aload_n dX4_suppose_88 rfl ?_
  refine a_getI dX4_suppose_89 fl_RX4_28 rfl g0 ?_
  refine a_ine (tgt := 102) dX4_suppose_92 (by decide) (fun _ => ?_) (fun _ => ?_)
  · skip
    refine a_iload dX4_suppose_102 rfl ?_
    refine a_aload_n dX4_suppose_104 rfl ?_
    refine a_getI dX4_suppose_105 fl_RX4_79 rfl g3 ?_
    refine a_iload dX4_suppose_108 rfl ?_
    refine a_aload_n dX4_suppose_110 rfl ?_
    refine a_getI dX4_suppose_111 fl_RX4_88 rfl g3 ?_
    refine a_imul dX4_suppose_114 ?_
    refine a_iload dX4_suppose_115 rfl ?_
    refine a_iadd dX4_suppose_117 ?_
    refine a_callS_I dX4_suppose_118 lk_RX4_91 mt_Ro_toward sv_Ro_toward (fun _ h => m_Ro_toward h) rfl rfl ⟨rfl, rfl, rfl⟩ (fun q11 => ?_)
    exact AW.weak (Lw_so rfl (Lw_so rfl (Lw_so rfl (Lw_no (Lw_no (Lw_no (Lw_no (Lw_no (Lw_no Lw_end))))))))) (w_Ro_suppose_121 _ _ _ _ _ g0)
  · skip
    refine a_aload_n dX4_suppose_95 rfl ?_
    refine a_getI dX4_suppose_96 fl_RX4_32 rfl g0 ?_
    refine a_goto (tgt := 121) dX4_suppose_99 (by decide) ?_
    exact AW.weak (Lw_so rfl (Lw_so rfl (Lw_so rfl (Lw_no (Lw_no (Lw_no (Lw_no (Lw_no (Lw_no Lw_end))))))))) (w_Ro_suppose_121 _ _ _ _ _ g0)
def f_Ro_suppose_67 (S : ba_S) (v0 : Nat) (v1 : Int32) (v2 : Int32) (v3 : Nat) (v5 : Int32) (s0 : Int32) (m : ba_M) : Option (ba_M) :=
  (if v2 = (nI 2) then (f_Ro_suppose_85 S v0 v1 v2 v3 v5 s0 (nI 0) m) else (ldR S v0 0 0 fun r12 => (f_Ro_suppose_85 S v0 v1 v2 v3 v5 s0 (gI m r12 4) m)))
set_option maxRecDepth 100000 in
theorem w_Ro_suppose_67 {S : ba_S} : ∀ (v0 : Nat) (v1 : Int32) (v2 : Int32) (v3 : Nat) (v5 : Int32) (s0 : Int32) (m : ba_M), ck S v0 4 = true → ck S v3 2 = true → AW (Y_Ro_suppose S) 67 [some (aR (some v0)), some (aI v1), some (aI v2), some (aR (some v3)), none, some (aI v5), none, none, none] [aI s0] S m (f_Ro_suppose_67 S v0 v1 v2 v3 v5 s0 m) := by
  intro v0 v1 v2 v3 v5 s0 m g0 g3
  unfold f_Ro_suppose_67
  refine a_istore dX4_suppose_67 rfl rfl ?_
  refine a_iload_n dX4_suppose_69 rfl ?_
  refine a_iconst (v := nI 2) dX4_suppose_70 (by decide) ?_
  refine a_ine (tgt := 78) dX4_suppose_71 (by decide) (fun _ => ?_) (fun _ => ?_)
  · skip
    refine a_aload_n dX4_suppose_78 rfl ?_
    refine a_getR dX4_suppose_79 fl_RX4_12 rfl g0 (fun r12 h13 => ?_)
    refine a_getI dX4_suppose_82 fl_RX4_85 rfl h13 ?_
    exact AW.weak (Lw_so rfl (Lw_so rfl (Lw_so rfl (Lw_so rfl (Lw_no (Lw_so rfl (Lw_so rfl (Lw_no (Lw_no Lw_end))))))))) (w_Ro_suppose_85 _ _ _ _ _ _ _ _ g0 g3)
  · skip
    refine a_iconst (v := nI 0) dX4_suppose_74 (by decide) ?_
    refine a_goto (tgt := 85) dX4_suppose_75 (by decide) ?_
    exact AW.weak (Lw_so rfl (Lw_so rfl (Lw_so rfl (Lw_so rfl (Lw_no (Lw_so rfl (Lw_so rfl (Lw_no (Lw_no Lw_end))))))))) (w_Ro_suppose_85 _ _ _ _ _ _ _ _ g0 g3)
def f_Ro_suppose_47 (S : ba_S) (v0 : Nat) (v1 : Int32) (v2 : Int32) (v3 : Nat) (s0 : Int32) (m : ba_M) : Option (ba_M) :=
  (if v2 = (nI 1) then (f_Ro_suppose_67 S v0 v1 v2 v3 s0 ((gI m v0 6) - (nI 1)) m) else (f_Ro_suppose_67 S v0 v1 v2 v3 s0 (gI m v0 6) m))
set_option maxRecDepth 100000 in
theorem w_Ro_suppose_47 {S : ba_S} : ∀ (v0 : Nat) (v1 : Int32) (v2 : Int32) (v3 : Nat) (s0 : Int32) (m : ba_M), ck S v0 4 = true → ck S v3 2 = true → AW (Y_Ro_suppose S) 47 [some (aR (some v0)), some (aI v1), some (aI v2), some (aR (some v3)), none, none, none, none, none] [aI s0] S m (f_Ro_suppose_47 S v0 v1 v2 v3 s0 m) := by
  intro v0 v1 v2 v3 s0 m g0 g3
  unfold f_Ro_suppose_47
  refine a_istore dX4_suppose_47 rfl rfl ?_
  refine a_iload_n dX4_suppose_49 rfl ?_
  refine a_iconst (v := nI 1) dX4_suppose_50 (by decide) ?_
  refine a_ine (tgt := 63) dX4_suppose_51 (by decide) (fun _ => ?_) (fun _ => ?_)
  · skip
    refine a_aload_n dX4_suppose_63 rfl ?_
    refine a_getI dX4_suppose_64 fl_RX4_35 rfl g0 ?_
    exact AW.weak (Lw_so rfl (Lw_so rfl (Lw_so rfl (Lw_so rfl (Lw_no (Lw_so rfl (Lw_no (Lw_no (Lw_no Lw_end))))))))) (w_Ro_suppose_67 _ _ _ _ _ _ _ g0 g3)
  · skip
    refine a_aload_n dX4_suppose_54 rfl ?_
    refine a_getI dX4_suppose_55 fl_RX4_35 rfl g0 ?_
    refine a_iconst (v := nI 1) dX4_suppose_58 (by decide) ?_
    refine a_isub dX4_suppose_59 ?_
    refine a_goto (tgt := 67) dX4_suppose_60 (by decide) ?_
    exact AW.weak (Lw_so rfl (Lw_so rfl (Lw_so rfl (Lw_so rfl (Lw_no (Lw_so rfl (Lw_no (Lw_no (Lw_no Lw_end))))))))) (w_Ro_suppose_67 _ _ _ _ _ _ _ g0 g3)
def f_Ro_suppose_31 (S : ba_S) (v0 : Nat) (v1 : Int32) (v2 : Int32) (v3 : Nat) (s0 : Int32) (m : ba_M) : Option (ba_M) :=
  (if v2 = (nI 2) then (f_Ro_suppose_47 S v0 v1 v2 v3 (gI m v0 5) m) else (f_Ro_suppose_47 S v0 v1 v2 v3 s0 m))
set_option maxRecDepth 100000 in
theorem w_Ro_suppose_31 {S : ba_S} : ∀ (v0 : Nat) (v1 : Int32) (v2 : Int32) (v3 : Nat) (s0 : Int32) (m : ba_M), ck S v0 4 = true → ck S v3 2 = true → AW (Y_Ro_suppose S) 31 [some (aR (some v0)), some (aI v1), some (aI v2), some (aR (some v3)), none, none, none, none, none] [aI s0] S m (f_Ro_suppose_31 S v0 v1 v2 v3 s0 m) := by
  intro v0 v1 v2 v3 s0 m g0 g3
  unfold f_Ro_suppose_31
  refine a_istore dX4_suppose_31 rfl rfl ?_
  refine a_iload_n dX4_suppose_33 rfl ?_
  refine a_iconst (v := nI 2) dX4_suppose_34 (by decide) ?_
  refine a_ine (tgt := 45) dX4_suppose_35 (by decide) (fun _ => ?_) (fun _ => ?_)
  · skip
    refine a_iload dX4_suppose_45 rfl ?_
    exact AW.weak (Lw_so rfl (Lw_so rfl (Lw_so rfl (Lw_so rfl (Lw_no (Lw_no (Lw_no (Lw_no (Lw_no Lw_end))))))))) (w_Ro_suppose_47 _ _ _ _ _ _ g0 g3)
  · skip
    refine a_aload_n dX4_suppose_38 rfl ?_
    refine a_getI dX4_suppose_39 fl_RX4_32 rfl g0 ?_
    refine a_goto (tgt := 47) dX4_suppose_42 (by decide) ?_
    exact AW.weak (Lw_so rfl (Lw_so rfl (Lw_so rfl (Lw_so rfl (Lw_no (Lw_no (Lw_no (Lw_no (Lw_no Lw_end))))))))) (w_Ro_suppose_47 _ _ _ _ _ _ g0 g3)
def f_Ro_suppose (S : ba_S) (a0 : Nat) (a1 : Int32) (a2 : Int32) (m : ba_M) : Option (ba_M) :=
  cK S a0 4 ((ldR S a0 0 0 fun r14 => ((f_Ga_who S r14 a1 m).bind fun q16 => cK S q16.1 2 (if (gI q16.2 q16.1 1) < (gI q16.2 a0 5) then (f_Ro_suppose_31 S a0 a1 a2 q16.1 (nI 0) q16.2) else (ldR S a0 0 0 fun r18 => (f_Ro_suppose_31 S a0 a1 a2 q16.1 (gI q16.2 r18 3) q16.2))))))
set_option maxRecDepth 100000 in
theorem e_Ro_suppose (S : ba_S) (a0 : Nat) (a1 : Int32) (a2 : Int32) (m : ba_M) : AW (Y_Ro_suppose S) 0 [some (aR (some a0)), some (aI a1), some (aI a2), none, none, none, none, none, none] [] S m (f_Ro_suppose S a0 a1 a2 m) := by
  unfold f_Ro_suppose
  refine AW.ck (fun g0 => ?_)
  refine a_aload_n dX4_suppose_0 rfl ?_
  refine a_getR dX4_suppose_1 fl_RX4_12 rfl g0 (fun r14 h15 => ?_)
  refine a_iload_n dX4_suppose_4 rfl ?_
  refine a_callV_R dX4_suppose_5 lk_RX4_38 mt_Ga_who vt_Ga_who ⟨_, rfl, rfl⟩ (fun _ h => m_Ga_who h) rfl rfl h15 ⟨rfl, rfl, rfl⟩ (fun q16 => ?_)
  refine AW.ck (fun h17 => ?_)
  refine a_astore_n dX4_suppose_8 rfl rfl ?_
  refine a_aload_n dX4_suppose_9 rfl ?_
  refine a_getI dX4_suppose_10 fl_RX4_79 rfl h17 ?_
  refine a_aload_n dX4_suppose_13 rfl ?_
  refine a_getI dX4_suppose_14 fl_RX4_32 rfl g0 ?_
  refine a_ilt (tgt := 30) dX4_suppose_17 (by decide) (fun _ => ?_) (fun _ => ?_)
  · skip
    refine a_iconst (v := nI 0) dX4_suppose_30 (by decide) ?_
    exact AW.weak (Lw_so rfl (Lw_so rfl (Lw_so rfl (Lw_so rfl (Lw_no (Lw_no (Lw_no (Lw_no (Lw_no Lw_end))))))))) (w_Ro_suppose_31 _ _ _ _ _ _ g0 h17)
  · skip
    refine a_aload_n dX4_suppose_20 rfl ?_
    refine a_getR dX4_suppose_21 fl_RX4_12 rfl g0 (fun r18 h19 => ?_)
    refine a_getI dX4_suppose_24 fl_RX4_82 rfl h19 ?_
    refine a_goto (tgt := 31) dX4_suppose_27 (by decide) ?_
    exact AW.weak (Lw_so rfl (Lw_so rfl (Lw_so rfl (Lw_so rfl (Lw_no (Lw_no (Lw_no (Lw_no (Lw_no Lw_end))))))))) (w_Ro_suppose_31 _ _ _ _ _ _ g0 h17)
theorem m_Ro_suppose {S : ba_S} {a0 : Nat} {a1 : Int32} {a2 : Int32} {m : ba_M} {q : ba_M} (h : f_Ro_suppose S a0 a1 a2 m = some q) : MA (Y_Ro_suppose S) yX4_suppose none [aR (some a0), aI a1, aI a2] S m q :=
  ba_met ⟨by decide +kernel, rfl⟩ rfl (fun h => by cases h) (Or.inr (Or.inr (Or.inr (Or.inl ⟨rfl, rfl, rfl⟩)))) rfl (h ▸ e_Ro_suppose S a0 a1 a2 m)

abbrev Y_Ro_playCall (S : ba_S) : ba_Y (ba_M) := mV cX4_playCall RX4 5 3 71 S
def b_Ro_playCall_33 (S : ba_S) (k33 : Nat → Int32 → ba_M → Option (ba_M)) (v0 : Nat) (v4 : Int32) (m : ba_M) : Option (ba_M) :=
  (ldR S v0 0 0 fun r1 => (if (gI m r1 2) ≤ v4 then (some m) else (ldR S v0 0 0 fun r3 => ((f_Ga_who S r3 v4 m).bind fun q5 => cK S q5.1 2 ((f_Ro_suppose S v0 v4 (gI q5.2 q5.1 5) q5.2).bind fun q7 => (k33 v0 (v4 + (nI 1)) q7))))))
set_option maxRecDepth 100000 in
theorem w_Ro_playCall_33 {S : ba_S} {k33 : Nat → Int32 → ba_M → Option (ba_M)} (hk33 : ∀ (v0 : Nat) (v4 : Int32) (m : ba_M), ck S v0 4 = true → AW (Y_Ro_playCall S) 33 [some (aR (some v0)), none, none, none, some (aI v4)] [] S m (k33 v0 v4 m)) : ∀ (v0 : Nat) (v4 : Int32) (m : ba_M), ck S v0 4 = true → AW (Y_Ro_playCall S) 33 [some (aR (some v0)), none, none, none, some (aI v4)] [] S m (b_Ro_playCall_33 S k33 v0 v4 m) := by
  intro v0 v4 m g0
  unfold b_Ro_playCall_33
  refine a_iload dX4_playCall_33 rfl ?_
  refine a_aload_n dX4_playCall_35 rfl ?_
  refine a_getR dX4_playCall_36 fl_RX4_12 rfl g0 (fun r1 h2 => ?_)
  refine a_getI dX4_playCall_39 fl_RX4_69 rfl h2 ?_
  refine a_ige (tgt := 69) dX4_playCall_42 (by decide) (fun _ => ?_) (fun _ => ?_)
  · skip
    exact AW.ret dX4_playCall_69 rfl rfl
  · skip
    refine a_aload_n dX4_playCall_45 rfl ?_
    refine a_iload dX4_playCall_46 rfl ?_
    refine a_aload_n dX4_playCall_48 rfl ?_
    refine a_getR dX4_playCall_49 fl_RX4_12 rfl g0 (fun r3 h4 => ?_)
    refine a_iload dX4_playCall_52 rfl ?_
    refine a_callV_R dX4_playCall_54 lk_RX4_38 mt_Ga_who vt_Ga_who ⟨_, rfl, rfl⟩ (fun _ h => m_Ga_who h) rfl rfl h4 ⟨rfl, rfl, rfl⟩ (fun q5 => ?_)
    refine AW.ck (fun h6 => ?_)
    refine a_getI dX4_playCall_57 fl_RX4_72 rfl h6 ?_
    refine a_callV_V dX4_playCall_60 lk_RX4_75 mt_Ro_suppose vt_Ro_suppose ⟨_, rfl, rfl⟩ (fun _ h => m_Ro_suppose h) rfl rfl g0 ⟨rfl, rfl, rfl⟩ (fun q7 => ?_)
    refine a_iinc (v := nI 1) dX4_playCall_63 rfl (by decide) rfl rfl ?_
    refine a_goto (tgt := 33) dX4_playCall_66 (by decide) ?_
    exact AW.weak (Lw_so rfl (Lw_no (Lw_no (Lw_no (Lw_so rfl Lw_end))))) (hk33 _ _ _ g0)
def f_Ro_playCall_33 (S : ba_S) : Nat → Int32 → ba_M → Option (ba_M) := fx (fun _ _ _ => none) (b_Ro_playCall_33 S) FU
theorem l_Ro_playCall_33 {S : ba_S} : ∀ (n : Nat) (v0 : Nat) (v4 : Int32) (m : ba_M), ck S v0 4 = true → AW (Y_Ro_playCall S) 33 [some (aR (some v0)), none, none, none, some (aI v4)] [] S m ((fx (F := Nat → Int32 → ba_M → Option (ba_M)) (fun _ _ _ => none) (b_Ro_playCall_33 S) n) v0 v4 m) := by
  intro n
  induction n with
  | zero => intro _ _ _ _; exact AW.none
  | succ n ih => exact w_Ro_playCall_33 ih
def f_Ro_playCall (S : ba_S) (a0 : Nat) (a1 : Int32) (a2 : Int32) (a3 : Int32) (m : ba_M) : Option (ba_M) :=
  cK S a0 4 ((ldR S a0 0 0 fun r8 => ((f_Ga_who S r8 a1 (wI (wI m a0 4 a1) a0 5 a2)).bind fun q10 => cK S q10.1 2 ((f_Ro_beatsToBall S a0 q10.1 q10.2).bind fun q12 => (f_Ro_playCall_33 S a0 (nI 0) (wI q12.2 a0 6 (jmax a3 q12.1)))))))
set_option maxRecDepth 100000 in
theorem e_Ro_playCall (S : ba_S) (a0 : Nat) (a1 : Int32) (a2 : Int32) (a3 : Int32) (m : ba_M) : AW (Y_Ro_playCall S) 0 [some (aR (some a0)), some (aI a1), some (aI a2), some (aI a3), none] [] S m (f_Ro_playCall S a0 a1 a2 a3 m) := by
  unfold f_Ro_playCall
  refine AW.ck (fun g0 => ?_)
  refine a_aload_n dX4_playCall_0 rfl ?_
  refine a_iload_n dX4_playCall_1 rfl ?_
  refine a_putI dX4_playCall_2 fl_RX4_28 (rfl : _ = FieldType.int) rfl rfl rfl g0 ?_
  refine a_aload_n dX4_playCall_5 rfl ?_
  refine a_iload_n dX4_playCall_6 rfl ?_
  refine a_putI dX4_playCall_7 fl_RX4_32 (rfl : _ = FieldType.int) rfl rfl rfl g0 ?_
  refine a_aload_n dX4_playCall_10 rfl ?_
  refine a_iload_n dX4_playCall_11 rfl ?_
  refine a_aload_n dX4_playCall_12 rfl ?_
  refine a_aload_n dX4_playCall_13 rfl ?_
  refine a_getR dX4_playCall_14 fl_RX4_12 rfl g0 (fun r8 h9 => ?_)
  refine a_iload_n dX4_playCall_17 rfl ?_
  refine a_callV_R dX4_playCall_18 lk_RX4_38 mt_Ga_who vt_Ga_who ⟨_, rfl, rfl⟩ (fun _ h => m_Ga_who h) rfl rfl h9 ⟨rfl, rfl, rfl⟩ (fun q10 => ?_)
  refine AW.ck (fun h11 => ?_)
  refine a_callV_I dX4_playCall_21 lk_RX4_59 mt_Ro_beatsToBall vt_Ro_beatsToBall ⟨_, rfl, rfl⟩ (fun _ h => m_Ro_beatsToBall h) rfl rfl g0 ⟨rfl, rfl, rfl⟩ (fun q12 => ?_)
  refine a_max dX4_playCall_24 lk_RX4_63 rfl rfl rfl ?_
  refine a_putI dX4_playCall_27 fl_RX4_35 (rfl : _ = FieldType.int) rfl rfl rfl g0 ?_
  refine a_iconst (v := nI 0) dX4_playCall_30 (by decide) ?_
  refine a_istore dX4_playCall_31 rfl rfl ?_
  exact AW.weak (Lw_so rfl (Lw_no (Lw_no (Lw_no (Lw_so rfl Lw_end))))) (l_Ro_playCall_33 FU _ _ _ g0)
theorem m_Ro_playCall {S : ba_S} {a0 : Nat} {a1 : Int32} {a2 : Int32} {a3 : Int32} {m : ba_M} {q : ba_M} (h : f_Ro_playCall S a0 a1 a2 a3 m = some q) : MA (Y_Ro_playCall S) yX4_playCall none [aR (some a0), aI a1, aI a2, aI a3] S m q :=
  ba_met ⟨by decide +kernel, rfl⟩ rfl (fun h => by cases h) (Or.inr (Or.inr (Or.inr (Or.inl ⟨rfl, rfl, rfl⟩)))) rfl (h ▸ e_Ro_playCall S a0 a1 a2 a3 m)

abbrev Y_Ro_playAsTold (S : ba_S) : ba_Y (ba_M) := mV cX4_playAsTold RX4 3 4 95 S
def f_Ro_playAsTold (S : ba_S) (a0 : Nat) (a1 : Int32) (m : ba_M) : Option (ba_M) :=
  cK S a0 4 ((ldR S a0 0 0 fun r1 => ((f_Ga_who S r1 a1 m).bind fun q3 => cK S q3.1 2 (ldR S q3.1 0 9 fun r5 => ((f_Ro_playCall S a0 (gI q3.2 r5 0) (gI q3.2 r5 1) (gI q3.2 r5 2) q3.2).bind fun q7 => (some q7))))))
set_option maxRecDepth 100000 in
theorem e_Ro_playAsTold (S : ba_S) (a0 : Nat) (a1 : Int32) (m : ba_M) : AW (Y_Ro_playAsTold S) 0 [some (aR (some a0)), some (aI a1), none] [] S m (f_Ro_playAsTold S a0 a1 m) := by
  unfold f_Ro_playAsTold
  refine AW.ck (fun g0 => ?_)
  refine a_aload_n dX4_playAsTold_0 rfl ?_
  refine a_getR dX4_playAsTold_1 fl_RX4_12 rfl g0 (fun r1 h2 => ?_)
  refine a_iload_n dX4_playAsTold_4 rfl ?_
  refine a_callV_R dX4_playAsTold_5 lk_RX4_38 mt_Ga_who vt_Ga_who ⟨_, rfl, rfl⟩ (fun _ h => m_Ga_who h) rfl rfl h2 ⟨rfl, rfl, rfl⟩ (fun q3 => ?_)
  refine AW.ck (fun h4 => ?_)
  refine a_getR dX4_playAsTold_8 fl_RX4_42 rfl h4 (fun r5 h6 => ?_)
  refine a_astore_n dX4_playAsTold_11 rfl rfl ?_
  refine a_aload_n dX4_playAsTold_12 rfl ?_
  refine a_aload_n dX4_playAsTold_13 rfl ?_
  refine a_getI dX4_playAsTold_14 fl_RX4_48 rfl h6 ?_
  refine a_aload_n dX4_playAsTold_17 rfl ?_
  refine a_getI dX4_playAsTold_18 fl_RX4_51 rfl h6 ?_
  refine a_aload_n dX4_playAsTold_21 rfl ?_
  refine a_getI dX4_playAsTold_22 fl_RX4_52 rfl h6 ?_
  refine a_callV_V dX4_playAsTold_25 lk_RX4_55 mt_Ro_playCall vt_Ro_playCall ⟨_, rfl, rfl⟩ (fun _ h => m_Ro_playCall h) rfl rfl g0 ⟨rfl, rfl, rfl⟩ (fun q7 => ?_)
  exact AW.ret dX4_playAsTold_28 rfl rfl
theorem m_Ro_playAsTold {S : ba_S} {a0 : Nat} {a1 : Int32} {m : ba_M} {q : ba_M} (h : f_Ro_playAsTold S a0 a1 m = some q) : MA (Y_Ro_playAsTold S) yX4_playAsTold none [aR (some a0), aI a1] S m q :=
  ba_met ⟨by decide +kernel, rfl⟩ rfl (fun h => by cases h) (Or.inr (Or.inr (Or.inr (Or.inl ⟨rfl, rfl, rfl⟩)))) rfl (h ▸ e_Ro_playAsTold S a0 a1 m)

abbrev Y_Ro_standOf (S : ba_S) : ba_Y (Int32 × ba_M) := mI cX4_standOf RX4 2 1 21 S
def f_Ro_standOf (S : ba_S) (a0 : Nat) (a1 : Int32) (m : ba_M) : Option (Int32 × ba_M) :=
  cK S a0 4 ((ldR S a0 2 20 fun r1 => ((f_Rw_at S r1 a1 m).bind fun q3 => (some (q3.1, q3.2)))))
set_option maxRecDepth 100000 in
theorem e_Ro_standOf (S : ba_S) (a0 : Nat) (a1 : Int32) (m : ba_M) : AW (Y_Ro_standOf S) 0 [some (aR (some a0)), some (aI a1)] [] S m (f_Ro_standOf S a0 a1 m) := by
  unfold f_Ro_standOf
  refine AW.ck (fun g0 => ?_)
  refine a_aload_n dX4_standOf_0 rfl ?_
  refine a_getR dX4_standOf_1 fl_RX4_22 rfl g0 (fun r1 h2 => ?_)
  refine a_iload_n dX4_standOf_4 rfl ?_
  refine a_callS_I dX4_standOf_5 lk_RX4_101 mt_Rw_at sv_Rw_at (fun _ h => m_Rw_at h) rfl rfl ⟨rfl, rfl, rfl⟩ (fun q3 => ?_)
  exact AW.ret dX4_standOf_8 rfl rfl
theorem m_Ro_standOf {S : ba_S} {a0 : Nat} {a1 : Int32} {m : ba_M} {q : Int32 × ba_M} (h : f_Ro_standOf S a0 a1 m = some q) : MA (Y_Ro_standOf S) yX4_standOf (some .int) [aR (some a0), aI a1] S m q :=
  ba_met ⟨by decide +kernel, rfl⟩ rfl (fun h => by cases h) (Or.inl ⟨rfl, rfl, _, rfl⟩) rfl (h ▸ e_Ro_standOf S a0 a1 m)

abbrev Y_Ro_hiderOf (S : ba_S) : ba_Y (Int32 × ba_M) := mI cX4_hiderOf RX4 8 1 22 S
def f_Ro_hiderOf_138 (S : ba_S) (k56 : Nat → Int32 → Int32 → Int32 → Int32 → Int32 → ba_M → Option (Int32 × ba_M)) (v0 : Nat) (v1 : Int32) (v2 : Int32) (v3 : Int32) (v4 : Int32) (v5 : Int32) (m : ba_M) : Option (Int32 × ba_M) :=
  (k56 v0 v1 v2 v3 v4 (v5 + (nI 1)) m)
set_option maxRecDepth 100000 in
theorem w_Ro_hiderOf_138 {S : ba_S} {k56 : Nat → Int32 → Int32 → Int32 → Int32 → Int32 → ba_M → Option (Int32 × ba_M)} (hk56 : ∀ (v0 : Nat) (v1 : Int32) (v2 : Int32) (v3 : Int32) (v4 : Int32) (v5 : Int32) (m : ba_M), ck S v0 4 = true → AW (Y_Ro_hiderOf S) 56 [some (aR (some v0)), some (aI v1), some (aI v2), some (aI v3), some (aI v4), some (aI v5), none, none] [] S m (k56 v0 v1 v2 v3 v4 v5 m)) : ∀ (v0 : Nat) (v1 : Int32) (v2 : Int32) (v3 : Int32) (v4 : Int32) (v5 : Int32) (m : ba_M), ck S v0 4 = true → AW (Y_Ro_hiderOf S) 138 [some (aR (some v0)), some (aI v1), some (aI v2), some (aI v3), some (aI v4), some (aI v5), none, none] [] S m (f_Ro_hiderOf_138 S k56 v0 v1 v2 v3 v4 v5 m) := by
  intro v0 v1 v2 v3 v4 v5 m g0
  unfold f_Ro_hiderOf_138
  refine a_iinc (v := nI 1) dX4_hiderOf_138 rfl (by decide) rfl rfl ?_
  refine a_goto (tgt := 56) dX4_hiderOf_141 (by decide) ?_
  exact AW.weak (Lw_so rfl (Lw_so rfl (Lw_so rfl (Lw_so rfl (Lw_so rfl (Lw_so rfl (Lw_no (Lw_no Lw_end)))))))) (hk56 _ _ _ _ _ _ _ g0)
def f_Ro_hiderOf_96 (S : ba_S) (k56 : Nat → Int32 → Int32 → Int32 → Int32 → Int32 → ba_M → Option (Int32 × ba_M)) (v0 : Nat) (v1 : Int32) (v2 : Int32) (v3 : Int32) (v4 : Int32) (v5 : Int32) (s0 : Bool) (m : ba_M) : Option (Int32 × ba_M) :=
  (if v5 = v1 then (f_Ro_hiderOf_138 S k56 v0 v1 v2 v3 v4 v5 m) else (if v5 = (gI m v0 4) then (f_Ro_hiderOf_138 S k56 v0 v1 v2 v3 v4 v5 m) else (if s0 = true then (ldR S v0 0 0 fun r1 => ((f_Ga_who S r1 v5 m).bind fun q3 => cK S q3.1 2 (if (gI q3.2 q3.1 3) < v4 then (f_Ro_hiderOf_138 S k56 v0 v1 v2 v3 v4 v5 q3.2) else (some (v5, q3.2))))) else (f_Ro_hiderOf_138 S k56 v0 v1 v2 v3 v4 v5 m))))
set_option maxRecDepth 100000 in
theorem w_Ro_hiderOf_96 {S : ba_S} {k56 : Nat → Int32 → Int32 → Int32 → Int32 → Int32 → ba_M → Option (Int32 × ba_M)} (hk56 : ∀ (v0 : Nat) (v1 : Int32) (v2 : Int32) (v3 : Int32) (v4 : Int32) (v5 : Int32) (m : ba_M), ck S v0 4 = true → AW (Y_Ro_hiderOf S) 56 [some (aR (some v0)), some (aI v1), some (aI v2), some (aI v3), some (aI v4), some (aI v5), none, none] [] S m (k56 v0 v1 v2 v3 v4 v5 m)) : ∀ (v0 : Nat) (v1 : Int32) (v2 : Int32) (v3 : Int32) (v4 : Int32) (v5 : Int32) (s0 : Bool) (m : ba_M), ck S v0 4 = true → AW (Y_Ro_hiderOf S) 96 [some (aR (some v0)), some (aI v1), some (aI v2), some (aI v3), some (aI v4), some (aI v5), none, none] [aI (b2i s0)] S m (f_Ro_hiderOf_96 S k56 v0 v1 v2 v3 v4 v5 s0 m) := by
  intro v0 v1 v2 v3 v4 v5 s0 m g0
  unfold f_Ro_hiderOf_96
  refine a_istore dX4_hiderOf_96 rfl rfl ?_
  refine a_iload dX4_hiderOf_98 rfl ?_
  refine a_iload_n dX4_hiderOf_100 rfl ?_
  refine a_ieq (tgt := 138) dX4_hiderOf_101 (by decide) (fun _ => ?_) (fun _ => ?_)
  · skip
    exact AW.weak (Lw_so rfl (Lw_so rfl (Lw_so rfl (Lw_so rfl (Lw_so rfl (Lw_so rfl (Lw_no (Lw_no Lw_end)))))))) (w_Ro_hiderOf_138 hk56 _ _ _ _ _ _ _ g0)
  · skip
    refine a_iload dX4_hiderOf_104 rfl ?_
    refine a_aload_n dX4_hiderOf_106 rfl ?_
    refine a_getI dX4_hiderOf_107 fl_RX4_28 rfl g0 ?_
    refine a_ieq (tgt := 138) dX4_hiderOf_110 (by decide) (fun _ => ?_) (fun _ => ?_)
    · skip
      exact AW.weak (Lw_so rfl (Lw_so rfl (Lw_so rfl (Lw_so rfl (Lw_so rfl (Lw_so rfl (Lw_no (Lw_no Lw_end)))))))) (w_Ro_hiderOf_138 hk56 _ _ _ _ _ _ _ g0)
    · skip
      refine a_iload dX4_hiderOf_113 rfl ?_
      refine a_beq (tgt := 138) dX4_hiderOf_115 (by decide) (fun _ => ?_) (fun _ => ?_)
      · skip
        exact AW.weak (Lw_so rfl (Lw_so rfl (Lw_so rfl (Lw_so rfl (Lw_so rfl (Lw_so rfl (Lw_no (Lw_no Lw_end)))))))) (w_Ro_hiderOf_138 hk56 _ _ _ _ _ _ _ g0)
      · skip
        refine a_aload_n dX4_hiderOf_118 rfl ?_
        refine a_getR dX4_hiderOf_119 fl_RX4_12 rfl g0 (fun r1 h2 => ?_)
        refine a_iload dX4_hiderOf_122 rfl ?_
        refine a_callV_R dX4_hiderOf_124 lk_RX4_38 mt_Ga_who vt_Ga_who ⟨_, rfl, rfl⟩ (fun _ h => m_Ga_who h) rfl rfl h2 ⟨rfl, rfl, rfl⟩ (fun q3 => ?_)
        refine AW.ck (fun h4 => ?_)
        refine a_getI dX4_hiderOf_127 fl_RX4_109 rfl h4 ?_
        refine a_iload dX4_hiderOf_130 rfl ?_
        refine a_ilt (tgt := 138) dX4_hiderOf_132 (by decide) (fun _ => ?_) (fun _ => ?_)
        · skip
          exact AW.weak (Lw_so rfl (Lw_so rfl (Lw_so rfl (Lw_so rfl (Lw_so rfl (Lw_so rfl (Lw_no (Lw_no Lw_end)))))))) (w_Ro_hiderOf_138 hk56 _ _ _ _ _ _ _ g0)
        · skip
          refine a_iload dX4_hiderOf_135 rfl ?_
          exact AW.ret dX4_hiderOf_137 rfl rfl
def f_Ro_hiderOf_95 (S : ba_S) (k56 : Nat → Int32 → Int32 → Int32 → Int32 → Int32 → ba_M → Option (Int32 × ba_M)) (v0 : Nat) (v1 : Int32) (v2 : Int32) (v3 : Int32) (v4 : Int32) (v5 : Int32) (m : ba_M) : Option (Int32 × ba_M) :=
  (f_Ro_hiderOf_96 S k56 v0 v1 v2 v3 v4 v5 false m)
set_option maxRecDepth 100000 in
theorem w_Ro_hiderOf_95 {S : ba_S} {k56 : Nat → Int32 → Int32 → Int32 → Int32 → Int32 → ba_M → Option (Int32 × ba_M)} (hk56 : ∀ (v0 : Nat) (v1 : Int32) (v2 : Int32) (v3 : Int32) (v4 : Int32) (v5 : Int32) (m : ba_M), ck S v0 4 = true → AW (Y_Ro_hiderOf S) 56 [some (aR (some v0)), some (aI v1), some (aI v2), some (aI v3), some (aI v4), some (aI v5), none, none] [] S m (k56 v0 v1 v2 v3 v4 v5 m)) : ∀ (v0 : Nat) (v1 : Int32) (v2 : Int32) (v3 : Int32) (v4 : Int32) (v5 : Int32) (m : ba_M), ck S v0 4 = true → AW (Y_Ro_hiderOf S) 95 [some (aR (some v0)), some (aI v1), some (aI v2), some (aI v3), some (aI v4), some (aI v5), none, none] [] S m (f_Ro_hiderOf_95 S k56 v0 v1 v2 v3 v4 v5 m) := by
  intro v0 v1 v2 v3 v4 v5 m g0
  unfold f_Ro_hiderOf_95
  refine a_iconst (v := nI 0) dX4_hiderOf_95 (by decide) ?_
  exact AW.weak (Lw_so rfl (Lw_so rfl (Lw_so rfl (Lw_so rfl (Lw_so rfl (Lw_so rfl (Lw_no (Lw_no Lw_end)))))))) (w_Ro_hiderOf_96 hk56 _ _ _ _ _ _ _ _ g0)
def b_Ro_hiderOf_56 (S : ba_S) (k56 : Nat → Int32 → Int32 → Int32 → Int32 → Int32 → ba_M → Option (Int32 × ba_M)) (v0 : Nat) (v1 : Int32) (v2 : Int32) (v3 : Int32) (v4 : Int32) (v5 : Int32) (m : ba_M) : Option (Int32 × ba_M) :=
  (ldR S v0 0 0 fun r5 => (if (gI m r5 2) ≤ v5 then (some ((-4 : Int32), m)) else (ldR S v0 2 20 fun r7 => ((f_Rw_at S r7 v5 m).bind fun q9 => (if q9.1 ≤ v2 then (f_Ro_hiderOf_95 S k56 v0 v1 v2 v3 v4 v5 q9.2) else (if v3 ≤ q9.1 then (f_Ro_hiderOf_95 S k56 v0 v1 v2 v3 v4 v5 q9.2) else (f_Ro_hiderOf_96 S k56 v0 v1 v2 v3 v4 v5 true q9.2)))))))
set_option maxRecDepth 100000 in
theorem w_Ro_hiderOf_56 {S : ba_S} {k56 : Nat → Int32 → Int32 → Int32 → Int32 → Int32 → ba_M → Option (Int32 × ba_M)} (hk56 : ∀ (v0 : Nat) (v1 : Int32) (v2 : Int32) (v3 : Int32) (v4 : Int32) (v5 : Int32) (m : ba_M), ck S v0 4 = true → AW (Y_Ro_hiderOf S) 56 [some (aR (some v0)), some (aI v1), some (aI v2), some (aI v3), some (aI v4), some (aI v5), none, none] [] S m (k56 v0 v1 v2 v3 v4 v5 m)) : ∀ (v0 : Nat) (v1 : Int32) (v2 : Int32) (v3 : Int32) (v4 : Int32) (v5 : Int32) (m : ba_M), ck S v0 4 = true → AW (Y_Ro_hiderOf S) 56 [some (aR (some v0)), some (aI v1), some (aI v2), some (aI v3), some (aI v4), some (aI v5), none, none] [] S m (b_Ro_hiderOf_56 S k56 v0 v1 v2 v3 v4 v5 m) := by
  intro v0 v1 v2 v3 v4 v5 m g0
  unfold b_Ro_hiderOf_56
  refine a_iload dX4_hiderOf_56 rfl ?_
  refine a_aload_n dX4_hiderOf_58 rfl ?_
  refine a_getR dX4_hiderOf_59 fl_RX4_12 rfl g0 (fun r5 h6 => ?_)
  refine a_getI dX4_hiderOf_62 fl_RX4_69 rfl h6 ?_
  refine a_ige (tgt := 144) dX4_hiderOf_65 (by decide) (fun _ => ?_) (fun _ => ?_)
  · skip
    refine a_bipush (v := -4) dX4_hiderOf_144 (by decide) ?_
    exact AW.ret dX4_hiderOf_146 rfl rfl
  · skip
    refine a_aload_n dX4_hiderOf_68 rfl ?_
    refine a_getR dX4_hiderOf_69 fl_RX4_22 rfl g0 (fun r7 h8 => ?_)
    refine a_iload dX4_hiderOf_72 rfl ?_
    refine a_callS_I dX4_hiderOf_74 lk_RX4_101 mt_Rw_at sv_Rw_at (fun _ h => m_Rw_at h) rfl rfl ⟨rfl, rfl, rfl⟩ (fun q9 => ?_)
    refine a_istore dX4_hiderOf_77 rfl rfl ?_
    refine a_iload dX4_hiderOf_79 rfl ?_
    refine a_iload_n dX4_hiderOf_81 rfl ?_
    refine a_ile (tgt := 95) dX4_hiderOf_82 (by decide) (fun _ => ?_) (fun _ => ?_)
    · skip
      exact AW.weak (Lw_so rfl (Lw_so rfl (Lw_so rfl (Lw_so rfl (Lw_so rfl (Lw_so rfl (Lw_no (Lw_no Lw_end)))))))) (w_Ro_hiderOf_95 hk56 _ _ _ _ _ _ _ g0)
    · skip
      refine a_iload dX4_hiderOf_85 rfl ?_
      refine a_iload_n dX4_hiderOf_87 rfl ?_
      refine a_ige (tgt := 95) dX4_hiderOf_88 (by decide) (fun _ => ?_) (fun _ => ?_)
      · skip
        exact AW.weak (Lw_so rfl (Lw_so rfl (Lw_so rfl (Lw_so rfl (Lw_so rfl (Lw_so rfl (Lw_no (Lw_no Lw_end)))))))) (w_Ro_hiderOf_95 hk56 _ _ _ _ _ _ _ g0)
      · skip
        refine a_iconst (v := nI 1) dX4_hiderOf_91 (by decide) ?_
        refine a_goto (tgt := 96) dX4_hiderOf_92 (by decide) ?_
        exact AW.weak (Lw_so rfl (Lw_so rfl (Lw_so rfl (Lw_so rfl (Lw_so rfl (Lw_so rfl (Lw_no (Lw_no Lw_end)))))))) (w_Ro_hiderOf_96 hk56 _ _ _ _ _ _ _ _ g0)
def f_Ro_hiderOf_56 (S : ba_S) : Nat → Int32 → Int32 → Int32 → Int32 → Int32 → ba_M → Option (Int32 × ba_M) := fx (fun _ _ _ _ _ _ _ => none) (b_Ro_hiderOf_56 S) FU
theorem l_Ro_hiderOf_56 {S : ba_S} : ∀ (n : Nat) (v0 : Nat) (v1 : Int32) (v2 : Int32) (v3 : Int32) (v4 : Int32) (v5 : Int32) (m : ba_M), ck S v0 4 = true → AW (Y_Ro_hiderOf S) 56 [some (aR (some v0)), some (aI v1), some (aI v2), some (aI v3), some (aI v4), some (aI v5), none, none] [] S m ((fx (F := Nat → Int32 → Int32 → Int32 → Int32 → Int32 → ba_M → Option (Int32 × ba_M)) (fun _ _ _ _ _ _ _ => none) (b_Ro_hiderOf_56 S) n) v0 v1 v2 v3 v4 v5 m) := by
  intro n
  induction n with
  | zero => intro _ _ _ _ _ _ _ _; exact AW.none
  | succ n ih => exact w_Ro_hiderOf_56 ih
def f_Ro_hiderOf (S : ba_S) (a0 : Nat) (a1 : Int32) (m : ba_M) : Option (Int32 × ba_M) :=
  cK S a0 4 ((ldR S a0 3 20 fun r10 => ((f_Rw_at S r10 a1 m).bind fun q12 => (ldR S a0 2 20 fun r13 => ((f_Rw_at S r13 a1 q12.2).bind fun q15 => (ldR S a0 3 20 fun r16 => ((f_Rw_at S r16 a1 q15.2).bind fun q18 => (ldR S a0 2 20 fun r19 => ((f_Rw_at S r19 a1 q18.2).bind fun q21 => (ldR S a0 0 0 fun r22 => ((f_Ga_who S r22 a1 q21.2).bind fun q24 => cK S q24.1 2 (f_Ro_hiderOf_56 S a0 a1 (jmin q12.1 q15.1) (jmax q18.1 q21.1) (gI q24.2 q24.1 3) (nI 0) q24.2))))))))))))
set_option maxRecDepth 100000 in
theorem e_Ro_hiderOf (S : ba_S) (a0 : Nat) (a1 : Int32) (m : ba_M) : AW (Y_Ro_hiderOf S) 0 [some (aR (some a0)), some (aI a1), none, none, none, none, none, none] [] S m (f_Ro_hiderOf S a0 a1 m) := by
  unfold f_Ro_hiderOf
  refine AW.ck (fun g0 => ?_)
  refine a_aload_n dX4_hiderOf_0 rfl ?_
  refine a_getR dX4_hiderOf_1 fl_RX4_25 rfl g0 (fun r10 h11 => ?_)
  refine a_iload_n dX4_hiderOf_4 rfl ?_
  refine a_callS_I dX4_hiderOf_5 lk_RX4_101 mt_Rw_at sv_Rw_at (fun _ h => m_Rw_at h) rfl rfl ⟨rfl, rfl, rfl⟩ (fun q12 => ?_)
  refine a_aload_n dX4_hiderOf_8 rfl ?_
  refine a_getR dX4_hiderOf_9 fl_RX4_22 rfl g0 (fun r13 h14 => ?_)
  refine a_iload_n dX4_hiderOf_12 rfl ?_
  refine a_callS_I dX4_hiderOf_13 lk_RX4_101 mt_Rw_at sv_Rw_at (fun _ h => m_Rw_at h) rfl rfl ⟨rfl, rfl, rfl⟩ (fun q15 => ?_)
  refine a_min dX4_hiderOf_16 lk_RX4_118 rfl rfl rfl ?_
  refine a_istore_n dX4_hiderOf_19 rfl rfl ?_
  refine a_aload_n dX4_hiderOf_20 rfl ?_
  refine a_getR dX4_hiderOf_21 fl_RX4_25 rfl g0 (fun r16 h17 => ?_)
  refine a_iload_n dX4_hiderOf_24 rfl ?_
  refine a_callS_I dX4_hiderOf_25 lk_RX4_101 mt_Rw_at sv_Rw_at (fun _ h => m_Rw_at h) rfl rfl ⟨rfl, rfl, rfl⟩ (fun q18 => ?_)
  refine a_aload_n dX4_hiderOf_28 rfl ?_
  refine a_getR dX4_hiderOf_29 fl_RX4_22 rfl g0 (fun r19 h20 => ?_)
  refine a_iload_n dX4_hiderOf_32 rfl ?_
  refine a_callS_I dX4_hiderOf_33 lk_RX4_101 mt_Rw_at sv_Rw_at (fun _ h => m_Rw_at h) rfl rfl ⟨rfl, rfl, rfl⟩ (fun q21 => ?_)
  refine a_max dX4_hiderOf_36 lk_RX4_63 rfl rfl rfl ?_
  refine a_istore_n dX4_hiderOf_39 rfl rfl ?_
  refine a_aload_n dX4_hiderOf_40 rfl ?_
  refine a_getR dX4_hiderOf_41 fl_RX4_12 rfl g0 (fun r22 h23 => ?_)
  refine a_iload_n dX4_hiderOf_44 rfl ?_
  refine a_callV_R dX4_hiderOf_45 lk_RX4_38 mt_Ga_who vt_Ga_who ⟨_, rfl, rfl⟩ (fun _ h => m_Ga_who h) rfl rfl h23 ⟨rfl, rfl, rfl⟩ (fun q24 => ?_)
  refine AW.ck (fun h25 => ?_)
  refine a_getI dX4_hiderOf_48 fl_RX4_109 rfl h25 ?_
  refine a_istore dX4_hiderOf_51 rfl rfl ?_
  refine a_iconst (v := nI 0) dX4_hiderOf_53 (by decide) ?_
  refine a_istore dX4_hiderOf_54 rfl rfl ?_
  exact AW.weak (Lw_so rfl (Lw_so rfl (Lw_so rfl (Lw_so rfl (Lw_so rfl (Lw_so rfl (Lw_no (Lw_no Lw_end)))))))) (l_Ro_hiderOf_56 FU _ _ _ _ _ _ _ g0)
theorem m_Ro_hiderOf {S : ba_S} {a0 : Nat} {a1 : Int32} {m : ba_M} {q : Int32 × ba_M} (h : f_Ro_hiderOf S a0 a1 m = some q) : MA (Y_Ro_hiderOf S) yX4_hiderOf (some .int) [aR (some a0), aI a1] S m q :=
  ba_met ⟨by decide +kernel, rfl⟩ rfl (fun h => by cases h) (Or.inl ⟨rfl, rfl, _, rfl⟩) rfl (h ▸ e_Ro_hiderOf S a0 a1 m)

abbrev Y_Ro_chanceOf (S : ba_S) : ba_Y (Int32 × ba_M) := mI cX4_chanceOf RX4 6 2 49 S
def f_Ro_chanceOf_103 (S : ba_S) (s0 : Int32) (m : ba_M) : Option (Int32 × ba_M) :=
  (some (s0, m))
set_option maxRecDepth 100000 in
theorem w_Ro_chanceOf_103 {S : ba_S} : ∀ (s0 : Int32) (m : ba_M), AW (Y_Ro_chanceOf S) 103 [none, none, none, none, none, none] [aI s0] S m (f_Ro_chanceOf_103 S s0 m) := by
  intro s0 m
  unfold f_Ro_chanceOf_103
  exact AW.ret dX4_chanceOf_103 rfl rfl
def f_Ro_chanceOf_31 (S : ba_S) (v0 : Nat) (v1 : Int32) (s0 : Int32) (m : ba_M) : Option (Int32 × ba_M) :=
  (ldR S v0 2 20 fun r1 => ((f_Rw_at S r1 v1 m).bind fun q3 => (ldR S v0 3 20 fun r4 => ((f_Rw_at S r4 v1 q3.2).bind fun q6 => (ldR S v0 0 0 fun r7 => ((f_Ga_who S r7 (gI q6.2 v0 4) q6.2).bind fun q9 => cK S q9.1 2 ((f_Ro_hiderOf S v0 v1 q9.2).bind fun q11 => (if q11.1 = (-4 : Int32) then (f_Ro_chanceOf_103 S (jmin (nI 10) (jmax (nI 0) ((s0 + (gI q9.2 q9.1 4)) - (jabs (q3.1 - q6.1))))) q11.2) else (if (nI 2) = 0 then none else (f_Ro_chanceOf_103 S ((jmin (nI 10) (jmax (nI 0) ((s0 + (gI q9.2 q9.1 4)) - (jabs (q3.1 - q6.1))))) / (nI 2)) q11.2))))))))))
set_option maxRecDepth 100000 in
theorem w_Ro_chanceOf_31 {S : ba_S} : ∀ (v0 : Nat) (v1 : Int32) (s0 : Int32) (m : ba_M), ck S v0 4 = true → AW (Y_Ro_chanceOf S) 31 [some (aR (some v0)), some (aI v1), none, none, none, none] [aI s0] S m (f_Ro_chanceOf_31 S v0 v1 s0 m) := by
  intro v0 v1 s0 m g0
  unfold f_Ro_chanceOf_31
  refine a_istore_n dX4_chanceOf_31 rfl rfl ?_
  refine a_aload_n dX4_chanceOf_32 rfl ?_
  refine a_getR dX4_chanceOf_33 fl_RX4_22 rfl g0 (fun r1 h2 => ?_)
  refine a_iload_n dX4_chanceOf_36 rfl ?_
  refine a_callS_I dX4_chanceOf_37 lk_RX4_101 mt_Rw_at sv_Rw_at (fun _ h => m_Rw_at h) rfl rfl ⟨rfl, rfl, rfl⟩ (fun q3 => ?_)
  refine a_aload_n dX4_chanceOf_40 rfl ?_
  refine a_getR dX4_chanceOf_41 fl_RX4_25 rfl g0 (fun r4 h5 => ?_)
  refine a_iload_n dX4_chanceOf_44 rfl ?_
  refine a_callS_I dX4_chanceOf_45 lk_RX4_101 mt_Rw_at sv_Rw_at (fun _ h => m_Rw_at h) rfl rfl ⟨rfl, rfl, rfl⟩ (fun q6 => ?_)
  refine a_isub dX4_chanceOf_48 ?_
  refine a_abs dX4_chanceOf_49 lk_RX4_112 rfl rfl rfl ?_
  refine a_istore dX4_chanceOf_52 rfl rfl ?_
  refine a_bipush (v := nI 10) dX4_chanceOf_54 (by decide) ?_
  refine a_iconst (v := nI 0) dX4_chanceOf_56 (by decide) ?_
  refine a_iload_n dX4_chanceOf_57 rfl ?_
  refine a_aload_n dX4_chanceOf_58 rfl ?_
  refine a_getR dX4_chanceOf_59 fl_RX4_12 rfl g0 (fun r7 h8 => ?_)
  refine a_aload_n dX4_chanceOf_62 rfl ?_
  refine a_getI dX4_chanceOf_63 fl_RX4_28 rfl g0 ?_
  refine a_callV_R dX4_chanceOf_66 lk_RX4_38 mt_Ga_who vt_Ga_who ⟨_, rfl, rfl⟩ (fun _ h => m_Ga_who h) rfl rfl h8 ⟨rfl, rfl, rfl⟩ (fun q9 => ?_)
  refine AW.ck (fun h10 => ?_)
  refine a_getI dX4_chanceOf_69 fl_RX4_115 rfl h10 ?_
  refine a_iadd dX4_chanceOf_72 ?_
  refine a_iload dX4_chanceOf_73 rfl ?_
  refine a_isub dX4_chanceOf_75 ?_
  refine a_max dX4_chanceOf_76 lk_RX4_63 rfl rfl rfl ?_
  refine a_min dX4_chanceOf_79 lk_RX4_118 rfl rfl rfl ?_
  refine a_istore dX4_chanceOf_82 rfl rfl ?_
  refine a_aload_n dX4_chanceOf_84 rfl ?_
  refine a_iload_n dX4_chanceOf_85 rfl ?_
  refine a_callV_I dX4_chanceOf_86 lk_RX4_121 mt_Ro_hiderOf vt_Ro_hiderOf ⟨_, rfl, rfl⟩ (fun _ h => m_Ro_hiderOf h) rfl rfl g0 ⟨rfl, rfl, rfl⟩ (fun q11 => ?_)
  refine a_bipush (v := -4) dX4_chanceOf_89 (by decide) ?_
  refine a_ine (tgt := 99) dX4_chanceOf_91 (by decide) (fun _ => ?_) (fun _ => ?_)
  · skip
    refine a_iload dX4_chanceOf_99 rfl ?_
    refine a_iconst (v := nI 2) dX4_chanceOf_101 (by decide) ?_
    refine a_idiv dX4_chanceOf_102 ?_
    exact AW.weak (Lw_no (Lw_no (Lw_no (Lw_no (Lw_no (Lw_no Lw_end)))))) (w_Ro_chanceOf_103 _ _)
  · skip
    refine a_iload dX4_chanceOf_94 rfl ?_
    refine a_goto (tgt := 103) dX4_chanceOf_96 (by decide) ?_
    exact AW.weak (Lw_no (Lw_no (Lw_no (Lw_no (Lw_no (Lw_no Lw_end)))))) (w_Ro_chanceOf_103 _ _)
def f_Ro_chanceOf (S : ba_S) (a0 : Nat) (a1 : Int32) (m : ba_M) : Option (Int32 × ba_M) :=
  cK S a0 4 ((ldR S a0 0 0 fun r12 => ((f_Ga_who S r12 a1 m).bind fun q14 => cK S q14.1 2 (ldR S a0 1 20 fun r16 => ((f_Rw_at S r16 a1 q14.2).bind fun q18 => (if q18.1 = (nI 3) then (if (nI 2) = 0 then none else (f_Ro_chanceOf_31 S a0 a1 ((gI q14.2 q14.1 3) / (nI 2)) q18.2)) else (f_Ro_chanceOf_31 S a0 a1 (gI q14.2 q14.1 3) q18.2)))))))
set_option maxRecDepth 100000 in
theorem e_Ro_chanceOf (S : ba_S) (a0 : Nat) (a1 : Int32) (m : ba_M) : AW (Y_Ro_chanceOf S) 0 [some (aR (some a0)), some (aI a1), none, none, none, none] [] S m (f_Ro_chanceOf S a0 a1 m) := by
  unfold f_Ro_chanceOf
  refine AW.ck (fun g0 => ?_)
  refine a_aload_n dX4_chanceOf_0 rfl ?_
  refine a_getR dX4_chanceOf_1 fl_RX4_12 rfl g0 (fun r12 h13 => ?_)
  refine a_iload_n dX4_chanceOf_4 rfl ?_
  refine a_callV_R dX4_chanceOf_5 lk_RX4_38 mt_Ga_who vt_Ga_who ⟨_, rfl, rfl⟩ (fun _ h => m_Ga_who h) rfl rfl h13 ⟨rfl, rfl, rfl⟩ (fun q14 => ?_)
  refine AW.ck (fun h15 => ?_)
  refine a_getI dX4_chanceOf_8 fl_RX4_109 rfl h15 ?_
  refine a_istore_n dX4_chanceOf_11 rfl rfl ?_
  refine a_aload_n dX4_chanceOf_12 rfl ?_
  refine a_getR dX4_chanceOf_13 fl_RX4_18 rfl g0 (fun r16 h17 => ?_)
  refine a_iload_n dX4_chanceOf_16 rfl ?_
  refine a_callS_I dX4_chanceOf_17 lk_RX4_101 mt_Rw_at sv_Rw_at (fun _ h => m_Rw_at h) rfl rfl ⟨rfl, rfl, rfl⟩ (fun q18 => ?_)
  refine a_iconst (v := nI 3) dX4_chanceOf_20 (by decide) ?_
  refine a_ine (tgt := 30) dX4_chanceOf_21 (by decide) (fun _ => ?_) (fun _ => ?_)
  · skip
    refine a_iload_n dX4_chanceOf_30 rfl ?_
    exact AW.weak (Lw_so rfl (Lw_so rfl (Lw_no (Lw_no (Lw_no (Lw_no Lw_end)))))) (w_Ro_chanceOf_31 _ _ _ _ g0)
  · skip
    refine a_iload_n dX4_chanceOf_24 rfl ?_
    refine a_iconst (v := nI 2) dX4_chanceOf_25 (by decide) ?_
    refine a_idiv dX4_chanceOf_26 ?_
    refine a_goto (tgt := 31) dX4_chanceOf_27 (by decide) ?_
    exact AW.weak (Lw_so rfl (Lw_so rfl (Lw_no (Lw_no (Lw_no (Lw_no Lw_end)))))) (w_Ro_chanceOf_31 _ _ _ _ g0)
theorem m_Ro_chanceOf {S : ba_S} {a0 : Nat} {a1 : Int32} {m : ba_M} {q : Int32 × ba_M} (h : f_Ro_chanceOf S a0 a1 m = some q) : MA (Y_Ro_chanceOf S) yX4_chanceOf (some .int) [aR (some a0), aI a1] S m q :=
  ba_met ⟨by decide +kernel, rfl⟩ rfl (fun h => by cases h) (Or.inl ⟨rfl, rfl, _, rfl⟩) rfl (h ▸ e_Ro_chanceOf S a0 a1 m)

abbrev Y_Ro_target (S : ba_S) : ba_Y (Int32 × ba_M) := mI cX4_target RX4 5 3 74 S
def f_Ro_target_48 (S : ba_S) (k7 : Nat → Int32 → Int32 → Int32 → ba_M → Option (Int32 × ba_M)) (v0 : Nat) (v1 : Int32) (v2 : Int32) (v3 : Int32) (m : ba_M) : Option (Int32 × ba_M) :=
  (k7 v0 v1 v2 (v3 + (nI 1)) m)
set_option maxRecDepth 100000 in
theorem w_Ro_target_48 {S : ba_S} {k7 : Nat → Int32 → Int32 → Int32 → ba_M → Option (Int32 × ba_M)} (hk7 : ∀ (v0 : Nat) (v1 : Int32) (v2 : Int32) (v3 : Int32) (m : ba_M), ck S v0 4 = true → AW (Y_Ro_target S) 7 [some (aR (some v0)), some (aI v1), some (aI v2), some (aI v3), none] [] S m (k7 v0 v1 v2 v3 m)) : ∀ (v0 : Nat) (v1 : Int32) (v2 : Int32) (v3 : Int32) (m : ba_M), ck S v0 4 = true → AW (Y_Ro_target S) 48 [some (aR (some v0)), some (aI v1), some (aI v2), some (aI v3), none] [] S m (f_Ro_target_48 S k7 v0 v1 v2 v3 m) := by
  intro v0 v1 v2 v3 m g0
  unfold f_Ro_target_48
  refine a_iinc (v := nI 1) dX4_target_48 rfl (by decide) rfl rfl ?_
  refine a_goto (tgt := 7) dX4_target_51 (by decide) ?_
  exact AW.weak (Lw_so rfl (Lw_so rfl (Lw_so rfl (Lw_so rfl (Lw_no Lw_end))))) (hk7 _ _ _ _ _ g0)
def f_Ro_target_35 (S : ba_S) (k7 : Nat → Int32 → Int32 → Int32 → ba_M → Option (Int32 × ba_M)) (v0 : Nat) (v1 : Int32) (v2 : Int32) (v3 : Int32) (s0 : Int32) (m : ba_M) : Option (Int32 × ba_M) :=
  (if s0 ≤ v2 then (f_Ro_target_48 S k7 v0 v1 v2 v3 m) else (f_Ro_target_48 S k7 v0 v3 s0 v3 m))
set_option maxRecDepth 100000 in
theorem w_Ro_target_35 {S : ba_S} {k7 : Nat → Int32 → Int32 → Int32 → ba_M → Option (Int32 × ba_M)} (hk7 : ∀ (v0 : Nat) (v1 : Int32) (v2 : Int32) (v3 : Int32) (m : ba_M), ck S v0 4 = true → AW (Y_Ro_target S) 7 [some (aR (some v0)), some (aI v1), some (aI v2), some (aI v3), none] [] S m (k7 v0 v1 v2 v3 m)) : ∀ (v0 : Nat) (v1 : Int32) (v2 : Int32) (v3 : Int32) (s0 : Int32) (m : ba_M), ck S v0 4 = true → AW (Y_Ro_target S) 35 [some (aR (some v0)), some (aI v1), some (aI v2), some (aI v3), none] [aI s0] S m (f_Ro_target_35 S k7 v0 v1 v2 v3 s0 m) := by
  intro v0 v1 v2 v3 s0 m g0
  unfold f_Ro_target_35
  refine a_istore dX4_target_35 rfl rfl ?_
  refine a_iload dX4_target_37 rfl ?_
  refine a_iload_n dX4_target_39 rfl ?_
  refine a_ile (tgt := 48) dX4_target_40 (by decide) (fun _ => ?_) (fun _ => ?_)
  · skip
    exact AW.weak (Lw_so rfl (Lw_so rfl (Lw_so rfl (Lw_so rfl (Lw_no Lw_end))))) (w_Ro_target_48 hk7 _ _ _ _ _ g0)
  · skip
    refine a_iload dX4_target_43 rfl ?_
    refine a_istore_n dX4_target_45 rfl rfl ?_
    refine a_iload_n dX4_target_46 rfl ?_
    refine a_istore_n dX4_target_47 rfl rfl ?_
    exact AW.weak (Lw_so rfl (Lw_so rfl (Lw_so rfl (Lw_so rfl (Lw_no Lw_end))))) (w_Ro_target_48 hk7 _ _ _ _ _ g0)
def b_Ro_target_7 (S : ba_S) (k7 : Nat → Int32 → Int32 → Int32 → ba_M → Option (Int32 × ba_M)) (v0 : Nat) (v1 : Int32) (v2 : Int32) (v3 : Int32) (m : ba_M) : Option (Int32 × ba_M) :=
  (ldR S v0 0 0 fun r1 => (if (gI m r1 2) ≤ v3 then (some (v1, m)) else (if v3 = (gI m v0 4) then (f_Ro_target_35 S k7 v0 v1 v2 v3 (-1 : Int32) m) else ((f_Ro_chanceOf S v0 v3 m).bind fun q3 => (f_Ro_target_35 S k7 v0 v1 v2 v3 q3.1 q3.2)))))
set_option maxRecDepth 100000 in
theorem w_Ro_target_7 {S : ba_S} {k7 : Nat → Int32 → Int32 → Int32 → ba_M → Option (Int32 × ba_M)} (hk7 : ∀ (v0 : Nat) (v1 : Int32) (v2 : Int32) (v3 : Int32) (m : ba_M), ck S v0 4 = true → AW (Y_Ro_target S) 7 [some (aR (some v0)), some (aI v1), some (aI v2), some (aI v3), none] [] S m (k7 v0 v1 v2 v3 m)) : ∀ (v0 : Nat) (v1 : Int32) (v2 : Int32) (v3 : Int32) (m : ba_M), ck S v0 4 = true → AW (Y_Ro_target S) 7 [some (aR (some v0)), some (aI v1), some (aI v2), some (aI v3), none] [] S m (b_Ro_target_7 S k7 v0 v1 v2 v3 m) := by
  intro v0 v1 v2 v3 m g0
  unfold b_Ro_target_7
  refine a_iload_n dX4_target_7 rfl ?_
  refine a_aload_n dX4_target_8 rfl ?_
  refine a_getR dX4_target_9 fl_RX4_12 rfl g0 (fun r1 h2 => ?_)
  refine a_getI dX4_target_12 fl_RX4_69 rfl h2 ?_
  refine a_ige (tgt := 54) dX4_target_15 (by decide) (fun _ => ?_) (fun _ => ?_)
  · skip
    refine a_iload_n dX4_target_54 rfl ?_
    exact AW.ret dX4_target_55 rfl rfl
  · skip
    refine a_iload_n dX4_target_18 rfl ?_
    refine a_aload_n dX4_target_19 rfl ?_
    refine a_getI dX4_target_20 fl_RX4_28 rfl g0 ?_
    refine a_ine (tgt := 30) dX4_target_23 (by decide) (fun _ => ?_) (fun _ => ?_)
    · skip
      refine a_aload_n dX4_target_30 rfl ?_
      refine a_iload_n dX4_target_31 rfl ?_
      refine a_callV_I dX4_target_32 lk_RX4_105 mt_Ro_chanceOf vt_Ro_chanceOf ⟨_, rfl, rfl⟩ (fun _ h => m_Ro_chanceOf h) rfl rfl g0 ⟨rfl, rfl, rfl⟩ (fun q3 => ?_)
      exact AW.weak (Lw_so rfl (Lw_so rfl (Lw_so rfl (Lw_so rfl (Lw_no Lw_end))))) (w_Ro_target_35 hk7 _ _ _ _ _ _ g0)
    · skip
      refine a_iconst (v := -1) dX4_target_26 (by decide) ?_
      refine a_goto (tgt := 35) dX4_target_27 (by decide) ?_
      exact AW.weak (Lw_so rfl (Lw_so rfl (Lw_so rfl (Lw_so rfl (Lw_no Lw_end))))) (w_Ro_target_35 hk7 _ _ _ _ _ _ g0)
def f_Ro_target_7 (S : ba_S) : Nat → Int32 → Int32 → Int32 → ba_M → Option (Int32 × ba_M) := fx (fun _ _ _ _ _ => none) (b_Ro_target_7 S) FU
theorem l_Ro_target_7 {S : ba_S} : ∀ (n : Nat) (v0 : Nat) (v1 : Int32) (v2 : Int32) (v3 : Int32) (m : ba_M), ck S v0 4 = true → AW (Y_Ro_target S) 7 [some (aR (some v0)), some (aI v1), some (aI v2), some (aI v3), none] [] S m ((fx (F := Nat → Int32 → Int32 → Int32 → ba_M → Option (Int32 × ba_M)) (fun _ _ _ _ _ => none) (b_Ro_target_7 S) n) v0 v1 v2 v3 m) := by
  intro n
  induction n with
  | zero => intro _ _ _ _ _ _; exact AW.none
  | succ n ih => exact w_Ro_target_7 ih
def f_Ro_target (S : ba_S) (a0 : Nat) (m : ba_M) : Option (Int32 × ba_M) :=
  cK S a0 4 ((f_Ro_target_7 S a0 (-4 : Int32) (-1 : Int32) (nI 0) m))
set_option maxRecDepth 100000 in
theorem e_Ro_target (S : ba_S) (a0 : Nat) (m : ba_M) : AW (Y_Ro_target S) 0 [some (aR (some a0)), none, none, none, none] [] S m (f_Ro_target S a0 m) := by
  unfold f_Ro_target
  refine AW.ck (fun g0 => ?_)
  refine a_bipush (v := -4) dX4_target_0 (by decide) ?_
  refine a_istore_n dX4_target_2 rfl rfl ?_
  refine a_iconst (v := -1) dX4_target_3 (by decide) ?_
  refine a_istore_n dX4_target_4 rfl rfl ?_
  refine a_iconst (v := nI 0) dX4_target_5 (by decide) ?_
  refine a_istore_n dX4_target_6 rfl rfl ?_
  exact AW.weak (Lw_so rfl (Lw_so rfl (Lw_so rfl (Lw_so rfl (Lw_no Lw_end))))) (l_Ro_target_7 FU _ _ _ _ _ g0)
theorem m_Ro_target {S : ba_S} {a0 : Nat} {m : ba_M} {q : Int32 × ba_M} (h : f_Ro_target S a0 m = some q) : MA (Y_Ro_target S) yX4_target (some .int) [aR (some a0)] S m q :=
  ba_met ⟨by decide +kernel, rfl⟩ rfl (fun h => by cases h) (Or.inl ⟨rfl, rfl, _, rfl⟩) rfl (h ▸ e_Ro_target S a0 m)

