abbrev Y_To_init : ba_Y (ba_S × ba_M) := mC cX10_init RX10 1 1 20
def f_To_init (S : ba_S) (a0 : Nat) (m : ba_M) : Option (ba_S × ba_M) :=
  (cK S a0 9 (sB S (wI m a0 0 (-4 : Int32)) fun S2 m3 => (cK S2 a0 9 (sB S2 (wI m3 a0 1 (nI 0)) fun S5 m6 => (cK S5 a0 9 (sB S5 (wI m6 a0 2 (nI 1)) fun S8 m9 => (cK S8 a0 9 (sB S8 (wI m9 a0 3 (nI 0)) fun S11 m12 => (some (S11, m12))))))))))
set_option maxRecDepth 100000 in
theorem e_To_init (S : ba_S) (a0 : Nat) (m : ba_M) : AW Y_To_init 0 [some (aR (some a0))] [] S m (f_To_init S a0 m) := by
  unfold f_To_init
  refine a_aload_n dX10_init_0 rfl ?_
  refine a_obj dX10_init_1 lo_RX10_3 rfl rfl rfl ?_
  refine a_aload_n dX10_init_4 rfl ?_
  refine a_bipush (v := -4) dX10_init_5 (by decide) ?_
  refine AW.ck (fun h1 => ?_)
  refine a_putI dX10_init_7 fl_RX10_9 (rfl : _ = FieldType.int) rfl rfl rfl h1 ?_
  refine AW.sB (fun S2 m3 => ?_)
  refine a_aload_n dX10_init_10 rfl ?_
  refine a_iconst (v := nI 0) dX10_init_11 (by decide) ?_
  refine AW.ck (fun h4 => ?_)
  refine a_putI dX10_init_12 fl_RX10_15 (rfl : _ = FieldType.int) rfl rfl rfl h4 ?_
  refine AW.sB (fun S5 m6 => ?_)
  refine a_aload_n dX10_init_15 rfl ?_
  refine a_iconst (v := nI 1) dX10_init_16 (by decide) ?_
  refine AW.ck (fun h7 => ?_)
  refine a_putI dX10_init_17 fl_RX10_18 (rfl : _ = FieldType.int) rfl rfl rfl h7 ?_
  refine AW.sB (fun S8 m9 => ?_)
  refine a_aload_n dX10_init_20 rfl ?_
  refine a_iconst (v := nI 0) dX10_init_21 (by decide) ?_
  refine AW.ck (fun h10 => ?_)
  refine a_putI dX10_init_22 fl_RX10_21 (rfl : _ = FieldType.int) rfl rfl rfl h10 ?_
  refine AW.sB (fun S11 m12 => ?_)
  exact AW.ret dX10_init_25 rfl rfl
theorem m_To_init {S : ba_S} {a0 : Nat} {m : ba_M} {q : ba_S × ba_M} (h : f_To_init S a0 m = some q) : MA Y_To_init yX10_init none [aR (some a0)] S m q :=
  ba_met ⟨by decide +kernel, rfl⟩ rfl (fun _ => rfl) (Or.inr (Or.inr (Or.inr (Or.inl ⟨rfl, rfl, rfl⟩)))) rfl (h ▸ e_To_init S a0 m)

abbrev Y_Pl_init : ba_Y (ba_S × ba_M) := mC cX2_init RX2 1 2 40
def f_Pl_init (S : ba_S) (a0 : Nat) (m : ba_M) : Option (ba_S × ba_M) :=
  (sB (pS S 9 0 (nF 9)) (pM (nN S) m) fun S1 m2 => ((f_To_init S1 (nN S) m2).bind fun q3 => (cK q3.1 a0 2 (sB (wR q3.1 a0 0 (some (nN S))) q3.2 fun S5 m6 => (cK S5 a0 2 (sB S5 (wI m6 a0 1 (nI 0)) fun S8 m9 => (cK S8 a0 2 (sB S8 (wI m9 a0 2 (nI 1)) fun S11 m12 => (cK S11 a0 2 (sB S11 (wI m12 a0 3 (nI 1)) fun S14 m15 => (cK S14 a0 2 (sB S14 (wI m15 a0 4 (nI 0)) fun S17 m18 => (cK S17 a0 2 (sB S17 (wI m18 a0 5 (nI 0)) fun S20 m21 => (some (S20, m21))))))))))))))))
set_option maxRecDepth 100000 in
theorem e_Pl_init (S : ba_S) (a0 : Nat) (m : ba_M) : AW Y_Pl_init 0 [some (aR (some a0))] [] S m (f_Pl_init S a0 m) := by
  unfold f_Pl_init
  refine a_aload_n dX2_init_0 rfl ?_
  refine a_obj dX2_init_1 lo_RX2_1 rfl rfl rfl ?_
  refine a_aload_n dX2_init_4 rfl ?_
  refine a_new dX2_init_5 nw_RX2_7 ?_
  refine AW.sB (fun S1 m2 => ?_)
  refine a_dup dX2_init_8 rfl ?_
  refine a_callIN_C dX2_init_9 lk_RX2_9 mt_To_init iv_To_init (fun _ h => m_To_init h) rfl rfl ⟨rfl, rfl, rfl⟩ (fun q3 => ?_)
  refine AW.ck (fun h4 => ?_)
  refine a_putR rfl dX2_init_12 fl_RX2_10 ⟨_, rfl, rfl⟩ rfl rfl (fun _ => ⟨rfl, rfl⟩) h4 ?_
  refine AW.sB (fun S5 m6 => ?_)
  refine a_aload_n dX2_init_15 rfl ?_
  refine a_iconst (v := nI 0) dX2_init_16 (by decide) ?_
  refine AW.ck (fun h7 => ?_)
  refine a_putI dX2_init_17 fl_RX2_16 (rfl : _ = FieldType.int) rfl rfl rfl h7 ?_
  refine AW.sB (fun S8 m9 => ?_)
  refine a_aload_n dX2_init_20 rfl ?_
  refine a_iconst (v := nI 1) dX2_init_21 (by decide) ?_
  refine AW.ck (fun h10 => ?_)
  refine a_putI dX2_init_22 fl_RX2_20 (rfl : _ = FieldType.int) rfl rfl rfl h10 ?_
  refine AW.sB (fun S11 m12 => ?_)
  refine a_aload_n dX2_init_25 rfl ?_
  refine a_iconst (v := nI 1) dX2_init_26 (by decide) ?_
  refine AW.ck (fun h13 => ?_)
  refine a_putI dX2_init_27 fl_RX2_23 (rfl : _ = FieldType.int) rfl rfl rfl h13 ?_
  refine AW.sB (fun S14 m15 => ?_)
  refine a_aload_n dX2_init_30 rfl ?_
  refine a_iconst (v := nI 0) dX2_init_31 (by decide) ?_
  refine AW.ck (fun h16 => ?_)
  refine a_putI dX2_init_32 fl_RX2_26 (rfl : _ = FieldType.int) rfl rfl rfl h16 ?_
  refine AW.sB (fun S17 m18 => ?_)
  refine a_aload_n dX2_init_35 rfl ?_
  refine a_iconst (v := nI 0) dX2_init_36 (by decide) ?_
  refine AW.ck (fun h19 => ?_)
  refine a_putI dX2_init_37 fl_RX2_29 (rfl : _ = FieldType.int) rfl rfl rfl h19 ?_
  refine AW.sB (fun S20 m21 => ?_)
  exact AW.ret dX2_init_40 rfl rfl
theorem m_Pl_init {S : ba_S} {a0 : Nat} {m : ba_M} {q : ba_S × ba_M} (h : f_Pl_init S a0 m = some q) : MA Y_Pl_init yX2_init none [aR (some a0)] S m q :=
  ba_met ⟨by decide +kernel, rfl⟩ rfl (fun _ => rfl) (Or.inr (Or.inr (Or.inr (Or.inl ⟨rfl, rfl, rfl⟩)))) rfl (h ▸ e_Pl_init S a0 m)

abbrev Y_Pl_become (S : ba_S) : ba_Y (ba_M) := mV cX2_become RX2 6 0 0 S
def f_Pl_become (S : ba_S) (a0 : Nat) (a1 : Int32) (a2 : Int32) (a3 : Int32) (a4 : Int32) (a5 : Int32) (m : ba_M) : Option (ba_M) :=
  cK S a0 2 ((some (wI (wI (wI (wI (wI m a0 1 a1) a0 2 a2) a0 3 a3) a0 4 a4) a0 5 a5)))
set_option maxRecDepth 100000 in
theorem e_Pl_become (S : ba_S) (a0 : Nat) (a1 : Int32) (a2 : Int32) (a3 : Int32) (a4 : Int32) (a5 : Int32) (m : ba_M) : AW (Y_Pl_become S) 0 [some (aR (some a0)), some (aI a1), some (aI a2), some (aI a3), some (aI a4), some (aI a5)] [] S m (f_Pl_become S a0 a1 a2 a3 a4 a5 m) := by
  unfold f_Pl_become
  refine AW.ck (fun g0 => ?_)
  refine a_aload_n dX2_become_0 rfl ?_
  refine a_iload_n dX2_become_1 rfl ?_
  refine a_putI dX2_become_2 fl_RX2_16 (rfl : _ = FieldType.int) rfl rfl rfl g0 ?_
  refine a_aload_n dX2_become_5 rfl ?_
  refine a_iload_n dX2_become_6 rfl ?_
  refine a_putI dX2_become_7 fl_RX2_20 (rfl : _ = FieldType.int) rfl rfl rfl g0 ?_
  refine a_aload_n dX2_become_10 rfl ?_
  refine a_iload_n dX2_become_11 rfl ?_
  refine a_putI dX2_become_12 fl_RX2_23 (rfl : _ = FieldType.int) rfl rfl rfl g0 ?_
  refine a_aload_n dX2_become_15 rfl ?_
  refine a_iload dX2_become_16 rfl ?_
  refine a_putI dX2_become_18 fl_RX2_26 (rfl : _ = FieldType.int) rfl rfl rfl g0 ?_
  refine a_aload_n dX2_become_21 rfl ?_
  refine a_iload dX2_become_22 rfl ?_
  refine a_putI dX2_become_24 fl_RX2_29 (rfl : _ = FieldType.int) rfl rfl rfl g0 ?_
  exact AW.ret dX2_become_27 rfl rfl
theorem m_Pl_become {S : ba_S} {a0 : Nat} {a1 : Int32} {a2 : Int32} {a3 : Int32} {a4 : Int32} {a5 : Int32} {m : ba_M} {q : ba_M} (h : f_Pl_become S a0 a1 a2 a3 a4 a5 m = some q) : MA (Y_Pl_become S) yX2_become none [aR (some a0), aI a1, aI a2, aI a3, aI a4, aI a5] S m q :=
  ba_met ⟨by decide +kernel, rfl⟩ rfl (fun h => by cases h) (Or.inr (Or.inr (Or.inr (Or.inl ⟨rfl, rfl, rfl⟩)))) rfl (h ▸ e_Pl_become S a0 a1 a2 a3 a4 a5 m)

abbrev Y_To_tellCall (S : ba_S) : ba_Y (ba_M) := mV cX10_tellCall RX10 4 0 0 S
def f_To_tellCall (S : ba_S) (a0 : Nat) (a1 : Int32) (a2 : Int32) (a3 : Int32) (m : ba_M) : Option (ba_M) :=
  cK S a0 9 ((some (wI (wI (wI m a0 0 a1) a0 1 a2) a0 2 a3)))
set_option maxRecDepth 100000 in
theorem e_To_tellCall (S : ba_S) (a0 : Nat) (a1 : Int32) (a2 : Int32) (a3 : Int32) (m : ba_M) : AW (Y_To_tellCall S) 0 [some (aR (some a0)), some (aI a1), some (aI a2), some (aI a3)] [] S m (f_To_tellCall S a0 a1 a2 a3 m) := by
  unfold f_To_tellCall
  refine AW.ck (fun g0 => ?_)
  refine a_aload_n dX10_tellCall_0 rfl ?_
  refine a_iload_n dX10_tellCall_1 rfl ?_
  refine a_putI dX10_tellCall_2 fl_RX10_9 (rfl : _ = FieldType.int) rfl rfl rfl g0 ?_
  refine a_aload_n dX10_tellCall_5 rfl ?_
  refine a_iload_n dX10_tellCall_6 rfl ?_
  refine a_putI dX10_tellCall_7 fl_RX10_15 (rfl : _ = FieldType.int) rfl rfl rfl g0 ?_
  refine a_aload_n dX10_tellCall_10 rfl ?_
  refine a_iload_n dX10_tellCall_11 rfl ?_
  refine a_putI dX10_tellCall_12 fl_RX10_18 (rfl : _ = FieldType.int) rfl rfl rfl g0 ?_
  exact AW.ret dX10_tellCall_15 rfl rfl
theorem m_To_tellCall {S : ba_S} {a0 : Nat} {a1 : Int32} {a2 : Int32} {a3 : Int32} {m : ba_M} {q : ba_M} (h : f_To_tellCall S a0 a1 a2 a3 m = some q) : MA (Y_To_tellCall S) yX10_tellCall none [aR (some a0), aI a1, aI a2, aI a3] S m q :=
  ba_met ⟨by decide +kernel, rfl⟩ rfl (fun h => by cases h) (Or.inr (Or.inr (Or.inr (Or.inl ⟨rfl, rfl, rfl⟩)))) rfl (h ▸ e_To_tellCall S a0 a1 a2 a3 m)

abbrev Y_Ba_within (S : ba_S) : ba_Y (Bool × ba_M) := mZ cX11_within RX11 3 0 0 S
def f_Ba_within_15 (S : ba_S) (s0 : Bool) (m : ba_M) : Option (Bool × ba_M) :=
  (some (s0, m))
set_option maxRecDepth 100000 in
theorem w_Ba_within_15 {S : ba_S} : ∀ (s0 : Bool) (m : ba_M), AW (Y_Ba_within S) 15 [none, none, none] [aI (b2i s0)] S m (f_Ba_within_15 S s0 m) := by
  intro s0 m
  unfold f_Ba_within_15
  exact AW.ret dX11_within_15 rfl rfl
def f_Ba_within_14 (S : ba_S) (m : ba_M) : Option (Bool × ba_M) :=
  (f_Ba_within_15 S false m)
set_option maxRecDepth 100000 in
theorem w_Ba_within_14 {S : ba_S} : ∀ (m : ba_M), AW (Y_Ba_within S) 14 [none, none, none] [] S m (f_Ba_within_14 S m) := by
  intro m
  unfold f_Ba_within_14
  refine a_iconst (v := nI 0) dX11_within_14 (by decide) ?_
  exact AW.weak (Lw_no (Lw_no (Lw_no Lw_end))) (w_Ba_within_15 _ _)
def f_Ba_within (S : ba_S) (a0 : Int32) (a1 : Int32) (a2 : Int32) (m : ba_M) : Option (Bool × ba_M) :=
  (if a0 < a1 then (f_Ba_within_14 S m) else (if a2 < a0 then (f_Ba_within_14 S m) else (f_Ba_within_15 S true m)))
set_option maxRecDepth 100000 in
theorem e_Ba_within (S : ba_S) (a0 : Int32) (a1 : Int32) (a2 : Int32) (m : ba_M) : AW (Y_Ba_within S) 0 [some (aI a0), some (aI a1), some (aI a2)] [] S m (f_Ba_within S a0 a1 a2 m) := by
  unfold f_Ba_within
  refine a_iload_n dX11_within_0 rfl ?_
  refine a_iload_n dX11_within_1 rfl ?_
  refine a_ilt (tgt := 14) dX11_within_2 (by decide) (fun _ => ?_) (fun _ => ?_)
  · skip
    exact AW.weak (Lw_no (Lw_no (Lw_no Lw_end))) (w_Ba_within_14 _)
  · skip
    refine a_iload_n dX11_within_5 rfl ?_
    refine a_iload_n dX11_within_6 rfl ?_
    refine a_igt (tgt := 14) dX11_within_7 (by decide) (fun _ => ?_) (fun _ => ?_)
    · skip
      exact AW.weak (Lw_no (Lw_no (Lw_no Lw_end))) (w_Ba_within_14 _)
    · skip
      refine a_iconst (v := nI 1) dX11_within_10 (by decide) ?_
      refine a_goto (tgt := 15) dX11_within_11 (by decide) ?_
      exact AW.weak (Lw_no (Lw_no (Lw_no Lw_end))) (w_Ba_within_15 _ _)
theorem m_Ba_within {S : ba_S} {a0 : Int32} {a1 : Int32} {a2 : Int32} {m : ba_M} {q : Bool × ba_M} (h : f_Ba_within S a0 a1 a2 m = some q) : MA (Y_Ba_within S) yX11_within (some .boolean) [aI a0, aI a1, aI a2] S m q :=
  ba_met ⟨by decide +kernel, rfl⟩ rfl (fun h => by cases h) (Or.inr (Or.inl ⟨rfl, rfl, _, rfl⟩)) rfl (h ▸ e_Ba_within S a0 a1 a2 m)

abbrev Y_Rw_put (S : ba_S) : ba_Y (ba_M) := mV cX5_put RX5 3 0 0 S
def f_Rw_put_14 (S : ba_S) (m : ba_M) : Option (ba_M) :=
  (some m)
set_option maxRecDepth 100000 in
theorem w_Rw_put_14 {S : ba_S} : ∀ (m : ba_M), AW (Y_Rw_put S) 14 [none, none, none] [] S m (f_Rw_put_14 S m) := by
  intro m
  unfold f_Rw_put_14
  exact AW.ret dX5_put_14 rfl rfl
def f_Rw_put (S : ba_S) (a0 : Nat) (a1 : Int32) (a2 : Int32) (m : ba_M) : Option (ba_M) :=
  cK S a0 20 ((if a1 < 0 then (f_Rw_put_14 S m) else (if (nI (kL S a0)) ≤ a1 then (f_Rw_put_14 S m) else (bD S a0 a1 (f_Rw_put_14 S (wI m a0 (a1).toNatClampNeg a2))))))
set_option maxRecDepth 100000 in
theorem e_Rw_put (S : ba_S) (a0 : Nat) (a1 : Int32) (a2 : Int32) (m : ba_M) : AW (Y_Rw_put S) 0 [some (aR (some a0)), some (aI a1), some (aI a2)] [] S m (f_Rw_put S a0 a1 a2 m) := by
  unfold f_Rw_put
  refine AW.ck (fun g0 => ?_)
  refine a_iload_n dX5_put_0 rfl ?_
  refine a_zlt (tgt := 14) dX5_put_1 (by decide) (fun _ => ?_) (fun _ => ?_)
  · skip
    exact AW.weak (Lw_no (Lw_no (Lw_no Lw_end))) (w_Rw_put_14 _)
  · skip
    refine a_iload_n dX5_put_4 rfl ?_
    refine a_aload_n dX5_put_5 rfl ?_
    refine a_alen dX5_put_6 g0 (by decide) ?_
    refine a_ige (tgt := 14) dX5_put_7 (by decide) (fun _ => ?_) (fun _ => ?_)
    · skip
      exact AW.weak (Lw_no (Lw_no (Lw_no Lw_end))) (w_Rw_put_14 _)
    · skip
      refine a_aload_n dX5_put_10 rfl ?_
      refine a_iload_n dX5_put_11 rfl ?_
      refine a_iload_n dX5_put_12 rfl ?_
      refine a_iast dX5_put_13 g0 ?_
      exact AW.weak (Lw_no (Lw_no (Lw_no Lw_end))) (w_Rw_put_14 _)
theorem m_Rw_put {S : ba_S} {a0 : Nat} {a1 : Int32} {a2 : Int32} {m : ba_M} {q : ba_M} (h : f_Rw_put S a0 a1 a2 m = some q) : MA (Y_Rw_put S) yX5_put none [aR (some a0), aI a1, aI a2] S m q :=
  ba_met ⟨by decide +kernel, rfl⟩ rfl (fun h => by cases h) (Or.inr (Or.inr (Or.inr (Or.inl ⟨rfl, rfl, rfl⟩)))) rfl (h ▸ e_Rw_put S a0 a1 a2 m)

abbrev Y_Rw_at (S : ba_S) : ba_Y (Int32 × ba_M) := mI cX5_at RX5 2 0 0 S
def f_Rw_at_17 (S : ba_S) (s0 : Int32) (m : ba_M) : Option (Int32 × ba_M) :=
  (some (s0, m))
set_option maxRecDepth 100000 in
theorem w_Rw_at_17 {S : ba_S} : ∀ (s0 : Int32) (m : ba_M), AW (Y_Rw_at S) 17 [none, none] [aI s0] S m (f_Rw_at_17 S s0 m) := by
  intro s0 m
  unfold f_Rw_at_17
  exact AW.ret dX5_at_17 rfl rfl
def f_Rw_at_16 (S : ba_S) (m : ba_M) : Option (Int32 × ba_M) :=
  (f_Rw_at_17 S (nI 0) m)
set_option maxRecDepth 100000 in
theorem w_Rw_at_16 {S : ba_S} : ∀ (m : ba_M), AW (Y_Rw_at S) 16 [none, none] [] S m (f_Rw_at_16 S m) := by
  intro m
  unfold f_Rw_at_16
  refine a_iconst (v := nI 0) dX5_at_16 (by decide) ?_
  exact AW.weak (Lw_no (Lw_no Lw_end)) (w_Rw_at_17 _ _)
def f_Rw_at (S : ba_S) (a0 : Nat) (a1 : Int32) (m : ba_M) : Option (Int32 × ba_M) :=
  cK S a0 20 ((if a1 < 0 then (f_Rw_at_16 S m) else (if (nI (kL S a0)) ≤ a1 then (f_Rw_at_16 S m) else (bD S a0 a1 (f_Rw_at_17 S (gI m a0 (a1).toNatClampNeg) m)))))
set_option maxRecDepth 100000 in
theorem e_Rw_at (S : ba_S) (a0 : Nat) (a1 : Int32) (m : ba_M) : AW (Y_Rw_at S) 0 [some (aR (some a0)), some (aI a1)] [] S m (f_Rw_at S a0 a1 m) := by
  unfold f_Rw_at
  refine AW.ck (fun g0 => ?_)
  refine a_iload_n dX5_at_0 rfl ?_
  refine a_zlt (tgt := 16) dX5_at_1 (by decide) (fun _ => ?_) (fun _ => ?_)
  · skip
    exact AW.weak (Lw_no (Lw_no Lw_end)) (w_Rw_at_16 _)
  · skip
    refine a_iload_n dX5_at_4 rfl ?_
    refine a_aload_n dX5_at_5 rfl ?_
    refine a_alen dX5_at_6 g0 (by decide) ?_
    refine a_ige (tgt := 16) dX5_at_7 (by decide) (fun _ => ?_) (fun _ => ?_)
    · skip
      exact AW.weak (Lw_no (Lw_no Lw_end)) (w_Rw_at_16 _)
    · skip
      refine a_aload_n dX5_at_10 rfl ?_
      refine a_iload_n dX5_at_11 rfl ?_
      refine a_iald dX5_at_12 g0 ?_
      refine a_goto (tgt := 17) dX5_at_13 (by decide) ?_
      exact AW.weak (Lw_no (Lw_no Lw_end)) (w_Rw_at_17 _ _)
theorem m_Rw_at {S : ba_S} {a0 : Nat} {a1 : Int32} {m : ba_M} {q : Int32 × ba_M} (h : f_Rw_at S a0 a1 m = some q) : MA (Y_Rw_at S) yX5_at (some .int) [aR (some a0), aI a1] S m q :=
  ba_met ⟨by decide +kernel, rfl⟩ rfl (fun h => by cases h) (Or.inl ⟨rfl, rfl, _, rfl⟩) rfl (h ▸ e_Rw_at S a0 a1 m)

abbrev Y_To_copyFrom (S : ba_S) : ba_Y (ba_M) := mV cX10_copyFrom RX10 2 1 23 S
def f_To_copyFrom (S : ba_S) (a0 : Nat) (a1 : Nat) (m : ba_M) : Option (ba_M) :=
  cK S a0 9 (cK S a1 9 (((f_To_tellCall S a0 (gI m a1 0) (gI m a1 1) (gI m a1 2) m).bind fun q1 => (some (wI q1 a0 3 (gI q1 a1 3))))))
set_option maxRecDepth 100000 in
theorem e_To_copyFrom (S : ba_S) (a0 : Nat) (a1 : Nat) (m : ba_M) : AW (Y_To_copyFrom S) 0 [some (aR (some a0)), some (aR (some a1))] [] S m (f_To_copyFrom S a0 a1 m) := by
  unfold f_To_copyFrom
  refine AW.ck (fun g0 => ?_)
  refine AW.ck (fun g1 => ?_)
  refine a_aload_n dX10_copyFrom_0 rfl ?_
  refine a_aload_n dX10_copyFrom_1 rfl ?_
  refine a_getI dX10_copyFrom_2 fl_RX10_9 rfl g1 ?_
  refine a_aload_n dX10_copyFrom_5 rfl ?_
  refine a_getI dX10_copyFrom_6 fl_RX10_15 rfl g1 ?_
  refine a_aload_n dX10_copyFrom_9 rfl ?_
  refine a_getI dX10_copyFrom_10 fl_RX10_18 rfl g1 ?_
  refine a_callV_V dX10_copyFrom_13 lk_RX10_24 mt_To_tellCall vt_To_tellCall ⟨_, rfl, rfl⟩ (fun _ h => m_To_tellCall h) rfl rfl g0 ⟨rfl, rfl, rfl⟩ (fun q1 => ?_)
  refine a_aload_n dX10_copyFrom_16 rfl ?_
  refine a_aload_n dX10_copyFrom_17 rfl ?_
  refine a_getI dX10_copyFrom_18 fl_RX10_21 rfl g1 ?_
  refine a_putI dX10_copyFrom_21 fl_RX10_21 (rfl : _ = FieldType.int) rfl rfl rfl g0 ?_
  exact AW.ret dX10_copyFrom_24 rfl rfl
theorem m_To_copyFrom {S : ba_S} {a0 : Nat} {a1 : Nat} {m : ba_M} {q : ba_M} (h : f_To_copyFrom S a0 a1 m = some q) : MA (Y_To_copyFrom S) yX10_copyFrom none [aR (some a0), aR (some a1)] S m q :=
  ba_met ⟨by decide +kernel, rfl⟩ rfl (fun h => by cases h) (Or.inr (Or.inr (Or.inr (Or.inl ⟨rfl, rfl, rfl⟩)))) rfl (h ▸ e_To_copyFrom S a0 a1 m)

abbrev Y_Pl_copyFrom (S : ba_S) : ba_Y (ba_M) := mV cX2_copyFrom RX2 2 2 44 S
def f_Pl_copyFrom (S : ba_S) (a0 : Nat) (a1 : Nat) (m : ba_M) : Option (ba_M) :=
  cK S a0 2 (cK S a1 2 (((f_Pl_become S a0 (gI m a1 1) (gI m a1 2) (gI m a1 3) (gI m a1 4) (gI m a1 5) m).bind fun q1 => (ldR S a0 0 9 fun r2 => (ldR S a1 0 9 fun r4 => ((f_To_copyFrom S r2 r4 q1).bind fun q6 => (some q6)))))))
set_option maxRecDepth 100000 in
theorem e_Pl_copyFrom (S : ba_S) (a0 : Nat) (a1 : Nat) (m : ba_M) : AW (Y_Pl_copyFrom S) 0 [some (aR (some a0)), some (aR (some a1))] [] S m (f_Pl_copyFrom S a0 a1 m) := by
  unfold f_Pl_copyFrom
  refine AW.ck (fun g0 => ?_)
  refine AW.ck (fun g1 => ?_)
  refine a_aload_n dX2_copyFrom_0 rfl ?_
  refine a_aload_n dX2_copyFrom_1 rfl ?_
  refine a_getI dX2_copyFrom_2 fl_RX2_16 rfl g1 ?_
  refine a_aload_n dX2_copyFrom_5 rfl ?_
  refine a_getI dX2_copyFrom_6 fl_RX2_20 rfl g1 ?_
  refine a_aload_n dX2_copyFrom_9 rfl ?_
  refine a_getI dX2_copyFrom_10 fl_RX2_23 rfl g1 ?_
  refine a_aload_n dX2_copyFrom_13 rfl ?_
  refine a_getI dX2_copyFrom_14 fl_RX2_26 rfl g1 ?_
  refine a_aload_n dX2_copyFrom_17 rfl ?_
  refine a_getI dX2_copyFrom_18 fl_RX2_29 rfl g1 ?_
  refine a_callV_V dX2_copyFrom_21 lk_RX2_32 mt_Pl_become vt_Pl_become ⟨_, rfl, rfl⟩ (fun _ h => m_Pl_become h) rfl rfl g0 ⟨rfl, rfl, rfl⟩ (fun q1 => ?_)
  refine a_aload_n dX2_copyFrom_24 rfl ?_
  refine a_getR dX2_copyFrom_25 fl_RX2_10 rfl g0 (fun r2 h3 => ?_)
  refine a_aload_n dX2_copyFrom_28 rfl ?_
  refine a_getR dX2_copyFrom_29 fl_RX2_10 rfl g1 (fun r4 h5 => ?_)
  refine a_callV_V dX2_copyFrom_32 lk_RX2_36 mt_To_copyFrom vt_To_copyFrom ⟨_, rfl, rfl⟩ (fun _ h => m_To_copyFrom h) rfl rfl h3 ⟨rfl, rfl, rfl⟩ (fun q6 => ?_)
  exact AW.ret dX2_copyFrom_35 rfl rfl
theorem m_Pl_copyFrom {S : ba_S} {a0 : Nat} {a1 : Nat} {m : ba_M} {q : ba_M} (h : f_Pl_copyFrom S a0 a1 m = some q) : MA (Y_Pl_copyFrom S) yX2_copyFrom none [aR (some a0), aR (some a1)] S m q :=
  ba_met ⟨by decide +kernel, rfl⟩ rfl (fun h => by cases h) (Or.inr (Or.inr (Or.inr (Or.inl ⟨rfl, rfl, rfl⟩)))) rfl (h ▸ e_Pl_copyFrom S a0 a1 m)

abbrev Y_Ar_fill (S : ba_S) : ba_Y (ba_M) := mV cJ7_fill_d0a16 RJ7 5 0 0 S
def b_Ar_fill_6 (S : ba_S) (k6 : Nat → Int64 → Int32 → Int32 → ba_M → Option (ba_M)) (v0 : Nat) (v1 : Int64) (v3 : Int32) (v4 : Int32) (m : ba_M) : Option (ba_M) :=
  (if v4 ≤ v3 then (some m) else (bD S v0 v3 (k6 v0 v1 (v3 + (nI 1)) v4 (wL m v0 (v3).toNatClampNeg v1))))
set_option maxRecDepth 100000 in
theorem w_Ar_fill_6 {S : ba_S} {k6 : Nat → Int64 → Int32 → Int32 → ba_M → Option (ba_M)} (hk6 : ∀ (v0 : Nat) (v1 : Int64) (v3 : Int32) (v4 : Int32) (m : ba_M), ck S v0 21 = true → AW (Y_Ar_fill S) 6 [some (aR (some v0)), some (aJ v1), none, some (aI v3), some (aI v4)] [] S m (k6 v0 v1 v3 v4 m)) : ∀ (v0 : Nat) (v1 : Int64) (v3 : Int32) (v4 : Int32) (m : ba_M), ck S v0 21 = true → AW (Y_Ar_fill S) 6 [some (aR (some v0)), some (aJ v1), none, some (aI v3), some (aI v4)] [] S m (b_Ar_fill_6 S k6 v0 v1 v3 v4 m) := by
  intro v0 v1 v3 v4 m g0
  unfold b_Ar_fill_6
  refine a_iload_n dJ7_fill_d0a16_6 rfl ?_
  refine a_iload dJ7_fill_d0a16_7 rfl ?_
  refine a_ige (tgt := 22) dJ7_fill_d0a16_9 (by decide) (fun _ => ?_) (fun _ => ?_)
  · skip
    exact AW.ret dJ7_fill_d0a16_22 rfl rfl
  · skip
    refine a_aload_n dJ7_fill_d0a16_12 rfl ?_
    refine a_iload_n dJ7_fill_d0a16_13 rfl ?_
    refine a_lload_n dJ7_fill_d0a16_14 rfl ?_
    refine a_last dJ7_fill_d0a16_15 g0 ?_
    refine a_iinc (v := nI 1) dJ7_fill_d0a16_16 rfl (by decide) rfl rfl ?_
    refine a_goto (tgt := 6) dJ7_fill_d0a16_19 (by decide) ?_
    exact AW.weak (Lw_so rfl (Lw_so rfl (Lw_no (Lw_so rfl (Lw_so rfl Lw_end))))) (hk6 _ _ _ _ _ g0)
def f_Ar_fill_6 (S : ba_S) : Nat → Int64 → Int32 → Int32 → ba_M → Option (ba_M) := fx (fun _ _ _ _ _ => none) (b_Ar_fill_6 S) FU
theorem l_Ar_fill_6 {S : ba_S} : ∀ (n : Nat) (v0 : Nat) (v1 : Int64) (v3 : Int32) (v4 : Int32) (m : ba_M), ck S v0 21 = true → AW (Y_Ar_fill S) 6 [some (aR (some v0)), some (aJ v1), none, some (aI v3), some (aI v4)] [] S m ((fx (F := Nat → Int64 → Int32 → Int32 → ba_M → Option (ba_M)) (fun _ _ _ _ _ => none) (b_Ar_fill_6 S) n) v0 v1 v3 v4 m) := by
  intro n
  induction n with
  | zero => intro _ _ _ _ _ _; exact AW.none
  | succ n ih => exact w_Ar_fill_6 ih
def f_Ar_fill (S : ba_S) (a0 : Nat) (a1 : Int64) (m : ba_M) : Option (ba_M) :=
  cK S a0 21 ((f_Ar_fill_6 S a0 a1 (nI 0) (nI (kL S a0)) m))
set_option maxRecDepth 100000 in
theorem e_Ar_fill (S : ba_S) (a0 : Nat) (a1 : Int64) (m : ba_M) : AW (Y_Ar_fill S) 0 [some (aR (some a0)), some (aJ a1), none, none, none] [] S m (f_Ar_fill S a0 a1 m) := by
  unfold f_Ar_fill
  refine AW.ck (fun g0 => ?_)
  refine a_iconst (v := nI 0) dJ7_fill_d0a16_0 (by decide) ?_
  refine a_istore_n dJ7_fill_d0a16_1 rfl rfl ?_
  refine a_aload_n dJ7_fill_d0a16_2 rfl ?_
  refine a_alen dJ7_fill_d0a16_3 g0 (by decide) ?_
  refine a_istore dJ7_fill_d0a16_4 rfl rfl ?_
  exact AW.weak (Lw_so rfl (Lw_so rfl (Lw_no (Lw_so rfl (Lw_so rfl Lw_end))))) (l_Ar_fill_6 FU _ _ _ _ _ g0)
theorem m_Ar_fill {S : ba_S} {a0 : Nat} {a1 : Int64} {m : ba_M} {q : ba_M} (h : f_Ar_fill S a0 a1 m = some q) : MA (Y_Ar_fill S) yJ7_fill_d0a16 none [aR (some a0), aJ a1] S m q :=
  ba_met ⟨by decide +kernel, rfl⟩ rfl (fun h => by cases h) (Or.inr (Or.inr (Or.inr (Or.inl ⟨rfl, rfl, rfl⟩)))) rfl (h ▸ e_Ar_fill S a0 a1 m)

abbrev Y_Rw_addLong (S : ba_S) : ba_Y (ba_M) := mV cX5_addLong RX5 4 0 0 S
def f_Rw_addLong_17 (S : ba_S) (m : ba_M) : Option (ba_M) :=
  (some m)
set_option maxRecDepth 100000 in
theorem w_Rw_addLong_17 {S : ba_S} : ∀ (m : ba_M), AW (Y_Rw_addLong S) 17 [none, none, none, none] [] S m (f_Rw_addLong_17 S m) := by
  intro m
  unfold f_Rw_addLong_17
  exact AW.ret dX5_addLong_17 rfl rfl
def f_Rw_addLong (S : ba_S) (a0 : Nat) (a1 : Int32) (a2 : Int64) (m : ba_M) : Option (ba_M) :=
  cK S a0 21 ((if a1 < 0 then (f_Rw_addLong_17 S m) else (if (nI (kL S a0)) ≤ a1 then (f_Rw_addLong_17 S m) else (bD S a0 a1 (bD S a0 a1 (f_Rw_addLong_17 S (wL m a0 (a1).toNatClampNeg ((gL m a0 (a1).toNatClampNeg) + a2))))))))
set_option maxRecDepth 100000 in
theorem e_Rw_addLong (S : ba_S) (a0 : Nat) (a1 : Int32) (a2 : Int64) (m : ba_M) : AW (Y_Rw_addLong S) 0 [some (aR (some a0)), some (aI a1), some (aJ a2), none] [] S m (f_Rw_addLong S a0 a1 a2 m) := by
  unfold f_Rw_addLong
  refine AW.ck (fun g0 => ?_)
  refine a_iload_n dX5_addLong_0 rfl ?_
  refine a_zlt (tgt := 17) dX5_addLong_1 (by decide) (fun _ => ?_) (fun _ => ?_)
  · skip
    exact AW.weak (Lw_no (Lw_no (Lw_no (Lw_no Lw_end)))) (w_Rw_addLong_17 _)
  · skip
    refine a_iload_n dX5_addLong_4 rfl ?_
    refine a_aload_n dX5_addLong_5 rfl ?_
    refine a_alen dX5_addLong_6 g0 (by decide) ?_
    refine a_ige (tgt := 17) dX5_addLong_7 (by decide) (fun _ => ?_) (fun _ => ?_)
    · skip
      exact AW.weak (Lw_no (Lw_no (Lw_no (Lw_no Lw_end)))) (w_Rw_addLong_17 _)
    · skip
      refine a_aload_n dX5_addLong_10 rfl ?_
      refine a_iload_n dX5_addLong_11 rfl ?_
      refine a_dup2 dX5_addLong_12 rfl rfl ?_
      refine a_lald dX5_addLong_13 g0 ?_
      refine a_lload_n dX5_addLong_14 rfl ?_
      refine a_ladd dX5_addLong_15 ?_
      refine a_last dX5_addLong_16 g0 ?_
      exact AW.weak (Lw_no (Lw_no (Lw_no (Lw_no Lw_end)))) (w_Rw_addLong_17 _)
theorem m_Rw_addLong {S : ba_S} {a0 : Nat} {a1 : Int32} {a2 : Int64} {m : ba_M} {q : ba_M} (h : f_Rw_addLong S a0 a1 a2 m = some q) : MA (Y_Rw_addLong S) yX5_addLong none [aR (some a0), aI a1, aJ a2] S m q :=
  ba_met ⟨by decide +kernel, rfl⟩ rfl (fun h => by cases h) (Or.inr (Or.inr (Or.inr (Or.inl ⟨rfl, rfl, rfl⟩)))) rfl (h ▸ e_Rw_addLong S a0 a1 a2 m)

abbrev Y_Rw_longAt (S : ba_S) : ba_Y (Int64 × ba_M) := mJ cX5_longAt RX5 2 0 0 S
def f_Rw_longAt_17 (S : ba_S) (s0 : Int64) (m : ba_M) : Option (Int64 × ba_M) :=
  (some (s0, m))
set_option maxRecDepth 100000 in
theorem w_Rw_longAt_17 {S : ba_S} : ∀ (s0 : Int64) (m : ba_M), AW (Y_Rw_longAt S) 17 [none, none] [aJ s0] S m (f_Rw_longAt_17 S s0 m) := by
  intro s0 m
  unfold f_Rw_longAt_17
  exact AW.ret dX5_longAt_17 rfl rfl
def f_Rw_longAt_16 (S : ba_S) (m : ba_M) : Option (Int64 × ba_M) :=
  (f_Rw_longAt_17 S (lN 0) m)
set_option maxRecDepth 100000 in
theorem w_Rw_longAt_16 {S : ba_S} : ∀ (m : ba_M), AW (Y_Rw_longAt S) 16 [none, none] [] S m (f_Rw_longAt_16 S m) := by
  intro m
  unfold f_Rw_longAt_16
  refine a_lconst (v := lN 0) dX5_longAt_16 (by decide) ?_
  exact AW.weak (Lw_no (Lw_no Lw_end)) (w_Rw_longAt_17 _ _)
def f_Rw_longAt (S : ba_S) (a0 : Nat) (a1 : Int32) (m : ba_M) : Option (Int64 × ba_M) :=
  cK S a0 21 ((if a1 < 0 then (f_Rw_longAt_16 S m) else (if (nI (kL S a0)) ≤ a1 then (f_Rw_longAt_16 S m) else (bD S a0 a1 (f_Rw_longAt_17 S (gL m a0 (a1).toNatClampNeg) m)))))
set_option maxRecDepth 100000 in
theorem e_Rw_longAt (S : ba_S) (a0 : Nat) (a1 : Int32) (m : ba_M) : AW (Y_Rw_longAt S) 0 [some (aR (some a0)), some (aI a1)] [] S m (f_Rw_longAt S a0 a1 m) := by
  unfold f_Rw_longAt
  refine AW.ck (fun g0 => ?_)
  refine a_iload_n dX5_longAt_0 rfl ?_
  refine a_zlt (tgt := 16) dX5_longAt_1 (by decide) (fun _ => ?_) (fun _ => ?_)
  · skip
    exact AW.weak (Lw_no (Lw_no Lw_end)) (w_Rw_longAt_16 _)
  · skip
    refine a_iload_n dX5_longAt_4 rfl ?_
    refine a_aload_n dX5_longAt_5 rfl ?_
    refine a_alen dX5_longAt_6 g0 (by decide) ?_
    refine a_ige (tgt := 16) dX5_longAt_7 (by decide) (fun _ => ?_) (fun _ => ?_)
    · skip
      exact AW.weak (Lw_no (Lw_no Lw_end)) (w_Rw_longAt_16 _)
    · skip
      refine a_aload_n dX5_longAt_10 rfl ?_
      refine a_iload_n dX5_longAt_11 rfl ?_
      refine a_lald dX5_longAt_12 g0 ?_
      refine a_goto (tgt := 17) dX5_longAt_13 (by decide) ?_
      exact AW.weak (Lw_no (Lw_no Lw_end)) (w_Rw_longAt_17 _ _)
theorem m_Rw_longAt {S : ba_S} {a0 : Nat} {a1 : Int32} {m : ba_M} {q : Int64 × ba_M} (h : f_Rw_longAt S a0 a1 m = some q) : MA (Y_Rw_longAt S) yX5_longAt (some .long) [aR (some a0), aI a1] S m q :=
  ba_met ⟨by decide +kernel, rfl⟩ rfl (fun h => by cases h) (Or.inr (Or.inr (Or.inl ⟨rfl, rfl, _, rfl⟩))) rfl (h ▸ e_Rw_longAt S a0 a1 m)

