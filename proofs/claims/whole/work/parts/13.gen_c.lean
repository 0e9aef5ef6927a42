abbrev Y_Re_init : ba_Y (ba_S × ba_M) := mC cX3_init RX3 1 1 20
def f_Re_init (S : ba_S) (a0 : Nat) (m : ba_M) : Option (ba_S × ba_M) :=
  (nA (nI 5) (sB (pS S 20 ((nI 5)).toNatClampNeg ((nI 5)).toNatClampNeg) (pM (nN S) m) fun S1 m2 => (cK S1 a0 3 (sB (wR S1 a0 0 (some (nN S))) m2 fun S4 m5 => (cK S4 a0 3 (sB S4 (wI m5 a0 1 (nI 0)) fun S7 m8 => (some (S7, m8))))))))
set_option maxRecDepth 100000 in
theorem e_Re_init (S : ba_S) (a0 : Nat) (m : ba_M) : AW Y_Re_init 0 [some (aR (some a0))] [] S m (f_Re_init S a0 m) := by
  unfold f_Re_init
  refine a_aload_n dX3_init_0 rfl ?_
  refine a_obj dX3_init_1 lo_RX3_3 rfl rfl rfl ?_
  refine a_aload_n dX3_init_4 rfl ?_
  refine a_iconst (v := nI 5) dX3_init_5 (by decide) ?_
  refine a_newI dX3_init_6 ?_
  refine AW.sB (fun S1 m2 => ?_)
  refine AW.ck (fun h3 => ?_)
  refine a_putR rfl dX3_init_8 fl_RX3_11 ⟨_, rfl, rfl⟩ rfl rfl (fun _ => ⟨rfl, rfl⟩) h3 ?_
  refine AW.sB (fun S4 m5 => ?_)
  refine a_aload_n dX3_init_11 rfl ?_
  refine a_iconst (v := nI 0) dX3_init_12 (by decide) ?_
  refine AW.ck (fun h6 => ?_)
  refine a_putI dX3_init_13 fl_RX3_15 (rfl : _ = FieldType.int) rfl rfl rfl h6 ?_
  refine AW.sB (fun S7 m8 => ?_)
  exact AW.ret dX3_init_16 rfl rfl
theorem m_Re_init {S : ba_S} {a0 : Nat} {m : ba_M} {q : ba_S × ba_M} (h : f_Re_init S a0 m = some q) : MA Y_Re_init yX3_init none [aR (some a0)] S m q :=
  ba_met ⟨by decide +kernel, rfl⟩ rfl (fun _ => rfl) (Or.inr (Or.inr (Or.inr (Or.inl ⟨rfl, rfl, rfl⟩)))) rfl (h ▸ e_Re_init S a0 m)

abbrev Y_Re_readNumbers (S : ba_S) : ba_Y (Int32 × ba_M) := mI cX3_readNumbers RX3 7 3 63 S
def f_Re_readNumbers_67 (S : ba_S) (k10 : Nat → Nat → Int32 → Int32 → ba_M → Option (Int32 × ba_M)) (v0 : Nat) (v1 : Nat) (v3 : Int32) (v4 : Int32) (v5 : Int32) (m : ba_M) : Option (Int32 × ba_M) :=
  (ldR S v0 0 20 fun r1 => ((f_Rw_put S r1 v4 v5 m).bind fun q3 => ((f_Te_byteAt S v1 v3 (wI q3 v0 1 (v4 + (nI 1)))).bind fun q4 => (if q4.1 = (nI 59) then (some ((v3 + (nI 1)), q4.2)) else (if q4.1 = (nI 44) then (k10 v0 v1 (v3 + (nI 1)) (v4 + (nI 1)) q4.2) else (some ((-4 : Int32), q4.2)))))))
set_option maxRecDepth 100000 in
theorem w_Re_readNumbers_67 {S : ba_S} {k10 : Nat → Nat → Int32 → Int32 → ba_M → Option (Int32 × ba_M)} (hk10 : ∀ (v0 : Nat) (v1 : Nat) (v3 : Int32) (v4 : Int32) (m : ba_M), ck S v0 3 = true → ck S v1 8 = true → AW (Y_Re_readNumbers S) 10 [some (aR (some v0)), some (aR (some v1)), none, some (aI v3), some (aI v4), none, none] [] S m (k10 v0 v1 v3 v4 m)) : ∀ (v0 : Nat) (v1 : Nat) (v3 : Int32) (v4 : Int32) (v5 : Int32) (m : ba_M), ck S v0 3 = true → ck S v1 8 = true → AW (Y_Re_readNumbers S) 67 [some (aR (some v0)), some (aR (some v1)), none, some (aI v3), some (aI v4), some (aI v5), none] [] S m (f_Re_readNumbers_67 S k10 v0 v1 v3 v4 v5 m) := by
  intro v0 v1 v3 v4 v5 m g0 g1
  unfold f_Re_readNumbers_67
  refine a_aload_n dX3_readNumbers_67 rfl ?_
  refine a_getR dX3_readNumbers_68 fl_RX3_11 rfl g0 (fun r1 h2 => ?_)
  refine a_iload dX3_readNumbers_71 rfl ?_
  refine a_iload dX3_readNumbers_73 rfl ?_
  refine a_callS_V dX3_readNumbers_75 lk_RX3_45 mt_Rw_put sv_Rw_put (fun _ h => m_Rw_put h) rfl rfl ⟨rfl, rfl, rfl⟩ (fun q3 => ?_)
  refine a_aload_n dX3_readNumbers_78 rfl ?_
  refine a_iload dX3_readNumbers_79 rfl ?_
  refine a_iconst (v := nI 1) dX3_readNumbers_81 (by decide) ?_
  refine a_iadd dX3_readNumbers_82 ?_
  refine a_putI dX3_readNumbers_83 fl_RX3_15 (rfl : _ = FieldType.int) rfl rfl rfl g0 ?_
  refine a_aload_n dX3_readNumbers_86 rfl ?_
  refine a_iload_n dX3_readNumbers_87 rfl ?_
  refine a_callV_I dX3_readNumbers_88 lk_RX3_33 mt_Te_byteAt vt_Te_byteAt ⟨_, rfl, rfl⟩ (fun _ h => m_Te_byteAt h) rfl rfl g1 ⟨rfl, rfl, rfl⟩ (fun q4 => ?_)
  refine a_istore dX3_readNumbers_91 rfl rfl ?_
  refine a_iinc (v := nI 1) dX3_readNumbers_93 rfl (by decide) rfl rfl ?_
  refine a_iload dX3_readNumbers_96 rfl ?_
  refine a_bipush (v := nI 59) dX3_readNumbers_98 (by decide) ?_
  refine a_ine (tgt := 105) dX3_readNumbers_100 (by decide) (fun _ => ?_) (fun _ => ?_)
  · skip
    refine a_iload dX3_readNumbers_105 rfl ?_
    refine a_bipush (v := nI 44) dX3_readNumbers_107 (by decide) ?_
    refine a_ieq (tgt := 115) dX3_readNumbers_109 (by decide) (fun _ => ?_) (fun _ => ?_)
    · skip
      refine a_iinc (v := nI 1) dX3_readNumbers_115 rfl (by decide) rfl rfl ?_
      refine a_goto (tgt := 10) dX3_readNumbers_118 (by decide) ?_
      exact AW.weak (Lw_so rfl (Lw_so rfl (Lw_no (Lw_so rfl (Lw_so rfl (Lw_no (Lw_no Lw_end))))))) (hk10 _ _ _ _ _ g0 g1)
    · skip
      refine a_bipush (v := -4) dX3_readNumbers_112 (by decide) ?_
      exact AW.ret dX3_readNumbers_114 rfl rfl
  · skip
    refine a_iload_n dX3_readNumbers_103 rfl ?_
    exact AW.ret dX3_readNumbers_104 rfl rfl
def b_Re_readNumbers_10 (S : ba_S) (k10 : Nat → Nat → Int32 → Int32 → ba_M → Option (Int32 × ba_M)) (v0 : Nat) (v1 : Nat) (v3 : Int32) (v4 : Int32) (m : ba_M) : Option (Int32 × ba_M) :=
  (if (nI 5) ≤ v4 then (some ((-4 : Int32), m)) else ((f_Te_hasFigureAt S v1 v3 m).bind fun q5 => (if q5.1 = true then ((f_Te_byteAt S v1 v3 q5.2).bind fun q6 => ((f_Te_hasFigureAt S v1 (v3 + (nI 1)) q6.2).bind fun q7 => (if q7.1 = true then ((f_Te_byteAt S v1 (v3 + (nI 1)) q7.2).bind fun q8 => (f_Re_readNumbers_67 S k10 v0 v1 ((v3 + (nI 1)) + (nI 1)) v4 ((((nI 10) * (q6.1 - (nI 48))) + q8.1) - (nI 48)) q8.2)) else (f_Re_readNumbers_67 S k10 v0 v1 (v3 + (nI 1)) v4 (q6.1 - (nI 48)) q7.2)))) else (some ((-4 : Int32), q5.2)))))
set_option maxRecDepth 100000 in
theorem w_Re_readNumbers_10 {S : ba_S} {k10 : Nat → Nat → Int32 → Int32 → ba_M → Option (Int32 × ba_M)} (hk10 : ∀ (v0 : Nat) (v1 : Nat) (v3 : Int32) (v4 : Int32) (m : ba_M), ck S v0 3 = true → ck S v1 8 = true → AW (Y_Re_readNumbers S) 10 [some (aR (some v0)), some (aR (some v1)), none, some (aI v3), some (aI v4), none, none] [] S m (k10 v0 v1 v3 v4 m)) : ∀ (v0 : Nat) (v1 : Nat) (v3 : Int32) (v4 : Int32) (m : ba_M), ck S v0 3 = true → ck S v1 8 = true → AW (Y_Re_readNumbers S) 10 [some (aR (some v0)), some (aR (some v1)), none, some (aI v3), some (aI v4), none, none] [] S m (b_Re_readNumbers_10 S k10 v0 v1 v3 v4 m) := by
  intro v0 v1 v3 v4 m g0 g1
  unfold b_Re_readNumbers_10
  refine a_iload dX3_readNumbers_10 rfl ?_
  refine a_iconst (v := nI 5) dX3_readNumbers_12 (by decide) ?_
  refine a_ige (tgt := 121) dX3_readNumbers_13 (by decide) (fun _ => ?_) (fun _ => ?_)
  · skip
    refine a_bipush (v := -4) dX3_readNumbers_121 (by decide) ?_
    exact AW.ret dX3_readNumbers_123 rfl rfl
  · skip
    refine a_aload_n dX3_readNumbers_16 rfl ?_
    refine a_iload_n dX3_readNumbers_17 rfl ?_
    refine a_callV_Z dX3_readNumbers_18 lk_RX3_41 mt_Te_hasFigureAt vt_Te_hasFigureAt ⟨_, rfl, rfl⟩ (fun _ h => m_Te_hasFigureAt h) rfl rfl g1 ⟨rfl, rfl, rfl⟩ (fun q5 => ?_)
    refine a_bne (tgt := 27) dX3_readNumbers_21 (by decide) (fun _ => ?_) (fun _ => ?_)
    · skip
      refine a_aload_n dX3_readNumbers_27 rfl ?_
      refine a_iload_n dX3_readNumbers_28 rfl ?_
      refine a_callV_I dX3_readNumbers_29 lk_RX3_33 mt_Te_byteAt vt_Te_byteAt ⟨_, rfl, rfl⟩ (fun _ h => m_Te_byteAt h) rfl rfl g1 ⟨rfl, rfl, rfl⟩ (fun q6 => ?_)
      refine a_bipush (v := nI 48) dX3_readNumbers_32 (by decide) ?_
      refine a_isub dX3_readNumbers_34 ?_
      refine a_istore dX3_readNumbers_35 rfl rfl ?_
      refine a_iinc (v := nI 1) dX3_readNumbers_37 rfl (by decide) rfl rfl ?_
      refine a_aload_n dX3_readNumbers_40 rfl ?_
      refine a_iload_n dX3_readNumbers_41 rfl ?_
      refine a_callV_Z dX3_readNumbers_42 lk_RX3_41 mt_Te_hasFigureAt vt_Te_hasFigureAt ⟨_, rfl, rfl⟩ (fun _ h => m_Te_hasFigureAt h) rfl rfl g1 ⟨rfl, rfl, rfl⟩ (fun q7 => ?_)
      refine a_beq (tgt := 67) dX3_readNumbers_45 (by decide) (fun _ => ?_) (fun _ => ?_)
      · skip
        exact AW.weak (Lw_so rfl (Lw_so rfl (Lw_no (Lw_so rfl (Lw_so rfl (Lw_so rfl (Lw_no Lw_end))))))) (w_Re_readNumbers_67 hk10 _ _ _ _ _ _ g0 g1)
      · skip
        refine a_bipush (v := nI 10) dX3_readNumbers_48 (by decide) ?_
        refine a_iload dX3_readNumbers_50 rfl ?_
        refine a_imul dX3_readNumbers_52 ?_
        refine a_aload_n dX3_readNumbers_53 rfl ?_
        refine a_iload_n dX3_readNumbers_54 rfl ?_
        refine a_callV_I dX3_readNumbers_55 lk_RX3_33 mt_Te_byteAt vt_Te_byteAt ⟨_, rfl, rfl⟩ (fun _ h => m_Te_byteAt h) rfl rfl g1 ⟨rfl, rfl, rfl⟩ (fun q8 => ?_)
        refine a_iadd dX3_readNumbers_58 ?_
        refine a_bipush (v := nI 48) dX3_readNumbers_59 (by decide) ?_
        refine a_isub dX3_readNumbers_61 ?_
        refine a_istore dX3_readNumbers_62 rfl rfl ?_
        refine a_iinc (v := nI 1) dX3_readNumbers_64 rfl (by decide) rfl rfl ?_
        exact AW.weak (Lw_so rfl (Lw_so rfl (Lw_no (Lw_so rfl (Lw_so rfl (Lw_so rfl (Lw_no Lw_end))))))) (w_Re_readNumbers_67 hk10 _ _ _ _ _ _ g0 g1)
    · skip
      refine a_bipush (v := -4) dX3_readNumbers_24 (by decide) ?_
      exact AW.ret dX3_readNumbers_26 rfl rfl
def f_Re_readNumbers_10 (S : ba_S) : Nat → Nat → Int32 → Int32 → ba_M → Option (Int32 × ba_M) := fx (fun _ _ _ _ _ => none) (b_Re_readNumbers_10 S) FU
theorem l_Re_readNumbers_10 {S : ba_S} : ∀ (n : Nat) (v0 : Nat) (v1 : Nat) (v3 : Int32) (v4 : Int32) (m : ba_M), ck S v0 3 = true → ck S v1 8 = true → AW (Y_Re_readNumbers S) 10 [some (aR (some v0)), some (aR (some v1)), none, some (aI v3), some (aI v4), none, none] [] S m ((fx (F := Nat → Nat → Int32 → Int32 → ba_M → Option (Int32 × ba_M)) (fun _ _ _ _ _ => none) (b_Re_readNumbers_10 S) n) v0 v1 v3 v4 m) := by
  intro n
  induction n with
  | zero => intro _ _ _ _ _ _ _; exact AW.none
  | succ n ih => exact w_Re_readNumbers_10 ih
def f_Re_readNumbers (S : ba_S) (a0 : Nat) (a1 : Nat) (a2 : Int32) (m : ba_M) : Option (Int32 × ba_M) :=
  cK S a0 3 (cK S a1 8 ((f_Re_readNumbers_10 S a0 a1 a2 (nI 0) (wI m a0 1 (nI 0)))))
set_option maxRecDepth 100000 in
theorem e_Re_readNumbers (S : ba_S) (a0 : Nat) (a1 : Nat) (a2 : Int32) (m : ba_M) : AW (Y_Re_readNumbers S) 0 [some (aR (some a0)), some (aR (some a1)), some (aI a2), none, none, none, none] [] S m (f_Re_readNumbers S a0 a1 a2 m) := by
  unfold f_Re_readNumbers
  refine AW.ck (fun g0 => ?_)
  refine AW.ck (fun g1 => ?_)
  refine a_iload_n dX3_readNumbers_0 rfl ?_
  refine a_istore_n dX3_readNumbers_1 rfl rfl ?_
  refine a_aload_n dX3_readNumbers_2 rfl ?_
  refine a_iconst (v := nI 0) dX3_readNumbers_3 (by decide) ?_
  refine a_putI dX3_readNumbers_4 fl_RX3_15 (rfl : _ = FieldType.int) rfl rfl rfl g0 ?_
  refine a_iconst (v := nI 0) dX3_readNumbers_7 (by decide) ?_
  refine a_istore dX3_readNumbers_8 rfl rfl ?_
  exact AW.weak (Lw_so rfl (Lw_so rfl (Lw_no (Lw_so rfl (Lw_so rfl (Lw_no (Lw_no Lw_end))))))) (l_Re_readNumbers_10 FU _ _ _ _ _ g0 g1)
theorem m_Re_readNumbers {S : ba_S} {a0 : Nat} {a1 : Nat} {a2 : Int32} {m : ba_M} {q : Int32 × ba_M} (h : f_Re_readNumbers S a0 a1 a2 m = some q) : MA (Y_Re_readNumbers S) yX3_readNumbers (some .int) [aR (some a0), aR (some a1), aI a2] S m q :=
  ba_met ⟨by decide +kernel, rfl⟩ rfl (fun h => by cases h) (Or.inl ⟨rfl, rfl, _, rfl⟩) rfl (h ▸ e_Re_readNumbers S a0 a1 a2 m)

abbrev Y_Re_number (S : ba_S) : ba_Y (Int32 × ba_M) := mI cX3_number RX3 2 1 21 S
def f_Re_number (S : ba_S) (a0 : Nat) (a1 : Int32) (m : ba_M) : Option (Int32 × ba_M) :=
  cK S a0 3 ((ldR S a0 0 20 fun r1 => ((f_Rw_at S r1 a1 m).bind fun q3 => (some (q3.1, q3.2)))))
set_option maxRecDepth 100000 in
theorem e_Re_number (S : ba_S) (a0 : Nat) (a1 : Int32) (m : ba_M) : AW (Y_Re_number S) 0 [some (aR (some a0)), some (aI a1)] [] S m (f_Re_number S a0 a1 m) := by
  unfold f_Re_number
  refine AW.ck (fun g0 => ?_)
  refine a_aload_n dX3_number_0 rfl ?_
  refine a_getR dX3_number_1 fl_RX3_11 rfl g0 (fun r1 h2 => ?_)
  refine a_iload_n dX3_number_4 rfl ?_
  refine a_callS_I dX3_number_5 lk_RX3_107 mt_Rw_at sv_Rw_at (fun _ h => m_Rw_at h) rfl rfl ⟨rfl, rfl, rfl⟩ (fun q3 => ?_)
  exact AW.ret dX3_number_8 rfl rfl
theorem m_Re_number {S : ba_S} {a0 : Nat} {a1 : Int32} {m : ba_M} {q : Int32 × ba_M} (h : f_Re_number S a0 a1 m = some q) : MA (Y_Re_number S) yX3_number (some .int) [aR (some a0), aI a1] S m q :=
  ba_met ⟨by decide +kernel, rfl⟩ rfl (fun h => by cases h) (Or.inl ⟨rfl, rfl, _, rfl⟩) rfl (h ▸ e_Re_number S a0 a1 m)

abbrev Y_Re_takeGround (S : ba_S) : ba_Y (Bool × ba_M) := mZ cX3_takeGround RX3 2 2 42 S
def f_Re_takeGround_22 (S : ba_S) (m : ba_M) : Option (Bool × ba_M) :=
  (some (false, m))
set_option maxRecDepth 100000 in
theorem w_Re_takeGround_22 {S : ba_S} : ∀ (m : ba_M), AW (Y_Re_takeGround S) 22 [none, none] [] S m (f_Re_takeGround_22 S m) := by
  intro m
  unfold f_Re_takeGround_22
  refine a_iconst (v := nI 0) dX3_takeGround_22 (by decide) ?_
  exact AW.ret dX3_takeGround_23 rfl rfl
def f_Re_takeGround (S : ba_S) (a0 : Nat) (a1 : Nat) (m : ba_M) : Option (Bool × ba_M) :=
  cK S a0 3 (cK S a1 0 ((if (gI m a0 1) = (nI 1) then ((f_Re_number S a0 (nI 0) m).bind fun q1 => ((f_Ba_within S q1.1 (nI 5) (nI 40) q1.2).bind fun q2 => (if q2.1 = true then ((f_Re_number S a0 (nI 0) q2.2).bind fun q3 => (some (true, (wI q3.2 a1 3 q3.1)))) else (f_Re_takeGround_22 S q2.2)))) else (f_Re_takeGround_22 S m))))
set_option maxRecDepth 100000 in
theorem e_Re_takeGround (S : ba_S) (a0 : Nat) (a1 : Nat) (m : ba_M) : AW (Y_Re_takeGround S) 0 [some (aR (some a0)), some (aR (some a1))] [] S m (f_Re_takeGround S a0 a1 m) := by
  unfold f_Re_takeGround
  refine AW.ck (fun g0 => ?_)
  refine AW.ck (fun g1 => ?_)
  refine a_aload_n dX3_takeGround_0 rfl ?_
  refine a_getI dX3_takeGround_1 fl_RX3_15 rfl g0 ?_
  refine a_iconst (v := nI 1) dX3_takeGround_4 (by decide) ?_
  refine a_ine (tgt := 22) dX3_takeGround_5 (by decide) (fun _ => ?_) (fun _ => ?_)
  · skip
    exact AW.weak (Lw_no (Lw_no Lw_end)) (w_Re_takeGround_22 _)
  · skip
    refine a_aload_n dX3_takeGround_8 rfl ?_
    refine a_iconst (v := nI 0) dX3_takeGround_9 (by decide) ?_
    refine a_callV_I dX3_takeGround_10 lk_RX3_67 mt_Re_number vt_Re_number ⟨_, rfl, rfl⟩ (fun _ h => m_Re_number h) rfl rfl g0 ⟨rfl, rfl, rfl⟩ (fun q1 => ?_)
    refine a_iconst (v := nI 5) dX3_takeGround_13 (by decide) ?_
    refine a_bipush (v := nI 40) dX3_takeGround_14 (by decide) ?_
    refine a_callSN_Z dX3_takeGround_16 lk_RX3_70 mt_Ba_within sv_Ba_within (fun _ h => m_Ba_within h) rfl rfl ⟨rfl, rfl, rfl⟩ (fun q2 => ?_)
    refine a_bne (tgt := 24) dX3_takeGround_19 (by decide) (fun _ => ?_) (fun _ => ?_)
    · skip
      refine a_aload_n dX3_takeGround_24 rfl ?_
      refine a_aload_n dX3_takeGround_25 rfl ?_
      refine a_iconst (v := nI 0) dX3_takeGround_26 (by decide) ?_
      refine a_callV_I dX3_takeGround_27 lk_RX3_67 mt_Re_number vt_Re_number ⟨_, rfl, rfl⟩ (fun _ h => m_Re_number h) rfl rfl g0 ⟨rfl, rfl, rfl⟩ (fun q3 => ?_)
      refine a_putI dX3_takeGround_30 fl_RX3_74 (rfl : _ = FieldType.int) rfl rfl rfl g1 ?_
      refine a_iconst (v := nI 1) dX3_takeGround_33 (by decide) ?_
      exact AW.ret dX3_takeGround_34 rfl rfl
    · skip
      exact AW.weak (Lw_no (Lw_no Lw_end)) (w_Re_takeGround_22 _)
theorem m_Re_takeGround {S : ba_S} {a0 : Nat} {a1 : Nat} {m : ba_M} {q : Bool × ba_M} (h : f_Re_takeGround S a0 a1 m = some q) : MA (Y_Re_takeGround S) yX3_takeGround (some .boolean) [aR (some a0), aR (some a1)] S m q :=
  ba_met ⟨by decide +kernel, rfl⟩ rfl (fun h => by cases h) (Or.inr (Or.inl ⟨rfl, rfl, _, rfl⟩)) rfl (h ▸ e_Re_takeGround S a0 a1 m)

abbrev Y_Re_takePlayer (S : ba_S) : ba_Y (Bool × ba_M) := mZ cX3_takePlayer RX3 2 2 51 S
def f_Re_takePlayer_84 (S : ba_S) (m : ba_M) : Option (Bool × ba_M) :=
  (some (false, m))
set_option maxRecDepth 100000 in
theorem w_Re_takePlayer_84 {S : ba_S} : ∀ (m : ba_M), AW (Y_Re_takePlayer S) 84 [none, none] [] S m (f_Re_takePlayer_84 S m) := by
  intro m
  unfold f_Re_takePlayer_84
  refine a_iconst (v := nI 0) dX3_takePlayer_84 (by decide) ?_
  exact AW.ret dX3_takePlayer_85 rfl rfl
def f_Re_takePlayer (S : ba_S) (a0 : Nat) (a1 : Nat) (m : ba_M) : Option (Bool × ba_M) :=
  cK S a0 3 (cK S a1 0 ((if (gI m a0 1) = (nI 5) then (if (nI 5) ≤ (gI m a1 2) then (f_Re_takePlayer_84 S m) else ((f_Re_number S a0 (nI 0) m).bind fun q1 => ((f_Ba_within S q1.1 (nI 0) (nI 40) q1.2).bind fun q2 => (if q2.1 = true then ((f_Re_number S a0 (nI 1) q2.2).bind fun q3 => ((f_Ba_within S q3.1 (nI 1) (nI 5) q3.2).bind fun q4 => (if q4.1 = true then ((f_Re_number S a0 (nI 2) q4.2).bind fun q5 => ((f_Ba_within S q5.1 (nI 1) (nI 9) q5.2).bind fun q6 => (if q6.1 = true then ((f_Re_number S a0 (nI 3) q6.2).bind fun q7 => ((f_Ba_within S q7.1 (nI 0) (nI 9) q7.2).bind fun q8 => (if q8.1 = true then ((f_Re_number S a0 (nI 4) q8.2).bind fun q9 => ((f_Ba_within S q9.1 (nI 0) (nI 3) q9.2).bind fun q10 => (if q10.1 = true then ((f_Re_number S a0 (nI 0) q10.2).bind fun q11 => ((f_Re_number S a0 (nI 1) q11.2).bind fun q12 => ((f_Re_number S a0 (nI 2) q12.2).bind fun q13 => ((f_Re_number S a0 (nI 3) q13.2).bind fun q14 => ((f_Re_number S a0 (nI 4) q14.2).bind fun q15 => ((f_Ga_addPlayer S a1 q11.1 q12.1 q13.1 q14.1 q15.1 q15.2).bind fun q16 => (some (true, q16)))))))) else (f_Re_takePlayer_84 S q10.2)))) else (f_Re_takePlayer_84 S q8.2)))) else (f_Re_takePlayer_84 S q6.2)))) else (f_Re_takePlayer_84 S q4.2)))) else (f_Re_takePlayer_84 S q2.2))))) else (f_Re_takePlayer_84 S m))))
set_option maxRecDepth 100000 in
theorem e_Re_takePlayer (S : ba_S) (a0 : Nat) (a1 : Nat) (m : ba_M) : AW (Y_Re_takePlayer S) 0 [some (aR (some a0)), some (aR (some a1))] [] S m (f_Re_takePlayer S a0 a1 m) := by
  unfold f_Re_takePlayer
  refine AW.ck (fun g0 => ?_)
  refine AW.ck (fun g1 => ?_)
  refine a_aload_n dX3_takePlayer_0 rfl ?_
  refine a_getI dX3_takePlayer_1 fl_RX3_15 rfl g0 ?_
  refine a_iconst (v := nI 5) dX3_takePlayer_4 (by decide) ?_
  refine a_ine (tgt := 84) dX3_takePlayer_5 (by decide) (fun _ => ?_) (fun _ => ?_)
  · skip
    exact AW.weak (Lw_no (Lw_no Lw_end)) (w_Re_takePlayer_84 _)
  · skip
    refine a_aload_n dX3_takePlayer_8 rfl ?_
    refine a_getI dX3_takePlayer_9 fl_RX3_77 rfl g1 ?_
    refine a_iconst (v := nI 5) dX3_takePlayer_12 (by decide) ?_
    refine a_ige (tgt := 84) dX3_takePlayer_13 (by decide) (fun _ => ?_) (fun _ => ?_)
    · skip
      exact AW.weak (Lw_no (Lw_no Lw_end)) (w_Re_takePlayer_84 _)
    · skip
      refine a_aload_n dX3_takePlayer_16 rfl ?_
      refine a_iconst (v := nI 0) dX3_takePlayer_17 (by decide) ?_
      refine a_callV_I dX3_takePlayer_18 lk_RX3_67 mt_Re_number vt_Re_number ⟨_, rfl, rfl⟩ (fun _ h => m_Re_number h) rfl rfl g0 ⟨rfl, rfl, rfl⟩ (fun q1 => ?_)
      refine a_iconst (v := nI 0) dX3_takePlayer_21 (by decide) ?_
      refine a_bipush (v := nI 40) dX3_takePlayer_22 (by decide) ?_
      refine a_callSN_Z dX3_takePlayer_24 lk_RX3_70 mt_Ba_within sv_Ba_within (fun _ h => m_Ba_within h) rfl rfl ⟨rfl, rfl, rfl⟩ (fun q2 => ?_)
      refine a_beq (tgt := 84) dX3_takePlayer_27 (by decide) (fun _ => ?_) (fun _ => ?_)
      · skip
        exact AW.weak (Lw_no (Lw_no Lw_end)) (w_Re_takePlayer_84 _)
      · skip
        refine a_aload_n dX3_takePlayer_30 rfl ?_
        refine a_iconst (v := nI 1) dX3_takePlayer_31 (by decide) ?_
        refine a_callV_I dX3_takePlayer_32 lk_RX3_67 mt_Re_number vt_Re_number ⟨_, rfl, rfl⟩ (fun _ h => m_Re_number h) rfl rfl g0 ⟨rfl, rfl, rfl⟩ (fun q3 => ?_)
        refine a_iconst (v := nI 1) dX3_takePlayer_35 (by decide) ?_
        refine a_iconst (v := nI 5) dX3_takePlayer_36 (by decide) ?_
        refine a_callSN_Z dX3_takePlayer_37 lk_RX3_70 mt_Ba_within sv_Ba_within (fun _ h => m_Ba_within h) rfl rfl ⟨rfl, rfl, rfl⟩ (fun q4 => ?_)
        refine a_beq (tgt := 84) dX3_takePlayer_40 (by decide) (fun _ => ?_) (fun _ => ?_)
        · skip
          exact AW.weak (Lw_no (Lw_no Lw_end)) (w_Re_takePlayer_84 _)
        · skip
          refine a_aload_n dX3_takePlayer_43 rfl ?_
          refine a_iconst (v := nI 2) dX3_takePlayer_44 (by decide) ?_
          refine a_callV_I dX3_takePlayer_45 lk_RX3_67 mt_Re_number vt_Re_number ⟨_, rfl, rfl⟩ (fun _ h => m_Re_number h) rfl rfl g0 ⟨rfl, rfl, rfl⟩ (fun q5 => ?_)
          refine a_iconst (v := nI 1) dX3_takePlayer_48 (by decide) ?_
          refine a_bipush (v := nI 9) dX3_takePlayer_49 (by decide) ?_
          refine a_callSN_Z dX3_takePlayer_51 lk_RX3_70 mt_Ba_within sv_Ba_within (fun _ h => m_Ba_within h) rfl rfl ⟨rfl, rfl, rfl⟩ (fun q6 => ?_)
          refine a_beq (tgt := 84) dX3_takePlayer_54 (by decide) (fun _ => ?_) (fun _ => ?_)
          · skip
            exact AW.weak (Lw_no (Lw_no Lw_end)) (w_Re_takePlayer_84 _)
          · skip
            refine a_aload_n dX3_takePlayer_57 rfl ?_
            refine a_iconst (v := nI 3) dX3_takePlayer_58 (by decide) ?_
            refine a_callV_I dX3_takePlayer_59 lk_RX3_67 mt_Re_number vt_Re_number ⟨_, rfl, rfl⟩ (fun _ h => m_Re_number h) rfl rfl g0 ⟨rfl, rfl, rfl⟩ (fun q7 => ?_)
            refine a_iconst (v := nI 0) dX3_takePlayer_62 (by decide) ?_
            refine a_bipush (v := nI 9) dX3_takePlayer_63 (by decide) ?_
            refine a_callSN_Z dX3_takePlayer_65 lk_RX3_70 mt_Ba_within sv_Ba_within (fun _ h => m_Ba_within h) rfl rfl ⟨rfl, rfl, rfl⟩ (fun q8 => ?_)
            refine a_beq (tgt := 84) dX3_takePlayer_68 (by decide) (fun _ => ?_) (fun _ => ?_)
            · skip
              exact AW.weak (Lw_no (Lw_no Lw_end)) (w_Re_takePlayer_84 _)
            · skip
              refine a_aload_n dX3_takePlayer_71 rfl ?_
              refine a_iconst (v := nI 4) dX3_takePlayer_72 (by decide) ?_
              refine a_callV_I dX3_takePlayer_73 lk_RX3_67 mt_Re_number vt_Re_number ⟨_, rfl, rfl⟩ (fun _ h => m_Re_number h) rfl rfl g0 ⟨rfl, rfl, rfl⟩ (fun q9 => ?_)
              refine a_iconst (v := nI 0) dX3_takePlayer_76 (by decide) ?_
              refine a_iconst (v := nI 3) dX3_takePlayer_77 (by decide) ?_
              refine a_callSN_Z dX3_takePlayer_78 lk_RX3_70 mt_Ba_within sv_Ba_within (fun _ h => m_Ba_within h) rfl rfl ⟨rfl, rfl, rfl⟩ (fun q10 => ?_)
              refine a_bne (tgt := 86) dX3_takePlayer_81 (by decide) (fun _ => ?_) (fun _ => ?_)
              · skip
                refine a_aload_n dX3_takePlayer_86 rfl ?_
                refine a_aload_n dX3_takePlayer_87 rfl ?_
                refine a_iconst (v := nI 0) dX3_takePlayer_88 (by decide) ?_
                refine a_callV_I dX3_takePlayer_89 lk_RX3_67 mt_Re_number vt_Re_number ⟨_, rfl, rfl⟩ (fun _ h => m_Re_number h) rfl rfl g0 ⟨rfl, rfl, rfl⟩ (fun q11 => ?_)
                refine a_aload_n dX3_takePlayer_92 rfl ?_
                refine a_iconst (v := nI 1) dX3_takePlayer_93 (by decide) ?_
                refine a_callV_I dX3_takePlayer_94 lk_RX3_67 mt_Re_number vt_Re_number ⟨_, rfl, rfl⟩ (fun _ h => m_Re_number h) rfl rfl g0 ⟨rfl, rfl, rfl⟩ (fun q12 => ?_)
                refine a_aload_n dX3_takePlayer_97 rfl ?_
                refine a_iconst (v := nI 2) dX3_takePlayer_98 (by decide) ?_
                refine a_callV_I dX3_takePlayer_99 lk_RX3_67 mt_Re_number vt_Re_number ⟨_, rfl, rfl⟩ (fun _ h => m_Re_number h) rfl rfl g0 ⟨rfl, rfl, rfl⟩ (fun q13 => ?_)
                refine a_aload_n dX3_takePlayer_102 rfl ?_
                refine a_iconst (v := nI 3) dX3_takePlayer_103 (by decide) ?_
                refine a_callV_I dX3_takePlayer_104 lk_RX3_67 mt_Re_number vt_Re_number ⟨_, rfl, rfl⟩ (fun _ h => m_Re_number h) rfl rfl g0 ⟨rfl, rfl, rfl⟩ (fun q14 => ?_)
                refine a_aload_n dX3_takePlayer_107 rfl ?_
                refine a_iconst (v := nI 4) dX3_takePlayer_108 (by decide) ?_
                refine a_callV_I dX3_takePlayer_109 lk_RX3_67 mt_Re_number vt_Re_number ⟨_, rfl, rfl⟩ (fun _ h => m_Re_number h) rfl rfl g0 ⟨rfl, rfl, rfl⟩ (fun q15 => ?_)
                refine a_callV_V dX3_takePlayer_112 lk_RX3_78 mt_Ga_addPlayer vt_Ga_addPlayer ⟨_, rfl, rfl⟩ (fun _ h => m_Ga_addPlayer h) rfl rfl g1 ⟨rfl, rfl, rfl⟩ (fun q16 => ?_)
                refine a_iconst (v := nI 1) dX3_takePlayer_115 (by decide) ?_
                exact AW.ret dX3_takePlayer_116 rfl rfl
              · skip
                exact AW.weak (Lw_no (Lw_no Lw_end)) (w_Re_takePlayer_84 _)
theorem m_Re_takePlayer {S : ba_S} {a0 : Nat} {a1 : Nat} {m : ba_M} {q : Bool × ba_M} (h : f_Re_takePlayer S a0 a1 m = some q) : MA (Y_Re_takePlayer S) yX3_takePlayer (some .boolean) [aR (some a0), aR (some a1)] S m q :=
  ba_met ⟨by decide +kernel, rfl⟩ rfl (fun h => by cases h) (Or.inr (Or.inl ⟨rfl, rfl, _, rfl⟩)) rfl (h ▸ e_Re_takePlayer S a0 a1 m)

abbrev Y_Re_takeCall (S : ba_S) : ba_Y (Bool × ba_M) := mZ cX3_takeCall RX3 2 2 42 S
def f_Re_takeCall_73 (S : ba_S) (m : ba_M) : Option (Bool × ba_M) :=
  (some (false, m))
set_option maxRecDepth 100000 in
theorem w_Re_takeCall_73 {S : ba_S} : ∀ (m : ba_M), AW (Y_Re_takeCall S) 73 [none, none] [] S m (f_Re_takeCall_73 S m) := by
  intro m
  unfold f_Re_takeCall_73
  refine a_iconst (v := nI 0) dX3_takeCall_73 (by decide) ?_
  exact AW.ret dX3_takeCall_74 rfl rfl
def f_Re_takeCall (S : ba_S) (a0 : Nat) (a1 : Nat) (m : ba_M) : Option (Bool × ba_M) :=
  cK S a0 3 (cK S a1 0 ((if (gI m a0 1) = (nI 4) then ((f_Re_number S a0 (nI 0) m).bind fun q1 => ((f_Ga_has S a1 q1.1 q1.2).bind fun q2 => (if q2.1 = true then ((f_Re_number S a0 (nI 1) q2.2).bind fun q3 => ((f_Ga_has S a1 q3.1 q3.2).bind fun q4 => (if q4.1 = true then ((f_Re_number S a0 (nI 0) q4.2).bind fun q5 => ((f_Re_number S a0 (nI 1) q5.2).bind fun q6 => (if q5.1 = q6.1 then (f_Re_takeCall_73 S q6.2) else ((f_Re_number S a0 (nI 2) q6.2).bind fun q7 => ((f_Ba_within S q7.1 (nI 0) (nI 40) q7.2).bind fun q8 => (if q8.1 = true then ((f_Re_number S a0 (nI 3) q8.2).bind fun q9 => ((f_Ba_within S q9.1 (nI 1) (nI 9) q9.2).bind fun q10 => (if q10.1 = true then ((f_Re_number S a0 (nI 0) q10.2).bind fun q11 => ((f_Ga_who S a1 q11.1 q11.2).bind fun q12 => cK S q12.1 2 (ldR S q12.1 0 9 fun r14 => ((f_Re_number S a0 (nI 1) q12.2).bind fun q16 => ((f_Re_number S a0 (nI 2) q16.2).bind fun q17 => ((f_Re_number S a0 (nI 3) q17.2).bind fun q18 => ((f_To_tellCall S r14 q16.1 q17.1 q18.1 q18.2).bind fun q19 => (some (true, q19))))))))) else (f_Re_takeCall_73 S q10.2)))) else (f_Re_takeCall_73 S q8.2))))))) else (f_Re_takeCall_73 S q4.2)))) else (f_Re_takeCall_73 S q2.2)))) else (f_Re_takeCall_73 S m))))
set_option maxRecDepth 100000 in
theorem e_Re_takeCall (S : ba_S) (a0 : Nat) (a1 : Nat) (m : ba_M) : AW (Y_Re_takeCall S) 0 [some (aR (some a0)), some (aR (some a1))] [] S m (f_Re_takeCall S a0 a1 m) := by
  unfold f_Re_takeCall
  refine AW.ck (fun g0 => ?_)
  refine AW.ck (fun g1 => ?_)
  refine a_aload_n dX3_takeCall_0 rfl ?_
  refine a_getI dX3_takeCall_1 fl_RX3_15 rfl g0 ?_
  refine a_iconst (v := nI 4) dX3_takeCall_4 (by decide) ?_
  refine a_ine (tgt := 73) dX3_takeCall_5 (by decide) (fun _ => ?_) (fun _ => ?_)
  · skip
    exact AW.weak (Lw_no (Lw_no Lw_end)) (w_Re_takeCall_73 _)
  · skip
    refine a_aload_n dX3_takeCall_8 rfl ?_
    refine a_aload_n dX3_takeCall_9 rfl ?_
    refine a_iconst (v := nI 0) dX3_takeCall_10 (by decide) ?_
    refine a_callV_I dX3_takeCall_11 lk_RX3_67 mt_Re_number vt_Re_number ⟨_, rfl, rfl⟩ (fun _ h => m_Re_number h) rfl rfl g0 ⟨rfl, rfl, rfl⟩ (fun q1 => ?_)
    refine a_callV_Z dX3_takeCall_14 lk_RX3_82 mt_Ga_has vt_Ga_has ⟨_, rfl, rfl⟩ (fun _ h => m_Ga_has h) rfl rfl g1 ⟨rfl, rfl, rfl⟩ (fun q2 => ?_)
    refine a_beq (tgt := 73) dX3_takeCall_17 (by decide) (fun _ => ?_) (fun _ => ?_)
    · skip
      exact AW.weak (Lw_no (Lw_no Lw_end)) (w_Re_takeCall_73 _)
    · skip
      refine a_aload_n dX3_takeCall_20 rfl ?_
      refine a_aload_n dX3_takeCall_21 rfl ?_
      refine a_iconst (v := nI 1) dX3_takeCall_22 (by decide) ?_
      refine a_callV_I dX3_takeCall_23 lk_RX3_67 mt_Re_number vt_Re_number ⟨_, rfl, rfl⟩ (fun _ h => m_Re_number h) rfl rfl g0 ⟨rfl, rfl, rfl⟩ (fun q3 => ?_)
      refine a_callV_Z dX3_takeCall_26 lk_RX3_82 mt_Ga_has vt_Ga_has ⟨_, rfl, rfl⟩ (fun _ h => m_Ga_has h) rfl rfl g1 ⟨rfl, rfl, rfl⟩ (fun q4 => ?_)
      refine a_beq (tgt := 73) dX3_takeCall_29 (by decide) (fun _ => ?_) (fun _ => ?_)
      · skip
        exact AW.weak (Lw_no (Lw_no Lw_end)) (w_Re_takeCall_73 _)
      · skip
        refine a_aload_n dX3_takeCall_32 rfl ?_
        refine a_iconst (v := nI 0) dX3_takeCall_33 (by decide) ?_
        refine a_callV_I dX3_takeCall_34 lk_RX3_67 mt_Re_number vt_Re_number ⟨_, rfl, rfl⟩ (fun _ h => m_Re_number h) rfl rfl g0 ⟨rfl, rfl, rfl⟩ (fun q5 => ?_)
        refine a_aload_n dX3_takeCall_37 rfl ?_
        refine a_iconst (v := nI 1) dX3_takeCall_38 (by decide) ?_
        refine a_callV_I dX3_takeCall_39 lk_RX3_67 mt_Re_number vt_Re_number ⟨_, rfl, rfl⟩ (fun _ h => m_Re_number h) rfl rfl g0 ⟨rfl, rfl, rfl⟩ (fun q6 => ?_)
        refine a_ieq (tgt := 73) dX3_takeCall_42 (by decide) (fun _ => ?_) (fun _ => ?_)
        · skip
          exact AW.weak (Lw_no (Lw_no Lw_end)) (w_Re_takeCall_73 _)
        · skip
          refine a_aload_n dX3_takeCall_45 rfl ?_
          refine a_iconst (v := nI 2) dX3_takeCall_46 (by decide) ?_
          refine a_callV_I dX3_takeCall_47 lk_RX3_67 mt_Re_number vt_Re_number ⟨_, rfl, rfl⟩ (fun _ h => m_Re_number h) rfl rfl g0 ⟨rfl, rfl, rfl⟩ (fun q7 => ?_)
          refine a_iconst (v := nI 0) dX3_takeCall_50 (by decide) ?_
          refine a_bipush (v := nI 40) dX3_takeCall_51 (by decide) ?_
          refine a_callSN_Z dX3_takeCall_53 lk_RX3_70 mt_Ba_within sv_Ba_within (fun _ h => m_Ba_within h) rfl rfl ⟨rfl, rfl, rfl⟩ (fun q8 => ?_)
          refine a_beq (tgt := 73) dX3_takeCall_56 (by decide) (fun _ => ?_) (fun _ => ?_)
          · skip
            exact AW.weak (Lw_no (Lw_no Lw_end)) (w_Re_takeCall_73 _)
          · skip
            refine a_aload_n dX3_takeCall_59 rfl ?_
            refine a_iconst (v := nI 3) dX3_takeCall_60 (by decide) ?_
            refine a_callV_I dX3_takeCall_61 lk_RX3_67 mt_Re_number vt_Re_number ⟨_, rfl, rfl⟩ (fun _ h => m_Re_number h) rfl rfl g0 ⟨rfl, rfl, rfl⟩ (fun q9 => ?_)
            refine a_iconst (v := nI 1) dX3_takeCall_64 (by decide) ?_
            refine a_bipush (v := nI 9) dX3_takeCall_65 (by decide) ?_
            refine a_callSN_Z dX3_takeCall_67 lk_RX3_70 mt_Ba_within sv_Ba_within (fun _ h => m_Ba_within h) rfl rfl ⟨rfl, rfl, rfl⟩ (fun q10 => ?_)
            refine a_bne (tgt := 75) dX3_takeCall_70 (by decide) (fun _ => ?_) (fun _ => ?_)
            · skip
              refine a_aload_n dX3_takeCall_75 rfl ?_
              refine a_aload_n dX3_takeCall_76 rfl ?_
              refine a_iconst (v := nI 0) dX3_takeCall_77 (by decide) ?_
              refine a_callV_I dX3_takeCall_78 lk_RX3_67 mt_Re_number vt_Re_number ⟨_, rfl, rfl⟩ (fun _ h => m_Re_number h) rfl rfl g0 ⟨rfl, rfl, rfl⟩ (fun q11 => ?_)
              refine a_callV_R dX3_takeCall_81 lk_RX3_85 mt_Ga_who vt_Ga_who ⟨_, rfl, rfl⟩ (fun _ h => m_Ga_who h) rfl rfl g1 ⟨rfl, rfl, rfl⟩ (fun q12 => ?_)
              refine AW.ck (fun h13 => ?_)
              refine a_getR dX3_takeCall_84 fl_RX3_89 rfl h13 (fun r14 h15 => ?_)
              refine a_aload_n dX3_takeCall_87 rfl ?_
              refine a_iconst (v := nI 1) dX3_takeCall_88 (by decide) ?_
              refine a_callV_I dX3_takeCall_89 lk_RX3_67 mt_Re_number vt_Re_number ⟨_, rfl, rfl⟩ (fun _ h => m_Re_number h) rfl rfl g0 ⟨rfl, rfl, rfl⟩ (fun q16 => ?_)
              refine a_aload_n dX3_takeCall_92 rfl ?_
              refine a_iconst (v := nI 2) dX3_takeCall_93 (by decide) ?_
              refine a_callV_I dX3_takeCall_94 lk_RX3_67 mt_Re_number vt_Re_number ⟨_, rfl, rfl⟩ (fun _ h => m_Re_number h) rfl rfl g0 ⟨rfl, rfl, rfl⟩ (fun q17 => ?_)
              refine a_aload_n dX3_takeCall_97 rfl ?_
              refine a_iconst (v := nI 3) dX3_takeCall_98 (by decide) ?_
              refine a_callV_I dX3_takeCall_99 lk_RX3_67 mt_Re_number vt_Re_number ⟨_, rfl, rfl⟩ (fun _ h => m_Re_number h) rfl rfl g0 ⟨rfl, rfl, rfl⟩ (fun q18 => ?_)
              refine a_callV_V dX3_takeCall_102 lk_RX3_95 mt_To_tellCall vt_To_tellCall ⟨_, rfl, rfl⟩ (fun _ h => m_To_tellCall h) rfl rfl h15 ⟨rfl, rfl, rfl⟩ (fun q19 => ?_)
              refine a_iconst (v := nI 1) dX3_takeCall_105 (by decide) ?_
              exact AW.ret dX3_takeCall_106 rfl rfl
            · skip
              exact AW.weak (Lw_no (Lw_no Lw_end)) (w_Re_takeCall_73 _)
theorem m_Re_takeCall {S : ba_S} {a0 : Nat} {a1 : Nat} {m : ba_M} {q : Bool × ba_M} (h : f_Re_takeCall S a0 a1 m = some q) : MA (Y_Re_takeCall S) yX3_takeCall (some .boolean) [aR (some a0), aR (some a1)] S m q :=
  ba_met ⟨by decide +kernel, rfl⟩ rfl (fun h => by cases h) (Or.inr (Or.inl ⟨rfl, rfl, _, rfl⟩)) rfl (h ▸ e_Re_takeCall S a0 a1 m)

abbrev Y_Re_takeLetters (S : ba_S) : ba_Y (Bool × ba_M) := mZ cX3_takeLetters RX3 2 2 42 S
def f_Re_takeLetters_33 (S : ba_S) (m : ba_M) : Option (Bool × ba_M) :=
  (some (false, m))
set_option maxRecDepth 100000 in
theorem w_Re_takeLetters_33 {S : ba_S} : ∀ (m : ba_M), AW (Y_Re_takeLetters S) 33 [none, none] [] S m (f_Re_takeLetters_33 S m) := by
  intro m
  unfold f_Re_takeLetters_33
  refine a_iconst (v := nI 0) dX3_takeLetters_33 (by decide) ?_
  exact AW.ret dX3_takeLetters_34 rfl rfl
def f_Re_takeLetters (S : ba_S) (a0 : Nat) (a1 : Nat) (m : ba_M) : Option (Bool × ba_M) :=
  cK S a0 3 (cK S a1 0 ((if (gI m a0 1) = (nI 2) then ((f_Re_number S a0 (nI 0) m).bind fun q1 => ((f_Ga_has S a1 q1.1 q1.2).bind fun q2 => (if q2.1 = true then ((f_Re_number S a0 (nI 1) q2.2).bind fun q3 => ((f_Ba_within S q3.1 (nI 0) (nI 3) q3.2).bind fun q4 => (if q4.1 = true then ((f_Re_number S a0 (nI 0) q4.2).bind fun q5 => ((f_Ga_who S a1 q5.1 q5.2).bind fun q6 => cK S q6.1 2 (ldR S q6.1 0 9 fun r8 => ((f_Re_number S a0 (nI 1) q6.2).bind fun q10 => (some (true, (wI q10.2 r8 3 q10.1))))))) else (f_Re_takeLetters_33 S q4.2)))) else (f_Re_takeLetters_33 S q2.2)))) else (f_Re_takeLetters_33 S m))))
set_option maxRecDepth 100000 in
theorem e_Re_takeLetters (S : ba_S) (a0 : Nat) (a1 : Nat) (m : ba_M) : AW (Y_Re_takeLetters S) 0 [some (aR (some a0)), some (aR (some a1))] [] S m (f_Re_takeLetters S a0 a1 m) := by
  unfold f_Re_takeLetters
  refine AW.ck (fun g0 => ?_)
  refine AW.ck (fun g1 => ?_)
  refine a_aload_n dX3_takeLetters_0 rfl ?_
  refine a_getI dX3_takeLetters_1 fl_RX3_15 rfl g0 ?_
  refine a_iconst (v := nI 2) dX3_takeLetters_4 (by decide) ?_
  refine a_ine (tgt := 33) dX3_takeLetters_5 (by decide) (fun _ => ?_) (fun _ => ?_)
  · skip
    exact AW.weak (Lw_no (Lw_no Lw_end)) (w_Re_takeLetters_33 _)
  · skip
    refine a_aload_n dX3_takeLetters_8 rfl ?_
    refine a_aload_n dX3_takeLetters_9 rfl ?_
    refine a_iconst (v := nI 0) dX3_takeLetters_10 (by decide) ?_
    refine a_callV_I dX3_takeLetters_11 lk_RX3_67 mt_Re_number vt_Re_number ⟨_, rfl, rfl⟩ (fun _ h => m_Re_number h) rfl rfl g0 ⟨rfl, rfl, rfl⟩ (fun q1 => ?_)
    refine a_callV_Z dX3_takeLetters_14 lk_RX3_82 mt_Ga_has vt_Ga_has ⟨_, rfl, rfl⟩ (fun _ h => m_Ga_has h) rfl rfl g1 ⟨rfl, rfl, rfl⟩ (fun q2 => ?_)
    refine a_beq (tgt := 33) dX3_takeLetters_17 (by decide) (fun _ => ?_) (fun _ => ?_)
    · skip
      exact AW.weak (Lw_no (Lw_no Lw_end)) (w_Re_takeLetters_33 _)
    · skip
      refine a_aload_n dX3_takeLetters_20 rfl ?_
      refine a_iconst (v := nI 1) dX3_takeLetters_21 (by decide) ?_
      refine a_callV_I dX3_takeLetters_22 lk_RX3_67 mt_Re_number vt_Re_number ⟨_, rfl, rfl⟩ (fun _ h => m_Re_number h) rfl rfl g0 ⟨rfl, rfl, rfl⟩ (fun q3 => ?_)
      refine a_iconst (v := nI 0) dX3_takeLetters_25 (by decide) ?_
      refine a_iconst (v := nI 3) dX3_takeLetters_26 (by decide) ?_
      refine a_callSN_Z dX3_takeLetters_27 lk_RX3_70 mt_Ba_within sv_Ba_within (fun _ h => m_Ba_within h) rfl rfl ⟨rfl, rfl, rfl⟩ (fun q4 => ?_)
      refine a_bne (tgt := 35) dX3_takeLetters_30 (by decide) (fun _ => ?_) (fun _ => ?_)
      · skip
        refine a_aload_n dX3_takeLetters_35 rfl ?_
        refine a_aload_n dX3_takeLetters_36 rfl ?_
        refine a_iconst (v := nI 0) dX3_takeLetters_37 (by decide) ?_
        refine a_callV_I dX3_takeLetters_38 lk_RX3_67 mt_Re_number vt_Re_number ⟨_, rfl, rfl⟩ (fun _ h => m_Re_number h) rfl rfl g0 ⟨rfl, rfl, rfl⟩ (fun q5 => ?_)
        refine a_callV_R dX3_takeLetters_41 lk_RX3_85 mt_Ga_who vt_Ga_who ⟨_, rfl, rfl⟩ (fun _ h => m_Ga_who h) rfl rfl g1 ⟨rfl, rfl, rfl⟩ (fun q6 => ?_)
        refine AW.ck (fun h7 => ?_)
        refine a_getR dX3_takeLetters_44 fl_RX3_89 rfl h7 (fun r8 h9 => ?_)
        refine a_aload_n dX3_takeLetters_47 rfl ?_
        refine a_iconst (v := nI 1) dX3_takeLetters_48 (by decide) ?_
        refine a_callV_I dX3_takeLetters_49 lk_RX3_67 mt_Re_number vt_Re_number ⟨_, rfl, rfl⟩ (fun _ h => m_Re_number h) rfl rfl g0 ⟨rfl, rfl, rfl⟩ (fun q10 => ?_)
        refine a_putI dX3_takeLetters_52 fl_RX3_101 (rfl : _ = FieldType.int) rfl rfl rfl h9 ?_
        refine a_iconst (v := nI 1) dX3_takeLetters_55 (by decide) ?_
        exact AW.ret dX3_takeLetters_56 rfl rfl
      · skip
        exact AW.weak (Lw_no (Lw_no Lw_end)) (w_Re_takeLetters_33 _)
theorem m_Re_takeLetters {S : ba_S} {a0 : Nat} {a1 : Nat} {m : ba_M} {q : Bool × ba_M} (h : f_Re_takeLetters S a0 a1 m = some q) : MA (Y_Re_takeLetters S) yX3_takeLetters (some .boolean) [aR (some a0), aR (some a1)] S m q :=
  ba_met ⟨by decide +kernel, rfl⟩ rfl (fun h => by cases h) (Or.inr (Or.inl ⟨rfl, rfl, _, rfl⟩)) rfl (h ▸ e_Re_takeLetters S a0 a1 m)

abbrev Y_Re_takeSlide (S : ba_S) : ba_Y (Bool × ba_M) := mZ cX3_takeSlide RX3 2 2 42 S
def f_Re_takeSlide_21 (S : ba_S) (m : ba_M) : Option (Bool × ba_M) :=
  (some (false, m))
set_option maxRecDepth 100000 in
theorem w_Re_takeSlide_21 {S : ba_S} : ∀ (m : ba_M), AW (Y_Re_takeSlide S) 21 [none, none] [] S m (f_Re_takeSlide_21 S m) := by
  intro m
  unfold f_Re_takeSlide_21
  refine a_iconst (v := nI 0) dX3_takeSlide_21 (by decide) ?_
  exact AW.ret dX3_takeSlide_22 rfl rfl
def f_Re_takeSlide (S : ba_S) (a0 : Nat) (a1 : Nat) (m : ba_M) : Option (Bool × ba_M) :=
  cK S a0 3 (cK S a1 0 ((if (gI m a0 1) = (nI 1) then ((f_Re_number S a0 (nI 0) m).bind fun q1 => ((f_Ba_within S q1.1 (nI 0) (nI 3) q1.2).bind fun q2 => (if q2.1 = true then ((f_Re_number S a0 (nI 0) q2.2).bind fun q3 => (some (true, (wI q3.2 a1 4 q3.1)))) else (f_Re_takeSlide_21 S q2.2)))) else (f_Re_takeSlide_21 S m))))
set_option maxRecDepth 100000 in
theorem e_Re_takeSlide (S : ba_S) (a0 : Nat) (a1 : Nat) (m : ba_M) : AW (Y_Re_takeSlide S) 0 [some (aR (some a0)), some (aR (some a1))] [] S m (f_Re_takeSlide S a0 a1 m) := by
  unfold f_Re_takeSlide
  refine AW.ck (fun g0 => ?_)
  refine AW.ck (fun g1 => ?_)
  refine a_aload_n dX3_takeSlide_0 rfl ?_
  refine a_getI dX3_takeSlide_1 fl_RX3_15 rfl g0 ?_
  refine a_iconst (v := nI 1) dX3_takeSlide_4 (by decide) ?_
  refine a_ine (tgt := 21) dX3_takeSlide_5 (by decide) (fun _ => ?_) (fun _ => ?_)
  · skip
    exact AW.weak (Lw_no (Lw_no Lw_end)) (w_Re_takeSlide_21 _)
  · skip
    refine a_aload_n dX3_takeSlide_8 rfl ?_
    refine a_iconst (v := nI 0) dX3_takeSlide_9 (by decide) ?_
    refine a_callV_I dX3_takeSlide_10 lk_RX3_67 mt_Re_number vt_Re_number ⟨_, rfl, rfl⟩ (fun _ h => m_Re_number h) rfl rfl g0 ⟨rfl, rfl, rfl⟩ (fun q1 => ?_)
    refine a_iconst (v := nI 0) dX3_takeSlide_13 (by decide) ?_
    refine a_iconst (v := nI 3) dX3_takeSlide_14 (by decide) ?_
    refine a_callSN_Z dX3_takeSlide_15 lk_RX3_70 mt_Ba_within sv_Ba_within (fun _ h => m_Ba_within h) rfl rfl ⟨rfl, rfl, rfl⟩ (fun q2 => ?_)
    refine a_bne (tgt := 23) dX3_takeSlide_18 (by decide) (fun _ => ?_) (fun _ => ?_)
    · skip
      refine a_aload_n dX3_takeSlide_23 rfl ?_
      refine a_aload_n dX3_takeSlide_24 rfl ?_
      refine a_iconst (v := nI 0) dX3_takeSlide_25 (by decide) ?_
      refine a_callV_I dX3_takeSlide_26 lk_RX3_67 mt_Re_number vt_Re_number ⟨_, rfl, rfl⟩ (fun _ h => m_Re_number h) rfl rfl g0 ⟨rfl, rfl, rfl⟩ (fun q3 => ?_)
      refine a_putI dX3_takeSlide_29 fl_RX3_104 (rfl : _ = FieldType.int) rfl rfl rfl g1 ?_
      refine a_iconst (v := nI 1) dX3_takeSlide_32 (by decide) ?_
      exact AW.ret dX3_takeSlide_33 rfl rfl
    · skip
      exact AW.weak (Lw_no (Lw_no Lw_end)) (w_Re_takeSlide_21 _)
theorem m_Re_takeSlide {S : ba_S} {a0 : Nat} {a1 : Nat} {m : ba_M} {q : Bool × ba_M} (h : f_Re_takeSlide S a0 a1 m = some q) : MA (Y_Re_takeSlide S) yX3_takeSlide (some .boolean) [aR (some a0), aR (some a1)] S m q :=
  ba_met ⟨by decide +kernel, rfl⟩ rfl (fun h => by cases h) (Or.inr (Or.inl ⟨rfl, rfl, _, rfl⟩)) rfl (h ▸ e_Re_takeSlide S a0 a1 m)

abbrev Y_Re_takeItem (S : ba_S) : ba_Y (Bool × ba_M) := mZ cX3_takeItem RX3 3 3 72 S
def f_Re_takeItem (S : ba_S) (a0 : Nat) (a1 : Int32) (a2 : Nat) (m : ba_M) : Option (Bool × ba_M) :=
  cK S a0 3 (cK S a2 0 ((if a1 = 97 then ((f_Re_takeCall S a0 a2 m).bind fun q2 => (some (q2.1, q2.2))) else (if a1 = 100 then ((f_Re_takeSlide S a0 a2 m).bind fun q4 => (some (q4.1, q4.2))) else (if a1 = 108 then ((f_Re_takeLetters S a0 a2 m).bind fun q6 => (some (q6.1, q6.2))) else (if a1 = 110 then ((f_Re_takeGround S a0 a2 m).bind fun q8 => (some (q8.1, q8.2))) else (if a1 = 112 then ((f_Re_takePlayer S a0 a2 m).bind fun q10 => (some (q10.1, q10.2))) else (some (false, m)))))))))
set_option maxRecDepth 100000 in
theorem e_Re_takeItem (S : ba_S) (a0 : Nat) (a1 : Int32) (a2 : Nat) (m : ba_M) : AW (Y_Re_takeItem S) 0 [some (aR (some a0)), some (aI a1), some (aR (some a2))] [] S m (f_Re_takeItem S a0 a1 a2 m) := by
  unfold f_Re_takeItem
  refine AW.ck (fun g0 => ?_)
  refine AW.ck (fun g2 => ?_)
  refine a_iload_n dX3_takeItem_0 rfl ?_
  refine AW.if (fun c1 => ?_) (fun c1 => ?_)
  · refine a_look (tgt := 64) (off := 63) dX3_takeItem_1 (by decide) (by rw [c1]; first | done | rfl) (by decide) ?_
    refine a_aload_n dX3_takeItem_64 rfl ?_
    refine a_aload_n dX3_takeItem_65 rfl ?_
    refine a_callV_Z dX3_takeItem_66 lk_RX3_58 mt_Re_takeCall vt_Re_takeCall ⟨_, rfl, rfl⟩ (fun _ h => m_Re_takeCall h) rfl rfl g0 ⟨rfl, rfl, rfl⟩ (fun q2 => ?_)
    exact AW.ret dX3_takeItem_69 rfl rfl
  refine AW.if (fun c3 => ?_) (fun c3 => ?_)
  · refine a_look (tgt := 76) (off := 75) dX3_takeItem_1 (by decide) (by rw [c3]; first | done | rfl) (by decide) ?_
    refine a_aload_n dX3_takeItem_76 rfl ?_
    refine a_aload_n dX3_takeItem_77 rfl ?_
    refine a_callV_Z dX3_takeItem_78 lk_RX3_64 mt_Re_takeSlide vt_Re_takeSlide ⟨_, rfl, rfl⟩ (fun _ h => m_Re_takeSlide h) rfl rfl g0 ⟨rfl, rfl, rfl⟩ (fun q4 => ?_)
    exact AW.ret dX3_takeItem_81 rfl rfl
  refine AW.if (fun c5 => ?_) (fun c5 => ?_)
  · refine a_look (tgt := 70) (off := 69) dX3_takeItem_1 (by decide) (by rw [c5]; first | done | rfl) (by decide) ?_
    refine a_aload_n dX3_takeItem_70 rfl ?_
    refine a_aload_n dX3_takeItem_71 rfl ?_
    refine a_callV_Z dX3_takeItem_72 lk_RX3_61 mt_Re_takeLetters vt_Re_takeLetters ⟨_, rfl, rfl⟩ (fun _ h => m_Re_takeLetters h) rfl rfl g0 ⟨rfl, rfl, rfl⟩ (fun q6 => ?_)
    exact AW.ret dX3_takeItem_75 rfl rfl
  refine AW.if (fun c7 => ?_) (fun c7 => ?_)
  · refine a_look (tgt := 52) (off := 51) dX3_takeItem_1 (by decide) (by rw [c7]; first | done | rfl) (by decide) ?_
    refine a_aload_n dX3_takeItem_52 rfl ?_
    refine a_aload_n dX3_takeItem_53 rfl ?_
    refine a_callV_Z dX3_takeItem_54 lk_RX3_51 mt_Re_takeGround vt_Re_takeGround ⟨_, rfl, rfl⟩ (fun _ h => m_Re_takeGround h) rfl rfl g0 ⟨rfl, rfl, rfl⟩ (fun q8 => ?_)
    exact AW.ret dX3_takeItem_57 rfl rfl
  refine AW.if (fun c9 => ?_) (fun c9 => ?_)
  · refine a_look (tgt := 58) (off := 57) dX3_takeItem_1 (by decide) (by rw [c9]; first | done | rfl) (by decide) ?_
    refine a_aload_n dX3_takeItem_58 rfl ?_
    refine a_aload_n dX3_takeItem_59 rfl ?_
    refine a_callV_Z dX3_takeItem_60 lk_RX3_55 mt_Re_takePlayer vt_Re_takePlayer ⟨_, rfl, rfl⟩ (fun _ h => m_Re_takePlayer h) rfl rfl g0 ⟨rfl, rfl, rfl⟩ (fun q10 => ?_)
    exact AW.ret dX3_takeItem_63 rfl rfl
  refine a_look (tgt := 82) (off := 81) dX3_takeItem_1 (by decide) ((lv_osw c1 rfl).trans ((lv_osw c3 rfl).trans ((lv_osw c5 rfl).trans ((lv_osw c7 rfl).trans ((lv_osw c9 rfl).trans rfl))))) (by decide) ?_
  refine a_iconst (v := nI 0) dX3_takeItem_82 (by decide) ?_
  exact AW.ret dX3_takeItem_83 rfl rfl
theorem m_Re_takeItem {S : ba_S} {a0 : Nat} {a1 : Int32} {a2 : Nat} {m : ba_M} {q : Bool × ba_M} (h : f_Re_takeItem S a0 a1 a2 m = some q) : MA (Y_Re_takeItem S) yX3_takeItem (some .boolean) [aR (some a0), aI a1, aR (some a2)] S m q :=
  ba_met ⟨by decide +kernel, rfl⟩ rfl (fun h => by cases h) (Or.inr (Or.inl ⟨rfl, rfl, _, rfl⟩)) rfl (h ▸ e_Re_takeItem S a0 a1 a2 m)

abbrev Y_Re_read (S : ba_S) : ba_Y (Int32 × ba_M) := mI cX3_read RX3 5 4 94 S
def f_Re_read_43 (S : ba_S) (v3 : Int32) (m : ba_M) : Option (Int32 × ba_M) :=
  (some (v3, m))
set_option maxRecDepth 100000 in
theorem w_Re_read_43 {S : ba_S} : ∀ (v3 : Int32) (m : ba_M), AW (Y_Re_read S) 43 [none, none, none, some (aI v3), none] [] S m (f_Re_read_43 S v3 m) := by
  intro v3 m
  unfold f_Re_read_43
  refine a_iload_n dX3_read_43 rfl ?_
  exact AW.ret dX3_read_44 rfl rfl
def b_Re_read_6 (S : ba_S) (k6 : Nat → Nat → Nat → Int32 → ba_M → Option (Int32 × ba_M)) (v0 : Nat) (v1 : Nat) (v2 : Nat) (v3 : Int32) (m : ba_M) : Option (Int32 × ba_M) :=
  (if (gI m v1 1) ≤ v3 then (some ((-4 : Int32), m)) else ((f_Re_readNumbers S v0 v1 (v3 + (nI 1)) m).bind fun q1 => (if q1.1 ≤ v3 then (f_Re_read_43 S v3 q1.2) else ((f_Te_byteAt S v1 v3 q1.2).bind fun q2 => ((f_Re_takeItem S v0 q2.1 v2 q2.2).bind fun q3 => (if q3.1 = true then (k6 v0 v1 v2 q1.1 q3.2) else (f_Re_read_43 S v3 q3.2)))))))
set_option maxRecDepth 100000 in
theorem w_Re_read_6 {S : ba_S} {k6 : Nat → Nat → Nat → Int32 → ba_M → Option (Int32 × ba_M)} (hk6 : ∀ (v0 : Nat) (v1 : Nat) (v2 : Nat) (v3 : Int32) (m : ba_M), ck S v0 3 = true → ck S v1 8 = true → ck S v2 0 = true → AW (Y_Re_read S) 6 [some (aR (some v0)), some (aR (some v1)), some (aR (some v2)), some (aI v3), none] [] S m (k6 v0 v1 v2 v3 m)) : ∀ (v0 : Nat) (v1 : Nat) (v2 : Nat) (v3 : Int32) (m : ba_M), ck S v0 3 = true → ck S v1 8 = true → ck S v2 0 = true → AW (Y_Re_read S) 6 [some (aR (some v0)), some (aR (some v1)), some (aR (some v2)), some (aI v3), none] [] S m (b_Re_read_6 S k6 v0 v1 v2 v3 m) := by
  intro v0 v1 v2 v3 m g0 g1 g2
  unfold b_Re_read_6
  refine a_iload_n dX3_read_6 rfl ?_
  refine a_aload_n dX3_read_7 rfl ?_
  refine a_getI dX3_read_8 fl_RX3_24 rfl g1 ?_
  refine a_ige (tgt := 51) dX3_read_11 (by decide) (fun _ => ?_) (fun _ => ?_)
  · skip
    refine a_bipush (v := -4) dX3_read_51 (by decide) ?_
    exact AW.ret dX3_read_53 rfl rfl
  · skip
    refine a_aload_n dX3_read_14 rfl ?_
    refine a_aload_n dX3_read_15 rfl ?_
    refine a_iload_n dX3_read_16 rfl ?_
    refine a_iconst (v := nI 1) dX3_read_17 (by decide) ?_
    refine a_iadd dX3_read_18 ?_
    refine a_callV_I dX3_read_19 lk_RX3_29 mt_Re_readNumbers vt_Re_readNumbers ⟨_, rfl, rfl⟩ (fun _ h => m_Re_readNumbers h) rfl rfl g0 ⟨rfl, rfl, rfl⟩ (fun q1 => ?_)
    refine a_istore dX3_read_22 rfl rfl ?_
    refine a_iload dX3_read_24 rfl ?_
    refine a_iload_n dX3_read_26 rfl ?_
    refine a_ile (tgt := 43) dX3_read_27 (by decide) (fun _ => ?_) (fun _ => ?_)
    · skip
      exact AW.weak (Lw_no (Lw_no (Lw_no (Lw_so rfl (Lw_no Lw_end))))) (w_Re_read_43 _ _)
    · skip
      refine a_aload_n dX3_read_30 rfl ?_
      refine a_aload_n dX3_read_31 rfl ?_
      refine a_iload_n dX3_read_32 rfl ?_
      refine a_callV_I dX3_read_33 lk_RX3_33 mt_Te_byteAt vt_Te_byteAt ⟨_, rfl, rfl⟩ (fun _ h => m_Te_byteAt h) rfl rfl g1 ⟨rfl, rfl, rfl⟩ (fun q2 => ?_)
      refine a_aload_n dX3_read_36 rfl ?_
      refine a_callV_Z dX3_read_37 lk_RX3_37 mt_Re_takeItem vt_Re_takeItem ⟨_, rfl, rfl⟩ (fun _ h => m_Re_takeItem h) rfl rfl g0 ⟨rfl, rfl, rfl⟩ (fun q3 => ?_)
      refine a_bne (tgt := 45) dX3_read_40 (by decide) (fun _ => ?_) (fun _ => ?_)
      · skip
        refine a_iload dX3_read_45 rfl ?_
        refine a_istore_n dX3_read_47 rfl rfl ?_
        refine a_goto (tgt := 6) dX3_read_48 (by decide) ?_
        exact AW.weak (Lw_so rfl (Lw_so rfl (Lw_so rfl (Lw_so rfl (Lw_no Lw_end))))) (hk6 _ _ _ _ _ g0 g1 g2)
      · skip
        exact AW.weak (Lw_no (Lw_no (Lw_no (Lw_so rfl (Lw_no Lw_end))))) (w_Re_read_43 _ _)
def f_Re_read_6 (S : ba_S) : Nat → Nat → Nat → Int32 → ba_M → Option (Int32 × ba_M) := fx (fun _ _ _ _ _ => none) (b_Re_read_6 S) FU
theorem l_Re_read_6 {S : ba_S} : ∀ (n : Nat) (v0 : Nat) (v1 : Nat) (v2 : Nat) (v3 : Int32) (m : ba_M), ck S v0 3 = true → ck S v1 8 = true → ck S v2 0 = true → AW (Y_Re_read S) 6 [some (aR (some v0)), some (aR (some v1)), some (aR (some v2)), some (aI v3), none] [] S m ((fx (F := Nat → Nat → Nat → Int32 → ba_M → Option (Int32 × ba_M)) (fun _ _ _ _ _ => none) (b_Re_read_6 S) n) v0 v1 v2 v3 m) := by
  intro n
  induction n with
  | zero => intro _ _ _ _ _ _ _ _; exact AW.none
  | succ n ih => exact w_Re_read_6 ih
def f_Re_read (S : ba_S) (a0 : Nat) (a1 : Nat) (a2 : Nat) (m : ba_M) : Option (Int32 × ba_M) :=
  cK S a0 3 (cK S a1 8 (cK S a2 0 (((f_Ga_empty S a2 m).bind fun q4 => (f_Re_read_6 S a0 a1 a2 (nI 0) q4)))))
set_option maxRecDepth 100000 in
theorem e_Re_read (S : ba_S) (a0 : Nat) (a1 : Nat) (a2 : Nat) (m : ba_M) : AW (Y_Re_read S) 0 [some (aR (some a0)), some (aR (some a1)), some (aR (some a2)), none, none] [] S m (f_Re_read S a0 a1 a2 m) := by
  unfold f_Re_read
  refine AW.ck (fun g0 => ?_)
  refine AW.ck (fun g1 => ?_)
  refine AW.ck (fun g2 => ?_)
  refine a_aload_n dX3_read_0 rfl ?_
  refine a_callV_V dX3_read_1 lk_RX3_19 mt_Ga_empty vt_Ga_empty ⟨_, rfl, rfl⟩ (fun _ h => m_Ga_empty h) rfl rfl g2 ⟨rfl, rfl, rfl⟩ (fun q4 => ?_)
  refine a_iconst (v := nI 0) dX3_read_4 (by decide) ?_
  refine a_istore_n dX3_read_5 rfl rfl ?_
  exact AW.weak (Lw_so rfl (Lw_so rfl (Lw_so rfl (Lw_so rfl (Lw_no Lw_end))))) (l_Re_read_6 FU _ _ _ _ _ g0 g1 g2)
theorem m_Re_read {S : ba_S} {a0 : Nat} {a1 : Nat} {a2 : Nat} {m : ba_M} {q : Int32 × ba_M} (h : f_Re_read S a0 a1 a2 m = some q) : MA (Y_Re_read S) yX3_read (some .int) [aR (some a0), aR (some a1), aR (some a2)] S m q :=
  ba_met ⟨by decide +kernel, rfl⟩ rfl (fun h => by cases h) (Or.inl ⟨rfl, rfl, _, rfl⟩) rfl (h ▸ e_Re_read S a0 a1 a2 m)

