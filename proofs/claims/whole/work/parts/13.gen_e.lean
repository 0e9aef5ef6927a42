abbrev Y_Ba_init : ba_Y (ba_S × ba_M) := mC cX11_init RX11 1 5 101
def f_Ba_init (S : ba_S) (a0 : Nat) (m : ba_M) : Option (ba_S × ba_M) :=
  (sB (pS S 8 0 (nF 8)) (pM (nN S) m) fun S1 m2 => ((f_Te_init S1 (nN S) m2).bind fun q3 => (cK q3.1 a0 10 (sB (wR q3.1 a0 0 (some (nN S))) q3.2 fun S5 m6 => (sB (pS S5 3 0 (nF 3)) (pM (nN S5) m6) fun S7 m8 => ((f_Re_init S7 (nN S5) m8).bind fun q9 => (cK q9.1 a0 10 (sB (wR q9.1 a0 1 (some (nN S5))) q9.2 fun S11 m12 => (sB (pS S11 4 0 (nF 4)) (pM (nN S11) m12) fun S13 m14 => ((f_Ro_init S13 (nN S11) m14).bind fun q15 => (cK q15.1 a0 10 (sB (wR q15.1 a0 2 (some (nN S11))) q15.2 fun S17 m18 => (cK S17 a0 10 (ldR S17 a0 2 4 fun r20 => (cK S17 r20 4 (ldR S17 r20 0 0 fun r23 => (cK S17 a0 10 (sB (wR S17 a0 3 (some r23)) m18 fun S26 m27 => (sB (pS S26 0 0 (nF 0)) (pM (nN S26) m27) fun S28 m29 => ((f_Ga_init S28 (nN S26) m29).bind fun q30 => (cK q30.1 a0 10 (sB (wR q30.1 a0 4 (some (nN S26))) q30.2 fun S32 m33 => (sB (pS S32 5 0 (nF 5)) (pM (nN S32) m33) fun S34 m35 => ((f_Sc_init S34 (nN S32) m35).bind fun q36 => (cK q36.1 a0 10 (sB (wR q36.1 a0 5 (some (nN S32))) q36.2 fun S38 m39 => (sB (pS S38 1 0 (nF 1)) (pM (nN S38) m39) fun S40 m41 => ((f_Mr_init S40 (nN S38) m41).bind fun q42 => (cK q42.1 a0 10 (sB (wR q42.1 a0 6 (some (nN S38))) q42.2 fun S44 m45 => (sB (pS S44 7 0 (nF 7)) (pM (nN S44) m45) fun S46 m47 => ((f_Si_init S46 (nN S44) m47).bind fun q48 => (cK q48.1 a0 10 (sB (wR q48.1 a0 7 (some (nN S44))) q48.2 fun S50 m51 => (sB (pS S50 6 0 (nF 6)) (pM (nN S50) m51) fun S52 m53 => ((f_Sh_init S52 (nN S50) (nI 8) m53).bind fun q54 => (cK q54.1 a0 10 (sB (wR q54.1 a0 8 (some (nN S50))) q54.2 fun S56 m57 => (sB (pS S56 6 0 (nF 6)) (pM (nN S56) m57) fun S58 m59 => ((f_Sh_init S58 (nN S56) (nI 2) m59).bind fun q60 => (cK q60.1 a0 10 (sB (wR q60.1 a0 9 (some (nN S56))) q60.2 fun S62 m63 => (cK S62 a0 10 (ldR S62 a0 3 0 fun r65 => (cK S62 r65 0 ((f_Ga_addPlayer S62 r65 (nI 10) (nI 2) (nI 5) (nI 5) (nI 0) m63).bind fun q67 => (cK S62 a0 10 (ldR S62 a0 3 0 fun r70 => (cK S62 r70 0 ((f_Ga_addPlayer S62 r70 (nI 14) (nI 2) (nI 5) (nI 3) (nI 0) q67).bind fun q72 => (cK S62 a0 10 (ldR S62 a0 3 0 fun r75 => (cK S62 r75 0 ((f_Ga_addPlayer S62 r75 (nI 20) (nI 3) (nI 4) (nI 6) (nI 0) q72).bind fun q77 => (cK S62 a0 10 (ldR S62 a0 3 0 fun r80 => (cK S62 r80 0 ((f_Ga_tellUntoldCalls S62 r80 q77).bind fun q82 => (some (S62, q82))))))))))))))))))))))))))))))))))))))))))))))))))))))))))))
set_option maxRecDepth 100000 in
theorem e_Ba_init (S : ba_S) (a0 : Nat) (m : ba_M) : AW Y_Ba_init 0 [some (aR (some a0))] [] S m (f_Ba_init S a0 m) := by
  unfold f_Ba_init
  refine a_aload_n dX11_init_0 rfl ?_
  refine a_obj dX11_init_1 lo_RX11_1 rfl rfl rfl ?_
  refine a_aload_n dX11_init_4 rfl ?_
  refine a_new dX11_init_5 nw_RX11_7 ?_
  refine AW.sB (fun S1 m2 => ?_)
  refine a_dup dX11_init_8 rfl ?_
  refine a_callIN_C dX11_init_9 lk_RX11_9 mt_Te_init iv_Te_init (fun _ h => m_Te_init h) rfl rfl ⟨rfl, rfl, rfl⟩ (fun q3 => ?_)
  refine AW.ck (fun h4 => ?_)
  refine a_putR rfl dX11_init_12 fl_RX11_10 ⟨_, rfl, rfl⟩ rfl rfl (fun _ => ⟨rfl, rfl⟩) h4 ?_
  refine AW.sB (fun S5 m6 => ?_)
  refine a_aload_n dX11_init_15 rfl ?_
  refine a_new dX11_init_16 nw_RX11_16 ?_
  refine AW.sB (fun S7 m8 => ?_)
  refine a_dup dX11_init_19 rfl ?_
  refine a_callIN_C dX11_init_20 lk_RX11_18 mt_Re_init iv_Re_init (fun _ h => m_Re_init h) rfl rfl ⟨rfl, rfl, rfl⟩ (fun q9 => ?_)
  refine AW.ck (fun h10 => ?_)
  refine a_putR rfl dX11_init_23 fl_RX11_19 ⟨_, rfl, rfl⟩ rfl rfl (fun _ => ⟨rfl, rfl⟩) h10 ?_
  refine AW.sB (fun S11 m12 => ?_)
  refine a_aload_n dX11_init_26 rfl ?_
  refine a_new dX11_init_27 nw_RX11_23 ?_
  refine AW.sB (fun S13 m14 => ?_)
  refine a_dup dX11_init_30 rfl ?_
  refine a_callIN_C dX11_init_31 lk_RX11_25 mt_Ro_init iv_Ro_init (fun _ h => m_Ro_init h) rfl rfl ⟨rfl, rfl, rfl⟩ (fun q15 => ?_)
  refine AW.ck (fun h16 => ?_)
  refine a_putR rfl dX11_init_34 fl_RX11_26 ⟨_, rfl, rfl⟩ rfl rfl (fun _ => ⟨rfl, rfl⟩) h16 ?_
  refine AW.sB (fun S17 m18 => ?_)
  refine a_aload_n dX11_init_37 rfl ?_
  refine a_aload_n dX11_init_38 rfl ?_
  refine AW.ck (fun h19 => ?_)
  refine a_getR dX11_init_39 fl_RX11_26 rfl h19 (fun r20 h21 => ?_)
  refine AW.ck (fun h22 => ?_)
  refine a_getR dX11_init_42 fl_RX11_30 rfl h22 (fun r23 h24 => ?_)
  refine AW.ck (fun h25 => ?_)
  refine a_putR rfl dX11_init_45 fl_RX11_34 ⟨_, rfl, rfl⟩ rfl rfl (fun _ => ⟨rfl, rfl⟩) h25 ?_
  refine AW.sB (fun S26 m27 => ?_)
  refine a_aload_n dX11_init_48 rfl ?_
  refine a_new dX11_init_49 nw_RX11_35 ?_
  refine AW.sB (fun S28 m29 => ?_)
  refine a_dup dX11_init_52 rfl ?_
  refine a_callI_C dX11_init_53 lk_RX11_37 mt_Ga_init iv_Ga_init (fun _ h => m_Ga_init h) rfl rfl ⟨rfl, rfl, rfl⟩ (fun q30 => ?_)
  refine AW.ck (fun h31 => ?_)
  refine a_putR rfl dX11_init_56 fl_RX11_38 ⟨_, rfl, rfl⟩ rfl rfl (fun _ => ⟨rfl, rfl⟩) h31 ?_
  refine AW.sB (fun S32 m33 => ?_)
  refine a_aload_n dX11_init_59 rfl ?_
  refine a_new dX11_init_60 nw_RX11_41 ?_
  refine AW.sB (fun S34 m35 => ?_)
  refine a_dup dX11_init_63 rfl ?_
  refine a_callIN_C dX11_init_64 lk_RX11_43 mt_Sc_init iv_Sc_init (fun _ h => m_Sc_init h) rfl rfl ⟨rfl, rfl, rfl⟩ (fun q36 => ?_)
  refine AW.ck (fun h37 => ?_)
  refine a_putR rfl dX11_init_67 fl_RX11_44 ⟨_, rfl, rfl⟩ rfl rfl (fun _ => ⟨rfl, rfl⟩) h37 ?_
  refine AW.sB (fun S38 m39 => ?_)
  refine a_aload_n dX11_init_70 rfl ?_
  refine a_new dX11_init_71 nw_RX11_48 ?_
  refine AW.sB (fun S40 m41 => ?_)
  refine a_dup dX11_init_74 rfl ?_
  refine a_callIN_C dX11_init_75 lk_RX11_50 mt_Mr_init iv_Mr_init (fun _ h => m_Mr_init h) rfl rfl ⟨rfl, rfl, rfl⟩ (fun q42 => ?_)
  refine AW.ck (fun h43 => ?_)
  refine a_putR rfl dX11_init_78 fl_RX11_51 ⟨_, rfl, rfl⟩ rfl rfl (fun _ => ⟨rfl, rfl⟩) h43 ?_
  refine AW.sB (fun S44 m45 => ?_)
  refine a_aload_n dX11_init_81 rfl ?_
  refine a_new dX11_init_82 nw_RX11_55 ?_
  refine AW.sB (fun S46 m47 => ?_)
  refine a_dup dX11_init_85 rfl ?_
  refine a_callIN_C dX11_init_86 lk_RX11_57 mt_Si_init iv_Si_init (fun _ h => m_Si_init h) rfl rfl ⟨rfl, rfl, rfl⟩ (fun q48 => ?_)
  refine AW.ck (fun h49 => ?_)
  refine a_putR rfl dX11_init_89 fl_RX11_58 ⟨_, rfl, rfl⟩ rfl rfl (fun _ => ⟨rfl, rfl⟩) h49 ?_
  refine AW.sB (fun S50 m51 => ?_)
  refine a_aload_n dX11_init_92 rfl ?_
  refine a_new dX11_init_93 nw_RX11_62 ?_
  refine AW.sB (fun S52 m53 => ?_)
  refine a_dup dX11_init_96 rfl ?_
  refine a_bipush (v := nI 8) dX11_init_97 (by decide) ?_
  refine a_callI_C dX11_init_99 lk_RX11_64 mt_Sh_init iv_Sh_init (fun _ h => m_Sh_init h) rfl rfl ⟨rfl, rfl, rfl⟩ (fun q54 => ?_)
  refine AW.ck (fun h55 => ?_)
  refine a_putR rfl dX11_init_102 fl_RX11_67 ⟨_, rfl, rfl⟩ rfl rfl (fun _ => ⟨rfl, rfl⟩) h55 ?_
  refine AW.sB (fun S56 m57 => ?_)
  refine a_aload_n dX11_init_105 rfl ?_
  refine a_new dX11_init_106 nw_RX11_62 ?_
  refine AW.sB (fun S58 m59 => ?_)
  refine a_dup dX11_init_109 rfl ?_
  refine a_iconst (v := nI 2) dX11_init_110 (by decide) ?_
  refine a_callI_C dX11_init_111 lk_RX11_64 mt_Sh_init iv_Sh_init (fun _ h => m_Sh_init h) rfl rfl ⟨rfl, rfl, rfl⟩ (fun q60 => ?_)
  refine AW.ck (fun h61 => ?_)
  refine a_putR rfl dX11_init_114 fl_RX11_71 ⟨_, rfl, rfl⟩ rfl rfl (fun _ => ⟨rfl, rfl⟩) h61 ?_
  refine AW.sB (fun S62 m63 => ?_)
  refine a_aload_n dX11_init_117 rfl ?_
  refine AW.ck (fun h64 => ?_)
  refine a_getR dX11_init_118 fl_RX11_34 rfl h64 (fun r65 h66 => ?_)
  refine a_bipush (v := nI 10) dX11_init_121 (by decide) ?_
  refine a_iconst (v := nI 2) dX11_init_123 (by decide) ?_
  refine a_iconst (v := nI 5) dX11_init_124 (by decide) ?_
  refine a_iconst (v := nI 5) dX11_init_125 (by decide) ?_
  refine a_iconst (v := nI 0) dX11_init_126 (by decide) ?_
  refine AW.ck (fun h68 => ?_)
  refine a_callV_V dX11_init_127 lk_RX11_74 mt_Ga_addPlayer vt_Ga_addPlayer ⟨_, rfl, rfl⟩ (fun _ h => m_Ga_addPlayer h) rfl rfl h68 ⟨rfl, rfl, rfl⟩ (fun q67 => ?_)
  refine a_aload_n dX11_init_130 rfl ?_
  refine AW.ck (fun h69 => ?_)
  refine a_getR dX11_init_131 fl_RX11_34 rfl h69 (fun r70 h71 => ?_)
  refine a_bipush (v := nI 14) dX11_init_134 (by decide) ?_
  refine a_iconst (v := nI 2) dX11_init_136 (by decide) ?_
  refine a_iconst (v := nI 5) dX11_init_137 (by decide) ?_
  refine a_iconst (v := nI 3) dX11_init_138 (by decide) ?_
  refine a_iconst (v := nI 0) dX11_init_139 (by decide) ?_
  refine AW.ck (fun h73 => ?_)
  refine a_callV_V dX11_init_140 lk_RX11_74 mt_Ga_addPlayer vt_Ga_addPlayer ⟨_, rfl, rfl⟩ (fun _ h => m_Ga_addPlayer h) rfl rfl h73 ⟨rfl, rfl, rfl⟩ (fun q72 => ?_)
  refine a_aload_n dX11_init_143 rfl ?_
  refine AW.ck (fun h74 => ?_)
  refine a_getR dX11_init_144 fl_RX11_34 rfl h74 (fun r75 h76 => ?_)
  refine a_bipush (v := nI 20) dX11_init_147 (by decide) ?_
  refine a_iconst (v := nI 3) dX11_init_149 (by decide) ?_
  refine a_iconst (v := nI 4) dX11_init_150 (by decide) ?_
  refine a_bipush (v := nI 6) dX11_init_151 (by decide) ?_
  refine a_iconst (v := nI 0) dX11_init_153 (by decide) ?_
  refine AW.ck (fun h78 => ?_)
  refine a_callV_V dX11_init_154 lk_RX11_74 mt_Ga_addPlayer vt_Ga_addPlayer ⟨_, rfl, rfl⟩ (fun _ h => m_Ga_addPlayer h) rfl rfl h78 ⟨rfl, rfl, rfl⟩ (fun q77 => ?_)
  refine a_aload_n dX11_init_157 rfl ?_
  refine AW.ck (fun h79 => ?_)
  refine a_getR dX11_init_158 fl_RX11_34 rfl h79 (fun r80 h81 => ?_)
  refine AW.ck (fun h83 => ?_)
  refine a_callV_V dX11_init_161 lk_RX11_78 mt_Ga_tellUntoldCalls vt_Ga_tellUntoldCalls ⟨_, rfl, rfl⟩ (fun _ h => m_Ga_tellUntoldCalls h) rfl rfl h83 ⟨rfl, rfl, rfl⟩ (fun q82 => ?_)
  exact AW.ret dX11_init_164 rfl rfl
theorem m_Ba_init {S : ba_S} {a0 : Nat} {m : ba_M} {q : ba_S × ba_M} (h : f_Ba_init S a0 m = some q) : MA Y_Ba_init yX11_init none [aR (some a0)] S m q :=
  ba_met ⟨by decide +kernel, rfl⟩ rfl (fun _ => rfl) (Or.inr (Or.inr (Or.inr (Or.inl ⟨rfl, rfl, rfl⟩)))) rfl (h ▸ e_Ba_init S a0 m)

abbrev Y_Ba_write (S : ba_S) : ba_Y (Int32 × ba_M) := mI cX11_write RX11 4 2 46 S
def f_Ba_write_37 (S : ba_S) (s0 : Int32) (m : ba_M) : Option (Int32 × ba_M) :=
  (some (s0, m))
set_option maxRecDepth 100000 in
theorem w_Ba_write_37 {S : ba_S} : ∀ (s0 : Int32) (m : ba_M), AW (Y_Ba_write S) 37 [none, none, none, none] [aI s0] S m (f_Ba_write_37 S s0 m) := by
  intro s0 m
  unfold f_Ba_write_37
  exact AW.ret dX11_write_37 rfl rfl
def f_Ba_write (S : ba_S) (a0 : Nat) (a1 : Int32) (a2 : Int64) (m : ba_M) : Option (Int32 × ba_M) :=
  cK S a0 10 (((f_Ba_within S a1 (nI 1) (nI 8) m).bind fun q1 => (if q1.1 = true then (ldR S a0 0 8 fun r2 => ((f_Te_hasRoomFor S r2 a1 q1.2).bind fun q4 => (if q4.1 = true then (ldR S a0 0 8 fun r5 => ((f_Te_append S r5 a1 a2 q4.2).bind fun q7 => (f_Ba_write_37 S q7.1 q7.2))) else (f_Ba_write_37 S (-3 : Int32) q4.2)))) else (some ((-1 : Int32), q1.2)))))
set_option maxRecDepth 100000 in
theorem e_Ba_write (S : ba_S) (a0 : Nat) (a1 : Int32) (a2 : Int64) (m : ba_M) : AW (Y_Ba_write S) 0 [some (aR (some a0)), some (aI a1), some (aJ a2), none] [] S m (f_Ba_write S a0 a1 a2 m) := by
  unfold f_Ba_write
  refine AW.ck (fun g0 => ?_)
  refine a_iload_n dX11_write_0 rfl ?_
  refine a_iconst (v := nI 1) dX11_write_1 (by decide) ?_
  refine a_bipush (v := nI 8) dX11_write_2 (by decide) ?_
  refine a_callS_Z dX11_write_4 lk_RX11_81 mt_Ba_within sv_Ba_within (fun _ h => m_Ba_within h) rfl rfl ⟨rfl, rfl, rfl⟩ (fun q1 => ?_)
  refine a_bne (tgt := 12) dX11_write_7 (by decide) (fun _ => ?_) (fun _ => ?_)
  · skip
    refine a_aload_n dX11_write_12 rfl ?_
    refine a_getR dX11_write_13 fl_RX11_10 rfl g0 (fun r2 h3 => ?_)
    refine a_iload_n dX11_write_16 rfl ?_
    refine a_callV_Z dX11_write_17 lk_RX11_85 mt_Te_hasRoomFor vt_Te_hasRoomFor ⟨_, rfl, rfl⟩ (fun _ h => m_Te_hasRoomFor h) rfl rfl h3 ⟨rfl, rfl, rfl⟩ (fun q4 => ?_)
    refine a_beq (tgt := 35) dX11_write_20 (by decide) (fun _ => ?_) (fun _ => ?_)
    · skip
      refine a_bipush (v := -3) dX11_write_35 (by decide) ?_
      exact AW.weak (Lw_no (Lw_no (Lw_no (Lw_no Lw_end)))) (w_Ba_write_37 _ _)
    · skip
      refine a_aload_n dX11_write_23 rfl ?_
      refine a_getR dX11_write_24 fl_RX11_10 rfl g0 (fun r5 h6 => ?_)
      refine a_iload_n dX11_write_27 rfl ?_
      refine a_lload_n dX11_write_28 rfl ?_
      refine a_callV_I dX11_write_29 lk_RX11_89 mt_Te_append vt_Te_append ⟨_, rfl, rfl⟩ (fun _ h => m_Te_append h) rfl rfl h6 ⟨rfl, rfl, rfl⟩ (fun q7 => ?_)
      refine a_goto (tgt := 37) dX11_write_32 (by decide) ?_
      exact AW.weak (Lw_no (Lw_no (Lw_no (Lw_no Lw_end)))) (w_Ba_write_37 _ _)
  · skip
    refine a_iconst (v := -1) dX11_write_10 (by decide) ?_
    exact AW.ret dX11_write_11 rfl rfl
theorem m_Ba_write {S : ba_S} {a0 : Nat} {a1 : Int32} {a2 : Int64} {m : ba_M} {q : Int32 × ba_M} (h : f_Ba_write S a0 a1 a2 m = some q) : MA (Y_Ba_write S) yX11_write (some .int) [aR (some a0), aI a1, aJ a2] S m q :=
  ba_met ⟨by decide +kernel, rfl⟩ rfl (fun h => by cases h) (Or.inl ⟨rfl, rfl, _, rfl⟩) rfl (h ▸ e_Ba_write S a0 a1 a2 m)

abbrev Y_Ba_wipe (S : ba_S) : ba_Y (Int32 × ba_M) := mI cX11_wipe RX11 1 1 21 S
def f_Ba_wipe (S : ba_S) (a0 : Nat) (m : ba_M) : Option (Int32 × ba_M) :=
  cK S a0 10 ((ldR S a0 0 8 fun r1 => ((f_Te_empty S r1 m).bind fun q3 => (some (q3.1, q3.2)))))
set_option maxRecDepth 100000 in
theorem e_Ba_wipe (S : ba_S) (a0 : Nat) (m : ba_M) : AW (Y_Ba_wipe S) 0 [some (aR (some a0))] [] S m (f_Ba_wipe S a0 m) := by
  unfold f_Ba_wipe
  refine AW.ck (fun g0 => ?_)
  refine a_aload_n dX11_wipe_0 rfl ?_
  refine a_getR dX11_wipe_1 fl_RX11_10 rfl g0 (fun r1 h2 => ?_)
  refine a_callV_I dX11_wipe_4 lk_RX11_93 mt_Te_empty vt_Te_empty ⟨_, rfl, rfl⟩ (fun _ h => m_Te_empty h) rfl rfl h2 ⟨rfl, rfl, rfl⟩ (fun q3 => ?_)
  exact AW.ret dX11_wipe_7 rfl rfl
theorem m_Ba_wipe {S : ba_S} {a0 : Nat} {m : ba_M} {q : Int32 × ba_M} (h : f_Ba_wipe S a0 m = some q) : MA (Y_Ba_wipe S) yX11_wipe (some .int) [aR (some a0)] S m q :=
  ba_met ⟨by decide +kernel, rfl⟩ rfl (fun h => by cases h) (Or.inl ⟨rfl, rfl, _, rfl⟩) rfl (h ▸ e_Ba_wipe S a0 m)

abbrev Y_Ba_fault (S : ba_S) : ba_Y (Int32 × ba_M) := mI cX11_fault RX11 1 5 118 S
def f_Ba_fault (S : ba_S) (a0 : Nat) (m : ba_M) : Option (Int32 × ba_M) :=
  cK S a0 10 ((ldR S a0 1 3 fun r1 => (ldR S a0 0 8 fun r3 => (ldR S a0 4 0 fun r5 => ((f_Re_read S r1 r3 r5 m).bind fun q7 => (some (q7.1, q7.2)))))))
set_option maxRecDepth 100000 in
theorem e_Ba_fault (S : ba_S) (a0 : Nat) (m : ba_M) : AW (Y_Ba_fault S) 0 [some (aR (some a0))] [] S m (f_Ba_fault S a0 m) := by
  unfold f_Ba_fault
  refine AW.ck (fun g0 => ?_)
  refine a_aload_n dX11_fault_0 rfl ?_
  refine a_getR dX11_fault_1 fl_RX11_19 rfl g0 (fun r1 h2 => ?_)
  refine a_aload_n dX11_fault_4 rfl ?_
  refine a_getR dX11_fault_5 fl_RX11_10 rfl g0 (fun r3 h4 => ?_)
  refine a_aload_n dX11_fault_8 rfl ?_
  refine a_getR dX11_fault_9 fl_RX11_38 rfl g0 (fun r5 h6 => ?_)
  refine a_callV_I dX11_fault_12 lk_RX11_97 mt_Re_read vt_Re_read ⟨_, rfl, rfl⟩ (fun _ h => m_Re_read h) rfl rfl h2 ⟨rfl, rfl, rfl⟩ (fun q7 => ?_)
  exact AW.ret dX11_fault_15 rfl rfl
theorem m_Ba_fault {S : ba_S} {a0 : Nat} {m : ba_M} {q : Int32 × ba_M} (h : f_Ba_fault S a0 m = some q) : MA (Y_Ba_fault S) yX11_fault (some .int) [aR (some a0)] S m q :=
  ba_met ⟨by decide +kernel, rfl⟩ rfl (fun h => by cases h) (Or.inl ⟨rfl, rfl, _, rfl⟩) rfl (h ▸ e_Ba_fault S a0 m)

abbrev Y_Ba_lay (S : ba_S) : ba_Y (Int32 × ba_M) := mI cX11_lay RX11 1 5 118 S
def f_Ba_lay_30 (S : ba_S) (m : ba_M) : Option (Int32 × ba_M) :=
  (some ((-2 : Int32), m))
set_option maxRecDepth 100000 in
theorem w_Ba_lay_30 {S : ba_S} : ∀ (m : ba_M), AW (Y_Ba_lay S) 30 [none] [] S m (f_Ba_lay_30 S m) := by
  intro m
  unfold f_Ba_lay_30
  refine a_bipush (v := -2) dX11_lay_30 (by decide) ?_
  exact AW.ret dX11_lay_32 rfl rfl
def f_Ba_lay (S : ba_S) (a0 : Nat) (m : ba_M) : Option (Int32 × ba_M) :=
  cK S a0 10 ((ldR S a0 1 3 fun r1 => (ldR S a0 0 8 fun r3 => (ldR S a0 4 0 fun r5 => ((f_Re_read S r1 r3 r5 m).bind fun q7 => (if q7.1 = (-4 : Int32) then (ldR S a0 4 0 fun r8 => ((f_Ga_canBePlayed S r8 q7.2).bind fun q10 => (if q10.1 = true then (ldR S a0 4 0 fun r11 => ((f_Ga_tellUntoldCalls S r11 q10.2).bind fun q13 => (ldR S a0 3 0 fun r14 => (ldR S a0 4 0 fun r16 => ((f_Ga_copyFrom S r14 r16 q13).bind fun q18 => (ldR S a0 7 7 fun r19 => ((f_Si_empty S r19 q18).bind fun q21 => (ldR S a0 8 6 fun r22 => ((f_Sh_empty S r22 q21.2).bind fun q24 => (ldR S a0 9 6 fun r25 => ((f_Sh_empty S r25 q24).bind fun q27 => (ldR S a0 3 0 fun r28 => (some ((gI q27 r28 2), q27)))))))))))))) else (f_Ba_lay_30 S q10.2)))) else (f_Ba_lay_30 S q7.2)))))))
set_option maxRecDepth 100000 in
theorem e_Ba_lay (S : ba_S) (a0 : Nat) (m : ba_M) : AW (Y_Ba_lay S) 0 [some (aR (some a0))] [] S m (f_Ba_lay S a0 m) := by
  unfold f_Ba_lay
  refine AW.ck (fun g0 => ?_)
  refine a_aload_n dX11_lay_0 rfl ?_
  refine a_getR dX11_lay_1 fl_RX11_19 rfl g0 (fun r1 h2 => ?_)
  refine a_aload_n dX11_lay_4 rfl ?_
  refine a_getR dX11_lay_5 fl_RX11_10 rfl g0 (fun r3 h4 => ?_)
  refine a_aload_n dX11_lay_8 rfl ?_
  refine a_getR dX11_lay_9 fl_RX11_38 rfl g0 (fun r5 h6 => ?_)
  refine a_callV_I dX11_lay_12 lk_RX11_97 mt_Re_read vt_Re_read ⟨_, rfl, rfl⟩ (fun _ h => m_Re_read h) rfl rfl h2 ⟨rfl, rfl, rfl⟩ (fun q7 => ?_)
  refine a_bipush (v := -4) dX11_lay_15 (by decide) ?_
  refine a_ine (tgt := 30) dX11_lay_17 (by decide) (fun _ => ?_) (fun _ => ?_)
  · skip
    exact AW.weak (Lw_no Lw_end) (w_Ba_lay_30 _)
  · skip
    refine a_aload_n dX11_lay_20 rfl ?_
    refine a_getR dX11_lay_21 fl_RX11_38 rfl g0 (fun r8 h9 => ?_)
    refine a_callV_Z dX11_lay_24 lk_RX11_101 mt_Ga_canBePlayed vt_Ga_canBePlayed ⟨_, rfl, rfl⟩ (fun _ h => m_Ga_canBePlayed h) rfl rfl h9 ⟨rfl, rfl, rfl⟩ (fun q10 => ?_)
    refine a_bne (tgt := 33) dX11_lay_27 (by decide) (fun _ => ?_) (fun _ => ?_)
    · skip
      refine a_aload_n dX11_lay_33 rfl ?_
      refine a_getR dX11_lay_34 fl_RX11_38 rfl g0 (fun r11 h12 => ?_)
      refine a_callV_V dX11_lay_37 lk_RX11_78 mt_Ga_tellUntoldCalls vt_Ga_tellUntoldCalls ⟨_, rfl, rfl⟩ (fun _ h => m_Ga_tellUntoldCalls h) rfl rfl h12 ⟨rfl, rfl, rfl⟩ (fun q13 => ?_)
      refine a_aload_n dX11_lay_40 rfl ?_
      refine a_getR dX11_lay_41 fl_RX11_34 rfl g0 (fun r14 h15 => ?_)
      refine a_aload_n dX11_lay_44 rfl ?_
      refine a_getR dX11_lay_45 fl_RX11_38 rfl g0 (fun r16 h17 => ?_)
      refine a_callV_V dX11_lay_48 lk_RX11_105 mt_Ga_copyFrom vt_Ga_copyFrom ⟨_, rfl, rfl⟩ (fun _ h => m_Ga_copyFrom h) rfl rfl h15 ⟨rfl, rfl, rfl⟩ (fun q18 => ?_)
      refine a_aload_n dX11_lay_51 rfl ?_
      refine a_getR dX11_lay_52 fl_RX11_58 rfl g0 (fun r19 h20 => ?_)
      refine a_callV_I dX11_lay_55 lk_RX11_109 mt_Si_empty vt_Si_empty ⟨_, rfl, rfl⟩ (fun _ h => m_Si_empty h) rfl rfl h20 ⟨rfl, rfl, rfl⟩ (fun q21 => ?_)
      refine a_pop dX11_lay_58 rfl ?_
      refine a_aload_n dX11_lay_59 rfl ?_
      refine a_getR dX11_lay_60 fl_RX11_67 rfl g0 (fun r22 h23 => ?_)
      refine a_callV_V dX11_lay_63 lk_RX11_110 mt_Sh_empty vt_Sh_empty ⟨_, rfl, rfl⟩ (fun _ h => m_Sh_empty h) rfl rfl h23 ⟨rfl, rfl, rfl⟩ (fun q24 => ?_)
      refine a_aload_n dX11_lay_66 rfl ?_
      refine a_getR dX11_lay_67 fl_RX11_71 rfl g0 (fun r25 h26 => ?_)
      refine a_callV_V dX11_lay_70 lk_RX11_110 mt_Sh_empty vt_Sh_empty ⟨_, rfl, rfl⟩ (fun _ h => m_Sh_empty h) rfl rfl h26 ⟨rfl, rfl, rfl⟩ (fun q27 => ?_)
      refine a_aload_n dX11_lay_73 rfl ?_
      refine a_getR dX11_lay_74 fl_RX11_34 rfl g0 (fun r28 h29 => ?_)
      refine a_getI dX11_lay_77 fl_RX11_112 rfl h29 ?_
      exact AW.ret dX11_lay_80 rfl rfl
    · skip
      exact AW.weak (Lw_no Lw_end) (w_Ba_lay_30 _)
theorem m_Ba_lay {S : ba_S} {a0 : Nat} {m : ba_M} {q : Int32 × ba_M} (h : f_Ba_lay S a0 m = some q) : MA (Y_Ba_lay S) yX11_lay (some .int) [aR (some a0)] S m q :=
  ba_met ⟨by decide +kernel, rfl⟩ rfl (fun h => by cases h) (Or.inl ⟨rfl, rfl, _, rfl⟩) rfl (h ▸ e_Ba_lay S a0 m)

abbrev Y_Ba_player (S : ba_S) : ba_Y (Int32 × ba_M) := mI cX11_player RX11 4 1 22 S
def f_Ba_player (S : ba_S) (a0 : Nat) (a1 : Int32) (a2 : Int32) (m : ba_M) : Option (Int32 × ba_M) :=
  cK S a0 10 ((ldR S a0 3 0 fun r1 => ((f_Ga_has S r1 a1 m).bind fun q3 => (if q3.1 = true then (ldR S a0 3 0 fun r4 => ((f_Ga_who S r4 a1 q3.2).bind fun q6 => cK S q6.1 2 (if a2 = 0 then (some ((gI q6.2 q6.1 1), q6.2)) else (if a2 = 1 then (some ((gI q6.2 q6.1 2), q6.2)) else (if a2 = 2 then (some ((gI q6.2 q6.1 3), q6.2)) else (if a2 = 3 then (some ((gI q6.2 q6.1 4), q6.2)) else (if a2 = 4 then (some ((gI q6.2 q6.1 5), q6.2)) else (if a2 = 5 then (ldR S q6.1 0 9 fun r14 => (some ((gI q6.2 r14 3), q6.2))) else (some ((-1 : Int32), q6.2)))))))))) else (some ((-1 : Int32), q3.2))))))
set_option maxRecDepth 100000 in
theorem e_Ba_player (S : ba_S) (a0 : Nat) (a1 : Int32) (a2 : Int32) (m : ba_M) : AW (Y_Ba_player S) 0 [some (aR (some a0)), some (aI a1), some (aI a2), none] [] S m (f_Ba_player S a0 a1 a2 m) := by
  unfold f_Ba_player
  refine AW.ck (fun g0 => ?_)
  refine a_aload_n dX11_player_0 rfl ?_
  refine a_getR dX11_player_1 fl_RX11_34 rfl g0 (fun r1 h2 => ?_)
  refine a_iload_n dX11_player_4 rfl ?_
  refine a_callV_Z dX11_player_5 lk_RX11_116 mt_Ga_has vt_Ga_has ⟨_, rfl, rfl⟩ (fun _ h => m_Ga_has h) rfl rfl h2 ⟨rfl, rfl, rfl⟩ (fun q3 => ?_)
  refine a_bne (tgt := 13) dX11_player_8 (by decide) (fun _ => ?_) (fun _ => ?_)
  · skip
    refine a_aload_n dX11_player_13 rfl ?_
    refine a_getR dX11_player_14 fl_RX11_34 rfl g0 (fun r4 h5 => ?_)
    refine a_iload_n dX11_player_17 rfl ?_
    refine a_callV_R dX11_player_18 lk_RX11_119 mt_Ga_who vt_Ga_who ⟨_, rfl, rfl⟩ (fun _ h => m_Ga_who h) rfl rfl h5 ⟨rfl, rfl, rfl⟩ (fun q6 => ?_)
    refine AW.ck (fun h7 => ?_)
    refine a_astore_n dX11_player_21 rfl rfl ?_
    refine a_iload_n dX11_player_22 rfl ?_
    refine AW.if (fun c8 => ?_) (fun c8 => ?_)
    · refine a_tabIn (tgt := 60) dX11_player_23 (by rw [c8]; decide) (by rw [c8]; decide) (by rw [c8]; rfl) (by decide) ?_
      refine a_aload_n dX11_player_60 rfl ?_
      refine a_getI dX11_player_61 fl_RX11_123 rfl h7 ?_
      exact AW.ret dX11_player_64 rfl rfl
    refine AW.if (fun c9 => ?_) (fun c9 => ?_)
    · refine a_tabIn (tgt := 65) dX11_player_23 (by rw [c9]; decide) (by rw [c9]; decide) (by rw [c9]; rfl) (by decide) ?_
      refine a_aload_n dX11_player_65 rfl ?_
      refine a_getI dX11_player_66 fl_RX11_128 rfl h7 ?_
      exact AW.ret dX11_player_69 rfl rfl
    refine AW.if (fun c10 => ?_) (fun c10 => ?_)
    · refine a_tabIn (tgt := 70) dX11_player_23 (by rw [c10]; decide) (by rw [c10]; decide) (by rw [c10]; rfl) (by decide) ?_
      refine a_aload_n dX11_player_70 rfl ?_
      refine a_getI dX11_player_71 fl_RX11_131 rfl h7 ?_
      exact AW.ret dX11_player_74 rfl rfl
    refine AW.if (fun c11 => ?_) (fun c11 => ?_)
    · refine a_tabIn (tgt := 75) dX11_player_23 (by rw [c11]; decide) (by rw [c11]; decide) (by rw [c11]; rfl) (by decide) ?_
      refine a_aload_n dX11_player_75 rfl ?_
      refine a_getI dX11_player_76 fl_RX11_134 rfl h7 ?_
      exact AW.ret dX11_player_79 rfl rfl
    refine AW.if (fun c12 => ?_) (fun c12 => ?_)
    · refine a_tabIn (tgt := 80) dX11_player_23 (by rw [c12]; decide) (by rw [c12]; decide) (by rw [c12]; rfl) (by decide) ?_
      refine a_aload_n dX11_player_80 rfl ?_
      refine a_getI dX11_player_81 fl_RX11_137 rfl h7 ?_
      exact AW.ret dX11_player_84 rfl rfl
    refine AW.if (fun c13 => ?_) (fun c13 => ?_)
    · refine a_tabIn (tgt := 85) dX11_player_23 (by rw [c13]; decide) (by rw [c13]; decide) (by rw [c13]; rfl) (by decide) ?_
      refine a_aload_n dX11_player_85 rfl ?_
      refine a_getR dX11_player_86 fl_RX11_140 rfl h7 (fun r14 h15 => ?_)
      refine a_getI dX11_player_89 fl_RX11_144 rfl h15 ?_
      exact AW.ret dX11_player_92 rfl rfl
    refine a_tabOut (tgt := 93) dX11_player_23 (by have uc8 : ¬ Int32.toInt (a2) = 0 := lv_neT c8 rfl; have uc9 : ¬ Int32.toInt (a2) = 1 := lv_neT c9 rfl; have uc10 : ¬ Int32.toInt (a2) = 2 := lv_neT c10 rfl; have uc11 : ¬ Int32.toInt (a2) = 3 := lv_neT c11 rfl; have uc12 : ¬ Int32.toInt (a2) = 4 := lv_neT c12 rfl; have uc13 : ¬ Int32.toInt (a2) = 5 := lv_neT c13 rfl; omega) (by decide) ?_
    refine a_iconst (v := -1) dX11_player_93 (by decide) ?_
    exact AW.ret dX11_player_94 rfl rfl
  · skip
    refine a_iconst (v := -1) dX11_player_11 (by decide) ?_
    exact AW.ret dX11_player_12 rfl rfl
theorem m_Ba_player {S : ba_S} {a0 : Nat} {a1 : Int32} {a2 : Int32} {m : ba_M} {q : Int32 × ba_M} (h : f_Ba_player S a0 a1 a2 m = some q) : MA (Y_Ba_player S) yX11_player (some .int) [aR (some a0), aI a1, aI a2] S m q :=
  ba_met ⟨by decide +kernel, rfl⟩ rfl (fun h => by cases h) (Or.inl ⟨rfl, rfl, _, rfl⟩) rfl (h ▸ e_Ba_player S a0 a1 a2 m)

abbrev Y_Ba_called (S : ba_S) : ba_Y (Int32 × ba_M) := mI cX11_called RX11 4 5 117 S
def f_Ba_called (S : ba_S) (a0 : Nat) (a1 : Int32) (a2 : Int32) (m : ba_M) : Option (Int32 × ba_M) :=
  cK S a0 10 ((ldR S a0 3 0 fun r1 => ((f_Ga_has S r1 a1 m).bind fun q3 => (if q3.1 = true then (ldR S a0 3 0 fun r4 => ((f_Ga_who S r4 a1 q3.2).bind fun q6 => cK S q6.1 2 (ldR S q6.1 0 9 fun r8 => (if a2 = 0 then (some ((gI q6.2 r8 0), q6.2)) else (if a2 = 1 then (some ((gI q6.2 r8 1), q6.2)) else (if a2 = 2 then (some ((gI q6.2 r8 2), q6.2)) else (if a2 = 3 then (ldR S a0 2 4 fun r14 => ((f_Ro_playAsTold S r14 a1 q6.2).bind fun q16 => (ldR S a0 2 4 fun r17 => (some ((gI q16 r17 6), q16))))) else (some ((-1 : Int32), q6.2))))))))) else (some ((-1 : Int32), q3.2))))))
set_option maxRecDepth 100000 in
theorem e_Ba_called (S : ba_S) (a0 : Nat) (a1 : Int32) (a2 : Int32) (m : ba_M) : AW (Y_Ba_called S) 0 [some (aR (some a0)), some (aI a1), some (aI a2), none] [] S m (f_Ba_called S a0 a1 a2 m) := by
  unfold f_Ba_called
  refine AW.ck (fun g0 => ?_)
  refine a_aload_n dX11_called_0 rfl ?_
  refine a_getR dX11_called_1 fl_RX11_34 rfl g0 (fun r1 h2 => ?_)
  refine a_iload_n dX11_called_4 rfl ?_
  refine a_callV_Z dX11_called_5 lk_RX11_116 mt_Ga_has vt_Ga_has ⟨_, rfl, rfl⟩ (fun _ h => m_Ga_has h) rfl rfl h2 ⟨rfl, rfl, rfl⟩ (fun q3 => ?_)
  refine a_bne (tgt := 13) dX11_called_8 (by decide) (fun _ => ?_) (fun _ => ?_)
  · skip
    refine a_aload_n dX11_called_13 rfl ?_
    refine a_getR dX11_called_14 fl_RX11_34 rfl g0 (fun r4 h5 => ?_)
    refine a_iload_n dX11_called_17 rfl ?_
    refine a_callV_R dX11_called_18 lk_RX11_119 mt_Ga_who vt_Ga_who ⟨_, rfl, rfl⟩ (fun _ h => m_Ga_who h) rfl rfl h5 ⟨rfl, rfl, rfl⟩ (fun q6 => ?_)
    refine AW.ck (fun h7 => ?_)
    refine a_getR dX11_called_21 fl_RX11_140 rfl h7 (fun r8 h9 => ?_)
    refine a_astore_n dX11_called_24 rfl rfl ?_
    refine a_iload_n dX11_called_25 rfl ?_
    refine AW.if (fun c10 => ?_) (fun c10 => ?_)
    · refine a_tabIn (tgt := 56) dX11_called_26 (by rw [c10]; decide) (by rw [c10]; decide) (by rw [c10]; rfl) (by decide) ?_
      refine a_aload_n dX11_called_56 rfl ?_
      refine a_getI dX11_called_57 fl_RX11_149 rfl h9 ?_
      exact AW.ret dX11_called_60 rfl rfl
    refine AW.if (fun c11 => ?_) (fun c11 => ?_)
    · refine a_tabIn (tgt := 61) dX11_called_26 (by rw [c11]; decide) (by rw [c11]; decide) (by rw [c11]; rfl) (by decide) ?_
      refine a_aload_n dX11_called_61 rfl ?_
      refine a_getI dX11_called_62 fl_RX11_152 rfl h9 ?_
      exact AW.ret dX11_called_65 rfl rfl
    refine AW.if (fun c12 => ?_) (fun c12 => ?_)
    · refine a_tabIn (tgt := 66) dX11_called_26 (by rw [c12]; decide) (by rw [c12]; decide) (by rw [c12]; rfl) (by decide) ?_
      refine a_aload_n dX11_called_66 rfl ?_
      refine a_getI dX11_called_67 fl_RX11_155 rfl h9 ?_
      exact AW.ret dX11_called_70 rfl rfl
    refine AW.if (fun c13 => ?_) (fun c13 => ?_)
    · refine a_tabIn (tgt := 71) dX11_called_26 (by rw [c13]; decide) (by rw [c13]; decide) (by rw [c13]; rfl) (by decide) ?_
      refine a_aload_n dX11_called_71 rfl ?_
      refine a_getR dX11_called_72 fl_RX11_26 rfl g0 (fun r14 h15 => ?_)
      refine a_iload_n dX11_called_75 rfl ?_
      refine a_callV_V dX11_called_76 lk_RX11_158 mt_Ro_playAsTold vt_Ro_playAsTold ⟨_, rfl, rfl⟩ (fun _ h => m_Ro_playAsTold h) rfl rfl h15 ⟨rfl, rfl, rfl⟩ (fun q16 => ?_)
      refine a_aload_n dX11_called_79 rfl ?_
      refine a_getR dX11_called_80 fl_RX11_26 rfl g0 (fun r17 h18 => ?_)
      refine a_getI dX11_called_83 fl_RX11_161 rfl h18 ?_
      exact AW.ret dX11_called_86 rfl rfl
    refine a_tabOut (tgt := 87) dX11_called_26 (by have uc10 : ¬ Int32.toInt (a2) = 0 := lv_neT c10 rfl; have uc11 : ¬ Int32.toInt (a2) = 1 := lv_neT c11 rfl; have uc12 : ¬ Int32.toInt (a2) = 2 := lv_neT c12 rfl; have uc13 : ¬ Int32.toInt (a2) = 3 := lv_neT c13 rfl; omega) (by decide) ?_
    refine a_iconst (v := -1) dX11_called_87 (by decide) ?_
    exact AW.ret dX11_called_88 rfl rfl
  · skip
    refine a_iconst (v := -1) dX11_called_11 (by decide) ?_
    exact AW.ret dX11_called_12 rfl rfl
theorem m_Ba_called {S : ba_S} {a0 : Nat} {a1 : Int32} {a2 : Int32} {m : ba_M} {q : Int32 × ba_M} (h : f_Ba_called S a0 a1 a2 m = some q) : MA (Y_Ba_called S) yX11_called (some .int) [aR (some a0), aI a1, aI a2] S m q :=
  ba_met ⟨by decide +kernel, rfl⟩ rfl (fun h => by cases h) (Or.inl ⟨rfl, rfl, _, rfl⟩) rfl (h ▸ e_Ba_called S a0 a1 a2 m)

abbrev Y_Ba_stands (S : ba_S) : ba_Y (Int32 × ba_M) := mI cX11_stands RX11 3 5 117 S
def f_Ba_stands_22 (S : ba_S) (m : ba_M) : Option (Int32 × ba_M) :=
  (some ((-1 : Int32), m))
set_option maxRecDepth 100000 in
theorem w_Ba_stands_22 {S : ba_S} : ∀ (m : ba_M), AW (Y_Ba_stands S) 22 [none, none, none] [] S m (f_Ba_stands_22 S m) := by
  intro m
  unfold f_Ba_stands_22
  refine a_iconst (v := -1) dX11_stands_22 (by decide) ?_
  exact AW.ret dX11_stands_23 rfl rfl
def f_Ba_stands (S : ba_S) (a0 : Nat) (a1 : Int32) (a2 : Int32) (m : ba_M) : Option (Int32 × ba_M) :=
  cK S a0 10 ((ldR S a0 3 0 fun r1 => ((f_Ga_has S r1 a1 m).bind fun q3 => (if q3.1 = true then (ldR S a0 3 0 fun r4 => ((f_Ga_has S r4 a2 q3.2).bind fun q6 => (if q6.1 = true then (ldR S a0 2 4 fun r7 => ((f_Ro_playAsTold S r7 a1 q6.2).bind fun q9 => (ldR S a0 2 4 fun r10 => ((f_Ro_standOf S r10 a2 q9).bind fun q12 => (some (q12.1, q12.2)))))) else (f_Ba_stands_22 S q6.2)))) else (f_Ba_stands_22 S q3.2)))))
set_option maxRecDepth 100000 in
theorem e_Ba_stands (S : ba_S) (a0 : Nat) (a1 : Int32) (a2 : Int32) (m : ba_M) : AW (Y_Ba_stands S) 0 [some (aR (some a0)), some (aI a1), some (aI a2)] [] S m (f_Ba_stands S a0 a1 a2 m) := by
  unfold f_Ba_stands
  refine AW.ck (fun g0 => ?_)
  refine a_aload_n dX11_stands_0 rfl ?_
  refine a_getR dX11_stands_1 fl_RX11_34 rfl g0 (fun r1 h2 => ?_)
  refine a_iload_n dX11_stands_4 rfl ?_
  refine a_callV_Z dX11_stands_5 lk_RX11_116 mt_Ga_has vt_Ga_has ⟨_, rfl, rfl⟩ (fun _ h => m_Ga_has h) rfl rfl h2 ⟨rfl, rfl, rfl⟩ (fun q3 => ?_)
  refine a_beq (tgt := 22) dX11_stands_8 (by decide) (fun _ => ?_) (fun _ => ?_)
  · skip
    exact AW.weak (Lw_no (Lw_no (Lw_no Lw_end))) (w_Ba_stands_22 _)
  · skip
    refine a_aload_n dX11_stands_11 rfl ?_
    refine a_getR dX11_stands_12 fl_RX11_34 rfl g0 (fun r4 h5 => ?_)
    refine a_iload_n dX11_stands_15 rfl ?_
    refine a_callV_Z dX11_stands_16 lk_RX11_116 mt_Ga_has vt_Ga_has ⟨_, rfl, rfl⟩ (fun _ h => m_Ga_has h) rfl rfl h5 ⟨rfl, rfl, rfl⟩ (fun q6 => ?_)
    refine a_bne (tgt := 24) dX11_stands_19 (by decide) (fun _ => ?_) (fun _ => ?_)
    · skip
      refine a_aload_n dX11_stands_24 rfl ?_
      refine a_getR dX11_stands_25 fl_RX11_26 rfl g0 (fun r7 h8 => ?_)
      refine a_iload_n dX11_stands_28 rfl ?_
      refine a_callV_V dX11_stands_29 lk_RX11_158 mt_Ro_playAsTold vt_Ro_playAsTold ⟨_, rfl, rfl⟩ (fun _ h => m_Ro_playAsTold h) rfl rfl h8 ⟨rfl, rfl, rfl⟩ (fun q9 => ?_)
      refine a_aload_n dX11_stands_32 rfl ?_
      refine a_getR dX11_stands_33 fl_RX11_26 rfl g0 (fun r10 h11 => ?_)
      refine a_iload_n dX11_stands_36 rfl ?_
      refine a_callV_I dX11_stands_37 lk_RX11_164 mt_Ro_standOf vt_Ro_standOf ⟨_, rfl, rfl⟩ (fun _ h => m_Ro_standOf h) rfl rfl h11 ⟨rfl, rfl, rfl⟩ (fun q12 => ?_)
      exact AW.ret dX11_stands_40 rfl rfl
    · skip
      exact AW.weak (Lw_no (Lw_no (Lw_no Lw_end))) (w_Ba_stands_22 _)
theorem m_Ba_stands {S : ba_S} {a0 : Nat} {a1 : Int32} {a2 : Int32} {m : ba_M} {q : Int32 × ba_M} (h : f_Ba_stands S a0 a1 a2 m = some q) : MA (Y_Ba_stands S) yX11_stands (some .int) [aR (some a0), aI a1, aI a2] S m q :=
  ba_met ⟨by decide +kernel, rfl⟩ rfl (fun h => by cases h) (Or.inl ⟨rfl, rfl, _, rfl⟩) rfl (h ▸ e_Ba_stands S a0 a1 a2 m)

abbrev Y_Ba_canBeHit (S : ba_S) : ba_Y (Bool × ba_M) := mZ cX11_canBeHit RX11 3 1 22 S
def f_Ba_canBeHit_45 (S : ba_S) (s0 : Bool) (m : ba_M) : Option (Bool × ba_M) :=
  (some (s0, m))
set_option maxRecDepth 100000 in
theorem w_Ba_canBeHit_45 {S : ba_S} : ∀ (s0 : Bool) (m : ba_M), AW (Y_Ba_canBeHit S) 45 [none, none, none] [aI (b2i s0)] S m (f_Ba_canBeHit_45 S s0 m) := by
  intro s0 m
  unfold f_Ba_canBeHit_45
  exact AW.ret dX11_canBeHit_45 rfl rfl
def f_Ba_canBeHit_44 (S : ba_S) (m : ba_M) : Option (Bool × ba_M) :=
  (f_Ba_canBeHit_45 S false m)
set_option maxRecDepth 100000 in
theorem w_Ba_canBeHit_44 {S : ba_S} : ∀ (m : ba_M), AW (Y_Ba_canBeHit S) 44 [none, none, none] [] S m (f_Ba_canBeHit_44 S m) := by
  intro m
  unfold f_Ba_canBeHit_44
  refine a_iconst (v := nI 0) dX11_canBeHit_44 (by decide) ?_
  exact AW.weak (Lw_no (Lw_no (Lw_no Lw_end))) (w_Ba_canBeHit_45 _ _)
def f_Ba_canBeHit (S : ba_S) (a0 : Nat) (a1 : Int32) (a2 : Int32) (m : ba_M) : Option (Bool × ba_M) :=
  cK S a0 10 ((ldR S a0 3 0 fun r1 => ((f_Ga_has S r1 a1 m).bind fun q3 => (if q3.1 = true then (ldR S a0 3 0 fun r4 => ((f_Ga_has S r4 a2 q3.2).bind fun q6 => (if q6.1 = true then (ldR S a0 3 0 fun r7 => ((f_Ga_who S r7 a1 q6.2).bind fun q9 => cK S q9.1 2 (ldR S q9.1 0 9 fun r11 => (if a2 = (gI q9.2 r11 0) then (f_Ba_canBeHit_44 S q9.2) else (f_Ba_canBeHit_45 S true q9.2))))) else (f_Ba_canBeHit_44 S q6.2)))) else (f_Ba_canBeHit_44 S q3.2)))))
set_option maxRecDepth 100000 in
theorem e_Ba_canBeHit (S : ba_S) (a0 : Nat) (a1 : Int32) (a2 : Int32) (m : ba_M) : AW (Y_Ba_canBeHit S) 0 [some (aR (some a0)), some (aI a1), some (aI a2)] [] S m (f_Ba_canBeHit S a0 a1 a2 m) := by
  unfold f_Ba_canBeHit
  refine AW.ck (fun g0 => ?_)
  refine a_aload_n dX11_canBeHit_0 rfl ?_
  refine a_getR dX11_canBeHit_1 fl_RX11_34 rfl g0 (fun r1 h2 => ?_)
  refine a_iload_n dX11_canBeHit_4 rfl ?_
  refine a_callV_Z dX11_canBeHit_5 lk_RX11_116 mt_Ga_has vt_Ga_has ⟨_, rfl, rfl⟩ (fun _ h => m_Ga_has h) rfl rfl h2 ⟨rfl, rfl, rfl⟩ (fun q3 => ?_)
  refine a_beq (tgt := 44) dX11_canBeHit_8 (by decide) (fun _ => ?_) (fun _ => ?_)
  · skip
    exact AW.weak (Lw_no (Lw_no (Lw_no Lw_end))) (w_Ba_canBeHit_44 _)
  · skip
    refine a_aload_n dX11_canBeHit_11 rfl ?_
    refine a_getR dX11_canBeHit_12 fl_RX11_34 rfl g0 (fun r4 h5 => ?_)
    refine a_iload_n dX11_canBeHit_15 rfl ?_
    refine a_callV_Z dX11_canBeHit_16 lk_RX11_116 mt_Ga_has vt_Ga_has ⟨_, rfl, rfl⟩ (fun _ h => m_Ga_has h) rfl rfl h5 ⟨rfl, rfl, rfl⟩ (fun q6 => ?_)
    refine a_beq (tgt := 44) dX11_canBeHit_19 (by decide) (fun _ => ?_) (fun _ => ?_)
    · skip
      exact AW.weak (Lw_no (Lw_no (Lw_no Lw_end))) (w_Ba_canBeHit_44 _)
    · skip
      refine a_iload_n dX11_canBeHit_22 rfl ?_
      refine a_aload_n dX11_canBeHit_23 rfl ?_
      refine a_getR dX11_canBeHit_24 fl_RX11_34 rfl g0 (fun r7 h8 => ?_)
      refine a_iload_n dX11_canBeHit_27 rfl ?_
      refine a_callV_R dX11_canBeHit_28 lk_RX11_119 mt_Ga_who vt_Ga_who ⟨_, rfl, rfl⟩ (fun _ h => m_Ga_who h) rfl rfl h8 ⟨rfl, rfl, rfl⟩ (fun q9 => ?_)
      refine AW.ck (fun h10 => ?_)
      refine a_getR dX11_canBeHit_31 fl_RX11_140 rfl h10 (fun r11 h12 => ?_)
      refine a_getI dX11_canBeHit_34 fl_RX11_149 rfl h12 ?_
      refine a_ieq (tgt := 44) dX11_canBeHit_37 (by decide) (fun _ => ?_) (fun _ => ?_)
      · skip
        exact AW.weak (Lw_no (Lw_no (Lw_no Lw_end))) (w_Ba_canBeHit_44 _)
      · skip
        refine a_iconst (v := nI 1) dX11_canBeHit_40 (by decide) ?_
        refine a_goto (tgt := 45) dX11_canBeHit_41 (by decide) ?_
        exact AW.weak (Lw_no (Lw_no (Lw_no Lw_end))) (w_Ba_canBeHit_45 _ _)
theorem m_Ba_canBeHit {S : ba_S} {a0 : Nat} {a1 : Int32} {a2 : Int32} {m : ba_M} {q : Bool × ba_M} (h : f_Ba_canBeHit S a0 a1 a2 m = some q) : MA (Y_Ba_canBeHit S) yX11_canBeHit (some .boolean) [aR (some a0), aI a1, aI a2] S m q :=
  ba_met ⟨by decide +kernel, rfl⟩ rfl (fun h => by cases h) (Or.inr (Or.inl ⟨rfl, rfl, _, rfl⟩)) rfl (h ▸ e_Ba_canBeHit S a0 a1 a2 m)

abbrev Y_Ba_chance (S : ba_S) : ba_Y (Int32 × ba_M) := mI cX11_chance RX11 3 5 117 S
def f_Ba_chance (S : ba_S) (a0 : Nat) (a1 : Int32) (a2 : Int32) (m : ba_M) : Option (Int32 × ba_M) :=
  cK S a0 10 (((f_Ba_canBeHit S a0 a1 a2 m).bind fun q1 => (if q1.1 = true then (ldR S a0 2 4 fun r2 => ((f_Ro_playAsTold S r2 a1 q1.2).bind fun q4 => (ldR S a0 2 4 fun r5 => ((f_Ro_chanceOf S r5 a2 q4).bind fun q7 => (some (q7.1, q7.2)))))) else (some ((-1 : Int32), q1.2)))))
set_option maxRecDepth 100000 in
theorem e_Ba_chance (S : ba_S) (a0 : Nat) (a1 : Int32) (a2 : Int32) (m : ba_M) : AW (Y_Ba_chance S) 0 [some (aR (some a0)), some (aI a1), some (aI a2)] [] S m (f_Ba_chance S a0 a1 a2 m) := by
  unfold f_Ba_chance
  refine AW.ck (fun g0 => ?_)
  refine a_aload_n dX11_chance_0 rfl ?_
  refine a_iload_n dX11_chance_1 rfl ?_
  refine a_iload_n dX11_chance_2 rfl ?_
  refine a_callV_Z dX11_chance_3 lk_RX11_168 mt_Ba_canBeHit vt_Ba_canBeHit ⟨_, rfl, rfl⟩ (fun _ h => m_Ba_canBeHit h) rfl rfl g0 ⟨rfl, rfl, rfl⟩ (fun q1 => ?_)
  refine a_bne (tgt := 11) dX11_chance_6 (by decide) (fun _ => ?_) (fun _ => ?_)
  · skip
    refine a_aload_n dX11_chance_11 rfl ?_
    refine a_getR dX11_chance_12 fl_RX11_26 rfl g0 (fun r2 h3 => ?_)
    refine a_iload_n dX11_chance_15 rfl ?_
    refine a_callV_V dX11_chance_16 lk_RX11_158 mt_Ro_playAsTold vt_Ro_playAsTold ⟨_, rfl, rfl⟩ (fun _ h => m_Ro_playAsTold h) rfl rfl h3 ⟨rfl, rfl, rfl⟩ (fun q4 => ?_)
    refine a_aload_n dX11_chance_19 rfl ?_
    refine a_getR dX11_chance_20 fl_RX11_26 rfl g0 (fun r5 h6 => ?_)
    refine a_iload_n dX11_chance_23 rfl ?_
    refine a_callV_I dX11_chance_24 lk_RX11_172 mt_Ro_chanceOf vt_Ro_chanceOf ⟨_, rfl, rfl⟩ (fun _ h => m_Ro_chanceOf h) rfl rfl h6 ⟨rfl, rfl, rfl⟩ (fun q7 => ?_)
    exact AW.ret dX11_chance_27 rfl rfl
  · skip
    refine a_iconst (v := -1) dX11_chance_9 (by decide) ?_
    exact AW.ret dX11_chance_10 rfl rfl
theorem m_Ba_chance {S : ba_S} {a0 : Nat} {a1 : Int32} {a2 : Int32} {m : ba_M} {q : Int32 × ba_M} (h : f_Ba_chance S a0 a1 a2 m = some q) : MA (Y_Ba_chance S) yX11_chance (some .int) [aR (some a0), aI a1, aI a2] S m q :=
  ba_met ⟨by decide +kernel, rfl⟩ rfl (fun h => by cases h) (Or.inl ⟨rfl, rfl, _, rfl⟩) rfl (h ▸ e_Ba_chance S a0 a1 a2 m)

abbrev Y_Ba_thrown (S : ba_S) : ba_Y (Int32 × ba_M) := mI cX11_thrown RX11 4 5 117 S
def f_Ba_thrown_20 (S : ba_S) (m : ba_M) : Option (Int32 × ba_M) :=
  (some ((-1 : Int32), m))
set_option maxRecDepth 100000 in
theorem w_Ba_thrown_20 {S : ba_S} : ∀ (m : ba_M), AW (Y_Ba_thrown S) 20 [none, none, none, none] [] S m (f_Ba_thrown_20 S m) := by
  intro m
  unfold f_Ba_thrown_20
  refine a_iconst (v := -1) dX11_thrown_20 (by decide) ?_
  exact AW.ret dX11_thrown_21 rfl rfl
def f_Ba_thrown_54 (S : ba_S) (s0 : Int32) (m : ba_M) : Option (Int32 × ba_M) :=
  (some (s0, m))
set_option maxRecDepth 100000 in
theorem w_Ba_thrown_54 {S : ba_S} : ∀ (s0 : Int32) (m : ba_M), AW (Y_Ba_thrown S) 54 [none, none, none, none] [aI s0] S m (f_Ba_thrown_54 S s0 m) := by
  intro s0 m
  unfold f_Ba_thrown_54
  exact AW.ret dX11_thrown_54 rfl rfl
def f_Ba_thrown (S : ba_S) (a0 : Nat) (a1 : Int32) (a2 : Int32) (m : ba_M) : Option (Int32 × ba_M) :=
  cK S a0 10 ((ldR S a0 3 0 fun r1 => ((f_Ga_has S r1 a1 m).bind fun q3 => (if q3.1 = true then ((f_Ba_within S a2 (nI 0) (nI 1) q3.2).bind fun q4 => (if q4.1 = true then (ldR S a0 2 4 fun r5 => ((f_Ro_playAsTold S r5 a1 q4.2).bind fun q7 => (ldR S a0 2 4 fun r8 => ((f_Ro_target S r8 q7).bind fun q10 => (if a2 = 0 then (f_Ba_thrown_54 S q10.1 q10.2) else (ldR S a0 2 4 fun r11 => ((f_Ro_chanceOf S r11 q10.1 q10.2).bind fun q13 => (f_Ba_thrown_54 S q13.1 q13.2)))))))) else (f_Ba_thrown_20 S q4.2))) else (f_Ba_thrown_20 S q3.2)))))
set_option maxRecDepth 100000 in
theorem e_Ba_thrown (S : ba_S) (a0 : Nat) (a1 : Int32) (a2 : Int32) (m : ba_M) : AW (Y_Ba_thrown S) 0 [some (aR (some a0)), some (aI a1), some (aI a2), none] [] S m (f_Ba_thrown S a0 a1 a2 m) := by
  unfold f_Ba_thrown
  refine AW.ck (fun g0 => ?_)
  refine a_aload_n dX11_thrown_0 rfl ?_
  refine a_getR dX11_thrown_1 fl_RX11_34 rfl g0 (fun r1 h2 => ?_)
  refine a_iload_n dX11_thrown_4 rfl ?_
  refine a_callV_Z dX11_thrown_5 lk_RX11_116 mt_Ga_has vt_Ga_has ⟨_, rfl, rfl⟩ (fun _ h => m_Ga_has h) rfl rfl h2 ⟨rfl, rfl, rfl⟩ (fun q3 => ?_)
  refine a_beq (tgt := 20) dX11_thrown_8 (by decide) (fun _ => ?_) (fun _ => ?_)
  · skip
    exact AW.weak (Lw_no (Lw_no (Lw_no (Lw_no Lw_end)))) (w_Ba_thrown_20 _)
  · skip
    refine a_iload_n dX11_thrown_11 rfl ?_
    refine a_iconst (v := nI 0) dX11_thrown_12 (by decide) ?_
    refine a_iconst (v := nI 1) dX11_thrown_13 (by decide) ?_
    refine a_callS_Z dX11_thrown_14 lk_RX11_81 mt_Ba_within sv_Ba_within (fun _ h => m_Ba_within h) rfl rfl ⟨rfl, rfl, rfl⟩ (fun q4 => ?_)
    refine a_bne (tgt := 22) dX11_thrown_17 (by decide) (fun _ => ?_) (fun _ => ?_)
    · skip
      refine a_aload_n dX11_thrown_22 rfl ?_
      refine a_getR dX11_thrown_23 fl_RX11_26 rfl g0 (fun r5 h6 => ?_)
      refine a_iload_n dX11_thrown_26 rfl ?_
      refine a_callV_V dX11_thrown_27 lk_RX11_158 mt_Ro_playAsTold vt_Ro_playAsTold ⟨_, rfl, rfl⟩ (fun _ h => m_Ro_playAsTold h) rfl rfl h6 ⟨rfl, rfl, rfl⟩ (fun q7 => ?_)
      refine a_aload_n dX11_thrown_30 rfl ?_
      refine a_getR dX11_thrown_31 fl_RX11_26 rfl g0 (fun r8 h9 => ?_)
      refine a_callV_I dX11_thrown_34 lk_RX11_175 mt_Ro_target vt_Ro_target ⟨_, rfl, rfl⟩ (fun _ h => m_Ro_target h) rfl rfl h9 ⟨rfl, rfl, rfl⟩ (fun q10 => ?_)
      refine a_istore_n dX11_thrown_37 rfl rfl ?_
      refine a_iload_n dX11_thrown_38 rfl ?_
      refine a_zne (tgt := 46) dX11_thrown_39 (by decide) (fun _ => ?_) (fun _ => ?_)
      · skip
        refine a_aload_n dX11_thrown_46 rfl ?_
        refine a_getR dX11_thrown_47 fl_RX11_26 rfl g0 (fun r11 h12 => ?_)
        refine a_iload_n dX11_thrown_50 rfl ?_
        refine a_callV_I dX11_thrown_51 lk_RX11_172 mt_Ro_chanceOf vt_Ro_chanceOf ⟨_, rfl, rfl⟩ (fun _ h => m_Ro_chanceOf h) rfl rfl h12 ⟨rfl, rfl, rfl⟩ (fun q13 => ?_)
        exact AW.weak (Lw_no (Lw_no (Lw_no (Lw_no Lw_end)))) (w_Ba_thrown_54 _ _)
      · skip
        refine a_iload_n dX11_thrown_42 rfl ?_
        refine a_goto (tgt := 54) dX11_thrown_43 (by decide) ?_
        exact AW.weak (Lw_no (Lw_no (Lw_no (Lw_no Lw_end)))) (w_Ba_thrown_54 _ _)
    · skip
      exact AW.weak (Lw_no (Lw_no (Lw_no (Lw_no Lw_end)))) (w_Ba_thrown_20 _)
theorem m_Ba_thrown {S : ba_S} {a0 : Nat} {a1 : Int32} {a2 : Int32} {m : ba_M} {q : Int32 × ba_M} (h : f_Ba_thrown S a0 a1 a2 m = some q) : MA (Y_Ba_thrown S) yX11_thrown (some .int) [aR (some a0), aI a1, aI a2] S m q :=
  ba_met ⟨by decide +kernel, rfl⟩ rfl (fun h => by cases h) (Or.inl ⟨rfl, rfl, _, rfl⟩) rfl (h ▸ e_Ba_thrown S a0 a1 a2 m)

abbrev Y_Ba_hidden (S : ba_S) : ba_Y (Int32 × ba_M) := mI cX11_hidden RX11 3 5 117 S
def f_Ba_hidden (S : ba_S) (a0 : Nat) (a1 : Int32) (a2 : Int32) (m : ba_M) : Option (Int32 × ba_M) :=
  cK S a0 10 (((f_Ba_canBeHit S a0 a1 a2 m).bind fun q1 => (if q1.1 = true then (ldR S a0 2 4 fun r2 => ((f_Ro_playAsTold S r2 a1 q1.2).bind fun q4 => (ldR S a0 2 4 fun r5 => ((f_Ro_hiderOf S r5 a2 q4).bind fun q7 => (some (q7.1, q7.2)))))) else (some ((-1 : Int32), q1.2)))))
set_option maxRecDepth 100000 in
theorem e_Ba_hidden (S : ba_S) (a0 : Nat) (a1 : Int32) (a2 : Int32) (m : ba_M) : AW (Y_Ba_hidden S) 0 [some (aR (some a0)), some (aI a1), some (aI a2)] [] S m (f_Ba_hidden S a0 a1 a2 m) := by
  unfold f_Ba_hidden
  refine AW.ck (fun g0 => ?_)
  refine a_aload_n dX11_hidden_0 rfl ?_
  refine a_iload_n dX11_hidden_1 rfl ?_
  refine a_iload_n dX11_hidden_2 rfl ?_
  refine a_callV_Z dX11_hidden_3 lk_RX11_168 mt_Ba_canBeHit vt_Ba_canBeHit ⟨_, rfl, rfl⟩ (fun _ h => m_Ba_canBeHit h) rfl rfl g0 ⟨rfl, rfl, rfl⟩ (fun q1 => ?_)
  refine a_bne (tgt := 11) dX11_hidden_6 (by decide) (fun _ => ?_) (fun _ => ?_)
  · skip
    refine a_aload_n dX11_hidden_11 rfl ?_
    refine a_getR dX11_hidden_12 fl_RX11_26 rfl g0 (fun r2 h3 => ?_)
    refine a_iload_n dX11_hidden_15 rfl ?_
    refine a_callV_V dX11_hidden_16 lk_RX11_158 mt_Ro_playAsTold vt_Ro_playAsTold ⟨_, rfl, rfl⟩ (fun _ h => m_Ro_playAsTold h) rfl rfl h3 ⟨rfl, rfl, rfl⟩ (fun q4 => ?_)
    refine a_aload_n dX11_hidden_19 rfl ?_
    refine a_getR dX11_hidden_20 fl_RX11_26 rfl g0 (fun r5 h6 => ?_)
    refine a_iload_n dX11_hidden_23 rfl ?_
    refine a_callV_I dX11_hidden_24 lk_RX11_178 mt_Ro_hiderOf vt_Ro_hiderOf ⟨_, rfl, rfl⟩ (fun _ h => m_Ro_hiderOf h) rfl rfl h6 ⟨rfl, rfl, rfl⟩ (fun q7 => ?_)
    exact AW.ret dX11_hidden_27 rfl rfl
  · skip
    refine a_iconst (v := -1) dX11_hidden_9 (by decide) ?_
    exact AW.ret dX11_hidden_10 rfl rfl
theorem m_Ba_hidden {S : ba_S} {a0 : Nat} {a1 : Int32} {a2 : Int32} {m : ba_M} {q : Int32 × ba_M} (h : f_Ba_hidden S a0 a1 a2 m = some q) : MA (Y_Ba_hidden S) yX11_hidden (some .int) [aR (some a0), aI a1, aI a2] S m q :=
  ba_met ⟨by decide +kernel, rfl⟩ rfl (fun h => by cases h) (Or.inl ⟨rfl, rfl, _, rfl⟩) rfl (h ▸ e_Ba_hidden S a0 a1 a2 m)

abbrev Y_Ba_safe (S : ba_S) : ba_Y (Int32 × ba_M) := mI cX11_safe RX11 3 6 152 S
def f_Ba_safe_20 (S : ba_S) (m : ba_M) : Option (Int32 × ba_M) :=
  (some ((-1 : Int32), m))
set_option maxRecDepth 100000 in
theorem w_Ba_safe_20 {S : ba_S} : ∀ (m : ba_M), AW (Y_Ba_safe S) 20 [none, none, none] [] S m (f_Ba_safe_20 S m) := by
  intro m
  unfold f_Ba_safe_20
  refine a_iconst (v := -1) dX11_safe_20 (by decide) ?_
  exact AW.ret dX11_safe_21 rfl rfl
def f_Ba_safe (S : ba_S) (a0 : Nat) (a1 : Int32) (a2 : Int32) (m : ba_M) : Option (Int32 × ba_M) :=
  cK S a0 10 ((ldR S a0 3 0 fun r1 => ((f_Ga_has S r1 a1 m).bind fun q3 => (if q3.1 = true then ((f_Ba_within S a2 (nI 0) (nI 3) q3.2).bind fun q4 => (if q4.1 = true then (ldR S a0 5 5 fun r5 => (ldR S a0 2 4 fun r7 => ((f_Sc_search S r5 r7 a1 q4.2).bind fun q9 => (ldR S a0 5 5 fun r10 => (if (gI q9 r10 0) = 0 then (some ((-4 : Int32), q9)) else (if a2 = 0 then (ldR S a0 5 5 fun r13 => (some ((gI q9 r13 1), q9))) else (if a2 = 1 then (ldR S a0 5 5 fun r16 => (some ((gI q9 r16 2), q9))) else (if a2 = 2 then (ldR S a0 5 5 fun r19 => (some ((gI q9 r19 3), q9))) else (ldR S a0 5 5 fun r21 => (some ((gI q9 r21 4), q9))))))))))) else (f_Ba_safe_20 S q4.2))) else (f_Ba_safe_20 S q3.2)))))
set_option maxRecDepth 100000 in
theorem e_Ba_safe (S : ba_S) (a0 : Nat) (a1 : Int32) (a2 : Int32) (m : ba_M) : AW (Y_Ba_safe S) 0 [some (aR (some a0)), some (aI a1), some (aI a2)] [] S m (f_Ba_safe S a0 a1 a2 m) := by
  unfold f_Ba_safe
  refine AW.ck (fun g0 => ?_)
  refine a_aload_n dX11_safe_0 rfl ?_
  refine a_getR dX11_safe_1 fl_RX11_34 rfl g0 (fun r1 h2 => ?_)
  refine a_iload_n dX11_safe_4 rfl ?_
  refine a_callV_Z dX11_safe_5 lk_RX11_116 mt_Ga_has vt_Ga_has ⟨_, rfl, rfl⟩ (fun _ h => m_Ga_has h) rfl rfl h2 ⟨rfl, rfl, rfl⟩ (fun q3 => ?_)
  refine a_beq (tgt := 20) dX11_safe_8 (by decide) (fun _ => ?_) (fun _ => ?_)
  · skip
    exact AW.weak (Lw_no (Lw_no (Lw_no Lw_end))) (w_Ba_safe_20 _)
  · skip
    refine a_iload_n dX11_safe_11 rfl ?_
    refine a_iconst (v := nI 0) dX11_safe_12 (by decide) ?_
    refine a_iconst (v := nI 3) dX11_safe_13 (by decide) ?_
    refine a_callS_Z dX11_safe_14 lk_RX11_81 mt_Ba_within sv_Ba_within (fun _ h => m_Ba_within h) rfl rfl ⟨rfl, rfl, rfl⟩ (fun q4 => ?_)
    refine a_bne (tgt := 22) dX11_safe_17 (by decide) (fun _ => ?_) (fun _ => ?_)
    · skip
      refine a_aload_n dX11_safe_22 rfl ?_
      refine a_getR dX11_safe_23 fl_RX11_44 rfl g0 (fun r5 h6 => ?_)
      refine a_aload_n dX11_safe_26 rfl ?_
      refine a_getR dX11_safe_27 fl_RX11_26 rfl g0 (fun r7 h8 => ?_)
      refine a_iload_n dX11_safe_30 rfl ?_
      refine a_callV_V dX11_safe_31 lk_RX11_181 mt_Sc_search vt_Sc_search ⟨_, rfl, rfl⟩ (fun _ h => m_Sc_search h) rfl rfl h6 ⟨rfl, rfl, rfl⟩ (fun q9 => ?_)
      refine a_aload_n dX11_safe_34 rfl ?_
      refine a_getR dX11_safe_35 fl_RX11_44 rfl g0 (fun r10 h11 => ?_)
      refine a_getI dX11_safe_38 fl_RX11_185 rfl h11 ?_
      refine a_zne (tgt := 47) dX11_safe_41 (by decide) (fun _ => ?_) (fun _ => ?_)
      · skip
        refine a_iload_n dX11_safe_47 rfl ?_
        refine AW.if (fun c12 => ?_) (fun c12 => ?_)
        · refine a_tabIn (tgt := 76) dX11_safe_48 (by rw [c12]; decide) (by rw [c12]; decide) (by rw [c12]; rfl) (by decide) ?_
          refine a_aload_n dX11_safe_76 rfl ?_
          refine a_getR dX11_safe_77 fl_RX11_44 rfl g0 (fun r13 h14 => ?_)
          refine a_getI dX11_safe_80 fl_RX11_189 rfl h14 ?_
          exact AW.ret dX11_safe_83 rfl rfl
        refine AW.if (fun c15 => ?_) (fun c15 => ?_)
        · refine a_tabIn (tgt := 84) dX11_safe_48 (by rw [c15]; decide) (by rw [c15]; decide) (by rw [c15]; rfl) (by decide) ?_
          refine a_aload_n dX11_safe_84 rfl ?_
          refine a_getR dX11_safe_85 fl_RX11_44 rfl g0 (fun r16 h17 => ?_)
          refine a_getI dX11_safe_88 fl_RX11_190 rfl h17 ?_
          exact AW.ret dX11_safe_91 rfl rfl
        refine AW.if (fun c18 => ?_) (fun c18 => ?_)
        · refine a_tabIn (tgt := 92) dX11_safe_48 (by rw [c18]; decide) (by rw [c18]; decide) (by rw [c18]; rfl) (by decide) ?_
          refine a_aload_n dX11_safe_92 rfl ?_
          refine a_getR dX11_safe_93 fl_RX11_44 rfl g0 (fun r19 h20 => ?_)
          refine a_getI dX11_safe_96 fl_RX11_191 rfl h20 ?_
          exact AW.ret dX11_safe_99 rfl rfl
        refine a_tabOut (tgt := 100) dX11_safe_48 (by have uc12 : ¬ Int32.toInt (a2) = 0 := lv_neT c12 rfl; have uc15 : ¬ Int32.toInt (a2) = 1 := lv_neT c15 rfl; have uc18 : ¬ Int32.toInt (a2) = 2 := lv_neT c18 rfl; omega) (by decide) ?_
        refine a_aload_n dX11_safe_100 rfl ?_
        refine a_getR dX11_safe_101 fl_RX11_44 rfl g0 (fun r21 h22 => ?_)
        refine a_getI dX11_safe_104 fl_RX11_192 rfl h22 ?_
        exact AW.ret dX11_safe_107 rfl rfl
      · skip
        refine a_bipush (v := -4) dX11_safe_44 (by decide) ?_
        exact AW.ret dX11_safe_46 rfl rfl
    · skip
      exact AW.weak (Lw_no (Lw_no (Lw_no Lw_end))) (w_Ba_safe_20 _)
theorem m_Ba_safe {S : ba_S} {a0 : Nat} {a1 : Int32} {a2 : Int32} {m : ba_M} {q : Int32 × ba_M} (h : f_Ba_safe S a0 a1 a2 m = some q) : MA (Y_Ba_safe S) yX11_safe (some .int) [aR (some a0), aI a1, aI a2] S m q :=
  ba_met ⟨by decide +kernel, rfl⟩ rfl (fun h => by cases h) (Or.inl ⟨rfl, rfl, _, rfl⟩) rfl (h ▸ e_Ba_safe S a0 a1 a2 m)

abbrev Y_Ba_run (S : ba_S) : ba_Y (Int32 × ba_M) := mI cX11_run RX11 8 5 117 S
def f_Ba_run_18 (S : ba_S) (m : ba_M) : Option (Int32 × ba_M) :=
  (some ((-1 : Int32), m))
set_option maxRecDepth 100000 in
theorem w_Ba_run_18 {S : ba_S} : ∀ (m : ba_M), AW (Y_Ba_run S) 18 [none, none, none, none, none, none, none, none] [] S m (f_Ba_run_18 S m) := by
  intro m
  unfold f_Ba_run_18
  refine a_iconst (v := -1) dX11_run_18 (by decide) ?_
  exact AW.ret dX11_run_19 rfl rfl
def f_Ba_run_111 (S : ba_S) (s0 : Int32) (m : ba_M) : Option (Int32 × ba_M) :=
  (some (s0, m))
set_option maxRecDepth 100000 in
theorem w_Ba_run_111 {S : ba_S} : ∀ (s0 : Int32) (m : ba_M), AW (Y_Ba_run S) 111 [none, none, none, none, none, none, none, none] [aI s0] S m (f_Ba_run_111 S s0 m) := by
  intro s0 m
  unfold f_Ba_run_111
  exact AW.ret dX11_run_111 rfl rfl
def f_Ba_run_94 (S : ba_S) (k38 : Nat → Int32 → Int32 → Int32 → Int32 → Int32 → ba_M → Option (Int32 × ba_M)) (v0 : Nat) (v2 : Int32) (v3 : Int32) (v4 : Int32) (v5 : Int32) (v6 : Int32) (m : ba_M) : Option (Int32 × ba_M) :=
  (k38 v0 v2 v3 v4 v5 (v6 + (nI 1)) m)
set_option maxRecDepth 100000 in
theorem w_Ba_run_94 {S : ba_S} {k38 : Nat → Int32 → Int32 → Int32 → Int32 → Int32 → ba_M → Option (Int32 × ba_M)} (hk38 : ∀ (v0 : Nat) (v2 : Int32) (v3 : Int32) (v4 : Int32) (v5 : Int32) (v6 : Int32) (m : ba_M), ck S v0 10 = true → AW (Y_Ba_run S) 38 [some (aR (some v0)), none, some (aI v2), some (aI v3), some (aI v4), some (aI v5), some (aI v6), none] [] S m (k38 v0 v2 v3 v4 v5 v6 m)) : ∀ (v0 : Nat) (v2 : Int32) (v3 : Int32) (v4 : Int32) (v5 : Int32) (v6 : Int32) (m : ba_M), ck S v0 10 = true → AW (Y_Ba_run S) 94 [some (aR (some v0)), none, some (aI v2), some (aI v3), some (aI v4), some (aI v5), some (aI v6), none] [] S m (f_Ba_run_94 S k38 v0 v2 v3 v4 v5 v6 m) := by
  intro v0 v2 v3 v4 v5 v6 m g0
  unfold f_Ba_run_94
  refine a_iinc (v := nI 1) dX11_run_94 rfl (by decide) rfl rfl ?_
  refine a_goto (tgt := 38) dX11_run_97 (by decide) ?_
  exact AW.weak (Lw_so rfl (Lw_no (Lw_so rfl (Lw_so rfl (Lw_so rfl (Lw_so rfl (Lw_so rfl (Lw_no Lw_end)))))))) (hk38 _ _ _ _ _ _ _ g0)
def f_Ba_run_77 (S : ba_S) (k38 : Nat → Int32 → Int32 → Int32 → Int32 → Int32 → ba_M → Option (Int32 × ba_M)) (v0 : Nat) (v2 : Int32) (v3 : Int32) (v4 : Int32) (v5 : Int32) (v6 : Int32) (s0 : Int32) (m : ba_M) : Option (Int32 × ba_M) :=
  (if v5 ≤ s0 then (f_Ba_run_94 S k38 v0 v2 v3 v4 v5 v6 m) else (f_Ba_run_94 S k38 v0 v2 v3 v6 s0 v6 m))
set_option maxRecDepth 100000 in
theorem w_Ba_run_77 {S : ba_S} {k38 : Nat → Int32 → Int32 → Int32 → Int32 → Int32 → ba_M → Option (Int32 × ba_M)} (hk38 : ∀ (v0 : Nat) (v2 : Int32) (v3 : Int32) (v4 : Int32) (v5 : Int32) (v6 : Int32) (m : ba_M), ck S v0 10 = true → AW (Y_Ba_run S) 38 [some (aR (some v0)), none, some (aI v2), some (aI v3), some (aI v4), some (aI v5), some (aI v6), none] [] S m (k38 v0 v2 v3 v4 v5 v6 m)) : ∀ (v0 : Nat) (v2 : Int32) (v3 : Int32) (v4 : Int32) (v5 : Int32) (v6 : Int32) (s0 : Int32) (m : ba_M), ck S v0 10 = true → AW (Y_Ba_run S) 77 [some (aR (some v0)), none, some (aI v2), some (aI v3), some (aI v4), some (aI v5), some (aI v6), none] [aI s0] S m (f_Ba_run_77 S k38 v0 v2 v3 v4 v5 v6 s0 m) := by
  intro v0 v2 v3 v4 v5 v6 s0 m g0
  unfold f_Ba_run_77
  refine a_istore dX11_run_77 rfl rfl ?_
  refine a_iload dX11_run_79 rfl ?_
  refine a_iload dX11_run_81 rfl ?_
  refine a_ige (tgt := 94) dX11_run_83 (by decide) (fun _ => ?_) (fun _ => ?_)
  · skip
    exact AW.weak (Lw_so rfl (Lw_no (Lw_so rfl (Lw_so rfl (Lw_so rfl (Lw_so rfl (Lw_so rfl (Lw_no Lw_end)))))))) (w_Ba_run_94 hk38 _ _ _ _ _ _ _ g0)
  · skip
    refine a_iload dX11_run_86 rfl ?_
    refine a_istore dX11_run_88 rfl rfl ?_
    refine a_iload dX11_run_90 rfl ?_
    refine a_istore dX11_run_92 rfl rfl ?_
    exact AW.weak (Lw_so rfl (Lw_no (Lw_so rfl (Lw_so rfl (Lw_so rfl (Lw_so rfl (Lw_so rfl (Lw_no Lw_end)))))))) (w_Ba_run_94 hk38 _ _ _ _ _ _ _ g0)
def b_Ba_run_38 (S : ba_S) (k38 : Nat → Int32 → Int32 → Int32 → Int32 → Int32 → ba_M → Option (Int32 × ba_M)) (v0 : Nat) (v2 : Int32) (v3 : Int32) (v4 : Int32) (v5 : Int32) (v6 : Int32) (m : ba_M) : Option (Int32 × ba_M) :=
  (if (nI 4) ≤ v6 then (if v3 = 0 then (f_Ba_run_111 S v4 m) else (f_Ba_run_111 S v5 m)) else (ldR S v0 2 4 fun r1 => ((f_Ro_suppose S r1 v2 v6 m).bind fun q3 => (ldR S v0 2 4 fun r4 => ((f_Ro_target S r4 q3).bind fun q6 => (if q6.1 = v2 then (ldR S v0 2 4 fun r7 => ((f_Ro_chanceOf S r7 v2 q6.2).bind fun q9 => (f_Ba_run_77 S k38 v0 v2 v3 v4 v5 v6 q9.1 q9.2))) else (f_Ba_run_77 S k38 v0 v2 v3 v4 v5 v6 (nI 0) q6.2)))))))
set_option maxRecDepth 100000 in
theorem w_Ba_run_38 {S : ba_S} {k38 : Nat → Int32 → Int32 → Int32 → Int32 → Int32 → ba_M → Option (Int32 × ba_M)} (hk38 : ∀ (v0 : Nat) (v2 : Int32) (v3 : Int32) (v4 : Int32) (v5 : Int32) (v6 : Int32) (m : ba_M), ck S v0 10 = true → AW (Y_Ba_run S) 38 [some (aR (some v0)), none, some (aI v2), some (aI v3), some (aI v4), some (aI v5), some (aI v6), none] [] S m (k38 v0 v2 v3 v4 v5 v6 m)) : ∀ (v0 : Nat) (v2 : Int32) (v3 : Int32) (v4 : Int32) (v5 : Int32) (v6 : Int32) (m : ba_M), ck S v0 10 = true → AW (Y_Ba_run S) 38 [some (aR (some v0)), none, some (aI v2), some (aI v3), some (aI v4), some (aI v5), some (aI v6), none] [] S m (b_Ba_run_38 S k38 v0 v2 v3 v4 v5 v6 m) := by
  intro v0 v2 v3 v4 v5 v6 m g0
  unfold b_Ba_run_38
  refine a_iload dX11_run_38 rfl ?_
  refine a_iconst (v := nI 4) dX11_run_40 (by decide) ?_
  refine a_ige (tgt := 100) dX11_run_41 (by decide) (fun _ => ?_) (fun _ => ?_)
  · skip
    refine a_iload_n dX11_run_100 rfl ?_
    refine a_zne (tgt := 109) dX11_run_101 (by decide) (fun _ => ?_) (fun _ => ?_)
    · skip
      refine a_iload dX11_run_109 rfl ?_
      exact AW.weak (Lw_no (Lw_no (Lw_no (Lw_no (Lw_no (Lw_no (Lw_no (Lw_no Lw_end)))))))) (w_Ba_run_111 _ _)
    · skip
      refine a_iload dX11_run_104 rfl ?_
      refine a_goto (tgt := 111) dX11_run_106 (by decide) ?_
      exact AW.weak (Lw_no (Lw_no (Lw_no (Lw_no (Lw_no (Lw_no (Lw_no (Lw_no Lw_end)))))))) (w_Ba_run_111 _ _)
  · skip
    refine a_aload_n dX11_run_44 rfl ?_
    refine a_getR dX11_run_45 fl_RX11_26 rfl g0 (fun r1 h2 => ?_)
    refine a_iload_n dX11_run_48 rfl ?_
    refine a_iload dX11_run_49 rfl ?_
    refine a_callV_V dX11_run_51 lk_RX11_195 mt_Ro_suppose vt_Ro_suppose ⟨_, rfl, rfl⟩ (fun _ h => m_Ro_suppose h) rfl rfl h2 ⟨rfl, rfl, rfl⟩ (fun q3 => ?_)
    refine a_aload_n dX11_run_54 rfl ?_
    refine a_getR dX11_run_55 fl_RX11_26 rfl g0 (fun r4 h5 => ?_)
    refine a_callV_I dX11_run_58 lk_RX11_175 mt_Ro_target vt_Ro_target ⟨_, rfl, rfl⟩ (fun _ h => m_Ro_target h) rfl rfl h5 ⟨rfl, rfl, rfl⟩ (fun q6 => ?_)
    refine a_iload_n dX11_run_61 rfl ?_
    refine a_ine (tgt := 76) dX11_run_62 (by decide) (fun _ => ?_) (fun _ => ?_)
    · skip
      refine a_iconst (v := nI 0) dX11_run_76 (by decide) ?_
      exact AW.weak (Lw_so rfl (Lw_no (Lw_so rfl (Lw_so rfl (Lw_so rfl (Lw_so rfl (Lw_so rfl (Lw_no Lw_end)))))))) (w_Ba_run_77 hk38 _ _ _ _ _ _ _ _ g0)
    · skip
      refine a_aload_n dX11_run_65 rfl ?_
      refine a_getR dX11_run_66 fl_RX11_26 rfl g0 (fun r7 h8 => ?_)
      refine a_iload_n dX11_run_69 rfl ?_
      refine a_callV_I dX11_run_70 lk_RX11_172 mt_Ro_chanceOf vt_Ro_chanceOf ⟨_, rfl, rfl⟩ (fun _ h => m_Ro_chanceOf h) rfl rfl h8 ⟨rfl, rfl, rfl⟩ (fun q9 => ?_)
      refine a_goto (tgt := 77) dX11_run_73 (by decide) ?_
      exact AW.weak (Lw_so rfl (Lw_no (Lw_so rfl (Lw_so rfl (Lw_so rfl (Lw_so rfl (Lw_so rfl (Lw_no Lw_end)))))))) (w_Ba_run_77 hk38 _ _ _ _ _ _ _ _ g0)
def f_Ba_run_38 (S : ba_S) : Nat → Int32 → Int32 → Int32 → Int32 → Int32 → ba_M → Option (Int32 × ba_M) := fx (fun _ _ _ _ _ _ _ => none) (b_Ba_run_38 S) FU
theorem l_Ba_run_38 {S : ba_S} : ∀ (n : Nat) (v0 : Nat) (v2 : Int32) (v3 : Int32) (v4 : Int32) (v5 : Int32) (v6 : Int32) (m : ba_M), ck S v0 10 = true → AW (Y_Ba_run S) 38 [some (aR (some v0)), none, some (aI v2), some (aI v3), some (aI v4), some (aI v5), some (aI v6), none] [] S m ((fx (F := Nat → Int32 → Int32 → Int32 → Int32 → Int32 → ba_M → Option (Int32 × ba_M)) (fun _ _ _ _ _ _ _ => none) (b_Ba_run_38 S) n) v0 v2 v3 v4 v5 v6 m) := by
  intro n
  induction n with
  | zero => intro _ _ _ _ _ _ _ _; exact AW.none
  | succ n ih => exact w_Ba_run_38 ih
def f_Ba_run (S : ba_S) (a0 : Nat) (a1 : Int32) (a2 : Int32) (a3 : Int32) (m : ba_M) : Option (Int32 × ba_M) :=
  cK S a0 10 (((f_Ba_canBeHit S a0 a1 a2 m).bind fun q10 => (if q10.1 = true then ((f_Ba_within S a3 (nI 0) (nI 1) q10.2).bind fun q11 => (if q11.1 = true then (ldR S a0 2 4 fun r12 => ((f_Ro_playAsTold S r12 a1 q11.2).bind fun q14 => (f_Ba_run_38 S a0 a2 a3 (nI 0) (nI 11) (nI 0) q14))) else (f_Ba_run_18 S q11.2))) else (f_Ba_run_18 S q10.2))))
set_option maxRecDepth 100000 in
theorem e_Ba_run (S : ba_S) (a0 : Nat) (a1 : Int32) (a2 : Int32) (a3 : Int32) (m : ba_M) : AW (Y_Ba_run S) 0 [some (aR (some a0)), some (aI a1), some (aI a2), some (aI a3), none, none, none, none] [] S m (f_Ba_run S a0 a1 a2 a3 m) := by
  unfold f_Ba_run
  refine AW.ck (fun g0 => ?_)
  refine a_aload_n dX11_run_0 rfl ?_
  refine a_iload_n dX11_run_1 rfl ?_
  refine a_iload_n dX11_run_2 rfl ?_
  refine a_callV_Z dX11_run_3 lk_RX11_168 mt_Ba_canBeHit vt_Ba_canBeHit ⟨_, rfl, rfl⟩ (fun _ h => m_Ba_canBeHit h) rfl rfl g0 ⟨rfl, rfl, rfl⟩ (fun q10 => ?_)
  refine a_beq (tgt := 18) dX11_run_6 (by decide) (fun _ => ?_) (fun _ => ?_)
  · skip
    exact AW.weak (Lw_no (Lw_no (Lw_no (Lw_no (Lw_no (Lw_no (Lw_no (Lw_no Lw_end)))))))) (w_Ba_run_18 _)
  · skip
    refine a_iload_n dX11_run_9 rfl ?_
    refine a_iconst (v := nI 0) dX11_run_10 (by decide) ?_
    refine a_iconst (v := nI 1) dX11_run_11 (by decide) ?_
    refine a_callS_Z dX11_run_12 lk_RX11_81 mt_Ba_within sv_Ba_within (fun _ h => m_Ba_within h) rfl rfl ⟨rfl, rfl, rfl⟩ (fun q11 => ?_)
    refine a_bne (tgt := 20) dX11_run_15 (by decide) (fun _ => ?_) (fun _ => ?_)
    · skip
      refine a_aload_n dX11_run_20 rfl ?_
      refine a_getR dX11_run_21 fl_RX11_26 rfl g0 (fun r12 h13 => ?_)
      refine a_iload_n dX11_run_24 rfl ?_
      refine a_callV_V dX11_run_25 lk_RX11_158 mt_Ro_playAsTold vt_Ro_playAsTold ⟨_, rfl, rfl⟩ (fun _ h => m_Ro_playAsTold h) rfl rfl h13 ⟨rfl, rfl, rfl⟩ (fun q14 => ?_)
      refine a_iconst (v := nI 0) dX11_run_28 (by decide) ?_
      refine a_istore dX11_run_29 rfl rfl ?_
      refine a_bipush (v := nI 11) dX11_run_31 (by decide) ?_
      refine a_istore dX11_run_33 rfl rfl ?_
      refine a_iconst (v := nI 0) dX11_run_35 (by decide) ?_
      refine a_istore dX11_run_36 rfl rfl ?_
      exact AW.weak (Lw_so rfl (Lw_no (Lw_so rfl (Lw_so rfl (Lw_so rfl (Lw_so rfl (Lw_so rfl (Lw_no Lw_end)))))))) (l_Ba_run_38 FU _ _ _ _ _ _ _ g0)
    · skip
      exact AW.weak (Lw_no (Lw_no (Lw_no (Lw_no (Lw_no (Lw_no (Lw_no (Lw_no Lw_end)))))))) (w_Ba_run_18 _)
theorem m_Ba_run {S : ba_S} {a0 : Nat} {a1 : Int32} {a2 : Int32} {a3 : Int32} {m : ba_M} {q : Int32 × ba_M} (h : f_Ba_run S a0 a1 a2 a3 m = some q) : MA (Y_Ba_run S) yX11_run (some .int) [aR (some a0), aI a1, aI a2, aI a3] S m q :=
  ba_met ⟨by decide +kernel, rfl⟩ rfl (fun h => by cases h) (Or.inl ⟨rfl, rfl, _, rfl⟩) rfl (h ▸ e_Ba_run S a0 a1 a2 a3 m)

abbrev Y_Ba_inLowestTerms (S : ba_S) : ba_Y (Int64 × ba_M) := mJ cX11_inLowestTerms RX11 8 0 0 S
def f_Ba_inLowestTerms_103 (S : ba_S) (s0 : Int64) (m : ba_M) : Option (Int64 × ba_M) :=
  (some (s0, m))
set_option maxRecDepth 100000 in
theorem w_Ba_inLowestTerms_103 {S : ba_S} : ∀ (s0 : Int64) (m : ba_M), AW (Y_Ba_inLowestTerms S) 103 [none, none, none, none, none, none, none, none] [aJ s0] S m (f_Ba_inLowestTerms_103 S s0 m) := by
  intro s0 m
  unfold f_Ba_inLowestTerms_103
  exact AW.ret dX11_inLowestTerms_103 rfl rfl
def f_Ba_inLowestTerms_87 (S : ba_S) (k10 : Int32 → Int64 → Int64 → Int32 → ba_M → Option (Int64 × ba_M)) (v2 : Int32) (v3 : Int64) (v5 : Int64) (v7 : Int32) (m : ba_M) : Option (Int64 × ba_M) :=
  (k10 v2 v3 v5 (v7 + (nI 1)) m)
set_option maxRecDepth 100000 in
theorem w_Ba_inLowestTerms_87 {S : ba_S} {k10 : Int32 → Int64 → Int64 → Int32 → ba_M → Option (Int64 × ba_M)} (hk10 : ∀ (v2 : Int32) (v3 : Int64) (v5 : Int64) (v7 : Int32) (m : ba_M), AW (Y_Ba_inLowestTerms S) 10 [none, none, some (aI v2), some (aJ v3), none, some (aJ v5), none, some (aI v7)] [] S m (k10 v2 v3 v5 v7 m)) : ∀ (v2 : Int32) (v3 : Int64) (v5 : Int64) (v7 : Int32) (m : ba_M), AW (Y_Ba_inLowestTerms S) 87 [none, none, some (aI v2), some (aJ v3), none, some (aJ v5), none, some (aI v7)] [] S m (f_Ba_inLowestTerms_87 S k10 v2 v3 v5 v7 m) := by
  intro v2 v3 v5 v7 m
  unfold f_Ba_inLowestTerms_87
  refine a_iinc (v := nI 1) dX11_inLowestTerms_87 rfl (by decide) rfl rfl ?_
  refine a_goto (tgt := 10) dX11_inLowestTerms_90 (by decide) ?_
  exact AW.weak (Lw_no (Lw_no (Lw_so rfl (Lw_so rfl (Lw_no (Lw_so rfl (Lw_no (Lw_so rfl Lw_end)))))))) (hk10 _ _ _ _ _)
def f_Ba_inLowestTerms_52 (S : ba_S) (k10 : Int32 → Int64 → Int64 → Int32 → ba_M → Option (Int64 × ba_M)) (v2 : Int32) (v3 : Int64) (v5 : Int64) (v7 : Int32) (m : ba_M) : Option (Int64 × ba_M) :=
  (if (lN 5) = 0 then none else (if (lg_cmp (v3 - v3 / (lN 5) * (lN 5)) (lN 0)) = 0 then (if (lN 5) = 0 then none else (if (lg_cmp (v5 - v5 / (lN 5) * (lN 5)) (lN 0)) = 0 then (if (lN 5) = 0 then none else (if (lN 5) = 0 then none else (f_Ba_inLowestTerms_87 S k10 v2 (v3 / (lN 5)) (v5 / (lN 5)) v7 m))) else (f_Ba_inLowestTerms_87 S k10 v2 v3 v5 v7 m))) else (f_Ba_inLowestTerms_87 S k10 v2 v3 v5 v7 m)))
set_option maxRecDepth 100000 in
theorem w_Ba_inLowestTerms_52 {S : ba_S} {k10 : Int32 → Int64 → Int64 → Int32 → ba_M → Option (Int64 × ba_M)} (hk10 : ∀ (v2 : Int32) (v3 : Int64) (v5 : Int64) (v7 : Int32) (m : ba_M), AW (Y_Ba_inLowestTerms S) 10 [none, none, some (aI v2), some (aJ v3), none, some (aJ v5), none, some (aI v7)] [] S m (k10 v2 v3 v5 v7 m)) : ∀ (v2 : Int32) (v3 : Int64) (v5 : Int64) (v7 : Int32) (m : ba_M), AW (Y_Ba_inLowestTerms S) 52 [none, none, some (aI v2), some (aJ v3), none, some (aJ v5), none, some (aI v7)] [] S m (f_Ba_inLowestTerms_52 S k10 v2 v3 v5 v7 m) := by
  intro v2 v3 v5 v7 m
  unfold f_Ba_inLowestTerms_52
  refine a_lload_n dX11_inLowestTerms_52 rfl ?_
  refine a_ldc2 dX11_inLowestTerms_53 cl_RX11_266 ?_
  refine a_lrem dX11_inLowestTerms_56 ?_
  refine a_lconst (v := lN 0) dX11_inLowestTerms_57 (by decide) ?_
  refine a_lcmp dX11_inLowestTerms_58 ?_
  refine a_zne (tgt := 87) dX11_inLowestTerms_59 (by decide) (fun _ => ?_) (fun _ => ?_)
  · skip
    exact AW.weak (Lw_no (Lw_no (Lw_so rfl (Lw_so rfl (Lw_no (Lw_so rfl (Lw_no (Lw_so rfl Lw_end)))))))) (w_Ba_inLowestTerms_87 hk10 _ _ _ _ _)
  · skip
    refine a_lload dX11_inLowestTerms_62 rfl ?_
    refine a_ldc2 dX11_inLowestTerms_64 cl_RX11_266 ?_
    refine a_lrem dX11_inLowestTerms_67 ?_
    refine a_lconst (v := lN 0) dX11_inLowestTerms_68 (by decide) ?_
    refine a_lcmp dX11_inLowestTerms_69 ?_
    refine a_zne (tgt := 87) dX11_inLowestTerms_70 (by decide) (fun _ => ?_) (fun _ => ?_)
    · skip
      exact AW.weak (Lw_no (Lw_no (Lw_so rfl (Lw_so rfl (Lw_no (Lw_so rfl (Lw_no (Lw_so rfl Lw_end)))))))) (w_Ba_inLowestTerms_87 hk10 _ _ _ _ _)
    · skip
      refine a_lload_n dX11_inLowestTerms_73 rfl ?_
      refine a_ldc2 dX11_inLowestTerms_74 cl_RX11_266 ?_
      refine a_ldiv dX11_inLowestTerms_77 ?_
      refine a_lstore_n dX11_inLowestTerms_78 rfl rfl ?_
      refine a_lload dX11_inLowestTerms_79 rfl ?_
      refine a_ldc2 dX11_inLowestTerms_81 cl_RX11_266 ?_
      refine a_ldiv dX11_inLowestTerms_84 ?_
      refine a_lstore dX11_inLowestTerms_85 rfl rfl ?_
      exact AW.weak (Lw_no (Lw_no (Lw_so rfl (Lw_so rfl (Lw_no (Lw_so rfl (Lw_no (Lw_so rfl Lw_end)))))))) (w_Ba_inLowestTerms_87 hk10 _ _ _ _ _)
def b_Ba_inLowestTerms_10 (S : ba_S) (k10 : Int32 → Int64 → Int64 → Int32 → ba_M → Option (Int64 × ba_M)) (v2 : Int32) (v3 : Int64) (v5 : Int64) (v7 : Int32) (m : ba_M) : Option (Int64 × ba_M) :=
  (if (nI 16) ≤ v7 then (if v2 = 0 then (f_Ba_inLowestTerms_103 S v3 m) else (f_Ba_inLowestTerms_103 S v5 m)) else (if (lN 2) = 0 then none else (if (lg_cmp (v3 - v3 / (lN 2) * (lN 2)) (lN 0)) = 0 then (if (lN 2) = 0 then none else (if (lg_cmp (v5 - v5 / (lN 2) * (lN 2)) (lN 0)) = 0 then (if (lN 2) = 0 then none else (if (lN 2) = 0 then none else (f_Ba_inLowestTerms_52 S k10 v2 (v3 / (lN 2)) (v5 / (lN 2)) v7 m))) else (f_Ba_inLowestTerms_52 S k10 v2 v3 v5 v7 m))) else (f_Ba_inLowestTerms_52 S k10 v2 v3 v5 v7 m))))
set_option maxRecDepth 100000 in
theorem w_Ba_inLowestTerms_10 {S : ba_S} {k10 : Int32 → Int64 → Int64 → Int32 → ba_M → Option (Int64 × ba_M)} (hk10 : ∀ (v2 : Int32) (v3 : Int64) (v5 : Int64) (v7 : Int32) (m : ba_M), AW (Y_Ba_inLowestTerms S) 10 [none, none, some (aI v2), some (aJ v3), none, some (aJ v5), none, some (aI v7)] [] S m (k10 v2 v3 v5 v7 m)) : ∀ (v2 : Int32) (v3 : Int64) (v5 : Int64) (v7 : Int32) (m : ba_M), AW (Y_Ba_inLowestTerms S) 10 [none, none, some (aI v2), some (aJ v3), none, some (aJ v5), none, some (aI v7)] [] S m (b_Ba_inLowestTerms_10 S k10 v2 v3 v5 v7 m) := by
  intro v2 v3 v5 v7 m
  unfold b_Ba_inLowestTerms_10
  refine a_iload dX11_inLowestTerms_10 rfl ?_
  refine a_bipush (v := nI 16) dX11_inLowestTerms_12 (by decide) ?_
  refine a_ige (tgt := 93) dX11_inLowestTerms_14 (by decide) (fun _ => ?_) (fun _ => ?_)
  · skip
    refine a_iload_n dX11_inLowestTerms_93 rfl ?_
    refine a_zne (tgt := 101) dX11_inLowestTerms_94 (by decide) (fun _ => ?_) (fun _ => ?_)
    · skip
      refine a_lload dX11_inLowestTerms_101 rfl ?_
      exact AW.weak (Lw_no (Lw_no (Lw_no (Lw_no (Lw_no (Lw_no (Lw_no (Lw_no Lw_end)))))))) (w_Ba_inLowestTerms_103 _ _)
    · skip
      refine a_lload_n dX11_inLowestTerms_97 rfl ?_
      refine a_goto (tgt := 103) dX11_inLowestTerms_98 (by decide) ?_
      exact AW.weak (Lw_no (Lw_no (Lw_no (Lw_no (Lw_no (Lw_no (Lw_no (Lw_no Lw_end)))))))) (w_Ba_inLowestTerms_103 _ _)
  · skip
    refine a_lload_n dX11_inLowestTerms_17 rfl ?_
    refine a_ldc2 dX11_inLowestTerms_18 cl_RX11_264 ?_
    refine a_lrem dX11_inLowestTerms_21 ?_
    refine a_lconst (v := lN 0) dX11_inLowestTerms_22 (by decide) ?_
    refine a_lcmp dX11_inLowestTerms_23 ?_
    refine a_zne (tgt := 52) dX11_inLowestTerms_24 (by decide) (fun _ => ?_) (fun _ => ?_)
    · skip
      exact AW.weak (Lw_no (Lw_no (Lw_so rfl (Lw_so rfl (Lw_no (Lw_so rfl (Lw_no (Lw_so rfl Lw_end)))))))) (w_Ba_inLowestTerms_52 hk10 _ _ _ _ _)
    · skip
      refine a_lload dX11_inLowestTerms_27 rfl ?_
      refine a_ldc2 dX11_inLowestTerms_29 cl_RX11_264 ?_
      refine a_lrem dX11_inLowestTerms_32 ?_
      refine a_lconst (v := lN 0) dX11_inLowestTerms_33 (by decide) ?_
      refine a_lcmp dX11_inLowestTerms_34 ?_
      refine a_zne (tgt := 52) dX11_inLowestTerms_35 (by decide) (fun _ => ?_) (fun _ => ?_)
      · skip
        exact AW.weak (Lw_no (Lw_no (Lw_so rfl (Lw_so rfl (Lw_no (Lw_so rfl (Lw_no (Lw_so rfl Lw_end)))))))) (w_Ba_inLowestTerms_52 hk10 _ _ _ _ _)
      · skip
        refine a_lload_n dX11_inLowestTerms_38 rfl ?_
        refine a_ldc2 dX11_inLowestTerms_39 cl_RX11_264 ?_
        refine a_ldiv dX11_inLowestTerms_42 ?_
        refine a_lstore_n dX11_inLowestTerms_43 rfl rfl ?_
        refine a_lload dX11_inLowestTerms_44 rfl ?_
        refine a_ldc2 dX11_inLowestTerms_46 cl_RX11_264 ?_
        refine a_ldiv dX11_inLowestTerms_49 ?_
        refine a_lstore dX11_inLowestTerms_50 rfl rfl ?_
        exact AW.weak (Lw_no (Lw_no (Lw_so rfl (Lw_so rfl (Lw_no (Lw_so rfl (Lw_no (Lw_so rfl Lw_end)))))))) (w_Ba_inLowestTerms_52 hk10 _ _ _ _ _)
def f_Ba_inLowestTerms_10 (S : ba_S) : Int32 → Int64 → Int64 → Int32 → ba_M → Option (Int64 × ba_M) := fx (fun _ _ _ _ _ => none) (b_Ba_inLowestTerms_10 S) FU
theorem l_Ba_inLowestTerms_10 {S : ba_S} : ∀ (n : Nat) (v2 : Int32) (v3 : Int64) (v5 : Int64) (v7 : Int32) (m : ba_M), AW (Y_Ba_inLowestTerms S) 10 [none, none, some (aI v2), some (aJ v3), none, some (aJ v5), none, some (aI v7)] [] S m ((fx (F := Int32 → Int64 → Int64 → Int32 → ba_M → Option (Int64 × ba_M)) (fun _ _ _ _ _ => none) (b_Ba_inLowestTerms_10 S) n) v2 v3 v5 v7 m) := by
  intro n
  induction n with
  | zero => intro _ _ _ _ _; exact AW.none
  | succ n ih => exact w_Ba_inLowestTerms_10 ih
def f_Ba_inLowestTerms (S : ba_S) (a0 : Int64) (a2 : Int32) (m : ba_M) : Option (Int64 × ba_M) :=
  (f_Ba_inLowestTerms_10 S a2 a0 (lN 10000000000000000) (nI 0) m)
set_option maxRecDepth 100000 in
theorem e_Ba_inLowestTerms (S : ba_S) (a0 : Int64) (a2 : Int32) (m : ba_M) : AW (Y_Ba_inLowestTerms S) 0 [some (aJ a0), none, some (aI a2), none, none, none, none, none] [] S m (f_Ba_inLowestTerms S a0 a2 m) := by
  unfold f_Ba_inLowestTerms
  refine a_lload_n dX11_inLowestTerms_0 rfl ?_
  refine a_lstore_n dX11_inLowestTerms_1 rfl rfl ?_
  refine a_ldc2 dX11_inLowestTerms_2 cl_RX11_262 ?_
  refine a_lstore dX11_inLowestTerms_5 rfl rfl ?_
  refine a_iconst (v := nI 0) dX11_inLowestTerms_7 (by decide) ?_
  refine a_istore dX11_inLowestTerms_8 rfl rfl ?_
  exact AW.weak (Lw_no (Lw_no (Lw_so rfl (Lw_so rfl (Lw_no (Lw_so rfl (Lw_no (Lw_so rfl Lw_end)))))))) (l_Ba_inLowestTerms_10 FU _ _ _ _ _)
theorem m_Ba_inLowestTerms {S : ba_S} {a0 : Int64} {a2 : Int32} {m : ba_M} {q : Int64 × ba_M} (h : f_Ba_inLowestTerms S a0 a2 m = some q) : MA (Y_Ba_inLowestTerms S) yX11_inLowestTerms (some .long) [aJ a0, aI a2] S m q :=
  ba_met ⟨by decide +kernel, rfl⟩ rfl (fun h => by cases h) (Or.inr (Or.inr (Or.inl ⟨rfl, rfl, _, rfl⟩))) rfl (h ▸ e_Ba_inLowestTerms S a0 a2 m)

abbrev Y_Ba_first (S : ba_S) : ba_Y (Int64 × ba_M) := mJ cX11_first RX11 4 6 140 S
def f_Ba_first_31 (S : ba_S) (m : ba_M) : Option (Int64 × ba_M) :=
  (some ((-1 : Int64), m))
set_option maxRecDepth 100000 in
theorem w_Ba_first_31 {S : ba_S} : ∀ (m : ba_M), AW (Y_Ba_first S) 31 [none, none, none, none] [] S m (f_Ba_first_31 S m) := by
  intro m
  unfold f_Ba_first_31
  refine a_ldc2 dX11_first_31 cl_RX11_199 ?_
  exact AW.ret dX11_first_34 rfl rfl
def f_Ba_first (S : ba_S) (a0 : Nat) (a1 : Int32) (a2 : Int32) (a3 : Int32) (m : ba_M) : Option (Int64 × ba_M) :=
  cK S a0 10 ((ldR S a0 3 0 fun r1 => ((f_Ga_has S r1 a1 m).bind fun q3 => (if q3.1 = true then (ldR S a0 3 0 fun r4 => ((f_Ga_has S r4 a2 q3.2).bind fun q6 => (if q6.1 = true then ((f_Ba_within S a3 (nI 0) (nI 1) q6.2).bind fun q7 => (if q7.1 = true then (ldR S a0 6 1 fun r8 => (ldR S a0 2 4 fun r10 => ((f_Mr_prepareThrows S r8 r10 q7.2).bind fun q12 => (ldR S a0 6 1 fun r13 => (ldR S a0 3 0 fun r15 => ((f_Mr_weigh S r13 r15 a1 q12).bind fun q17 => (ldR S a0 6 1 fun r18 => ((f_Mr_outWeight S r18 a2 q17).bind fun q20 => ((f_Ba_inLowestTerms S q20.1 a3 q20.2).bind fun q21 => (some (q21.1, q21.2))))))))))) else (f_Ba_first_31 S q7.2))) else (f_Ba_first_31 S q6.2)))) else (f_Ba_first_31 S q3.2)))))
set_option maxRecDepth 100000 in
theorem e_Ba_first (S : ba_S) (a0 : Nat) (a1 : Int32) (a2 : Int32) (a3 : Int32) (m : ba_M) : AW (Y_Ba_first S) 0 [some (aR (some a0)), some (aI a1), some (aI a2), some (aI a3)] [] S m (f_Ba_first S a0 a1 a2 a3 m) := by
  unfold f_Ba_first
  refine AW.ck (fun g0 => ?_)
  refine a_aload_n dX11_first_0 rfl ?_
  refine a_getR dX11_first_1 fl_RX11_34 rfl g0 (fun r1 h2 => ?_)
  refine a_iload_n dX11_first_4 rfl ?_
  refine a_callV_Z dX11_first_5 lk_RX11_116 mt_Ga_has vt_Ga_has ⟨_, rfl, rfl⟩ (fun _ h => m_Ga_has h) rfl rfl h2 ⟨rfl, rfl, rfl⟩ (fun q3 => ?_)
  refine a_beq (tgt := 31) dX11_first_8 (by decide) (fun _ => ?_) (fun _ => ?_)
  · skip
    exact AW.weak (Lw_no (Lw_no (Lw_no (Lw_no Lw_end)))) (w_Ba_first_31 _)
  · skip
    refine a_aload_n dX11_first_11 rfl ?_
    refine a_getR dX11_first_12 fl_RX11_34 rfl g0 (fun r4 h5 => ?_)
    refine a_iload_n dX11_first_15 rfl ?_
    refine a_callV_Z dX11_first_16 lk_RX11_116 mt_Ga_has vt_Ga_has ⟨_, rfl, rfl⟩ (fun _ h => m_Ga_has h) rfl rfl h5 ⟨rfl, rfl, rfl⟩ (fun q6 => ?_)
    refine a_beq (tgt := 31) dX11_first_19 (by decide) (fun _ => ?_) (fun _ => ?_)
    · skip
      exact AW.weak (Lw_no (Lw_no (Lw_no (Lw_no Lw_end)))) (w_Ba_first_31 _)
    · skip
      refine a_iload_n dX11_first_22 rfl ?_
      refine a_iconst (v := nI 0) dX11_first_23 (by decide) ?_
      refine a_iconst (v := nI 1) dX11_first_24 (by decide) ?_
      refine a_callS_Z dX11_first_25 lk_RX11_81 mt_Ba_within sv_Ba_within (fun _ h => m_Ba_within h) rfl rfl ⟨rfl, rfl, rfl⟩ (fun q7 => ?_)
      refine a_bne (tgt := 35) dX11_first_28 (by decide) (fun _ => ?_) (fun _ => ?_)
      · skip
        refine a_aload_n dX11_first_35 rfl ?_
        refine a_getR dX11_first_36 fl_RX11_51 rfl g0 (fun r8 h9 => ?_)
        refine a_aload_n dX11_first_39 rfl ?_
        refine a_getR dX11_first_40 fl_RX11_26 rfl g0 (fun r10 h11 => ?_)
        refine a_callV_V dX11_first_43 lk_RX11_201 mt_Mr_prepareThrows vt_Mr_prepareThrows ⟨_, rfl, rfl⟩ (fun _ h => m_Mr_prepareThrows h) rfl rfl h9 ⟨rfl, rfl, rfl⟩ (fun q12 => ?_)
        refine a_aload_n dX11_first_46 rfl ?_
        refine a_getR dX11_first_47 fl_RX11_51 rfl g0 (fun r13 h14 => ?_)
        refine a_aload_n dX11_first_50 rfl ?_
        refine a_getR dX11_first_51 fl_RX11_34 rfl g0 (fun r15 h16 => ?_)
        refine a_iload_n dX11_first_54 rfl ?_
        refine a_callV_V dX11_first_55 lk_RX11_205 mt_Mr_weigh vt_Mr_weigh ⟨_, rfl, rfl⟩ (fun _ h => m_Mr_weigh h) rfl rfl h14 ⟨rfl, rfl, rfl⟩ (fun q17 => ?_)
        refine a_aload_n dX11_first_58 rfl ?_
        refine a_getR dX11_first_59 fl_RX11_51 rfl g0 (fun r18 h19 => ?_)
        refine a_iload_n dX11_first_62 rfl ?_
        refine a_callV_J dX11_first_63 lk_RX11_209 mt_Mr_outWeight vt_Mr_outWeight ⟨_, rfl, rfl⟩ (fun _ h => m_Mr_outWeight h) rfl rfl h19 ⟨rfl, rfl, rfl⟩ (fun q20 => ?_)
        refine a_iload_n dX11_first_66 rfl ?_
        refine a_callS_J dX11_first_67 lk_RX11_213 mt_Ba_inLowestTerms sv_Ba_inLowestTerms (fun _ h => m_Ba_inLowestTerms h) rfl rfl ⟨rfl, rfl, rfl⟩ (fun q21 => ?_)
        exact AW.ret dX11_first_70 rfl rfl
      · skip
        exact AW.weak (Lw_no (Lw_no (Lw_no (Lw_no Lw_end)))) (w_Ba_first_31 _)
theorem m_Ba_first {S : ba_S} {a0 : Nat} {a1 : Int32} {a2 : Int32} {a3 : Int32} {m : ba_M} {q : Int64 × ba_M} (h : f_Ba_first S a0 a1 a2 a3 m = some q) : MA (Y_Ba_first S) yX11_first (some .long) [aR (some a0), aI a1, aI a2, aI a3] S m q :=
  ba_met ⟨by decide +kernel, rfl⟩ rfl (fun h => by cases h) (Or.inr (Or.inr (Or.inl ⟨rfl, rfl, _, rfl⟩))) rfl (h ▸ e_Ba_first S a0 a1 a2 a3 m)

abbrev Y_Ba_rounds (S : ba_S) : ba_Y (Int64 × ba_M) := mJ cX11_rounds RX11 3 6 140 S
def f_Ba_rounds_20 (S : ba_S) (m : ba_M) : Option (Int64 × ba_M) :=
  (some ((-1 : Int64), m))
set_option maxRecDepth 100000 in
theorem w_Ba_rounds_20 {S : ba_S} : ∀ (m : ba_M), AW (Y_Ba_rounds S) 20 [none, none, none] [] S m (f_Ba_rounds_20 S m) := by
  intro m
  unfold f_Ba_rounds_20
  refine a_ldc2 dX11_rounds_20 cl_RX11_199 ?_
  exact AW.ret dX11_rounds_23 rfl rfl
def f_Ba_rounds (S : ba_S) (a0 : Nat) (a1 : Int32) (a2 : Int32) (m : ba_M) : Option (Int64 × ba_M) :=
  cK S a0 10 ((ldR S a0 3 0 fun r1 => ((f_Ga_has S r1 a1 m).bind fun q3 => (if q3.1 = true then ((f_Ba_within S a2 (nI 0) (nI 1) q3.2).bind fun q4 => (if q4.1 = true then (ldR S a0 6 1 fun r5 => (ldR S a0 2 4 fun r7 => ((f_Mr_prepareThrows S r5 r7 q4.2).bind fun q9 => (ldR S a0 6 1 fun r10 => (ldR S a0 3 0 fun r12 => ((f_Mr_weigh S r10 r12 a1 q9).bind fun q14 => (ldR S a0 6 1 fun r15 => ((f_Ba_inLowestTerms S (gL q14 r15 5) a2 q14).bind fun q17 => (some (q17.1, q17.2)))))))))) else (f_Ba_rounds_20 S q4.2))) else (f_Ba_rounds_20 S q3.2)))))
set_option maxRecDepth 100000 in
theorem e_Ba_rounds (S : ba_S) (a0 : Nat) (a1 : Int32) (a2 : Int32) (m : ba_M) : AW (Y_Ba_rounds S) 0 [some (aR (some a0)), some (aI a1), some (aI a2)] [] S m (f_Ba_rounds S a0 a1 a2 m) := by
  unfold f_Ba_rounds
  refine AW.ck (fun g0 => ?_)
  refine a_aload_n dX11_rounds_0 rfl ?_
  refine a_getR dX11_rounds_1 fl_RX11_34 rfl g0 (fun r1 h2 => ?_)
  refine a_iload_n dX11_rounds_4 rfl ?_
  refine a_callV_Z dX11_rounds_5 lk_RX11_116 mt_Ga_has vt_Ga_has ⟨_, rfl, rfl⟩ (fun _ h => m_Ga_has h) rfl rfl h2 ⟨rfl, rfl, rfl⟩ (fun q3 => ?_)
  refine a_beq (tgt := 20) dX11_rounds_8 (by decide) (fun _ => ?_) (fun _ => ?_)
  · skip
    exact AW.weak (Lw_no (Lw_no (Lw_no Lw_end))) (w_Ba_rounds_20 _)
  · skip
    refine a_iload_n dX11_rounds_11 rfl ?_
    refine a_iconst (v := nI 0) dX11_rounds_12 (by decide) ?_
    refine a_iconst (v := nI 1) dX11_rounds_13 (by decide) ?_
    refine a_callS_Z dX11_rounds_14 lk_RX11_81 mt_Ba_within sv_Ba_within (fun _ h => m_Ba_within h) rfl rfl ⟨rfl, rfl, rfl⟩ (fun q4 => ?_)
    refine a_bne (tgt := 24) dX11_rounds_17 (by decide) (fun _ => ?_) (fun _ => ?_)
    · skip
      refine a_aload_n dX11_rounds_24 rfl ?_
      refine a_getR dX11_rounds_25 fl_RX11_51 rfl g0 (fun r5 h6 => ?_)
      refine a_aload_n dX11_rounds_28 rfl ?_
      refine a_getR dX11_rounds_29 fl_RX11_26 rfl g0 (fun r7 h8 => ?_)
      refine a_callV_V dX11_rounds_32 lk_RX11_201 mt_Mr_prepareThrows vt_Mr_prepareThrows ⟨_, rfl, rfl⟩ (fun _ h => m_Mr_prepareThrows h) rfl rfl h6 ⟨rfl, rfl, rfl⟩ (fun q9 => ?_)
      refine a_aload_n dX11_rounds_35 rfl ?_
      refine a_getR dX11_rounds_36 fl_RX11_51 rfl g0 (fun r10 h11 => ?_)
      refine a_aload_n dX11_rounds_39 rfl ?_
      refine a_getR dX11_rounds_40 fl_RX11_34 rfl g0 (fun r12 h13 => ?_)
      refine a_iload_n dX11_rounds_43 rfl ?_
      refine a_callV_V dX11_rounds_44 lk_RX11_205 mt_Mr_weigh vt_Mr_weigh ⟨_, rfl, rfl⟩ (fun _ h => m_Mr_weigh h) rfl rfl h11 ⟨rfl, rfl, rfl⟩ (fun q14 => ?_)
      refine a_aload_n dX11_rounds_47 rfl ?_
      refine a_getR dX11_rounds_48 fl_RX11_51 rfl g0 (fun r15 h16 => ?_)
      refine a_getL dX11_rounds_51 fl_RX11_217 rfl h16 ?_
      refine a_iload_n dX11_rounds_54 rfl ?_
      refine a_callS_J dX11_rounds_55 lk_RX11_213 mt_Ba_inLowestTerms sv_Ba_inLowestTerms (fun _ h => m_Ba_inLowestTerms h) rfl rfl ⟨rfl, rfl, rfl⟩ (fun q17 => ?_)
      exact AW.ret dX11_rounds_58 rfl rfl
    · skip
      exact AW.weak (Lw_no (Lw_no (Lw_no Lw_end))) (w_Ba_rounds_20 _)
theorem m_Ba_rounds {S : ba_S} {a0 : Nat} {a1 : Int32} {a2 : Int32} {m : ba_M} {q : Int64 × ba_M} (h : f_Ba_rounds S a0 a1 a2 m = some q) : MA (Y_Ba_rounds S) yX11_rounds (some .long) [aR (some a0), aI a1, aI a2] S m q :=
  ba_met ⟨by decide +kernel, rfl⟩ rfl (fun h => by cases h) (Or.inr (Or.inr (Or.inl ⟨rfl, rfl, _, rfl⟩))) rfl (h ▸ e_Ba_rounds S a0 a1 a2 m)

abbrev Y_Ba_call (S : ba_S) : ba_Y (Int32 × ba_M) := mI cX11_call RX11 5 3 67 S
def f_Ba_call_49 (S : ba_S) (m : ba_M) : Option (Int32 × ba_M) :=
  (some ((-1 : Int32), m))
set_option maxRecDepth 100000 in
theorem w_Ba_call_49 {S : ba_S} : ∀ (m : ba_M), AW (Y_Ba_call S) 49 [none, none, none, none, none] [] S m (f_Ba_call_49 S m) := by
  intro m
  unfold f_Ba_call_49
  refine a_iconst (v := -1) dX11_call_49 (by decide) ?_
  exact AW.ret dX11_call_50 rfl rfl
def f_Ba_call (S : ba_S) (a0 : Nat) (a1 : Int32) (a2 : Int32) (a3 : Int32) (a4 : Int32) (m : ba_M) : Option (Int32 × ba_M) :=
  cK S a0 10 ((ldR S a0 3 0 fun r1 => ((f_Ga_has S r1 a1 m).bind fun q3 => (if q3.1 = true then (ldR S a0 3 0 fun r4 => ((f_Ga_has S r4 a2 q3.2).bind fun q6 => (if q6.1 = true then (if a1 = a2 then (f_Ba_call_49 S q6.2) else (ldR S a0 3 0 fun r7 => ((f_Ga_onGround S r7 a3 q6.2).bind fun q9 => (if q9.1 = true then ((f_Ba_within S a4 (nI 1) (nI 9) q9.2).bind fun q10 => (if q10.1 = true then (ldR S a0 8 6 fun r11 => (ldR S a0 3 0 fun r13 => ((f_Sh_putNewest S r11 r13 q10.2).bind fun q15 => (ldR S a0 3 0 fun r16 => ((f_Ga_who S r16 a1 q15).bind fun q18 => cK S q18.1 2 (ldR S q18.1 0 9 fun r20 => ((f_To_tellCall S r20 a2 a3 a4 q18.2).bind fun q22 => (ldR S a0 8 6 fun r23 => (some ((gI q22 r23 2), q22)))))))))) else (f_Ba_call_49 S q10.2))) else (f_Ba_call_49 S q9.2))))) else (f_Ba_call_49 S q6.2)))) else (f_Ba_call_49 S q3.2)))))
set_option maxRecDepth 100000 in
theorem e_Ba_call (S : ba_S) (a0 : Nat) (a1 : Int32) (a2 : Int32) (a3 : Int32) (a4 : Int32) (m : ba_M) : AW (Y_Ba_call S) 0 [some (aR (some a0)), some (aI a1), some (aI a2), some (aI a3), some (aI a4)] [] S m (f_Ba_call S a0 a1 a2 a3 a4 m) := by
  unfold f_Ba_call
  refine AW.ck (fun g0 => ?_)
  refine a_aload_n dX11_call_0 rfl ?_
  refine a_getR dX11_call_1 fl_RX11_34 rfl g0 (fun r1 h2 => ?_)
  refine a_iload_n dX11_call_4 rfl ?_
  refine a_callV_Z dX11_call_5 lk_RX11_116 mt_Ga_has vt_Ga_has ⟨_, rfl, rfl⟩ (fun _ h => m_Ga_has h) rfl rfl h2 ⟨rfl, rfl, rfl⟩ (fun q3 => ?_)
  refine a_beq (tgt := 49) dX11_call_8 (by decide) (fun _ => ?_) (fun _ => ?_)
  · skip
    exact AW.weak (Lw_no (Lw_no (Lw_no (Lw_no (Lw_no Lw_end))))) (w_Ba_call_49 _)
  · skip
    refine a_aload_n dX11_call_11 rfl ?_
    refine a_getR dX11_call_12 fl_RX11_34 rfl g0 (fun r4 h5 => ?_)
    refine a_iload_n dX11_call_15 rfl ?_
    refine a_callV_Z dX11_call_16 lk_RX11_116 mt_Ga_has vt_Ga_has ⟨_, rfl, rfl⟩ (fun _ h => m_Ga_has h) rfl rfl h5 ⟨rfl, rfl, rfl⟩ (fun q6 => ?_)
    refine a_beq (tgt := 49) dX11_call_19 (by decide) (fun _ => ?_) (fun _ => ?_)
    · skip
      exact AW.weak (Lw_no (Lw_no (Lw_no (Lw_no (Lw_no Lw_end))))) (w_Ba_call_49 _)
    · skip
      refine a_iload_n dX11_call_22 rfl ?_
      refine a_iload_n dX11_call_23 rfl ?_
      refine a_ieq (tgt := 49) dX11_call_24 (by decide) (fun _ => ?_) (fun _ => ?_)
      · skip
        exact AW.weak (Lw_no (Lw_no (Lw_no (Lw_no (Lw_no Lw_end))))) (w_Ba_call_49 _)
      · skip
        refine a_aload_n dX11_call_27 rfl ?_
        refine a_getR dX11_call_28 fl_RX11_34 rfl g0 (fun r7 h8 => ?_)
        refine a_iload_n dX11_call_31 rfl ?_
        refine a_callV_Z dX11_call_32 lk_RX11_221 mt_Ga_onGround vt_Ga_onGround ⟨_, rfl, rfl⟩ (fun _ h => m_Ga_onGround h) rfl rfl h8 ⟨rfl, rfl, rfl⟩ (fun q9 => ?_)
        refine a_beq (tgt := 49) dX11_call_35 (by decide) (fun _ => ?_) (fun _ => ?_)
        · skip
          exact AW.weak (Lw_no (Lw_no (Lw_no (Lw_no (Lw_no Lw_end))))) (w_Ba_call_49 _)
        · skip
          refine a_iload dX11_call_38 rfl ?_
          refine a_iconst (v := nI 1) dX11_call_40 (by decide) ?_
          refine a_bipush (v := nI 9) dX11_call_41 (by decide) ?_
          refine a_callS_Z dX11_call_43 lk_RX11_81 mt_Ba_within sv_Ba_within (fun _ h => m_Ba_within h) rfl rfl ⟨rfl, rfl, rfl⟩ (fun q10 => ?_)
          refine a_bne (tgt := 51) dX11_call_46 (by decide) (fun _ => ?_) (fun _ => ?_)
          · skip
            refine a_aload_n dX11_call_51 rfl ?_
            refine a_getR dX11_call_52 fl_RX11_67 rfl g0 (fun r11 h12 => ?_)
            refine a_aload_n dX11_call_55 rfl ?_
            refine a_getR dX11_call_56 fl_RX11_34 rfl g0 (fun r13 h14 => ?_)
            refine a_callV_V dX11_call_59 lk_RX11_224 mt_Sh_putNewest vt_Sh_putNewest ⟨_, rfl, rfl⟩ (fun _ h => m_Sh_putNewest h) rfl rfl h12 ⟨rfl, rfl, rfl⟩ (fun q15 => ?_)
            refine a_aload_n dX11_call_62 rfl ?_
            refine a_getR dX11_call_63 fl_RX11_34 rfl g0 (fun r16 h17 => ?_)
            refine a_iload_n dX11_call_66 rfl ?_
            refine a_callV_R dX11_call_67 lk_RX11_119 mt_Ga_who vt_Ga_who ⟨_, rfl, rfl⟩ (fun _ h => m_Ga_who h) rfl rfl h17 ⟨rfl, rfl, rfl⟩ (fun q18 => ?_)
            refine AW.ck (fun h19 => ?_)
            refine a_getR dX11_call_70 fl_RX11_140 rfl h19 (fun r20 h21 => ?_)
            refine a_iload_n dX11_call_73 rfl ?_
            refine a_iload_n dX11_call_74 rfl ?_
            refine a_iload dX11_call_75 rfl ?_
            refine a_callV_V dX11_call_77 lk_RX11_227 mt_To_tellCall vt_To_tellCall ⟨_, rfl, rfl⟩ (fun _ h => m_To_tellCall h) rfl rfl h21 ⟨rfl, rfl, rfl⟩ (fun q22 => ?_)
            refine a_aload_n dX11_call_80 rfl ?_
            refine a_getR dX11_call_81 fl_RX11_67 rfl g0 (fun r23 h24 => ?_)
            refine a_getI dX11_call_84 fl_RX11_231 rfl h24 ?_
            exact AW.ret dX11_call_87 rfl rfl
          · skip
            exact AW.weak (Lw_no (Lw_no (Lw_no (Lw_no (Lw_no Lw_end))))) (w_Ba_call_49 _)
theorem m_Ba_call {S : ba_S} {a0 : Nat} {a1 : Int32} {a2 : Int32} {a3 : Int32} {a4 : Int32} {m : ba_M} {q : Int32 × ba_M} (h : f_Ba_call S a0 a1 a2 a3 a4 m = some q) : MA (Y_Ba_call S) yX11_call (some .int) [aR (some a0), aI a1, aI a2, aI a3, aI a4] S m q :=
  ba_met ⟨by decide +kernel, rfl⟩ rfl (fun h => by cases h) (Or.inl ⟨rfl, rfl, _, rfl⟩) rfl (h ▸ e_Ba_call S a0 a1 a2 a3 a4 m)

abbrev Y_Ba_letters (S : ba_S) : ba_Y (Int32 × ba_M) := mI cX11_letters RX11 5 3 67 S
def f_Ba_letters_20 (S : ba_S) (m : ba_M) : Option (Int32 × ba_M) :=
  (some ((-1 : Int32), m))
set_option maxRecDepth 100000 in
theorem w_Ba_letters_20 {S : ba_S} : ∀ (m : ba_M), AW (Y_Ba_letters S) 20 [none, none, none, none, none] [] S m (f_Ba_letters_20 S m) := by
  intro m
  unfold f_Ba_letters_20
  refine a_iconst (v := -1) dX11_letters_20 (by decide) ?_
  exact AW.ret dX11_letters_21 rfl rfl
def f_Ba_letters (S : ba_S) (a0 : Nat) (a1 : Int32) (a2 : Int32) (m : ba_M) : Option (Int32 × ba_M) :=
  cK S a0 10 ((ldR S a0 3 0 fun r1 => ((f_Ga_has S r1 a1 m).bind fun q3 => (if q3.1 = true then ((f_Ba_within S a2 (nI 0) (nI 3) q3.2).bind fun q4 => (if q4.1 = true then (ldR S a0 8 6 fun r5 => (ldR S a0 3 0 fun r7 => ((f_Sh_putNewest S r5 r7 q4.2).bind fun q9 => (ldR S a0 3 0 fun r10 => ((f_Ga_who S r10 a1 q9).bind fun q12 => cK S q12.1 2 (ldR S q12.1 0 9 fun r14 => (some ((gI q12.2 r14 3), (wI q12.2 r14 3 a2))))))))) else (f_Ba_letters_20 S q4.2))) else (f_Ba_letters_20 S q3.2)))))
set_option maxRecDepth 100000 in
theorem e_Ba_letters (S : ba_S) (a0 : Nat) (a1 : Int32) (a2 : Int32) (m : ba_M) : AW (Y_Ba_letters S) 0 [some (aR (some a0)), some (aI a1), some (aI a2), none, none] [] S m (f_Ba_letters S a0 a1 a2 m) := by
  unfold f_Ba_letters
  refine AW.ck (fun g0 => ?_)
  refine a_aload_n dX11_letters_0 rfl ?_
  refine a_getR dX11_letters_1 fl_RX11_34 rfl g0 (fun r1 h2 => ?_)
  refine a_iload_n dX11_letters_4 rfl ?_
  refine a_callV_Z dX11_letters_5 lk_RX11_116 mt_Ga_has vt_Ga_has ⟨_, rfl, rfl⟩ (fun _ h => m_Ga_has h) rfl rfl h2 ⟨rfl, rfl, rfl⟩ (fun q3 => ?_)
  refine a_beq (tgt := 20) dX11_letters_8 (by decide) (fun _ => ?_) (fun _ => ?_)
  · skip
    exact AW.weak (Lw_no (Lw_no (Lw_no (Lw_no (Lw_no Lw_end))))) (w_Ba_letters_20 _)
  · skip
    refine a_iload_n dX11_letters_11 rfl ?_
    refine a_iconst (v := nI 0) dX11_letters_12 (by decide) ?_
    refine a_iconst (v := nI 3) dX11_letters_13 (by decide) ?_
    refine a_callS_Z dX11_letters_14 lk_RX11_81 mt_Ba_within sv_Ba_within (fun _ h => m_Ba_within h) rfl rfl ⟨rfl, rfl, rfl⟩ (fun q4 => ?_)
    refine a_bne (tgt := 22) dX11_letters_17 (by decide) (fun _ => ?_) (fun _ => ?_)
    · skip
      refine a_aload_n dX11_letters_22 rfl ?_
      refine a_getR dX11_letters_23 fl_RX11_67 rfl g0 (fun r5 h6 => ?_)
      refine a_aload_n dX11_letters_26 rfl ?_
      refine a_getR dX11_letters_27 fl_RX11_34 rfl g0 (fun r7 h8 => ?_)
      refine a_callV_V dX11_letters_30 lk_RX11_224 mt_Sh_putNewest vt_Sh_putNewest ⟨_, rfl, rfl⟩ (fun _ h => m_Sh_putNewest h) rfl rfl h6 ⟨rfl, rfl, rfl⟩ (fun q9 => ?_)
      refine a_aload_n dX11_letters_33 rfl ?_
      refine a_getR dX11_letters_34 fl_RX11_34 rfl g0 (fun r10 h11 => ?_)
      refine a_iload_n dX11_letters_37 rfl ?_
      refine a_callV_R dX11_letters_38 lk_RX11_119 mt_Ga_who vt_Ga_who ⟨_, rfl, rfl⟩ (fun _ h => m_Ga_who h) rfl rfl h11 ⟨rfl, rfl, rfl⟩ (fun q12 => ?_)
      refine AW.ck (fun h13 => ?_)
      refine a_getR dX11_letters_41 fl_RX11_140 rfl h13 (fun r14 h15 => ?_)
      refine a_astore_n dX11_letters_44 rfl rfl ?_
      refine a_aload_n dX11_letters_45 rfl ?_
      refine a_getI dX11_letters_46 fl_RX11_144 rfl h15 ?_
      refine a_istore dX11_letters_49 rfl rfl ?_
      refine a_aload_n dX11_letters_51 rfl ?_
      refine a_iload_n dX11_letters_52 rfl ?_
      refine a_putI dX11_letters_53 fl_RX11_144 (rfl : _ = FieldType.int) rfl rfl rfl h15 ?_
      refine a_iload dX11_letters_56 rfl ?_
      exact AW.ret dX11_letters_58 rfl rfl
    · skip
      exact AW.weak (Lw_no (Lw_no (Lw_no (Lw_no (Lw_no Lw_end))))) (w_Ba_letters_20 _)
theorem m_Ba_letters {S : ba_S} {a0 : Nat} {a1 : Int32} {a2 : Int32} {m : ba_M} {q : Int32 × ba_M} (h : f_Ba_letters S a0 a1 a2 m = some q) : MA (Y_Ba_letters S) yX11_letters (some .int) [aR (some a0), aI a1, aI a2] S m q :=
  ba_met ⟨by decide +kernel, rfl⟩ rfl (fun h => by cases h) (Or.inl ⟨rfl, rfl, _, rfl⟩) rfl (h ▸ e_Ba_letters S a0 a1 a2 m)

abbrev Y_Ba_undo (S : ba_S) : ba_Y (Int32 × ba_M) := mI cX11_undo RX11 1 3 67 S
def f_Ba_undo (S : ba_S) (a0 : Nat) (m : ba_M) : Option (Int32 × ba_M) :=
  cK S a0 10 ((ldR S a0 8 6 fun r1 => (if (gI m r1 2) = 0 then (some ((-2 : Int32), m)) else (ldR S a0 8 6 fun r3 => (ldR S a0 3 0 fun r5 => ((f_Sh_takeNewest S r3 r5 m).bind fun q7 => (ldR S a0 8 6 fun r8 => (some ((gI q7 r8 2), q7)))))))))
set_option maxRecDepth 100000 in
theorem e_Ba_undo (S : ba_S) (a0 : Nat) (m : ba_M) : AW (Y_Ba_undo S) 0 [some (aR (some a0))] [] S m (f_Ba_undo S a0 m) := by
  unfold f_Ba_undo
  refine AW.ck (fun g0 => ?_)
  refine a_aload_n dX11_undo_0 rfl ?_
  refine a_getR dX11_undo_1 fl_RX11_67 rfl g0 (fun r1 h2 => ?_)
  refine a_getI dX11_undo_4 fl_RX11_231 rfl h2 ?_
  refine a_zne (tgt := 13) dX11_undo_7 (by decide) (fun _ => ?_) (fun _ => ?_)
  · skip
    refine a_aload_n dX11_undo_13 rfl ?_
    refine a_getR dX11_undo_14 fl_RX11_67 rfl g0 (fun r3 h4 => ?_)
    refine a_aload_n dX11_undo_17 rfl ?_
    refine a_getR dX11_undo_18 fl_RX11_34 rfl g0 (fun r5 h6 => ?_)
    refine a_callV_V dX11_undo_21 lk_RX11_232 mt_Sh_takeNewest vt_Sh_takeNewest ⟨_, rfl, rfl⟩ (fun _ h => m_Sh_takeNewest h) rfl rfl h4 ⟨rfl, rfl, rfl⟩ (fun q7 => ?_)
    refine a_aload_n dX11_undo_24 rfl ?_
    refine a_getR dX11_undo_25 fl_RX11_67 rfl g0 (fun r8 h9 => ?_)
    refine a_getI dX11_undo_28 fl_RX11_231 rfl h9 ?_
    exact AW.ret dX11_undo_31 rfl rfl
  · skip
    refine a_bipush (v := -2) dX11_undo_10 (by decide) ?_
    exact AW.ret dX11_undo_12 rfl rfl
theorem m_Ba_undo {S : ba_S} {a0 : Nat} {m : ba_M} {q : Int32 × ba_M} (h : f_Ba_undo S a0 m = some q) : MA (Y_Ba_undo S) yX11_undo (some .int) [aR (some a0)] S m q :=
  ba_met ⟨by decide +kernel, rfl⟩ rfl (fun h => by cases h) (Or.inl ⟨rfl, rfl, _, rfl⟩) rfl (h ▸ e_Ba_undo S a0 m)

abbrev Y_Ba_seen (S : ba_S) : ba_Y (Int32 × ba_M) := mI cX11_seen RX11 4 2 45 S
def f_Ba_seen_33 (S : ba_S) (m : ba_M) : Option (Int32 × ba_M) :=
  (some ((-1 : Int32), m))
set_option maxRecDepth 100000 in
theorem w_Ba_seen_33 {S : ba_S} : ∀ (m : ba_M), AW (Y_Ba_seen S) 33 [none, none, none, none] [] S m (f_Ba_seen_33 S m) := by
  intro m
  unfold f_Ba_seen_33
  refine a_iconst (v := -1) dX11_seen_33 (by decide) ?_
  exact AW.ret dX11_seen_34 rfl rfl
def f_Ba_seen_62 (S : ba_S) (s0 : Int32) (m : ba_M) : Option (Int32 × ba_M) :=
  (some (s0, m))
set_option maxRecDepth 100000 in
theorem w_Ba_seen_62 {S : ba_S} : ∀ (s0 : Int32) (m : ba_M), AW (Y_Ba_seen S) 62 [none, none, none, none] [aI s0] S m (f_Ba_seen_62 S s0 m) := by
  intro s0 m
  unfold f_Ba_seen_62
  exact AW.ret dX11_seen_62 rfl rfl
def f_Ba_seen (S : ba_S) (a0 : Nat) (a1 : Int32) (a2 : Int32) (a3 : Int32) (m : ba_M) : Option (Int32 × ba_M) :=
  cK S a0 10 ((ldR S a0 3 0 fun r1 => ((f_Ga_has S r1 a1 m).bind fun q3 => (if q3.1 = true then (ldR S a0 3 0 fun r4 => ((f_Ga_has S r4 a2 q3.2).bind fun q6 => (if q6.1 = true then (ldR S a0 3 0 fun r7 => ((f_Ga_onGround S r7 a3 q6.2).bind fun q9 => (if q9.1 = true then (ldR S a0 7 7 fun r10 => (if (nI 8) ≤ (gI q9.2 r10 3) then (f_Ba_seen_62 S (-3 : Int32) q9.2) else (ldR S a0 7 7 fun r12 => ((f_Si_add S r12 a1 a2 a3 q9.2).bind fun q14 => (f_Ba_seen_62 S q14.1 q14.2))))) else (f_Ba_seen_33 S q9.2)))) else (f_Ba_seen_33 S q6.2)))) else (f_Ba_seen_33 S q3.2)))))
set_option maxRecDepth 100000 in
theorem e_Ba_seen (S : ba_S) (a0 : Nat) (a1 : Int32) (a2 : Int32) (a3 : Int32) (m : ba_M) : AW (Y_Ba_seen S) 0 [some (aR (some a0)), some (aI a1), some (aI a2), some (aI a3)] [] S m (f_Ba_seen S a0 a1 a2 a3 m) := by
  unfold f_Ba_seen
  refine AW.ck (fun g0 => ?_)
  refine a_aload_n dX11_seen_0 rfl ?_
  refine a_getR dX11_seen_1 fl_RX11_34 rfl g0 (fun r1 h2 => ?_)
  refine a_iload_n dX11_seen_4 rfl ?_
  refine a_callV_Z dX11_seen_5 lk_RX11_116 mt_Ga_has vt_Ga_has ⟨_, rfl, rfl⟩ (fun _ h => m_Ga_has h) rfl rfl h2 ⟨rfl, rfl, rfl⟩ (fun q3 => ?_)
  refine a_beq (tgt := 33) dX11_seen_8 (by decide) (fun _ => ?_) (fun _ => ?_)
  · skip
    exact AW.weak (Lw_no (Lw_no (Lw_no (Lw_no Lw_end)))) (w_Ba_seen_33 _)
  · skip
    refine a_aload_n dX11_seen_11 rfl ?_
    refine a_getR dX11_seen_12 fl_RX11_34 rfl g0 (fun r4 h5 => ?_)
    refine a_iload_n dX11_seen_15 rfl ?_
    refine a_callV_Z dX11_seen_16 lk_RX11_116 mt_Ga_has vt_Ga_has ⟨_, rfl, rfl⟩ (fun _ h => m_Ga_has h) rfl rfl h5 ⟨rfl, rfl, rfl⟩ (fun q6 => ?_)
    refine a_beq (tgt := 33) dX11_seen_19 (by decide) (fun _ => ?_) (fun _ => ?_)
    · skip
      exact AW.weak (Lw_no (Lw_no (Lw_no (Lw_no Lw_end)))) (w_Ba_seen_33 _)
    · skip
      refine a_aload_n dX11_seen_22 rfl ?_
      refine a_getR dX11_seen_23 fl_RX11_34 rfl g0 (fun r7 h8 => ?_)
      refine a_iload_n dX11_seen_26 rfl ?_
      refine a_callV_Z dX11_seen_27 lk_RX11_221 mt_Ga_onGround vt_Ga_onGround ⟨_, rfl, rfl⟩ (fun _ h => m_Ga_onGround h) rfl rfl h8 ⟨rfl, rfl, rfl⟩ (fun q9 => ?_)
      refine a_bne (tgt := 35) dX11_seen_30 (by decide) (fun _ => ?_) (fun _ => ?_)
      · skip
        refine a_aload_n dX11_seen_35 rfl ?_
        refine a_getR dX11_seen_36 fl_RX11_58 rfl g0 (fun r10 h11 => ?_)
        refine a_getI dX11_seen_39 fl_RX11_235 rfl h11 ?_
        refine a_bipush (v := nI 8) dX11_seen_42 (by decide) ?_
        refine a_ige (tgt := 60) dX11_seen_44 (by decide) (fun _ => ?_) (fun _ => ?_)
        · skip
          refine a_bipush (v := -3) dX11_seen_60 (by decide) ?_
          exact AW.weak (Lw_no (Lw_no (Lw_no (Lw_no Lw_end)))) (w_Ba_seen_62 _ _)
        · skip
          refine a_aload_n dX11_seen_47 rfl ?_
          refine a_getR dX11_seen_48 fl_RX11_58 rfl g0 (fun r12 h13 => ?_)
          refine a_iload_n dX11_seen_51 rfl ?_
          refine a_iload_n dX11_seen_52 rfl ?_
          refine a_iload_n dX11_seen_53 rfl ?_
          refine a_callV_I dX11_seen_54 lk_RX11_236 mt_Si_add vt_Si_add ⟨_, rfl, rfl⟩ (fun _ h => m_Si_add h) rfl rfl h13 ⟨rfl, rfl, rfl⟩ (fun q14 => ?_)
          refine a_goto (tgt := 62) dX11_seen_57 (by decide) ?_
          exact AW.weak (Lw_no (Lw_no (Lw_no (Lw_no Lw_end)))) (w_Ba_seen_62 _ _)
      · skip
        exact AW.weak (Lw_no (Lw_no (Lw_no (Lw_no Lw_end)))) (w_Ba_seen_33 _)
theorem m_Ba_seen {S : ba_S} {a0 : Nat} {a1 : Int32} {a2 : Int32} {a3 : Int32} {m : ba_M} {q : Int32 × ba_M} (h : f_Ba_seen S a0 a1 a2 a3 m = some q) : MA (Y_Ba_seen S) yX11_seen (some .int) [aR (some a0), aI a1, aI a2, aI a3] S m q :=
  ba_met ⟨by decide +kernel, rfl⟩ rfl (fun h => by cases h) (Or.inl ⟨rfl, rfl, _, rfl⟩) rfl (h ▸ e_Ba_seen S a0 a1 a2 a3 m)

abbrev Y_Ba_forget (S : ba_S) : ba_Y (Int32 × ba_M) := mI cX11_forget RX11 1 1 21 S
def f_Ba_forget (S : ba_S) (a0 : Nat) (m : ba_M) : Option (Int32 × ba_M) :=
  cK S a0 10 ((ldR S a0 7 7 fun r1 => ((f_Si_empty S r1 m).bind fun q3 => (some (q3.1, q3.2)))))
set_option maxRecDepth 100000 in
theorem e_Ba_forget (S : ba_S) (a0 : Nat) (m : ba_M) : AW (Y_Ba_forget S) 0 [some (aR (some a0))] [] S m (f_Ba_forget S a0 m) := by
  unfold f_Ba_forget
  refine AW.ck (fun g0 => ?_)
  refine a_aload_n dX11_forget_0 rfl ?_
  refine a_getR dX11_forget_1 fl_RX11_58 rfl g0 (fun r1 h2 => ?_)
  refine a_callV_I dX11_forget_4 lk_RX11_109 mt_Si_empty vt_Si_empty ⟨_, rfl, rfl⟩ (fun _ h => m_Si_empty h) rfl rfl h2 ⟨rfl, rfl, rfl⟩ (fun q3 => ?_)
  exact AW.ret dX11_forget_7 rfl rfl
theorem m_Ba_forget {S : ba_S} {a0 : Nat} {m : ba_M} {q : Int32 × ba_M} (h : f_Ba_forget S a0 m = some q) : MA (Y_Ba_forget S) yX11_forget (some .int) [aR (some a0)] S m q :=
  ba_met ⟨by decide +kernel, rfl⟩ rfl (fun h => by cases h) (Or.inl ⟨rfl, rfl, _, rfl⟩) rfl (h ▸ e_Ba_forget S a0 m)

abbrev Y_Ba_kinds (S : ba_S) : ba_Y (Int32 × ba_M) := mI cX11_kinds RX11 2 7 165 S
def f_Ba_kinds_27 (S : ba_S) (s0 : Int32) (m : ba_M) : Option (Int32 × ba_M) :=
  (some (s0, m))
set_option maxRecDepth 100000 in
theorem w_Ba_kinds_27 {S : ba_S} : ∀ (s0 : Int32) (m : ba_M), AW (Y_Ba_kinds S) 27 [none, none] [aI s0] S m (f_Ba_kinds_27 S s0 m) := by
  intro s0 m
  unfold f_Ba_kinds_27
  exact AW.ret dX11_kinds_27 rfl rfl
def f_Ba_kinds (S : ba_S) (a0 : Nat) (a1 : Int32) (m : ba_M) : Option (Int32 × ba_M) :=
  cK S a0 10 ((ldR S a0 3 0 fun r1 => ((f_Ga_has S r1 a1 m).bind fun q3 => (if q3.1 = true then (ldR S a0 7 7 fun r4 => (ldR S a0 2 4 fun r6 => ((f_Si_kindsOf S r4 a1 r6 q3.2).bind fun q8 => (f_Ba_kinds_27 S q8.1 q8.2)))) else (f_Ba_kinds_27 S (-1 : Int32) q3.2)))))
set_option maxRecDepth 100000 in
theorem e_Ba_kinds (S : ba_S) (a0 : Nat) (a1 : Int32) (m : ba_M) : AW (Y_Ba_kinds S) 0 [some (aR (some a0)), some (aI a1)] [] S m (f_Ba_kinds S a0 a1 m) := by
  unfold f_Ba_kinds
  refine AW.ck (fun g0 => ?_)
  refine a_aload_n dX11_kinds_0 rfl ?_
  refine a_getR dX11_kinds_1 fl_RX11_34 rfl g0 (fun r1 h2 => ?_)
  refine a_iload_n dX11_kinds_4 rfl ?_
  refine a_callV_Z dX11_kinds_5 lk_RX11_116 mt_Ga_has vt_Ga_has ⟨_, rfl, rfl⟩ (fun _ h => m_Ga_has h) rfl rfl h2 ⟨rfl, rfl, rfl⟩ (fun q3 => ?_)
  refine a_beq (tgt := 26) dX11_kinds_8 (by decide) (fun _ => ?_) (fun _ => ?_)
  · skip
    refine a_iconst (v := -1) dX11_kinds_26 (by decide) ?_
    exact AW.weak (Lw_no (Lw_no Lw_end)) (w_Ba_kinds_27 _ _)
  · skip
    refine a_aload_n dX11_kinds_11 rfl ?_
    refine a_getR dX11_kinds_12 fl_RX11_58 rfl g0 (fun r4 h5 => ?_)
    refine a_iload_n dX11_kinds_15 rfl ?_
    refine a_aload_n dX11_kinds_16 rfl ?_
    refine a_getR dX11_kinds_17 fl_RX11_26 rfl g0 (fun r6 h7 => ?_)
    refine a_callV_I dX11_kinds_20 lk_RX11_240 mt_Si_kindsOf vt_Si_kindsOf ⟨_, rfl, rfl⟩ (fun _ h => m_Si_kindsOf h) rfl rfl h5 ⟨rfl, rfl, rfl⟩ (fun q8 => ?_)
    refine a_goto (tgt := 27) dX11_kinds_23 (by decide) ?_
    exact AW.weak (Lw_no (Lw_no Lw_end)) (w_Ba_kinds_27 _ _)
theorem m_Ba_kinds {S : ba_S} {a0 : Nat} {a1 : Int32} {m : ba_M} {q : Int32 × ba_M} (h : f_Ba_kinds S a0 a1 m = some q) : MA (Y_Ba_kinds S) yX11_kinds (some .int) [aR (some a0), aI a1] S m q :=
  ba_met ⟨by decide +kernel, rfl⟩ rfl (fun h => by cases h) (Or.inl ⟨rfl, rfl, _, rfl⟩) rfl (h ▸ e_Ba_kinds S a0 a1 m)

abbrev Y_Ba_afternoon (S : ba_S) : ba_Y (Int32 × ba_M) := mI cX11_afternoon RX11 3 6 140 S
def f_Ba_afternoon_20 (S : ba_S) (m : ba_M) : Option (Int32 × ba_M) :=
  (some ((-1 : Int32), m))
set_option maxRecDepth 100000 in
theorem w_Ba_afternoon_20 {S : ba_S} : ∀ (m : ba_M), AW (Y_Ba_afternoon S) 20 [none, none, none] [] S m (f_Ba_afternoon_20 S m) := by
  intro m
  unfold f_Ba_afternoon_20
  refine a_iconst (v := -1) dX11_afternoon_20 (by decide) ?_
  exact AW.ret dX11_afternoon_21 rfl rfl
def f_Ba_afternoon_66 (S : ba_S) (s0 : Int32) (m : ba_M) : Option (Int32 × ba_M) :=
  (some (s0, m))
set_option maxRecDepth 100000 in
theorem w_Ba_afternoon_66 {S : ba_S} : ∀ (s0 : Int32) (m : ba_M), AW (Y_Ba_afternoon S) 66 [none, none, none] [aI s0] S m (f_Ba_afternoon_66 S s0 m) := by
  intro s0 m
  unfold f_Ba_afternoon_66
  exact AW.ret dX11_afternoon_66 rfl rfl
def f_Ba_afternoon (S : ba_S) (a0 : Nat) (a1 : Int32) (a2 : Int32) (m : ba_M) : Option (Int32 × ba_M) :=
  cK S a0 10 (((f_Ba_within S a1 (nI 0) (nI 9999) m).bind fun q1 => (if q1.1 = true then ((f_Ba_within S a2 (nI 0) (nI 1) q1.2).bind fun q2 => (if q2.1 = true then (ldR S a0 6 1 fun r3 => (ldR S a0 2 4 fun r5 => ((f_Mr_prepareThrows S r3 r5 q2.2).bind fun q7 => (ldR S a0 6 1 fun r8 => (ldR S a0 3 0 fun r10 => ((f_Mr_playAfternoon S r8 r10 a1 q7).bind fun q12 => (if a2 = 0 then (ldR S a0 6 1 fun r15 => (f_Ba_afternoon_66 S (gI q12 r15 6) q12)) else (ldR S a0 6 1 fun r13 => (f_Ba_afternoon_66 S (gI q12 r13 7) q12))))))))) else (f_Ba_afternoon_20 S q2.2))) else (f_Ba_afternoon_20 S q1.2))))
set_option maxRecDepth 100000 in
theorem e_Ba_afternoon (S : ba_S) (a0 : Nat) (a1 : Int32) (a2 : Int32) (m : ba_M) : AW (Y_Ba_afternoon S) 0 [some (aR (some a0)), some (aI a1), some (aI a2)] [] S m (f_Ba_afternoon S a0 a1 a2 m) := by
  unfold f_Ba_afternoon
  refine AW.ck (fun g0 => ?_)
  refine a_iload_n dX11_afternoon_0 rfl ?_
  refine a_iconst (v := nI 0) dX11_afternoon_1 (by decide) ?_
  refine a_sipush (v := nI 9999) dX11_afternoon_2 (by decide) ?_
  refine a_callS_Z dX11_afternoon_5 lk_RX11_81 mt_Ba_within sv_Ba_within (fun _ h => m_Ba_within h) rfl rfl ⟨rfl, rfl, rfl⟩ (fun q1 => ?_)
  refine a_beq (tgt := 20) dX11_afternoon_8 (by decide) (fun _ => ?_) (fun _ => ?_)
  · skip
    exact AW.weak (Lw_no (Lw_no (Lw_no Lw_end))) (w_Ba_afternoon_20 _)
  · skip
    refine a_iload_n dX11_afternoon_11 rfl ?_
    refine a_iconst (v := nI 0) dX11_afternoon_12 (by decide) ?_
    refine a_iconst (v := nI 1) dX11_afternoon_13 (by decide) ?_
    refine a_callS_Z dX11_afternoon_14 lk_RX11_81 mt_Ba_within sv_Ba_within (fun _ h => m_Ba_within h) rfl rfl ⟨rfl, rfl, rfl⟩ (fun q2 => ?_)
    refine a_bne (tgt := 22) dX11_afternoon_17 (by decide) (fun _ => ?_) (fun _ => ?_)
    · skip
      refine a_aload_n dX11_afternoon_22 rfl ?_
      refine a_getR dX11_afternoon_23 fl_RX11_51 rfl g0 (fun r3 h4 => ?_)
      refine a_aload_n dX11_afternoon_26 rfl ?_
      refine a_getR dX11_afternoon_27 fl_RX11_26 rfl g0 (fun r5 h6 => ?_)
      refine a_callV_V dX11_afternoon_30 lk_RX11_201 mt_Mr_prepareThrows vt_Mr_prepareThrows ⟨_, rfl, rfl⟩ (fun _ h => m_Mr_prepareThrows h) rfl rfl h4 ⟨rfl, rfl, rfl⟩ (fun q7 => ?_)
      refine a_aload_n dX11_afternoon_33 rfl ?_
      refine a_getR dX11_afternoon_34 fl_RX11_51 rfl g0 (fun r8 h9 => ?_)
      refine a_aload_n dX11_afternoon_37 rfl ?_
      refine a_getR dX11_afternoon_38 fl_RX11_34 rfl g0 (fun r10 h11 => ?_)
      refine a_iload_n dX11_afternoon_41 rfl ?_
      refine a_callV_V dX11_afternoon_42 lk_RX11_244 mt_Mr_playAfternoon vt_Mr_playAfternoon ⟨_, rfl, rfl⟩ (fun _ h => m_Mr_playAfternoon h) rfl rfl h9 ⟨rfl, rfl, rfl⟩ (fun q12 => ?_)
      refine a_iload_n dX11_afternoon_45 rfl ?_
      refine a_zne (tgt := 59) dX11_afternoon_46 (by decide) (fun _ => ?_) (fun _ => ?_)
      · skip
        refine a_aload_n dX11_afternoon_59 rfl ?_
        refine a_getR dX11_afternoon_60 fl_RX11_51 rfl g0 (fun r13 h14 => ?_)
        refine a_getI dX11_afternoon_63 fl_RX11_250 rfl h14 ?_
        exact AW.weak (Lw_no (Lw_no (Lw_no Lw_end))) (w_Ba_afternoon_66 _ _)
      · skip
        refine a_aload_n dX11_afternoon_49 rfl ?_
        refine a_getR dX11_afternoon_50 fl_RX11_51 rfl g0 (fun r15 h16 => ?_)
        refine a_getI dX11_afternoon_53 fl_RX11_247 rfl h16 ?_
        refine a_goto (tgt := 66) dX11_afternoon_56 (by decide) ?_
        exact AW.weak (Lw_no (Lw_no (Lw_no Lw_end))) (w_Ba_afternoon_66 _ _)
    · skip
      exact AW.weak (Lw_no (Lw_no (Lw_no Lw_end))) (w_Ba_afternoon_20 _)
theorem m_Ba_afternoon {S : ba_S} {a0 : Nat} {a1 : Int32} {a2 : Int32} {m : ba_M} {q : Int32 × ba_M} (h : f_Ba_afternoon S a0 a1 a2 m = some q) : MA (Y_Ba_afternoon S) yX11_afternoon (some .int) [aR (some a0), aI a1, aI a2] S m q :=
  ba_met ⟨by decide +kernel, rfl⟩ rfl (fun h => by cases h) (Or.inl ⟨rfl, rfl, _, rfl⟩) rfl (h ▸ e_Ba_afternoon S a0 a1 a2 m)

abbrev Y_Ba_keep (S : ba_S) : ba_Y (Int32 × ba_M) := mI cX11_keep RX11 1 3 67 S
def f_Ba_keep (S : ba_S) (a0 : Nat) (m : ba_M) : Option (Int32 × ba_M) :=
  cK S a0 10 ((ldR S a0 9 6 fun r1 => (if (gI m r1 2) < (nI 2) then (ldR S a0 9 6 fun r3 => (ldR S a0 3 0 fun r5 => ((f_Sh_putNewest S r3 r5 m).bind fun q7 => (ldR S a0 9 6 fun r8 => (some ((gI q7 r8 2), q7)))))) else (some ((-3 : Int32), m)))))
set_option maxRecDepth 100000 in
theorem e_Ba_keep (S : ba_S) (a0 : Nat) (m : ba_M) : AW (Y_Ba_keep S) 0 [some (aR (some a0))] [] S m (f_Ba_keep S a0 m) := by
  unfold f_Ba_keep
  refine AW.ck (fun g0 => ?_)
  refine a_aload_n dX11_keep_0 rfl ?_
  refine a_getR dX11_keep_1 fl_RX11_71 rfl g0 (fun r1 h2 => ?_)
  refine a_getI dX11_keep_4 fl_RX11_231 rfl h2 ?_
  refine a_iconst (v := nI 2) dX11_keep_7 (by decide) ?_
  refine a_ilt (tgt := 14) dX11_keep_8 (by decide) (fun _ => ?_) (fun _ => ?_)
  · skip
    refine a_aload_n dX11_keep_14 rfl ?_
    refine a_getR dX11_keep_15 fl_RX11_71 rfl g0 (fun r3 h4 => ?_)
    refine a_aload_n dX11_keep_18 rfl ?_
    refine a_getR dX11_keep_19 fl_RX11_34 rfl g0 (fun r5 h6 => ?_)
    refine a_callV_V dX11_keep_22 lk_RX11_224 mt_Sh_putNewest vt_Sh_putNewest ⟨_, rfl, rfl⟩ (fun _ h => m_Sh_putNewest h) rfl rfl h4 ⟨rfl, rfl, rfl⟩ (fun q7 => ?_)
    refine a_aload_n dX11_keep_25 rfl ?_
    refine a_getR dX11_keep_26 fl_RX11_71 rfl g0 (fun r8 h9 => ?_)
    refine a_getI dX11_keep_29 fl_RX11_231 rfl h9 ?_
    exact AW.ret dX11_keep_32 rfl rfl
  · skip
    refine a_bipush (v := -3) dX11_keep_11 (by decide) ?_
    exact AW.ret dX11_keep_13 rfl rfl
theorem m_Ba_keep {S : ba_S} {a0 : Nat} {m : ba_M} {q : Int32 × ba_M} (h : f_Ba_keep S a0 m = some q) : MA (Y_Ba_keep S) yX11_keep (some .int) [aR (some a0)] S m q :=
  ba_met ⟨by decide +kernel, rfl⟩ rfl (fun h => by cases h) (Or.inl ⟨rfl, rfl, _, rfl⟩) rfl (h ▸ e_Ba_keep S a0 m)

abbrev Y_Ba_back (S : ba_S) : ba_Y (Int32 × ba_M) := mI cX11_back RX11 1 3 67 S
def f_Ba_back (S : ba_S) (a0 : Nat) (m : ba_M) : Option (Int32 × ba_M) :=
  cK S a0 10 ((ldR S a0 9 6 fun r1 => (if (gI m r1 2) = 0 then (some ((-2 : Int32), m)) else (ldR S a0 9 6 fun r3 => (ldR S a0 3 0 fun r5 => ((f_Sh_takeNewest S r3 r5 m).bind fun q7 => (ldR S a0 8 6 fun r8 => ((f_Sh_empty S r8 q7).bind fun q10 => (ldR S a0 9 6 fun r11 => (some ((gI q10 r11 2), q10)))))))))))
set_option maxRecDepth 100000 in
theorem e_Ba_back (S : ba_S) (a0 : Nat) (m : ba_M) : AW (Y_Ba_back S) 0 [some (aR (some a0))] [] S m (f_Ba_back S a0 m) := by
  unfold f_Ba_back
  refine AW.ck (fun g0 => ?_)
  refine a_aload_n dX11_back_0 rfl ?_
  refine a_getR dX11_back_1 fl_RX11_71 rfl g0 (fun r1 h2 => ?_)
  refine a_getI dX11_back_4 fl_RX11_231 rfl h2 ?_
  refine a_zne (tgt := 13) dX11_back_7 (by decide) (fun _ => ?_) (fun _ => ?_)
  · skip
    refine a_aload_n dX11_back_13 rfl ?_
    refine a_getR dX11_back_14 fl_RX11_71 rfl g0 (fun r3 h4 => ?_)
    refine a_aload_n dX11_back_17 rfl ?_
    refine a_getR dX11_back_18 fl_RX11_34 rfl g0 (fun r5 h6 => ?_)
    refine a_callV_V dX11_back_21 lk_RX11_232 mt_Sh_takeNewest vt_Sh_takeNewest ⟨_, rfl, rfl⟩ (fun _ h => m_Sh_takeNewest h) rfl rfl h4 ⟨rfl, rfl, rfl⟩ (fun q7 => ?_)
    refine a_aload_n dX11_back_24 rfl ?_
    refine a_getR dX11_back_25 fl_RX11_67 rfl g0 (fun r8 h9 => ?_)
    refine a_callV_V dX11_back_28 lk_RX11_110 mt_Sh_empty vt_Sh_empty ⟨_, rfl, rfl⟩ (fun _ h => m_Sh_empty h) rfl rfl h9 ⟨rfl, rfl, rfl⟩ (fun q10 => ?_)
    refine a_aload_n dX11_back_31 rfl ?_
    refine a_getR dX11_back_32 fl_RX11_71 rfl g0 (fun r11 h12 => ?_)
    refine a_getI dX11_back_35 fl_RX11_231 rfl h12 ?_
    exact AW.ret dX11_back_38 rfl rfl
  · skip
    refine a_bipush (v := -2) dX11_back_10 (by decide) ?_
    exact AW.ret dX11_back_12 rfl rfl
theorem m_Ba_back {S : ba_S} {a0 : Nat} {m : ba_M} {q : Int32 × ba_M} (h : f_Ba_back S a0 m = some q) : MA (Y_Ba_back S) yX11_back (some .int) [aR (some a0)] S m q :=
  ba_met ⟨by decide +kernel, rfl⟩ rfl (fun h => by cases h) (Or.inl ⟨rfl, rfl, _, rfl⟩) rfl (h ▸ e_Ba_back S a0 m)

abbrev Y_Ba_count (S : ba_S) : ba_Y (Int32 × ba_M) := mI cX11_count RX11 2 0 0 S
def f_Ba_count (S : ba_S) (a0 : Nat) (a1 : Int32) (m : ba_M) : Option (Int32 × ba_M) :=
  cK S a0 10 ((if a1 = 0 then (ldR S a0 3 0 fun r2 => (some ((gI m r2 2), m))) else (if a1 = 1 then (ldR S a0 3 0 fun r5 => (some ((gI m r5 3), m))) else (if a1 = 2 then (ldR S a0 3 0 fun r8 => (some ((gI m r8 4), m))) else (if a1 = 3 then (ldR S a0 7 7 fun r11 => (some ((gI m r11 3), m))) else (if a1 = 4 then (ldR S a0 8 6 fun r14 => (some ((gI m r14 2), m))) else (if a1 = 5 then (ldR S a0 9 6 fun r17 => (some ((gI m r17 2), m))) else (if a1 = 6 then (ldR S a0 0 8 fun r20 => (some ((gI m r20 1), m))) else (some ((-1 : Int32), m))))))))))
set_option maxRecDepth 100000 in
theorem e_Ba_count (S : ba_S) (a0 : Nat) (a1 : Int32) (m : ba_M) : AW (Y_Ba_count S) 0 [some (aR (some a0)), some (aI a1)] [] S m (f_Ba_count S a0 a1 m) := by
  unfold f_Ba_count
  refine AW.ck (fun g0 => ?_)
  refine a_iload_n dX11_count_0 rfl ?_
  refine AW.if (fun c1 => ?_) (fun c1 => ?_)
  · refine a_tabIn (tgt := 44) dX11_count_1 (by rw [c1]; decide) (by rw [c1]; decide) (by rw [c1]; rfl) (by decide) ?_
    refine a_aload_n dX11_count_44 rfl ?_
    refine a_getR dX11_count_45 fl_RX11_34 rfl g0 (fun r2 h3 => ?_)
    refine a_getI dX11_count_48 fl_RX11_112 rfl h3 ?_
    exact AW.ret dX11_count_51 rfl rfl
  refine AW.if (fun c4 => ?_) (fun c4 => ?_)
  · refine a_tabIn (tgt := 52) dX11_count_1 (by rw [c4]; decide) (by rw [c4]; decide) (by rw [c4]; rfl) (by decide) ?_
    refine a_aload_n dX11_count_52 rfl ?_
    refine a_getR dX11_count_53 fl_RX11_34 rfl g0 (fun r5 h6 => ?_)
    refine a_getI dX11_count_56 fl_RX11_253 rfl h6 ?_
    exact AW.ret dX11_count_59 rfl rfl
  refine AW.if (fun c7 => ?_) (fun c7 => ?_)
  · refine a_tabIn (tgt := 60) dX11_count_1 (by rw [c7]; decide) (by rw [c7]; decide) (by rw [c7]; rfl) (by decide) ?_
    refine a_aload_n dX11_count_60 rfl ?_
    refine a_getR dX11_count_61 fl_RX11_34 rfl g0 (fun r8 h9 => ?_)
    refine a_getI dX11_count_64 fl_RX11_256 rfl h9 ?_
    exact AW.ret dX11_count_67 rfl rfl
  refine AW.if (fun c10 => ?_) (fun c10 => ?_)
  · refine a_tabIn (tgt := 68) dX11_count_1 (by rw [c10]; decide) (by rw [c10]; decide) (by rw [c10]; rfl) (by decide) ?_
    refine a_aload_n dX11_count_68 rfl ?_
    refine a_getR dX11_count_69 fl_RX11_58 rfl g0 (fun r11 h12 => ?_)
    refine a_getI dX11_count_72 fl_RX11_235 rfl h12 ?_
    exact AW.ret dX11_count_75 rfl rfl
  refine AW.if (fun c13 => ?_) (fun c13 => ?_)
  · refine a_tabIn (tgt := 76) dX11_count_1 (by rw [c13]; decide) (by rw [c13]; decide) (by rw [c13]; rfl) (by decide) ?_
    refine a_aload_n dX11_count_76 rfl ?_
    refine a_getR dX11_count_77 fl_RX11_67 rfl g0 (fun r14 h15 => ?_)
    refine a_getI dX11_count_80 fl_RX11_231 rfl h15 ?_
    exact AW.ret dX11_count_83 rfl rfl
  refine AW.if (fun c16 => ?_) (fun c16 => ?_)
  · refine a_tabIn (tgt := 84) dX11_count_1 (by rw [c16]; decide) (by rw [c16]; decide) (by rw [c16]; rfl) (by decide) ?_
    refine a_aload_n dX11_count_84 rfl ?_
    refine a_getR dX11_count_85 fl_RX11_71 rfl g0 (fun r17 h18 => ?_)
    refine a_getI dX11_count_88 fl_RX11_231 rfl h18 ?_
    exact AW.ret dX11_count_91 rfl rfl
  refine AW.if (fun c19 => ?_) (fun c19 => ?_)
  · refine a_tabIn (tgt := 92) dX11_count_1 (by rw [c19]; decide) (by rw [c19]; decide) (by rw [c19]; rfl) (by decide) ?_
    refine a_aload_n dX11_count_92 rfl ?_
    refine a_getR dX11_count_93 fl_RX11_10 rfl g0 (fun r20 h21 => ?_)
    refine a_getI dX11_count_96 fl_RX11_259 rfl h21 ?_
    exact AW.ret dX11_count_99 rfl rfl
  refine a_tabOut (tgt := 100) dX11_count_1 (by have uc1 : ¬ Int32.toInt (a1) = 0 := lv_neT c1 rfl; have uc4 : ¬ Int32.toInt (a1) = 1 := lv_neT c4 rfl; have uc7 : ¬ Int32.toInt (a1) = 2 := lv_neT c7 rfl; have uc10 : ¬ Int32.toInt (a1) = 3 := lv_neT c10 rfl; have uc13 : ¬ Int32.toInt (a1) = 4 := lv_neT c13 rfl; have uc16 : ¬ Int32.toInt (a1) = 5 := lv_neT c16 rfl; have uc19 : ¬ Int32.toInt (a1) = 6 := lv_neT c19 rfl; omega) (by decide) ?_
  refine a_iconst (v := -1) dX11_count_100 (by decide) ?_
  exact AW.ret dX11_count_101 rfl rfl
theorem m_Ba_count {S : ba_S} {a0 : Nat} {a1 : Int32} {m : ba_M} {q : Int32 × ba_M} (h : f_Ba_count S a0 a1 m = some q) : MA (Y_Ba_count S) yX11_count (some .int) [aR (some a0), aI a1] S m q :=
  ba_met ⟨by decide +kernel, rfl⟩ rfl (fun h => by cases h) (Or.inl ⟨rfl, rfl, _, rfl⟩) rfl (h ▸ e_Ba_count S a0 a1 m)

