abbrev Y_Mo_lays (S : ba_S) : ba_Y (ba_M) := mV cX12_lays RX12 7 0 0 S
def f_Mo_lays (S : ba_S) (a0 : Nat) (a1 : Int32) (a2 : Int32) (a3 : Int32) (a4 : Int32) (a5 : Int32) (a6 : Int32) (m : ba_M) : Option (ba_M) :=
  cK S a0 11 ((ldR S a0 3 20 fun r1 => (bD S r1 ((nI 5) * a1) (ldR S a0 3 20 fun r3 => (bD S r3 (((nI 5) * a1) + (nI 1)) (ldR S a0 3 20 fun r5 => (bD S r5 (((nI 5) * a1) + (nI 2)) (ldR S a0 3 20 fun r7 => (bD S r7 (((nI 5) * a1) + (nI 3)) (ldR S a0 3 20 fun r9 => (bD S r9 (((nI 5) * a1) + (nI 4)) (some (wI (wI (wI (wI (wI m r1 (((nI 5) * a1)).toNatClampNeg a2) r3 ((((nI 5) * a1) + (nI 1))).toNatClampNeg a3) r5 ((((nI 5) * a1) + (nI 2))).toNatClampNeg a4) r7 ((((nI 5) * a1) + (nI 3))).toNatClampNeg a5) r9 ((((nI 5) * a1) + (nI 4))).toNatClampNeg a6)))))))))))))
set_option maxRecDepth 100000 in
theorem e_Mo_lays (S : ba_S) (a0 : Nat) (a1 : Int32) (a2 : Int32) (a3 : Int32) (a4 : Int32) (a5 : Int32) (a6 : Int32) (m : ba_M) : AW (Y_Mo_lays S) 0 [some (aR (some a0)), some (aI a1), some (aI a2), some (aI a3), some (aI a4), some (aI a5), some (aI a6)] [] S m (f_Mo_lays S a0 a1 a2 a3 a4 a5 a6 m) := by
  unfold f_Mo_lays
  refine AW.ck (fun g0 => ?_)
  refine a_aload_n dX12_lays_0 rfl ?_
  refine a_getR dX12_lays_1 fl_RX12_7 rfl g0 (fun r1 h2 => ?_)
  refine a_iconst (v := nI 5) dX12_lays_4 (by decide) ?_
  refine a_iload_n dX12_lays_5 rfl ?_
  refine a_imul dX12_lays_6 ?_
  refine a_iload_n dX12_lays_7 rfl ?_
  refine a_iast dX12_lays_8 h2 ?_
  refine a_aload_n dX12_lays_9 rfl ?_
  refine a_getR dX12_lays_10 fl_RX12_7 rfl g0 (fun r3 h4 => ?_)
  refine a_iconst (v := nI 5) dX12_lays_13 (by decide) ?_
  refine a_iload_n dX12_lays_14 rfl ?_
  refine a_imul dX12_lays_15 ?_
  refine a_iconst (v := nI 1) dX12_lays_16 (by decide) ?_
  refine a_iadd dX12_lays_17 ?_
  refine a_iload_n dX12_lays_18 rfl ?_
  refine a_iast dX12_lays_19 h4 ?_
  refine a_aload_n dX12_lays_20 rfl ?_
  refine a_getR dX12_lays_21 fl_RX12_7 rfl g0 (fun r5 h6 => ?_)
  refine a_iconst (v := nI 5) dX12_lays_24 (by decide) ?_
  refine a_iload_n dX12_lays_25 rfl ?_
  refine a_imul dX12_lays_26 ?_
  refine a_iconst (v := nI 2) dX12_lays_27 (by decide) ?_
  refine a_iadd dX12_lays_28 ?_
  refine a_iload dX12_lays_29 rfl ?_
  refine a_iast dX12_lays_31 h6 ?_
  refine a_aload_n dX12_lays_32 rfl ?_
  refine a_getR dX12_lays_33 fl_RX12_7 rfl g0 (fun r7 h8 => ?_)
  refine a_iconst (v := nI 5) dX12_lays_36 (by decide) ?_
  refine a_iload_n dX12_lays_37 rfl ?_
  refine a_imul dX12_lays_38 ?_
  refine a_iconst (v := nI 3) dX12_lays_39 (by decide) ?_
  refine a_iadd dX12_lays_40 ?_
  refine a_iload dX12_lays_41 rfl ?_
  refine a_iast dX12_lays_43 h8 ?_
  refine a_aload_n dX12_lays_44 rfl ?_
  refine a_getR dX12_lays_45 fl_RX12_7 rfl g0 (fun r9 h10 => ?_)
  refine a_iconst (v := nI 5) dX12_lays_48 (by decide) ?_
  refine a_iload_n dX12_lays_49 rfl ?_
  refine a_imul dX12_lays_50 ?_
  refine a_iconst (v := nI 4) dX12_lays_51 (by decide) ?_
  refine a_iadd dX12_lays_52 ?_
  refine a_iload dX12_lays_53 rfl ?_
  refine a_iast dX12_lays_55 h10 ?_
  exact AW.ret dX12_lays_56 rfl rfl
theorem m_Mo_lays {S : ba_S} {a0 : Nat} {a1 : Int32} {a2 : Int32} {a3 : Int32} {a4 : Int32} {a5 : Int32} {a6 : Int32} {m : ba_M} {q : ba_M} (h : f_Mo_lays S a0 a1 a2 a3 a4 a5 a6 m = some q) : MA (Y_Mo_lays S) yX12_lays none [aR (some a0), aI a1, aI a2, aI a3, aI a4, aI a5, aI a6] S m q :=
  ba_met ⟨by decide +kernel, rfl⟩ rfl (fun h => by cases h) (Or.inr (Or.inr (Or.inr (Or.inl ⟨rfl, rfl, rfl⟩)))) rfl (h ▸ e_Mo_lays S a0 a1 a2 a3 a4 a5 a6 m)

abbrev Y_Mo_init : ba_Y (ba_S × ba_M) := mC cX12_init RX12 2 1 26
def b_Mo_init_269 (k269 : ba_S → Nat → Int32 → ba_M → Option (ba_S × ba_M)) (S : ba_S) (v0 : Nat) (v1 : Int32) (m : ba_M) : Option (ba_S × ba_M) :=
  (if (nI 18) ≤ v1 then (some (S, m)) else (cK S v0 11 (ldR S v0 20 21 fun r2 => (cK S v0 11 (ldR S v0 20 21 fun r5 => (cK S r5 21 (bD S r5 (v1 - (nI 1)) (cK S r2 21 (bD S r2 v1 (sB S (wL m r2 (v1).toNatClampNeg ((lN 10) * (gL m r5 ((v1 - (nI 1))).toNatClampNeg))) fun S9 m10 => (k269 S9 v0 (v1 + (nI 1)) m10)))))))))))
set_option maxRecDepth 100000 in
theorem w_Mo_init_269 {k269 : ba_S → Nat → Int32 → ba_M → Option (ba_S × ba_M)} (hk269 : ∀ (S : ba_S) (v0 : Nat) (v1 : Int32) (m : ba_M), AW Y_Mo_init 269 [some (aR (some v0)), some (aI v1)] [] S m (k269 S v0 v1 m)) : ∀ (S : ba_S) (v0 : Nat) (v1 : Int32) (m : ba_M), AW Y_Mo_init 269 [some (aR (some v0)), some (aI v1)] [] S m (b_Mo_init_269 k269 S v0 v1 m) := by
  intro S v0 v1 m
  unfold b_Mo_init_269
  refine a_iload_n dX12_init_269 rfl ?_
  refine a_bipush (v := nI 18) dX12_init_270 (by decide) ?_
  refine a_ige (tgt := 299) dX12_init_272 (by decide) (fun _ => ?_) (fun _ => ?_)
  · skip
    exact AW.ret dX12_init_299 rfl rfl
  · skip
    refine a_aload_n dX12_init_275 rfl ?_
    refine AW.ck (fun h1 => ?_)
    refine a_getR dX12_init_276 fl_RX12_43 rfl h1 (fun r2 h3 => ?_)
    refine a_iload_n dX12_init_279 rfl ?_
    refine a_ldc2 dX12_init_280 cl_RX12_82 ?_
    refine a_aload_n dX12_init_283 rfl ?_
    refine AW.ck (fun h4 => ?_)
    refine a_getR dX12_init_284 fl_RX12_43 rfl h4 (fun r5 h6 => ?_)
    refine a_iload_n dX12_init_287 rfl ?_
    refine a_iconst (v := nI 1) dX12_init_288 (by decide) ?_
    refine a_isub dX12_init_289 ?_
    refine AW.ck (fun h7 => ?_)
    refine a_lald dX12_init_290 h7 ?_
    refine a_lmul dX12_init_291 ?_
    refine AW.ck (fun h8 => ?_)
    refine a_last dX12_init_292 h8 ?_
    refine AW.sB (fun S9 m10 => ?_)
    refine a_iinc (v := nI 1) dX12_init_293 rfl (by decide) rfl rfl ?_
    refine a_goto (tgt := 269) dX12_init_296 (by decide) ?_
    exact AW.weak (Lw_so rfl (Lw_so rfl Lw_end)) (hk269 _ _ _ _)
def f_Mo_init_269 : ba_S → Nat → Int32 → ba_M → Option (ba_S × ba_M) := fx (fun _ _ _ _ => none) (b_Mo_init_269) FU
theorem l_Mo_init_269 : ∀ (n : Nat) (S : ba_S) (v0 : Nat) (v1 : Int32) (m : ba_M), AW Y_Mo_init 269 [some (aR (some v0)), some (aI v1)] [] S m ((fx (F := ba_S → Nat → Int32 → ba_M → Option (ba_S × ba_M)) (fun _ _ _ _ => none) (b_Mo_init_269) n) S v0 v1 m) := by
  intro n
  induction n with
  | zero => intro _ _ _ _; exact AW.none
  | succ n ih => exact w_Mo_init_269 ih
def b_Mo_init_201 (k201 : ba_S → Nat → Int32 → ba_M → Option (ba_S × ba_M)) (S : ba_S) (v0 : Nat) (v1 : Int32) (m : ba_M) : Option (ba_S × ba_M) :=
  (cK S v0 11 (if (gI m v0 2) ≤ v1 then (cK S v0 11 (ldR S v0 20 21 fun r13 => (cK S r13 21 (bD S r13 (nI 0) (sB S (wL m r13 ((nI 0)).toNatClampNeg (lN 1)) fun S16 m17 => (f_Mo_init_269  S16 v0 (nI 1) m17)))))) else (cK S v0 11 (ldR S v0 4 20 fun r19 => (cK S v0 11 (if (gI m v0 2) = 0 then none else (cK S r19 20 (bD S r19 v1 (sB S (wI m r19 (v1).toNatClampNeg ((v1 + (nI 1)) - (v1 + (nI 1)) / (gI m v0 2) * (gI m v0 2))) fun S23 m24 => (cK S23 v0 11 (ldR S23 v0 4 20 fun r26 => (cK S23 v0 11 (ldR S23 v0 3 20 fun r29 => (cK S23 v0 11 (ldR S23 v0 4 20 fun r32 => (cK S23 r32 20 (bD S23 r32 v1 (cK S23 r29 20 (bD S23 r29 ((nI 5) * (gI m24 r32 (v1).toNatClampNeg)) (cK S23 r26 20 (bD S23 r26 ((nI 5) + v1) (sB S23 (wI m24 r26 (((nI 5) + v1)).toNatClampNeg (gI m24 r29 (((nI 5) * (gI m24 r32 (v1).toNatClampNeg))).toNatClampNeg)) fun S37 m38 => (cK S37 v0 11 (ldR S37 v0 4 20 fun r40 => (cK S37 r40 20 (bD S37 r40 ((nI 10) + v1) (sB S37 (wI m38 r40 (((nI 10) + v1)).toNatClampNeg (nI 1)) fun S43 m44 => (k201 S43 v0 (v1 + (nI 1)) m44))))))))))))))))))))))))))))
set_option maxRecDepth 100000 in
theorem w_Mo_init_201 {k201 : ba_S → Nat → Int32 → ba_M → Option (ba_S × ba_M)} (hk201 : ∀ (S : ba_S) (v0 : Nat) (v1 : Int32) (m : ba_M), AW Y_Mo_init 201 [some (aR (some v0)), some (aI v1)] [] S m (k201 S v0 v1 m)) : ∀ (S : ba_S) (v0 : Nat) (v1 : Int32) (m : ba_M), AW Y_Mo_init 201 [some (aR (some v0)), some (aI v1)] [] S m (b_Mo_init_201 k201 S v0 v1 m) := by
  intro S v0 v1 m
  unfold b_Mo_init_201
  refine a_iload_n dX12_init_201 rfl ?_
  refine a_aload_n dX12_init_202 rfl ?_
  refine AW.ck (fun h11 => ?_)
  refine a_getI dX12_init_203 fl_RX12_75 rfl h11 ?_
  refine a_ige (tgt := 260) dX12_init_206 (by decide) (fun _ => ?_) (fun _ => ?_)
  · skip
    refine a_aload_n dX12_init_260 rfl ?_
    refine AW.ck (fun h12 => ?_)
    refine a_getR dX12_init_261 fl_RX12_43 rfl h12 (fun r13 h14 => ?_)
    refine a_iconst (v := nI 0) dX12_init_264 (by decide) ?_
    refine a_lconst (v := lN 1) dX12_init_265 (by decide) ?_
    refine AW.ck (fun h15 => ?_)
    refine a_last dX12_init_266 h15 ?_
    refine AW.sB (fun S16 m17 => ?_)
    refine a_iconst (v := nI 1) dX12_init_267 (by decide) ?_
    refine a_istore_n dX12_init_268 rfl rfl ?_
    exact AW.weak (Lw_so rfl (Lw_so rfl Lw_end)) (l_Mo_init_269 FU _ _ _ _)
  · skip
    refine a_aload_n dX12_init_209 rfl ?_
    refine AW.ck (fun h18 => ?_)
    refine a_getR dX12_init_210 fl_RX12_13 rfl h18 (fun r19 h20 => ?_)
    refine a_iload_n dX12_init_213 rfl ?_
    refine a_iload_n dX12_init_214 rfl ?_
    refine a_iconst (v := nI 1) dX12_init_215 (by decide) ?_
    refine a_iadd dX12_init_216 ?_
    refine a_aload_n dX12_init_217 rfl ?_
    refine AW.ck (fun h21 => ?_)
    refine a_getI dX12_init_218 fl_RX12_75 rfl h21 ?_
    refine a_irem dX12_init_221 ?_
    refine AW.ck (fun h22 => ?_)
    refine a_iast dX12_init_222 h22 ?_
    refine AW.sB (fun S23 m24 => ?_)
    refine a_aload_n dX12_init_223 rfl ?_
    refine AW.ck (fun h25 => ?_)
    refine a_getR dX12_init_224 fl_RX12_13 rfl h25 (fun r26 h27 => ?_)
    refine a_iconst (v := nI 5) dX12_init_227 (by decide) ?_
    refine a_iload_n dX12_init_228 rfl ?_
    refine a_iadd dX12_init_229 ?_
    refine a_aload_n dX12_init_230 rfl ?_
    refine AW.ck (fun h28 => ?_)
    refine a_getR dX12_init_231 fl_RX12_7 rfl h28 (fun r29 h30 => ?_)
    refine a_iconst (v := nI 5) dX12_init_234 (by decide) ?_
    refine a_aload_n dX12_init_235 rfl ?_
    refine AW.ck (fun h31 => ?_)
    refine a_getR dX12_init_236 fl_RX12_13 rfl h31 (fun r32 h33 => ?_)
    refine a_iload_n dX12_init_239 rfl ?_
    refine AW.ck (fun h34 => ?_)
    refine a_iald dX12_init_240 h34 ?_
    refine a_imul dX12_init_241 ?_
    refine AW.ck (fun h35 => ?_)
    refine a_iald dX12_init_242 h35 ?_
    refine AW.ck (fun h36 => ?_)
    refine a_iast dX12_init_243 h36 ?_
    refine AW.sB (fun S37 m38 => ?_)
    refine a_aload_n dX12_init_244 rfl ?_
    refine AW.ck (fun h39 => ?_)
    refine a_getR dX12_init_245 fl_RX12_13 rfl h39 (fun r40 h41 => ?_)
    refine a_bipush (v := nI 10) dX12_init_248 (by decide) ?_
    refine a_iload_n dX12_init_250 rfl ?_
    refine a_iadd dX12_init_251 ?_
    refine a_iconst (v := nI 1) dX12_init_252 (by decide) ?_
    refine AW.ck (fun h42 => ?_)
    refine a_iast dX12_init_253 h42 ?_
    refine AW.sB (fun S43 m44 => ?_)
    refine a_iinc (v := nI 1) dX12_init_254 rfl (by decide) rfl rfl ?_
    refine a_goto (tgt := 201) dX12_init_257 (by decide) ?_
    exact AW.weak (Lw_so rfl (Lw_so rfl Lw_end)) (hk201 _ _ _ _)
def f_Mo_init_201 : ba_S → Nat → Int32 → ba_M → Option (ba_S × ba_M) := fx (fun _ _ _ _ => none) (b_Mo_init_201) FU
theorem l_Mo_init_201 : ∀ (n : Nat) (S : ba_S) (v0 : Nat) (v1 : Int32) (m : ba_M), AW Y_Mo_init 201 [some (aR (some v0)), some (aI v1)] [] S m ((fx (F := ba_S → Nat → Int32 → ba_M → Option (ba_S × ba_M)) (fun _ _ _ _ => none) (b_Mo_init_201) n) S v0 v1 m) := by
  intro n
  induction n with
  | zero => intro _ _ _ _; exact AW.none
  | succ n ih => exact w_Mo_init_201 ih
def f_Mo_init (S : ba_S) (a0 : Nat) (m : ba_M) : Option (ba_S × ba_M) :=
  (nA (nI 25) (sB (pS S 20 ((nI 25)).toNatClampNeg ((nI 25)).toNatClampNeg) (pM (nN S) m) fun S45 m46 => (cK S45 a0 11 (sB (wR S45 a0 3 (some (nN S))) m46 fun S48 m49 => (nA (nI 20) (sB (pS S48 20 ((nI 20)).toNatClampNeg ((nI 20)).toNatClampNeg) (pM (nN S48) m49) fun S50 m51 => (cK S50 a0 11 (sB (wR S50 a0 4 (some (nN S48))) m51 fun S53 m54 => (nA (nI 300) (sB (pS S53 20 ((nI 300)).toNatClampNeg ((nI 300)).toNatClampNeg) (pM (nN S53) m54) fun S55 m56 => (cK S55 a0 11 (sB (wR S55 a0 5 (some (nN S53))) m56 fun S58 m59 => (nA (nI 5) (sB (pS S58 20 ((nI 5)).toNatClampNeg ((nI 5)).toNatClampNeg) (pM (nN S58) m59) fun S60 m61 => (cK S60 a0 11 (sB (wR S60 a0 8 (some (nN S58))) m61 fun S63 m64 => (nA (nI 25) (sB (pS S63 20 ((nI 25)).toNatClampNeg ((nI 25)).toNatClampNeg) (pM (nN S63) m64) fun S65 m66 => (cK S65 a0 11 (sB (wR S65 a0 12 (some (nN S63))) m66 fun S68 m69 => (nA (nI 15) (sB (pS S68 20 ((nI 15)).toNatClampNeg ((nI 15)).toNatClampNeg) (pM (nN S68) m69) fun S70 m71 => (cK S70 a0 11 (sB (wR S70 a0 13 (some (nN S68))) m71 fun S73 m74 => (nA (nI 5) (sB (pS S73 20 ((nI 5)).toNatClampNeg ((nI 5)).toNatClampNeg) (pM (nN S73) m74) fun S75 m76 => (cK S75 a0 11 (sB (wR S75 a0 14 (some (nN S73))) m76 fun S78 m79 => (nA (nI 5) (sB (pS S78 20 ((nI 5)).toNatClampNeg ((nI 5)).toNatClampNeg) (pM (nN S78) m79) fun S80 m81 => (cK S80 a0 11 (sB (wR S80 a0 15 (some (nN S78))) m81 fun S83 m84 => (nA (nI 5) (sB (pS S83 20 ((nI 5)).toNatClampNeg ((nI 5)).toNatClampNeg) (pM (nN S83) m84) fun S85 m86 => (cK S85 a0 11 (sB (wR S85 a0 16 (some (nN S83))) m86 fun S88 m89 => (nA (nI 5) (sB (pS S88 20 ((nI 5)).toNatClampNeg ((nI 5)).toNatClampNeg) (pM (nN S88) m89) fun S90 m91 => (cK S90 a0 11 (sB (wR S90 a0 17 (some (nN S88))) m91 fun S93 m94 => (nA (nI 4) (sB (pS S93 20 ((nI 4)).toNatClampNeg ((nI 4)).toNatClampNeg) (pM (nN S93) m94) fun S95 m96 => (cK S95 a0 11 (sB (wR S95 a0 19 (some (nN S93))) m96 fun S98 m99 => (nA (nI 18) (sB (pS S98 21 ((nI 18)).toNatClampNeg ((nI 18)).toNatClampNeg) (pM (nN S98) m99) fun S100 m101 => (cK S100 a0 11 (sB (wR S100 a0 20 (some (nN S98))) m101 fun S103 m104 => (nA (nI 5120) (sB (pS S103 21 ((nI 5120)).toNatClampNeg ((nI 5120)).toNatClampNeg) (pM (nN S103) m104) fun S105 m106 => (cK S105 a0 11 (sB (wR S105 a0 21 (some (nN S103))) m106 fun S108 m109 => (nA (nI 5) (sB (pS S108 20 ((nI 5)).toNatClampNeg ((nI 5)).toNatClampNeg) (pM (nN S108) m109) fun S110 m111 => (cK S110 a0 11 (sB (wR S110 a0 22 (some (nN S108))) m111 fun S113 m114 => (nA (nI 5) (sB (pS S113 20 ((nI 5)).toNatClampNeg ((nI 5)).toNatClampNeg) (pM (nN S113) m114) fun S115 m116 => (cK S115 a0 11 (sB (wR S115 a0 23 (some (nN S113))) m116 fun S118 m119 => (nA (nI 40) (sB (pS S118 20 ((nI 40)).toNatClampNeg ((nI 40)).toNatClampNeg) (pM (nN S118) m119) fun S120 m121 => (cK S120 a0 11 (sB (wR S120 a0 25 (some (nN S118))) m121 fun S123 m124 => (nA (nI 24) (sB (pS S123 20 ((nI 24)).toNatClampNeg ((nI 24)).toNatClampNeg) (pM (nN S123) m124) fun S125 m126 => (cK S125 a0 11 (sB (wR S125 a0 27 (some (nN S123))) m126 fun S128 m129 => (nA (nI 5) (sB (pS S128 20 ((nI 5)).toNatClampNeg ((nI 5)).toNatClampNeg) (pM (nN S128) m129) fun S130 m131 => (cK S130 a0 11 (sB (wR S130 a0 28 (some (nN S128))) m131 fun S133 m134 => (nA (nI 40) (sB (pS S133 20 ((nI 40)).toNatClampNeg ((nI 40)).toNatClampNeg) (pM (nN S133) m134) fun S135 m136 => (cK S135 a0 11 (sB (wR S135 a0 30 (some (nN S133))) m136 fun S138 m139 => (cK S138 a0 11 (sB S138 (wI m139 a0 0 (nI 30)) fun S141 m142 => (cK S141 a0 11 (sB S141 (wI m142 a0 1 (nI 1)) fun S144 m145 => (cK S144 a0 11 (sB S144 (wI m145 a0 2 (nI 3)) fun S147 m148 => (cK S147 a0 11 ((f_Mo_lays S147 a0 (nI 0) (nI 10) (nI 2) (nI 5) (nI 5) (nI 0) m148).bind fun q149 => (cK S147 a0 11 ((f_Mo_lays S147 a0 (nI 1) (nI 14) (nI 2) (nI 5) (nI 3) (nI 0) q149).bind fun q151 => (cK S147 a0 11 ((f_Mo_lays S147 a0 (nI 2) (nI 20) (nI 3) (nI 4) (nI 6) (nI 0) q151).bind fun q153 => (f_Mo_init_201  S147 a0 (nI 0) q153)))))))))))))))))))))))))))))))))))))))))))))))))))))))))))))))))))))))))))))))))))))))))
set_option maxRecDepth 100000 in
theorem e_Mo_init (S : ba_S) (a0 : Nat) (m : ba_M) : AW Y_Mo_init 0 [some (aR (some a0)), none] [] S m (f_Mo_init S a0 m) := by
  unfold f_Mo_init
  refine a_aload_n dX12_init_0 rfl ?_
  refine a_obj dX12_init_1 lo_RX12_1 rfl rfl rfl ?_
  refine a_aload_n dX12_init_4 rfl ?_
  refine a_bipush (v := nI 25) dX12_init_5 (by decide) ?_
  refine a_newI dX12_init_7 ?_
  refine AW.sB (fun S45 m46 => ?_)
  refine AW.ck (fun h47 => ?_)
  refine a_putR rfl dX12_init_9 fl_RX12_7 ⟨_, rfl, rfl⟩ rfl rfl (fun _ => ⟨rfl, rfl⟩) h47 ?_
  refine AW.sB (fun S48 m49 => ?_)
  refine a_aload_n dX12_init_12 rfl ?_
  refine a_bipush (v := nI 20) dX12_init_13 (by decide) ?_
  refine a_newI dX12_init_15 ?_
  refine AW.sB (fun S50 m51 => ?_)
  refine AW.ck (fun h52 => ?_)
  refine a_putR rfl dX12_init_17 fl_RX12_13 ⟨_, rfl, rfl⟩ rfl rfl (fun _ => ⟨rfl, rfl⟩) h52 ?_
  refine AW.sB (fun S53 m54 => ?_)
  refine a_aload_n dX12_init_20 rfl ?_
  refine a_sipush (v := nI 300) dX12_init_21 (by decide) ?_
  refine a_newI dX12_init_24 ?_
  refine AW.sB (fun S55 m56 => ?_)
  refine AW.ck (fun h57 => ?_)
  refine a_putR rfl dX12_init_26 fl_RX12_16 ⟨_, rfl, rfl⟩ rfl rfl (fun _ => ⟨rfl, rfl⟩) h57 ?_
  refine AW.sB (fun S58 m59 => ?_)
  refine a_aload_n dX12_init_29 rfl ?_
  refine a_iconst (v := nI 5) dX12_init_30 (by decide) ?_
  refine a_newI dX12_init_31 ?_
  refine AW.sB (fun S60 m61 => ?_)
  refine AW.ck (fun h62 => ?_)
  refine a_putR rfl dX12_init_33 fl_RX12_19 ⟨_, rfl, rfl⟩ rfl rfl (fun _ => ⟨rfl, rfl⟩) h62 ?_
  refine AW.sB (fun S63 m64 => ?_)
  refine a_aload_n dX12_init_36 rfl ?_
  refine a_bipush (v := nI 25) dX12_init_37 (by decide) ?_
  refine a_newI dX12_init_39 ?_
  refine AW.sB (fun S65 m66 => ?_)
  refine AW.ck (fun h67 => ?_)
  refine a_putR rfl dX12_init_41 fl_RX12_22 ⟨_, rfl, rfl⟩ rfl rfl (fun _ => ⟨rfl, rfl⟩) h67 ?_
  refine AW.sB (fun S68 m69 => ?_)
  refine a_aload_n dX12_init_44 rfl ?_
  refine a_bipush (v := nI 15) dX12_init_45 (by decide) ?_
  refine a_newI dX12_init_47 ?_
  refine AW.sB (fun S70 m71 => ?_)
  refine AW.ck (fun h72 => ?_)
  refine a_putR rfl dX12_init_49 fl_RX12_25 ⟨_, rfl, rfl⟩ rfl rfl (fun _ => ⟨rfl, rfl⟩) h72 ?_
  refine AW.sB (fun S73 m74 => ?_)
  refine a_aload_n dX12_init_52 rfl ?_
  refine a_iconst (v := nI 5) dX12_init_53 (by decide) ?_
  refine a_newI dX12_init_54 ?_
  refine AW.sB (fun S75 m76 => ?_)
  refine AW.ck (fun h77 => ?_)
  refine a_putR rfl dX12_init_56 fl_RX12_28 ⟨_, rfl, rfl⟩ rfl rfl (fun _ => ⟨rfl, rfl⟩) h77 ?_
  refine AW.sB (fun S78 m79 => ?_)
  refine a_aload_n dX12_init_59 rfl ?_
  refine a_iconst (v := nI 5) dX12_init_60 (by decide) ?_
  refine a_newI dX12_init_61 ?_
  refine AW.sB (fun S80 m81 => ?_)
  refine AW.ck (fun h82 => ?_)
  refine a_putR rfl dX12_init_63 fl_RX12_31 ⟨_, rfl, rfl⟩ rfl rfl (fun _ => ⟨rfl, rfl⟩) h82 ?_
  refine AW.sB (fun S83 m84 => ?_)
  refine a_aload_n dX12_init_66 rfl ?_
  refine a_iconst (v := nI 5) dX12_init_67 (by decide) ?_
  refine a_newI dX12_init_68 ?_
  refine AW.sB (fun S85 m86 => ?_)
  refine AW.ck (fun h87 => ?_)
  refine a_putR rfl dX12_init_70 fl_RX12_34 ⟨_, rfl, rfl⟩ rfl rfl (fun _ => ⟨rfl, rfl⟩) h87 ?_
  refine AW.sB (fun S88 m89 => ?_)
  refine a_aload_n dX12_init_73 rfl ?_
  refine a_iconst (v := nI 5) dX12_init_74 (by decide) ?_
  refine a_newI dX12_init_75 ?_
  refine AW.sB (fun S90 m91 => ?_)
  refine AW.ck (fun h92 => ?_)
  refine a_putR rfl dX12_init_77 fl_RX12_37 ⟨_, rfl, rfl⟩ rfl rfl (fun _ => ⟨rfl, rfl⟩) h92 ?_
  refine AW.sB (fun S93 m94 => ?_)
  refine a_aload_n dX12_init_80 rfl ?_
  refine a_iconst (v := nI 4) dX12_init_81 (by decide) ?_
  refine a_newI dX12_init_82 ?_
  refine AW.sB (fun S95 m96 => ?_)
  refine AW.ck (fun h97 => ?_)
  refine a_putR rfl dX12_init_84 fl_RX12_40 ⟨_, rfl, rfl⟩ rfl rfl (fun _ => ⟨rfl, rfl⟩) h97 ?_
  refine AW.sB (fun S98 m99 => ?_)
  refine a_aload_n dX12_init_87 rfl ?_
  refine a_bipush (v := nI 18) dX12_init_88 (by decide) ?_
  refine a_newL dX12_init_90 ?_
  refine AW.sB (fun S100 m101 => ?_)
  refine AW.ck (fun h102 => ?_)
  refine a_putR rfl dX12_init_92 fl_RX12_43 ⟨_, rfl, rfl⟩ rfl rfl (fun _ => ⟨rfl, rfl⟩) h102 ?_
  refine AW.sB (fun S103 m104 => ?_)
  refine a_aload_n dX12_init_95 rfl ?_
  refine a_sipush (v := nI 5120) dX12_init_96 (by decide) ?_
  refine a_newL dX12_init_99 ?_
  refine AW.sB (fun S105 m106 => ?_)
  refine AW.ck (fun h107 => ?_)
  refine a_putR rfl dX12_init_101 fl_RX12_47 ⟨_, rfl, rfl⟩ rfl rfl (fun _ => ⟨rfl, rfl⟩) h107 ?_
  refine AW.sB (fun S108 m109 => ?_)
  refine a_aload_n dX12_init_104 rfl ?_
  refine a_iconst (v := nI 5) dX12_init_105 (by decide) ?_
  refine a_newI dX12_init_106 ?_
  refine AW.sB (fun S110 m111 => ?_)
  refine AW.ck (fun h112 => ?_)
  refine a_putR rfl dX12_init_108 fl_RX12_50 ⟨_, rfl, rfl⟩ rfl rfl (fun _ => ⟨rfl, rfl⟩) h112 ?_
  refine AW.sB (fun S113 m114 => ?_)
  refine a_aload_n dX12_init_111 rfl ?_
  refine a_iconst (v := nI 5) dX12_init_112 (by decide) ?_
  refine a_newI dX12_init_113 ?_
  refine AW.sB (fun S115 m116 => ?_)
  refine AW.ck (fun h117 => ?_)
  refine a_putR rfl dX12_init_115 fl_RX12_53 ⟨_, rfl, rfl⟩ rfl rfl (fun _ => ⟨rfl, rfl⟩) h117 ?_
  refine AW.sB (fun S118 m119 => ?_)
  refine a_aload_n dX12_init_118 rfl ?_
  refine a_bipush (v := nI 40) dX12_init_119 (by decide) ?_
  refine a_newI dX12_init_121 ?_
  refine AW.sB (fun S120 m121 => ?_)
  refine AW.ck (fun h122 => ?_)
  refine a_putR rfl dX12_init_123 fl_RX12_56 ⟨_, rfl, rfl⟩ rfl rfl (fun _ => ⟨rfl, rfl⟩) h122 ?_
  refine AW.sB (fun S123 m124 => ?_)
  refine a_aload_n dX12_init_126 rfl ?_
  refine a_bipush (v := nI 24) dX12_init_127 (by decide) ?_
  refine a_newI dX12_init_129 ?_
  refine AW.sB (fun S125 m126 => ?_)
  refine AW.ck (fun h127 => ?_)
  refine a_putR rfl dX12_init_131 fl_RX12_59 ⟨_, rfl, rfl⟩ rfl rfl (fun _ => ⟨rfl, rfl⟩) h127 ?_
  refine AW.sB (fun S128 m129 => ?_)
  refine a_aload_n dX12_init_134 rfl ?_
  refine a_iconst (v := nI 5) dX12_init_135 (by decide) ?_
  refine a_newI dX12_init_136 ?_
  refine AW.sB (fun S130 m131 => ?_)
  refine AW.ck (fun h132 => ?_)
  refine a_putR rfl dX12_init_138 fl_RX12_62 ⟨_, rfl, rfl⟩ rfl rfl (fun _ => ⟨rfl, rfl⟩) h132 ?_
  refine AW.sB (fun S133 m134 => ?_)
  refine a_aload_n dX12_init_141 rfl ?_
  refine a_bipush (v := nI 40) dX12_init_142 (by decide) ?_
  refine a_newI dX12_init_144 ?_
  refine AW.sB (fun S135 m136 => ?_)
  refine AW.ck (fun h137 => ?_)
  refine a_putR rfl dX12_init_146 fl_RX12_65 ⟨_, rfl, rfl⟩ rfl rfl (fun _ => ⟨rfl, rfl⟩) h137 ?_
  refine AW.sB (fun S138 m139 => ?_)
  refine a_aload_n dX12_init_149 rfl ?_
  refine a_bipush (v := nI 30) dX12_init_150 (by decide) ?_
  refine AW.ck (fun h140 => ?_)
  refine a_putI dX12_init_152 fl_RX12_68 (rfl : _ = FieldType.int) rfl rfl rfl h140 ?_
  refine AW.sB (fun S141 m142 => ?_)
  refine a_aload_n dX12_init_155 rfl ?_
  refine a_iconst (v := nI 1) dX12_init_156 (by decide) ?_
  refine AW.ck (fun h143 => ?_)
  refine a_putI dX12_init_157 fl_RX12_72 (rfl : _ = FieldType.int) rfl rfl rfl h143 ?_
  refine AW.sB (fun S144 m145 => ?_)
  refine a_aload_n dX12_init_160 rfl ?_
  refine a_iconst (v := nI 3) dX12_init_161 (by decide) ?_
  refine AW.ck (fun h146 => ?_)
  refine a_putI dX12_init_162 fl_RX12_75 (rfl : _ = FieldType.int) rfl rfl rfl h146 ?_
  refine AW.sB (fun S147 m148 => ?_)
  refine a_aload_n dX12_init_165 rfl ?_
  refine a_iconst (v := nI 0) dX12_init_166 (by decide) ?_
  refine a_bipush (v := nI 10) dX12_init_167 (by decide) ?_
  refine a_iconst (v := nI 2) dX12_init_169 (by decide) ?_
  refine a_iconst (v := nI 5) dX12_init_170 (by decide) ?_
  refine a_iconst (v := nI 5) dX12_init_171 (by decide) ?_
  refine a_iconst (v := nI 0) dX12_init_172 (by decide) ?_
  refine AW.ck (fun h150 => ?_)
  refine a_callV_V dX12_init_173 lk_RX12_78 mt_Mo_lays vt_Mo_lays ⟨_, rfl, rfl⟩ (fun _ h => m_Mo_lays h) rfl rfl h150 ⟨rfl, rfl, rfl⟩ (fun q149 => ?_)
  refine a_aload_n dX12_init_176 rfl ?_
  refine a_iconst (v := nI 1) dX12_init_177 (by decide) ?_
  refine a_bipush (v := nI 14) dX12_init_178 (by decide) ?_
  refine a_iconst (v := nI 2) dX12_init_180 (by decide) ?_
  refine a_iconst (v := nI 5) dX12_init_181 (by decide) ?_
  refine a_iconst (v := nI 3) dX12_init_182 (by decide) ?_
  refine a_iconst (v := nI 0) dX12_init_183 (by decide) ?_
  refine AW.ck (fun h152 => ?_)
  refine a_callV_V dX12_init_184 lk_RX12_78 mt_Mo_lays vt_Mo_lays ⟨_, rfl, rfl⟩ (fun _ h => m_Mo_lays h) rfl rfl h152 ⟨rfl, rfl, rfl⟩ (fun q151 => ?_)
  refine a_aload_n dX12_init_187 rfl ?_
  refine a_iconst (v := nI 2) dX12_init_188 (by decide) ?_
  refine a_bipush (v := nI 20) dX12_init_189 (by decide) ?_
  refine a_iconst (v := nI 3) dX12_init_191 (by decide) ?_
  refine a_iconst (v := nI 4) dX12_init_192 (by decide) ?_
  refine a_bipush (v := nI 6) dX12_init_193 (by decide) ?_
  refine a_iconst (v := nI 0) dX12_init_195 (by decide) ?_
  refine AW.ck (fun h154 => ?_)
  refine a_callV_V dX12_init_196 lk_RX12_78 mt_Mo_lays vt_Mo_lays ⟨_, rfl, rfl⟩ (fun _ h => m_Mo_lays h) rfl rfl h154 ⟨rfl, rfl, rfl⟩ (fun q153 => ?_)
  refine a_iconst (v := nI 0) dX12_init_199 (by decide) ?_
  refine a_istore_n dX12_init_200 rfl rfl ?_
  exact AW.weak (Lw_so rfl (Lw_so rfl Lw_end)) (l_Mo_init_201 FU _ _ _ _)
theorem m_Mo_init {S : ba_S} {a0 : Nat} {m : ba_M} {q : ba_S × ba_M} (h : f_Mo_init S a0 m = some q) : MA Y_Mo_init yX12_init none [aR (some a0)] S m q :=
  ba_met ⟨by decide +kernel, rfl⟩ rfl (fun _ => rfl) (Or.inr (Or.inr (Or.inr (Or.inl ⟨rfl, rfl, rfl⟩)))) rfl (h ▸ e_Mo_init S a0 m)

abbrev Y_Mo_in (S : ba_S) : ba_Y (Bool × ba_M) := mZ cX12_in RX12 3 0 0 S
def f_Mo_in_15 (S : ba_S) (s0 : Bool) (m : ba_M) : Option (Bool × ba_M) :=
  (some (s0, m))
set_option maxRecDepth 100000 in
theorem w_Mo_in_15 {S : ba_S} : ∀ (s0 : Bool) (m : ba_M), AW (Y_Mo_in S) 15 [none, none, none] [aI (b2i s0)] S m (f_Mo_in_15 S s0 m) := by
  intro s0 m
  unfold f_Mo_in_15
  exact AW.ret dX12_in_15 rfl rfl
def f_Mo_in_14 (S : ba_S) (m : ba_M) : Option (Bool × ba_M) :=
  (f_Mo_in_15 S false m)
set_option maxRecDepth 100000 in
theorem w_Mo_in_14 {S : ba_S} : ∀ (m : ba_M), AW (Y_Mo_in S) 14 [none, none, none] [] S m (f_Mo_in_14 S m) := by
  intro m
  unfold f_Mo_in_14
  refine a_iconst (v := nI 0) dX12_in_14 (by decide) ?_
  exact AW.weak (Lw_no (Lw_no (Lw_no Lw_end))) (w_Mo_in_15 _ _)
def f_Mo_in (S : ba_S) (a0 : Int32) (a1 : Int32) (a2 : Int32) (m : ba_M) : Option (Bool × ba_M) :=
  (if a0 < a1 then (f_Mo_in_14 S m) else (if a2 < a0 then (f_Mo_in_14 S m) else (f_Mo_in_15 S true m)))
set_option maxRecDepth 100000 in
theorem e_Mo_in (S : ba_S) (a0 : Int32) (a1 : Int32) (a2 : Int32) (m : ba_M) : AW (Y_Mo_in S) 0 [some (aI a0), some (aI a1), some (aI a2)] [] S m (f_Mo_in S a0 a1 a2 m) := by
  unfold f_Mo_in
  refine a_iload_n dX12_in_0 rfl ?_
  refine a_iload_n dX12_in_1 rfl ?_
  refine a_ilt (tgt := 14) dX12_in_2 (by decide) (fun _ => ?_) (fun _ => ?_)
  · skip
    exact AW.weak (Lw_no (Lw_no (Lw_no Lw_end))) (w_Mo_in_14 _)
  · skip
    refine a_iload_n dX12_in_5 rfl ?_
    refine a_iload_n dX12_in_6 rfl ?_
    refine a_igt (tgt := 14) dX12_in_7 (by decide) (fun _ => ?_) (fun _ => ?_)
    · skip
      exact AW.weak (Lw_no (Lw_no (Lw_no Lw_end))) (w_Mo_in_14 _)
    · skip
      refine a_iconst (v := nI 1) dX12_in_10 (by decide) ?_
      refine a_goto (tgt := 15) dX12_in_11 (by decide) ?_
      exact AW.weak (Lw_no (Lw_no (Lw_no Lw_end))) (w_Mo_in_15 _ _)
theorem m_Mo_in {S : ba_S} {a0 : Int32} {a1 : Int32} {a2 : Int32} {m : ba_M} {q : Bool × ba_M} (h : f_Mo_in S a0 a1 a2 m = some q) : MA (Y_Mo_in S) yX12_in (some .boolean) [aI a0, aI a1, aI a2] S m q :=
  ba_met ⟨by decide +kernel, rfl⟩ rfl (fun h => by cases h) (Or.inr (Or.inl ⟨rfl, rfl, _, rfl⟩)) rfl (h ▸ e_Mo_in S a0 a1 a2 m)

abbrev Y_Mo_isPlayer (S : ba_S) : ba_Y (Bool × ba_M) := mZ cX12_isPlayer RX12 2 1 22 S
def f_Mo_isPlayer (S : ba_S) (a0 : Nat) (a1 : Int32) (m : ba_M) : Option (Bool × ba_M) :=
  cK S a0 11 (((f_Mo_in S a1 (nI 0) ((gI m a0 2) - (nI 1)) m).bind fun q1 => (some (q1.1, q1.2))))
set_option maxRecDepth 100000 in
theorem e_Mo_isPlayer (S : ba_S) (a0 : Nat) (a1 : Int32) (m : ba_M) : AW (Y_Mo_isPlayer S) 0 [some (aR (some a0)), some (aI a1)] [] S m (f_Mo_isPlayer S a0 a1 m) := by
  unfold f_Mo_isPlayer
  refine AW.ck (fun g0 => ?_)
  refine a_iload_n dX12_isPlayer_0 rfl ?_
  refine a_iconst (v := nI 0) dX12_isPlayer_1 (by decide) ?_
  refine a_aload_n dX12_isPlayer_2 rfl ?_
  refine a_getI dX12_isPlayer_3 fl_RX12_75 rfl g0 ?_
  refine a_iconst (v := nI 1) dX12_isPlayer_6 (by decide) ?_
  refine a_isub dX12_isPlayer_7 ?_
  refine a_callS_Z dX12_isPlayer_8 lk_RX12_84 mt_Mo_in sv_Mo_in (fun _ h => m_Mo_in h) rfl rfl ⟨rfl, rfl, rfl⟩ (fun q1 => ?_)
  exact AW.ret dX12_isPlayer_11 rfl rfl
theorem m_Mo_isPlayer {S : ba_S} {a0 : Nat} {a1 : Int32} {m : ba_M} {q : Bool × ba_M} (h : f_Mo_isPlayer S a0 a1 m = some q) : MA (Y_Mo_isPlayer S) yX12_isPlayer (some .boolean) [aR (some a0), aI a1] S m q :=
  ba_met ⟨by decide +kernel, rfl⟩ rfl (fun h => by cases h) (Or.inr (Or.inl ⟨rfl, rfl, _, rfl⟩)) rfl (h ▸ e_Mo_isPlayer S a0 a1 m)

abbrev Y_Mo_size (S : ba_S) : ba_Y (Int32 × ba_M) := mI cX12_size RX12 1 0 0 S
def f_Mo_size_10 (S : ba_S) (s0 : Int32) (m : ba_M) : Option (Int32 × ba_M) :=
  (some (s0, m))
set_option maxRecDepth 100000 in
theorem w_Mo_size_10 {S : ba_S} : ∀ (s0 : Int32) (m : ba_M), AW (Y_Mo_size S) 10 [none] [aI s0] S m (f_Mo_size_10 S s0 m) := by
  intro s0 m
  unfold f_Mo_size_10
  exact AW.ret dX12_size_10 rfl rfl
def f_Mo_size (S : ba_S) (a0 : Int32) (m : ba_M) : Option (Int32 × ba_M) :=
  (if 0 ≤ a0 then (f_Mo_size_10 S a0 m) else (f_Mo_size_10 S (-a0) m))
set_option maxRecDepth 100000 in
theorem e_Mo_size (S : ba_S) (a0 : Int32) (m : ba_M) : AW (Y_Mo_size S) 0 [some (aI a0)] [] S m (f_Mo_size S a0 m) := by
  unfold f_Mo_size
  refine a_iload_n dX12_size_0 rfl ?_
  refine a_zge (tgt := 9) dX12_size_1 (by decide) (fun _ => ?_) (fun _ => ?_)
  · skip
    refine a_iload_n dX12_size_9 rfl ?_
    exact AW.weak (Lw_no Lw_end) (w_Mo_size_10 _ _)
  · skip
    refine a_iload_n dX12_size_4 rfl ?_
    refine a_ineg dX12_size_5 ?_
    refine a_goto (tgt := 10) dX12_size_6 (by decide) ?_
    exact AW.weak (Lw_no Lw_end) (w_Mo_size_10 _ _)
theorem m_Mo_size {S : ba_S} {a0 : Int32} {m : ba_M} {q : Int32 × ba_M} (h : f_Mo_size S a0 m = some q) : MA (Y_Mo_size S) yX12_size (some .int) [aI a0] S m q :=
  ba_met ⟨by decide +kernel, rfl⟩ rfl (fun h => by cases h) (Or.inl ⟨rfl, rfl, _, rfl⟩) rfl (h ▸ e_Mo_size S a0 m)

abbrev Y_Mo_write (S : ba_S) : ba_Y (Int32 × ba_M) := mI cX12_write RX12 5 1 22 S
def b_Mo_write_32 (S : ba_S) (k32 : Nat → Int64 → Int32 → ba_M → Option (Int32 × ba_M)) (v0 : Nat) (v2 : Int64) (v4 : Int32) (m : ba_M) : Option (Int32 × ba_M) :=
  (if v4 < 0 then (some ((gI m v0 6), m)) else (ldR S v0 5 20 fun r1 => (bD S r1 (gI m v0 6) (k32 v0 v2 (v4 + (-1 : Int32)) (wI (wI m r1 ((gI m v0 6)).toNatClampNeg (Int64.toInt32 ((v2 >>> (Int32.toInt64 ((nI 8) * v4) &&& 63)) &&& (lN 255)))) v0 6 ((gI (wI m r1 ((gI m v0 6)).toNatClampNeg (Int64.toInt32 ((v2 >>> (Int32.toInt64 ((nI 8) * v4) &&& 63)) &&& (lN 255)))) v0 6) + (nI 1)))))))
set_option maxRecDepth 100000 in
theorem w_Mo_write_32 {S : ba_S} {k32 : Nat → Int64 → Int32 → ba_M → Option (Int32 × ba_M)} (hk32 : ∀ (v0 : Nat) (v2 : Int64) (v4 : Int32) (m : ba_M), ck S v0 11 = true → AW (Y_Mo_write S) 32 [some (aR (some v0)), none, some (aJ v2), none, some (aI v4)] [] S m (k32 v0 v2 v4 m)) : ∀ (v0 : Nat) (v2 : Int64) (v4 : Int32) (m : ba_M), ck S v0 11 = true → AW (Y_Mo_write S) 32 [some (aR (some v0)), none, some (aJ v2), none, some (aI v4)] [] S m (b_Mo_write_32 S k32 v0 v2 v4 m) := by
  intro v0 v2 v4 m g0
  unfold b_Mo_write_32
  refine a_iload dX12_write_32 rfl ?_
  refine a_zlt (tgt := 74) dX12_write_34 (by decide) (fun _ => ?_) (fun _ => ?_)
  · skip
    refine a_aload_n dX12_write_74 rfl ?_
    refine a_getI dX12_write_75 fl_RX12_88 rfl g0 ?_
    exact AW.ret dX12_write_78 rfl rfl
  · skip
    refine a_aload_n dX12_write_37 rfl ?_
    refine a_getR dX12_write_38 fl_RX12_16 rfl g0 (fun r1 h2 => ?_)
    refine a_aload_n dX12_write_41 rfl ?_
    refine a_getI dX12_write_42 fl_RX12_88 rfl g0 ?_
    refine a_lload_n dX12_write_45 rfl ?_
    refine a_bipush (v := nI 8) dX12_write_46 (by decide) ?_
    refine a_iload dX12_write_48 rfl ?_
    refine a_imul dX12_write_50 ?_
    refine a_lshr dX12_write_51 ?_
    refine a_ldc2 dX12_write_52 cl_RX12_91 ?_
    refine a_land dX12_write_55 ?_
    refine a_l2i dX12_write_56 ?_
    refine a_iast dX12_write_57 h2 ?_
    refine a_aload_n dX12_write_58 rfl ?_
    refine a_dup dX12_write_59 rfl ?_
    refine a_getI dX12_write_60 fl_RX12_88 rfl g0 ?_
    refine a_iconst (v := nI 1) dX12_write_63 (by decide) ?_
    refine a_iadd dX12_write_64 ?_
    refine a_putI dX12_write_65 fl_RX12_88 (rfl : _ = FieldType.int) rfl rfl rfl g0 ?_
    refine a_iinc (v := -1) dX12_write_68 rfl (by decide) rfl rfl ?_
    refine a_goto (tgt := 32) dX12_write_71 (by decide) ?_
    exact AW.weak (Lw_so rfl (Lw_no (Lw_so rfl (Lw_no (Lw_so rfl Lw_end))))) (hk32 _ _ _ _ g0)
def f_Mo_write_32 (S : ba_S) : Nat → Int64 → Int32 → ba_M → Option (Int32 × ba_M) := fx (fun _ _ _ _ => none) (b_Mo_write_32 S) FU
theorem l_Mo_write_32 {S : ba_S} : ∀ (n : Nat) (v0 : Nat) (v2 : Int64) (v4 : Int32) (m : ba_M), ck S v0 11 = true → AW (Y_Mo_write S) 32 [some (aR (some v0)), none, some (aJ v2), none, some (aI v4)] [] S m ((fx (F := Nat → Int64 → Int32 → ba_M → Option (Int32 × ba_M)) (fun _ _ _ _ => none) (b_Mo_write_32 S) n) v0 v2 v4 m) := by
  intro n
  induction n with
  | zero => intro _ _ _ _ _; exact AW.none
  | succ n ih => exact w_Mo_write_32 ih
def f_Mo_write (S : ba_S) (a0 : Nat) (a1 : Int32) (a2 : Int64) (m : ba_M) : Option (Int32 × ba_M) :=
  cK S a0 11 (((f_Mo_in S a1 (nI 1) (nI 8) m).bind fun q3 => (if q3.1 = true then (if ((gI q3.2 a0 6) + a1) ≤ (nI 300) then (f_Mo_write_32 S a0 a2 (a1 - (nI 1)) q3.2) else (some ((-3 : Int32), q3.2))) else (some ((-1 : Int32), q3.2)))))
set_option maxRecDepth 100000 in
theorem e_Mo_write (S : ba_S) (a0 : Nat) (a1 : Int32) (a2 : Int64) (m : ba_M) : AW (Y_Mo_write S) 0 [some (aR (some a0)), some (aI a1), some (aJ a2), none, none] [] S m (f_Mo_write S a0 a1 a2 m) := by
  unfold f_Mo_write
  refine AW.ck (fun g0 => ?_)
  refine a_iload_n dX12_write_0 rfl ?_
  refine a_iconst (v := nI 1) dX12_write_1 (by decide) ?_
  refine a_bipush (v := nI 8) dX12_write_2 (by decide) ?_
  refine a_callS_Z dX12_write_4 lk_RX12_84 mt_Mo_in sv_Mo_in (fun _ h => m_Mo_in h) rfl rfl ⟨rfl, rfl, rfl⟩ (fun q3 => ?_)
  refine a_bne (tgt := 12) dX12_write_7 (by decide) (fun _ => ?_) (fun _ => ?_)
  · skip
    refine a_aload_n dX12_write_12 rfl ?_
    refine a_getI dX12_write_13 fl_RX12_88 rfl g0 ?_
    refine a_iload_n dX12_write_16 rfl ?_
    refine a_iadd dX12_write_17 ?_
    refine a_sipush (v := nI 300) dX12_write_18 (by decide) ?_
    refine a_ile (tgt := 27) dX12_write_21 (by decide) (fun _ => ?_) (fun _ => ?_)
    · skip
      refine a_iload_n dX12_write_27 rfl ?_
      refine a_iconst (v := nI 1) dX12_write_28 (by decide) ?_
      refine a_isub dX12_write_29 ?_
      refine a_istore dX12_write_30 rfl rfl ?_
      exact AW.weak (Lw_so rfl (Lw_no (Lw_so rfl (Lw_no (Lw_so rfl Lw_end))))) (l_Mo_write_32 FU _ _ _ _ g0)
    · skip
      refine a_bipush (v := -3) dX12_write_24 (by decide) ?_
      exact AW.ret dX12_write_26 rfl rfl
  · skip
    refine a_iconst (v := -1) dX12_write_10 (by decide) ?_
    exact AW.ret dX12_write_11 rfl rfl
theorem m_Mo_write {S : ba_S} {a0 : Nat} {a1 : Int32} {a2 : Int64} {m : ba_M} {q : Int32 × ba_M} (h : f_Mo_write S a0 a1 a2 m = some q) : MA (Y_Mo_write S) yX12_write (some .int) [aR (some a0), aI a1, aJ a2] S m q :=
  ba_met ⟨by decide +kernel, rfl⟩ rfl (fun h => by cases h) (Or.inl ⟨rfl, rfl, _, rfl⟩) rfl (h ▸ e_Mo_write S a0 a1 a2 m)

abbrev Y_Mo_wipe (S : ba_S) : ba_Y (Int32 × ba_M) := mI cX12_wipe RX12 2 0 0 S
def f_Mo_wipe (S : ba_S) (a0 : Nat) (m : ba_M) : Option (Int32 × ba_M) :=
  cK S a0 11 ((some ((gI m a0 6), (wI m a0 6 (nI 0)))))
set_option maxRecDepth 100000 in
theorem e_Mo_wipe (S : ba_S) (a0 : Nat) (m : ba_M) : AW (Y_Mo_wipe S) 0 [some (aR (some a0)), none] [] S m (f_Mo_wipe S a0 m) := by
  unfold f_Mo_wipe
  refine AW.ck (fun g0 => ?_)
  refine a_aload_n dX12_wipe_0 rfl ?_
  refine a_getI dX12_wipe_1 fl_RX12_88 rfl g0 ?_
  refine a_istore_n dX12_wipe_4 rfl rfl ?_
  refine a_aload_n dX12_wipe_5 rfl ?_
  refine a_iconst (v := nI 0) dX12_wipe_6 (by decide) ?_
  refine a_putI dX12_wipe_7 fl_RX12_88 (rfl : _ = FieldType.int) rfl rfl rfl g0 ?_
  refine a_iload_n dX12_wipe_10 rfl ?_
  exact AW.ret dX12_wipe_11 rfl rfl
theorem m_Mo_wipe {S : ba_S} {a0 : Nat} {m : ba_M} {q : Int32 × ba_M} (h : f_Mo_wipe S a0 m = some q) : MA (Y_Mo_wipe S) yX12_wipe (some .int) [aR (some a0)] S m q :=
  ba_met ⟨by decide +kernel, rfl⟩ rfl (fun h => by cases h) (Or.inl ⟨rfl, rfl, _, rfl⟩) rfl (h ▸ e_Mo_wipe S a0 m)

abbrev Y_Mo_byteAt (S : ba_S) : ba_Y (Int32 × ba_M) := mI cX12_byteAt RX12 2 0 0 S
def f_Mo_byteAt_18 (S : ba_S) (s0 : Int32) (m : ba_M) : Option (Int32 × ba_M) :=
  (some (s0, m))
set_option maxRecDepth 100000 in
theorem w_Mo_byteAt_18 {S : ba_S} : ∀ (s0 : Int32) (m : ba_M), AW (Y_Mo_byteAt S) 18 [none, none] [aI s0] S m (f_Mo_byteAt_18 S s0 m) := by
  intro s0 m
  unfold f_Mo_byteAt_18
  exact AW.ret dX12_byteAt_18 rfl rfl
def f_Mo_byteAt (S : ba_S) (a0 : Nat) (a1 : Int32) (m : ba_M) : Option (Int32 × ba_M) :=
  cK S a0 11 ((if (gI m a0 6) ≤ a1 then (f_Mo_byteAt_18 S (-1 : Int32) m) else (ldR S a0 5 20 fun r1 => (bD S r1 a1 (f_Mo_byteAt_18 S (gI m r1 (a1).toNatClampNeg) m)))))
set_option maxRecDepth 100000 in
theorem e_Mo_byteAt (S : ba_S) (a0 : Nat) (a1 : Int32) (m : ba_M) : AW (Y_Mo_byteAt S) 0 [some (aR (some a0)), some (aI a1)] [] S m (f_Mo_byteAt S a0 a1 m) := by
  unfold f_Mo_byteAt
  refine AW.ck (fun g0 => ?_)
  refine a_iload_n dX12_byteAt_0 rfl ?_
  refine a_aload_n dX12_byteAt_1 rfl ?_
  refine a_getI dX12_byteAt_2 fl_RX12_88 rfl g0 ?_
  refine a_ige (tgt := 17) dX12_byteAt_5 (by decide) (fun _ => ?_) (fun _ => ?_)
  · skip
    refine a_iconst (v := -1) dX12_byteAt_17 (by decide) ?_
    exact AW.weak (Lw_no (Lw_no Lw_end)) (w_Mo_byteAt_18 _ _)
  · skip
    refine a_aload_n dX12_byteAt_8 rfl ?_
    refine a_getR dX12_byteAt_9 fl_RX12_16 rfl g0 (fun r1 h2 => ?_)
    refine a_iload_n dX12_byteAt_12 rfl ?_
    refine a_iald dX12_byteAt_13 h2 ?_
    refine a_goto (tgt := 18) dX12_byteAt_14 (by decide) ?_
    exact AW.weak (Lw_no (Lw_no Lw_end)) (w_Mo_byteAt_18 _ _)
theorem m_Mo_byteAt {S : ba_S} {a0 : Nat} {a1 : Int32} {m : ba_M} {q : Int32 × ba_M} (h : f_Mo_byteAt S a0 a1 m = some q) : MA (Y_Mo_byteAt S) yX12_byteAt (some .int) [aR (some a0), aI a1] S m q :=
  ba_met ⟨by decide +kernel, rfl⟩ rfl (fun h => by cases h) (Or.inl ⟨rfl, rfl, _, rfl⟩) rfl (h ▸ e_Mo_byteAt S a0 a1 m)

abbrev Y_Mo_isFigure (S : ba_S) : ba_Y (Bool × ba_M) := mZ cX12_isFigure RX12 1 1 22 S
def f_Mo_isFigure (S : ba_S) (a0 : Int32) (m : ba_M) : Option (Bool × ba_M) :=
  ((f_Mo_in S a0 (nI 48) (nI 57) m).bind fun q1 => (some (q1.1, q1.2)))
set_option maxRecDepth 100000 in
theorem e_Mo_isFigure (S : ba_S) (a0 : Int32) (m : ba_M) : AW (Y_Mo_isFigure S) 0 [some (aI a0)] [] S m (f_Mo_isFigure S a0 m) := by
  unfold f_Mo_isFigure
  refine a_iload_n dX12_isFigure_0 rfl ?_
  refine a_bipush (v := nI 48) dX12_isFigure_1 (by decide) ?_
  refine a_bipush (v := nI 57) dX12_isFigure_3 (by decide) ?_
  refine a_callS_Z dX12_isFigure_5 lk_RX12_84 mt_Mo_in sv_Mo_in (fun _ h => m_Mo_in h) rfl rfl ⟨rfl, rfl, rfl⟩ (fun q1 => ?_)
  exact AW.ret dX12_isFigure_8 rfl rfl
theorem m_Mo_isFigure {S : ba_S} {a0 : Int32} {m : ba_M} {q : Bool × ba_M} (h : f_Mo_isFigure S a0 m = some q) : MA (Y_Mo_isFigure S) yX12_isFigure (some .boolean) [aI a0] S m q :=
  ba_met ⟨by decide +kernel, rfl⟩ rfl (fun h => by cases h) (Or.inr (Or.inl ⟨rfl, rfl, _, rfl⟩)) rfl (h ▸ e_Mo_isFigure S a0 m)

abbrev Y_Mo_readNumbers (S : ba_S) : ba_Y (Bool × ba_M) := mZ cX12_readNumbers RX12 3 2 42 S
def f_Mo_readNumbers_123 (S : ba_S) (k2 : Nat → Int32 → Int32 → ba_M → Option (Bool × ba_M)) (v0 : Nat) (v1 : Int32) (v2 : Int32) (s0 : Int32) (s1 : Int32) (m : ba_M) : Option (Bool × ba_M) :=
  (if s0 = s1 then (k2 v0 v1 (v2 + (nI 1)) (wI m v0 7 ((gI m v0 7) + (nI 1)))) else (some (false, m)))
set_option maxRecDepth 100000 in
theorem w_Mo_readNumbers_123 {S : ba_S} {k2 : Nat → Int32 → Int32 → ba_M → Option (Bool × ba_M)} (hk2 : ∀ (v0 : Nat) (v1 : Int32) (v2 : Int32) (m : ba_M), ck S v0 11 = true → AW (Y_Mo_readNumbers S) 2 [some (aR (some v0)), some (aI v1), some (aI v2)] [] S m (k2 v0 v1 v2 m)) : ∀ (v0 : Nat) (v1 : Int32) (v2 : Int32) (s0 : Int32) (s1 : Int32) (m : ba_M), ck S v0 11 = true → AW (Y_Mo_readNumbers S) 123 [some (aR (some v0)), some (aI v1), some (aI v2)] [aI s1, aI s0] S m (f_Mo_readNumbers_123 S k2 v0 v1 v2 s0 s1 m) := by
  intro v0 v1 v2 s0 s1 m g0
  unfold f_Mo_readNumbers_123
  refine a_ieq (tgt := 128) dX12_readNumbers_123 (by decide) (fun _ => ?_) (fun _ => ?_)
  · skip
    refine a_aload_n dX12_readNumbers_128 rfl ?_
    refine a_dup dX12_readNumbers_129 rfl ?_
    refine a_getI dX12_readNumbers_130 fl_RX12_93 rfl g0 ?_
    refine a_iconst (v := nI 1) dX12_readNumbers_133 (by decide) ?_
    refine a_iadd dX12_readNumbers_134 ?_
    refine a_putI dX12_readNumbers_135 fl_RX12_93 (rfl : _ = FieldType.int) rfl rfl rfl g0 ?_
    refine a_iinc (v := nI 1) dX12_readNumbers_138 rfl (by decide) rfl rfl ?_
    refine a_goto (tgt := 2) dX12_readNumbers_141 (by decide) ?_
    exact AW.weak (Lw_so rfl (Lw_so rfl (Lw_so rfl Lw_end))) (hk2 _ _ _ _ g0)
  · skip
    refine a_iconst (v := nI 0) dX12_readNumbers_126 (by decide) ?_
    exact AW.ret dX12_readNumbers_127 rfl rfl
def f_Mo_readNumbers_101 (S : ba_S) (k2 : Nat → Int32 → Int32 → ba_M → Option (Bool × ba_M)) (v0 : Nat) (v1 : Int32) (v2 : Int32) (m : ba_M) : Option (Bool × ba_M) :=
  ((f_Mo_byteAt S v0 (gI m v0 7) m).bind fun q1 => (if (v1 - (nI 1)) ≤ v2 then (f_Mo_readNumbers_123 S k2 v0 v1 v2 q1.1 (nI 59) q1.2) else (f_Mo_readNumbers_123 S k2 v0 v1 v2 q1.1 (nI 44) q1.2)))
set_option maxRecDepth 100000 in
theorem w_Mo_readNumbers_101 {S : ba_S} {k2 : Nat → Int32 → Int32 → ba_M → Option (Bool × ba_M)} (hk2 : ∀ (v0 : Nat) (v1 : Int32) (v2 : Int32) (m : ba_M), ck S v0 11 = true → AW (Y_Mo_readNumbers S) 2 [some (aR (some v0)), some (aI v1), some (aI v2)] [] S m (k2 v0 v1 v2 m)) : ∀ (v0 : Nat) (v1 : Int32) (v2 : Int32) (m : ba_M), ck S v0 11 = true → AW (Y_Mo_readNumbers S) 101 [some (aR (some v0)), some (aI v1), some (aI v2)] [] S m (f_Mo_readNumbers_101 S k2 v0 v1 v2 m) := by
  intro v0 v1 v2 m g0
  unfold f_Mo_readNumbers_101
  refine a_aload_n dX12_readNumbers_101 rfl ?_
  refine a_aload_n dX12_readNumbers_102 rfl ?_
  refine a_getI dX12_readNumbers_103 fl_RX12_93 rfl g0 ?_
  refine a_callV_I dX12_readNumbers_106 lk_RX12_96 mt_Mo_byteAt vt_Mo_byteAt ⟨_, rfl, rfl⟩ (fun _ h => m_Mo_byteAt h) rfl rfl g0 ⟨rfl, rfl, rfl⟩ (fun q1 => ?_)
  refine a_iload_n dX12_readNumbers_109 rfl ?_
  refine a_iload_n dX12_readNumbers_110 rfl ?_
  refine a_iconst (v := nI 1) dX12_readNumbers_111 (by decide) ?_
  refine a_isub dX12_readNumbers_112 ?_
  refine a_ige (tgt := 121) dX12_readNumbers_113 (by decide) (fun _ => ?_) (fun _ => ?_)
  · skip
    refine a_bipush (v := nI 59) dX12_readNumbers_121 (by decide) ?_
    exact AW.weak (Lw_so rfl (Lw_so rfl (Lw_so rfl Lw_end))) (w_Mo_readNumbers_123 hk2 _ _ _ _ _ _ g0)
  · skip
    refine a_bipush (v := nI 44) dX12_readNumbers_116 (by decide) ?_
    refine a_goto (tgt := 123) dX12_readNumbers_118 (by decide) ?_
    exact AW.weak (Lw_so rfl (Lw_so rfl (Lw_so rfl Lw_end))) (w_Mo_readNumbers_123 hk2 _ _ _ _ _ _ g0)
def b_Mo_readNumbers_2 (S : ba_S) (k2 : Nat → Int32 → Int32 → ba_M → Option (Bool × ba_M)) (v0 : Nat) (v1 : Int32) (v2 : Int32) (m : ba_M) : Option (Bool × ba_M) :=
  (if v1 ≤ v2 then (some (true, m)) else ((f_Mo_byteAt S v0 (gI m v0 7) m).bind fun q2 => ((f_Mo_isFigure S q2.1 q2.2).bind fun q3 => (if q3.1 = true then (ldR S v0 8 20 fun r4 => ((f_Mo_byteAt S v0 (gI q3.2 v0 7) q3.2).bind fun q6 => (bD S r4 v2 ((f_Mo_byteAt S v0 (gI (wI (wI q6.2 r4 (v2).toNatClampNeg (q6.1 - (nI 48))) v0 7 ((gI (wI q6.2 r4 (v2).toNatClampNeg (q6.1 - (nI 48))) v0 7) + (nI 1))) v0 7) (wI (wI q6.2 r4 (v2).toNatClampNeg (q6.1 - (nI 48))) v0 7 ((gI (wI q6.2 r4 (v2).toNatClampNeg (q6.1 - (nI 48))) v0 7) + (nI 1)))).bind fun q7 => ((f_Mo_isFigure S q7.1 q7.2).bind fun q8 => (if q8.1 = true then (ldR S v0 8 20 fun r9 => (ldR S v0 8 20 fun r11 => (bD S r11 v2 ((f_Mo_byteAt S v0 (gI q8.2 v0 7) q8.2).bind fun q13 => (bD S r9 v2 (f_Mo_readNumbers_101 S k2 v0 v1 v2 (wI (wI q13.2 r9 (v2).toNatClampNeg ((((nI 10) * (gI q8.2 r11 (v2).toNatClampNeg)) + q13.1) - (nI 48))) v0 7 ((gI (wI q13.2 r9 (v2).toNatClampNeg ((((nI 10) * (gI q8.2 r11 (v2).toNatClampNeg)) + q13.1) - (nI 48))) v0 7) + (nI 1))))))))) else (f_Mo_readNumbers_101 S k2 v0 v1 v2 q8.2))))))) else (some (false, q3.2))))))
set_option maxRecDepth 100000 in
theorem w_Mo_readNumbers_2 {S : ba_S} {k2 : Nat → Int32 → Int32 → ba_M → Option (Bool × ba_M)} (hk2 : ∀ (v0 : Nat) (v1 : Int32) (v2 : Int32) (m : ba_M), ck S v0 11 = true → AW (Y_Mo_readNumbers S) 2 [some (aR (some v0)), some (aI v1), some (aI v2)] [] S m (k2 v0 v1 v2 m)) : ∀ (v0 : Nat) (v1 : Int32) (v2 : Int32) (m : ba_M), ck S v0 11 = true → AW (Y_Mo_readNumbers S) 2 [some (aR (some v0)), some (aI v1), some (aI v2)] [] S m (b_Mo_readNumbers_2 S k2 v0 v1 v2 m) := by
  intro v0 v1 v2 m g0
  unfold b_Mo_readNumbers_2
  refine a_iload_n dX12_readNumbers_2 rfl ?_
  refine a_iload_n dX12_readNumbers_3 rfl ?_
  refine a_ige (tgt := 144) dX12_readNumbers_4 (by decide) (fun _ => ?_) (fun _ => ?_)
  · skip
    refine a_iconst (v := nI 1) dX12_readNumbers_144 (by decide) ?_
    exact AW.ret dX12_readNumbers_145 rfl rfl
  · skip
    refine a_aload_n dX12_readNumbers_7 rfl ?_
    refine a_aload_n dX12_readNumbers_8 rfl ?_
    refine a_getI dX12_readNumbers_9 fl_RX12_93 rfl g0 ?_
    refine a_callV_I dX12_readNumbers_12 lk_RX12_96 mt_Mo_byteAt vt_Mo_byteAt ⟨_, rfl, rfl⟩ (fun _ h => m_Mo_byteAt h) rfl rfl g0 ⟨rfl, rfl, rfl⟩ (fun q2 => ?_)
    refine a_callS_Z dX12_readNumbers_15 lk_RX12_100 mt_Mo_isFigure sv_Mo_isFigure (fun _ h => m_Mo_isFigure h) rfl rfl ⟨rfl, rfl, rfl⟩ (fun q3 => ?_)
    refine a_bne (tgt := 23) dX12_readNumbers_18 (by decide) (fun _ => ?_) (fun _ => ?_)
    · skip
      refine a_aload_n dX12_readNumbers_23 rfl ?_
      refine a_getR dX12_readNumbers_24 fl_RX12_19 rfl g0 (fun r4 h5 => ?_)
      refine a_iload_n dX12_readNumbers_27 rfl ?_
      refine a_aload_n dX12_readNumbers_28 rfl ?_
      refine a_aload_n dX12_readNumbers_29 rfl ?_
      refine a_getI dX12_readNumbers_30 fl_RX12_93 rfl g0 ?_
      refine a_callV_I dX12_readNumbers_33 lk_RX12_96 mt_Mo_byteAt vt_Mo_byteAt ⟨_, rfl, rfl⟩ (fun _ h => m_Mo_byteAt h) rfl rfl g0 ⟨rfl, rfl, rfl⟩ (fun q6 => ?_)
      refine a_bipush (v := nI 48) dX12_readNumbers_36 (by decide) ?_
      refine a_isub dX12_readNumbers_38 ?_
      refine a_iast dX12_readNumbers_39 h5 ?_
      refine a_aload_n dX12_readNumbers_40 rfl ?_
      refine a_dup dX12_readNumbers_41 rfl ?_
      refine a_getI dX12_readNumbers_42 fl_RX12_93 rfl g0 ?_
      refine a_iconst (v := nI 1) dX12_readNumbers_45 (by decide) ?_
      refine a_iadd dX12_readNumbers_46 ?_
      refine a_putI dX12_readNumbers_47 fl_RX12_93 (rfl : _ = FieldType.int) rfl rfl rfl g0 ?_
      refine a_aload_n dX12_readNumbers_50 rfl ?_
      refine a_aload_n dX12_readNumbers_51 rfl ?_
      refine a_getI dX12_readNumbers_52 fl_RX12_93 rfl g0 ?_
      refine a_callV_I dX12_readNumbers_55 lk_RX12_96 mt_Mo_byteAt vt_Mo_byteAt ⟨_, rfl, rfl⟩ (fun _ h => m_Mo_byteAt h) rfl rfl g0 ⟨rfl, rfl, rfl⟩ (fun q7 => ?_)
      refine a_callS_Z dX12_readNumbers_58 lk_RX12_100 mt_Mo_isFigure sv_Mo_isFigure (fun _ h => m_Mo_isFigure h) rfl rfl ⟨rfl, rfl, rfl⟩ (fun q8 => ?_)
      refine a_beq (tgt := 101) dX12_readNumbers_61 (by decide) (fun _ => ?_) (fun _ => ?_)
      · skip
        exact AW.weak (Lw_so rfl (Lw_so rfl (Lw_so rfl Lw_end))) (w_Mo_readNumbers_101 hk2 _ _ _ _ g0)
      · skip
        refine a_aload_n dX12_readNumbers_64 rfl ?_
        refine a_getR dX12_readNumbers_65 fl_RX12_19 rfl g0 (fun r9 h10 => ?_)
        refine a_iload_n dX12_readNumbers_68 rfl ?_
        refine a_bipush (v := nI 10) dX12_readNumbers_69 (by decide) ?_
        refine a_aload_n dX12_readNumbers_71 rfl ?_
        refine a_getR dX12_readNumbers_72 fl_RX12_19 rfl g0 (fun r11 h12 => ?_)
        refine a_iload_n dX12_readNumbers_75 rfl ?_
        refine a_iald dX12_readNumbers_76 h12 ?_
        refine a_imul dX12_readNumbers_77 ?_
        refine a_aload_n dX12_readNumbers_78 rfl ?_
        refine a_aload_n dX12_readNumbers_79 rfl ?_
        refine a_getI dX12_readNumbers_80 fl_RX12_93 rfl g0 ?_
        refine a_callV_I dX12_readNumbers_83 lk_RX12_96 mt_Mo_byteAt vt_Mo_byteAt ⟨_, rfl, rfl⟩ (fun _ h => m_Mo_byteAt h) rfl rfl g0 ⟨rfl, rfl, rfl⟩ (fun q13 => ?_)
        refine a_iadd dX12_readNumbers_86 ?_
        refine a_bipush (v := nI 48) dX12_readNumbers_87 (by decide) ?_
        refine a_isub dX12_readNumbers_89 ?_
        refine a_iast dX12_readNumbers_90 h10 ?_
        refine a_aload_n dX12_readNumbers_91 rfl ?_
        refine a_dup dX12_readNumbers_92 rfl ?_
        refine a_getI dX12_readNumbers_93 fl_RX12_93 rfl g0 ?_
        refine a_iconst (v := nI 1) dX12_readNumbers_96 (by decide) ?_
        refine a_iadd dX12_readNumbers_97 ?_
        refine a_putI dX12_readNumbers_98 fl_RX12_93 (rfl : _ = FieldType.int) rfl rfl rfl g0 ?_
        exact AW.weak (Lw_so rfl (Lw_so rfl (Lw_so rfl Lw_end))) (w_Mo_readNumbers_101 hk2 _ _ _ _ g0)
    · skip
      refine a_iconst (v := nI 0) dX12_readNumbers_21 (by decide) ?_
      exact AW.ret dX12_readNumbers_22 rfl rfl
def f_Mo_readNumbers_2 (S : ba_S) : Nat → Int32 → Int32 → ba_M → Option (Bool × ba_M) := fx (fun _ _ _ _ => none) (b_Mo_readNumbers_2 S) FU
theorem l_Mo_readNumbers_2 {S : ba_S} : ∀ (n : Nat) (v0 : Nat) (v1 : Int32) (v2 : Int32) (m : ba_M), ck S v0 11 = true → AW (Y_Mo_readNumbers S) 2 [some (aR (some v0)), some (aI v1), some (aI v2)] [] S m ((fx (F := Nat → Int32 → Int32 → ba_M → Option (Bool × ba_M)) (fun _ _ _ _ => none) (b_Mo_readNumbers_2 S) n) v0 v1 v2 m) := by
  intro n
  induction n with
  | zero => intro _ _ _ _ _; exact AW.none
  | succ n ih => exact w_Mo_readNumbers_2 ih
def f_Mo_readNumbers (S : ba_S) (a0 : Nat) (a1 : Int32) (m : ba_M) : Option (Bool × ba_M) :=
  cK S a0 11 ((f_Mo_readNumbers_2 S a0 a1 (nI 0) m))
set_option maxRecDepth 100000 in
theorem e_Mo_readNumbers (S : ba_S) (a0 : Nat) (a1 : Int32) (m : ba_M) : AW (Y_Mo_readNumbers S) 0 [some (aR (some a0)), some (aI a1), none] [] S m (f_Mo_readNumbers S a0 a1 m) := by
  unfold f_Mo_readNumbers
  refine AW.ck (fun g0 => ?_)
  refine a_iconst (v := nI 0) dX12_readNumbers_0 (by decide) ?_
  refine a_istore_n dX12_readNumbers_1 rfl rfl ?_
  exact AW.weak (Lw_so rfl (Lw_so rfl (Lw_so rfl Lw_end))) (l_Mo_readNumbers_2 FU _ _ _ _ g0)
theorem m_Mo_readNumbers {S : ba_S} {a0 : Nat} {a1 : Int32} {m : ba_M} {q : Bool × ba_M} (h : f_Mo_readNumbers S a0 a1 m = some q) : MA (Y_Mo_readNumbers S) yX12_readNumbers (some .boolean) [aR (some a0), aI a1] S m q :=
  ba_met ⟨by decide +kernel, rfl⟩ rfl (fun h => by cases h) (Or.inr (Or.inl ⟨rfl, rfl, _, rfl⟩)) rfl (h ▸ e_Mo_readNumbers S a0 a1 m)

abbrev Y_Mo_readGround (S : ba_S) : ba_Y (Bool × ba_M) := mZ cX12_readGround RX12 1 3 64 S
def f_Mo_readGround_23 (S : ba_S) (m : ba_M) : Option (Bool × ba_M) :=
  (some (false, m))
set_option maxRecDepth 100000 in
theorem w_Mo_readGround_23 {S : ba_S} : ∀ (m : ba_M), AW (Y_Mo_readGround S) 23 [none] [] S m (f_Mo_readGround_23 S m) := by
  intro m
  unfold f_Mo_readGround_23
  refine a_iconst (v := nI 0) dX12_readGround_23 (by decide) ?_
  exact AW.ret dX12_readGround_24 rfl rfl
def f_Mo_readGround (S : ba_S) (a0 : Nat) (m : ba_M) : Option (Bool × ba_M) :=
  cK S a0 11 (((f_Mo_readNumbers S a0 (nI 1) m).bind fun q1 => (if q1.1 = true then (ldR S a0 8 20 fun r2 => (bD S r2 (nI 0) ((f_Mo_in S (gI q1.2 r2 ((nI 0)).toNatClampNeg) (nI 5) (nI 40) q1.2).bind fun q4 => (if q4.1 = true then (ldR S a0 8 20 fun r5 => (bD S r5 (nI 0) (some (true, (wI q4.2 a0 9 (gI q4.2 r5 ((nI 0)).toNatClampNeg)))))) else (f_Mo_readGround_23 S q4.2))))) else (f_Mo_readGround_23 S q1.2))))
set_option maxRecDepth 100000 in
theorem e_Mo_readGround (S : ba_S) (a0 : Nat) (m : ba_M) : AW (Y_Mo_readGround S) 0 [some (aR (some a0))] [] S m (f_Mo_readGround S a0 m) := by
  unfold f_Mo_readGround
  refine AW.ck (fun g0 => ?_)
  refine a_aload_n dX12_readGround_0 rfl ?_
  refine a_iconst (v := nI 1) dX12_readGround_1 (by decide) ?_
  refine a_callV_Z dX12_readGround_2 lk_RX12_104 mt_Mo_readNumbers vt_Mo_readNumbers ⟨_, rfl, rfl⟩ (fun _ h => m_Mo_readNumbers h) rfl rfl g0 ⟨rfl, rfl, rfl⟩ (fun q1 => ?_)
  refine a_beq (tgt := 23) dX12_readGround_5 (by decide) (fun _ => ?_) (fun _ => ?_)
  · skip
    exact AW.weak (Lw_no Lw_end) (w_Mo_readGround_23 _)
  · skip
    refine a_aload_n dX12_readGround_8 rfl ?_
    refine a_getR dX12_readGround_9 fl_RX12_19 rfl g0 (fun r2 h3 => ?_)
    refine a_iconst (v := nI 0) dX12_readGround_12 (by decide) ?_
    refine a_iald dX12_readGround_13 h3 ?_
    refine a_iconst (v := nI 5) dX12_readGround_14 (by decide) ?_
    refine a_bipush (v := nI 40) dX12_readGround_15 (by decide) ?_
    refine a_callS_Z dX12_readGround_17 lk_RX12_84 mt_Mo_in sv_Mo_in (fun _ h => m_Mo_in h) rfl rfl ⟨rfl, rfl, rfl⟩ (fun q4 => ?_)
    refine a_bne (tgt := 25) dX12_readGround_20 (by decide) (fun _ => ?_) (fun _ => ?_)
    · skip
      refine a_aload_n dX12_readGround_25 rfl ?_
      refine a_aload_n dX12_readGround_26 rfl ?_
      refine a_getR dX12_readGround_27 fl_RX12_19 rfl g0 (fun r5 h6 => ?_)
      refine a_iconst (v := nI 0) dX12_readGround_30 (by decide) ?_
      refine a_iald dX12_readGround_31 h6 ?_
      refine a_putI dX12_readGround_32 fl_RX12_107 (rfl : _ = FieldType.int) rfl rfl rfl g0 ?_
      refine a_iconst (v := nI 1) dX12_readGround_35 (by decide) ?_
      exact AW.ret dX12_readGround_36 rfl rfl
    · skip
      exact AW.weak (Lw_no Lw_end) (w_Mo_readGround_23 _)
theorem m_Mo_readGround {S : ba_S} {a0 : Nat} {m : ba_M} {q : Bool × ba_M} (h : f_Mo_readGround S a0 m = some q) : MA (Y_Mo_readGround S) yX12_readGround (some .boolean) [aR (some a0)] S m q :=
  ba_met ⟨by decide +kernel, rfl⟩ rfl (fun h => by cases h) (Or.inr (Or.inl ⟨rfl, rfl, _, rfl⟩)) rfl (h ▸ e_Mo_readGround S a0 m)

abbrev Y_Mo_readSlide (S : ba_S) : ba_Y (Bool × ba_M) := mZ cX12_readSlide RX12 1 3 64 S
def f_Mo_readSlide_22 (S : ba_S) (m : ba_M) : Option (Bool × ba_M) :=
  (some (false, m))
set_option maxRecDepth 100000 in
theorem w_Mo_readSlide_22 {S : ba_S} : ∀ (m : ba_M), AW (Y_Mo_readSlide S) 22 [none] [] S m (f_Mo_readSlide_22 S m) := by
  intro m
  unfold f_Mo_readSlide_22
  refine a_iconst (v := nI 0) dX12_readSlide_22 (by decide) ?_
  exact AW.ret dX12_readSlide_23 rfl rfl
def f_Mo_readSlide (S : ba_S) (a0 : Nat) (m : ba_M) : Option (Bool × ba_M) :=
  cK S a0 11 (((f_Mo_readNumbers S a0 (nI 1) m).bind fun q1 => (if q1.1 = true then (ldR S a0 8 20 fun r2 => (bD S r2 (nI 0) ((f_Mo_in S (gI q1.2 r2 ((nI 0)).toNatClampNeg) (nI 0) (nI 3) q1.2).bind fun q4 => (if q4.1 = true then (ldR S a0 8 20 fun r5 => (bD S r5 (nI 0) (some (true, (wI q4.2 a0 10 (gI q4.2 r5 ((nI 0)).toNatClampNeg)))))) else (f_Mo_readSlide_22 S q4.2))))) else (f_Mo_readSlide_22 S q1.2))))
set_option maxRecDepth 100000 in
theorem e_Mo_readSlide (S : ba_S) (a0 : Nat) (m : ba_M) : AW (Y_Mo_readSlide S) 0 [some (aR (some a0))] [] S m (f_Mo_readSlide S a0 m) := by
  unfold f_Mo_readSlide
  refine AW.ck (fun g0 => ?_)
  refine a_aload_n dX12_readSlide_0 rfl ?_
  refine a_iconst (v := nI 1) dX12_readSlide_1 (by decide) ?_
  refine a_callV_Z dX12_readSlide_2 lk_RX12_104 mt_Mo_readNumbers vt_Mo_readNumbers ⟨_, rfl, rfl⟩ (fun _ h => m_Mo_readNumbers h) rfl rfl g0 ⟨rfl, rfl, rfl⟩ (fun q1 => ?_)
  refine a_beq (tgt := 22) dX12_readSlide_5 (by decide) (fun _ => ?_) (fun _ => ?_)
  · skip
    exact AW.weak (Lw_no Lw_end) (w_Mo_readSlide_22 _)
  · skip
    refine a_aload_n dX12_readSlide_8 rfl ?_
    refine a_getR dX12_readSlide_9 fl_RX12_19 rfl g0 (fun r2 h3 => ?_)
    refine a_iconst (v := nI 0) dX12_readSlide_12 (by decide) ?_
    refine a_iald dX12_readSlide_13 h3 ?_
    refine a_iconst (v := nI 0) dX12_readSlide_14 (by decide) ?_
    refine a_iconst (v := nI 3) dX12_readSlide_15 (by decide) ?_
    refine a_callS_Z dX12_readSlide_16 lk_RX12_84 mt_Mo_in sv_Mo_in (fun _ h => m_Mo_in h) rfl rfl ⟨rfl, rfl, rfl⟩ (fun q4 => ?_)
    refine a_bne (tgt := 24) dX12_readSlide_19 (by decide) (fun _ => ?_) (fun _ => ?_)
    · skip
      refine a_aload_n dX12_readSlide_24 rfl ?_
      refine a_aload_n dX12_readSlide_25 rfl ?_
      refine a_getR dX12_readSlide_26 fl_RX12_19 rfl g0 (fun r5 h6 => ?_)
      refine a_iconst (v := nI 0) dX12_readSlide_29 (by decide) ?_
      refine a_iald dX12_readSlide_30 h6 ?_
      refine a_putI dX12_readSlide_31 fl_RX12_110 (rfl : _ = FieldType.int) rfl rfl rfl g0 ?_
      refine a_iconst (v := nI 1) dX12_readSlide_34 (by decide) ?_
      exact AW.ret dX12_readSlide_35 rfl rfl
    · skip
      exact AW.weak (Lw_no Lw_end) (w_Mo_readSlide_22 _)
theorem m_Mo_readSlide {S : ba_S} {a0 : Nat} {m : ba_M} {q : Bool × ba_M} (h : f_Mo_readSlide S a0 m = some q) : MA (Y_Mo_readSlide S) yX12_readSlide (some .boolean) [aR (some a0)] S m q :=
  ba_met ⟨by decide +kernel, rfl⟩ rfl (fun h => by cases h) (Or.inr (Or.inl ⟨rfl, rfl, _, rfl⟩)) rfl (h ▸ e_Mo_readSlide S a0 m)

abbrev Y_Mo_readPlayer (S : ba_S) : ba_Y (Bool × ba_M) := mZ cX12_readPlayer RX12 2 3 64 S
def f_Mo_readPlayer_16 (S : ba_S) (m : ba_M) : Option (Bool × ba_M) :=
  (some (false, m))
set_option maxRecDepth 100000 in
theorem w_Mo_readPlayer_16 {S : ba_S} : ∀ (m : ba_M), AW (Y_Mo_readPlayer S) 16 [none, none] [] S m (f_Mo_readPlayer_16 S m) := by
  intro m
  unfold f_Mo_readPlayer_16
  refine a_iconst (v := nI 0) dX12_readPlayer_16 (by decide) ?_
  exact AW.ret dX12_readPlayer_17 rfl rfl
def f_Mo_readPlayer_91 (S : ba_S) (m : ba_M) : Option (Bool × ba_M) :=
  (some (false, m))
set_option maxRecDepth 100000 in
theorem w_Mo_readPlayer_91 {S : ba_S} : ∀ (m : ba_M), AW (Y_Mo_readPlayer S) 91 [none, none] [] S m (f_Mo_readPlayer_91 S m) := by
  intro m
  unfold f_Mo_readPlayer_91
  refine a_iconst (v := nI 0) dX12_readPlayer_91 (by decide) ?_
  exact AW.ret dX12_readPlayer_92 rfl rfl
def b_Mo_readPlayer_95 (S : ba_S) (k95 : Nat → Int32 → ba_M → Option (Bool × ba_M)) (v0 : Nat) (v1 : Int32) (m : ba_M) : Option (Bool × ba_M) :=
  (if (nI 5) ≤ v1 then (ldR S v0 13 20 fun r1 => (bD S r1 (gI m v0 11) (ldR S v0 14 20 fun r3 => (bD S r3 (gI (wI m r1 ((gI m v0 11)).toNatClampNeg (-4 : Int32)) v0 11) (some (true, (wI (wI (wI m r1 ((gI m v0 11)).toNatClampNeg (-4 : Int32)) r3 ((gI (wI m r1 ((gI m v0 11)).toNatClampNeg (-4 : Int32)) v0 11)).toNatClampNeg (nI 0)) v0 11 ((gI (wI (wI m r1 ((gI m v0 11)).toNatClampNeg (-4 : Int32)) r3 ((gI (wI m r1 ((gI m v0 11)).toNatClampNeg (-4 : Int32)) v0 11)).toNatClampNeg (nI 0)) v0 11) + (nI 1))))))))) else (ldR S v0 12 20 fun r5 => (ldR S v0 8 20 fun r7 => (bD S r7 v1 (bD S r5 (((nI 5) * (gI m v0 11)) + v1) (k95 v0 (v1 + (nI 1)) (wI m r5 ((((nI 5) * (gI m v0 11)) + v1)).toNatClampNeg (gI m r7 (v1).toNatClampNeg))))))))
set_option maxRecDepth 100000 in
theorem w_Mo_readPlayer_95 {S : ba_S} {k95 : Nat → Int32 → ba_M → Option (Bool × ba_M)} (hk95 : ∀ (v0 : Nat) (v1 : Int32) (m : ba_M), ck S v0 11 = true → AW (Y_Mo_readPlayer S) 95 [some (aR (some v0)), some (aI v1)] [] S m (k95 v0 v1 m)) : ∀ (v0 : Nat) (v1 : Int32) (m : ba_M), ck S v0 11 = true → AW (Y_Mo_readPlayer S) 95 [some (aR (some v0)), some (aI v1)] [] S m (b_Mo_readPlayer_95 S k95 v0 v1 m) := by
  intro v0 v1 m g0
  unfold b_Mo_readPlayer_95
  refine a_iload_n dX12_readPlayer_95 rfl ?_
  refine a_iconst (v := nI 5) dX12_readPlayer_96 (by decide) ?_
  refine a_ige (tgt := 125) dX12_readPlayer_97 (by decide) (fun _ => ?_) (fun _ => ?_)
  · skip
    refine a_aload_n dX12_readPlayer_125 rfl ?_
    refine a_getR dX12_readPlayer_126 fl_RX12_25 rfl g0 (fun r1 h2 => ?_)
    refine a_aload_n dX12_readPlayer_129 rfl ?_
    refine a_getI dX12_readPlayer_130 fl_RX12_113 rfl g0 ?_
    refine a_bipush (v := -4) dX12_readPlayer_133 (by decide) ?_
    refine a_iast dX12_readPlayer_135 h2 ?_
    refine a_aload_n dX12_readPlayer_136 rfl ?_
    refine a_getR dX12_readPlayer_137 fl_RX12_28 rfl g0 (fun r3 h4 => ?_)
    refine a_aload_n dX12_readPlayer_140 rfl ?_
    refine a_getI dX12_readPlayer_141 fl_RX12_113 rfl g0 ?_
    refine a_iconst (v := nI 0) dX12_readPlayer_144 (by decide) ?_
    refine a_iast dX12_readPlayer_145 h4 ?_
    refine a_aload_n dX12_readPlayer_146 rfl ?_
    refine a_dup dX12_readPlayer_147 rfl ?_
    refine a_getI dX12_readPlayer_148 fl_RX12_113 rfl g0 ?_
    refine a_iconst (v := nI 1) dX12_readPlayer_151 (by decide) ?_
    refine a_iadd dX12_readPlayer_152 ?_
    refine a_putI dX12_readPlayer_153 fl_RX12_113 (rfl : _ = FieldType.int) rfl rfl rfl g0 ?_
    refine a_iconst (v := nI 1) dX12_readPlayer_156 (by decide) ?_
    exact AW.ret dX12_readPlayer_157 rfl rfl
  · skip
    refine a_aload_n dX12_readPlayer_100 rfl ?_
    refine a_getR dX12_readPlayer_101 fl_RX12_22 rfl g0 (fun r5 h6 => ?_)
    refine a_iconst (v := nI 5) dX12_readPlayer_104 (by decide) ?_
    refine a_aload_n dX12_readPlayer_105 rfl ?_
    refine a_getI dX12_readPlayer_106 fl_RX12_113 rfl g0 ?_
    refine a_imul dX12_readPlayer_109 ?_
    refine a_iload_n dX12_readPlayer_110 rfl ?_
    refine a_iadd dX12_readPlayer_111 ?_
    refine a_aload_n dX12_readPlayer_112 rfl ?_
    refine a_getR dX12_readPlayer_113 fl_RX12_19 rfl g0 (fun r7 h8 => ?_)
    refine a_iload_n dX12_readPlayer_116 rfl ?_
    refine a_iald dX12_readPlayer_117 h8 ?_
    refine a_iast dX12_readPlayer_118 h6 ?_
    refine a_iinc (v := nI 1) dX12_readPlayer_119 rfl (by decide) rfl rfl ?_
    refine a_goto (tgt := 95) dX12_readPlayer_122 (by decide) ?_
    exact AW.weak (Lw_so rfl (Lw_so rfl Lw_end)) (hk95 _ _ _ g0)
def f_Mo_readPlayer_95 (S : ba_S) : Nat → Int32 → ba_M → Option (Bool × ba_M) := fx (fun _ _ _ => none) (b_Mo_readPlayer_95 S) FU
theorem l_Mo_readPlayer_95 {S : ba_S} : ∀ (n : Nat) (v0 : Nat) (v1 : Int32) (m : ba_M), ck S v0 11 = true → AW (Y_Mo_readPlayer S) 95 [some (aR (some v0)), some (aI v1)] [] S m ((fx (F := Nat → Int32 → ba_M → Option (Bool × ba_M)) (fun _ _ _ => none) (b_Mo_readPlayer_95 S) n) v0 v1 m) := by
  intro n
  induction n with
  | zero => intro _ _ _ _; exact AW.none
  | succ n ih => exact w_Mo_readPlayer_95 ih
def f_Mo_readPlayer (S : ba_S) (a0 : Nat) (m : ba_M) : Option (Bool × ba_M) :=
  cK S a0 11 ((if (gI m a0 11) = (nI 5) then (f_Mo_readPlayer_16 S m) else ((f_Mo_readNumbers S a0 (nI 5) m).bind fun q9 => (if q9.1 = true then (ldR S a0 8 20 fun r10 => (bD S r10 (nI 0) ((f_Mo_in S (gI q9.2 r10 ((nI 0)).toNatClampNeg) (nI 0) (nI 40) q9.2).bind fun q12 => (if q12.1 = true then (ldR S a0 8 20 fun r13 => (bD S r13 (nI 1) ((f_Mo_in S (gI q12.2 r13 ((nI 1)).toNatClampNeg) (nI 1) (nI 5) q12.2).bind fun q15 => (if q15.1 = true then (ldR S a0 8 20 fun r16 => (bD S r16 (nI 2) ((f_Mo_in S (gI q15.2 r16 ((nI 2)).toNatClampNeg) (nI 1) (nI 9) q15.2).bind fun q18 => (if q18.1 = true then (ldR S a0 8 20 fun r19 => (bD S r19 (nI 3) ((f_Mo_in S (gI q18.2 r19 ((nI 3)).toNatClampNeg) (nI 0) (nI 9) q18.2).bind fun q21 => (if q21.1 = true then (ldR S a0 8 20 fun r22 => (bD S r22 (nI 4) ((f_Mo_in S (gI q21.2 r22 ((nI 4)).toNatClampNeg) (nI 0) (nI 3) q21.2).bind fun q24 => (if q24.1 = true then (f_Mo_readPlayer_95 S a0 (nI 0) q24.2) else (f_Mo_readPlayer_91 S q24.2))))) else (f_Mo_readPlayer_91 S q21.2))))) else (f_Mo_readPlayer_91 S q18.2))))) else (f_Mo_readPlayer_91 S q15.2))))) else (f_Mo_readPlayer_91 S q12.2))))) else (f_Mo_readPlayer_16 S q9.2)))))
set_option maxRecDepth 100000 in
theorem e_Mo_readPlayer (S : ba_S) (a0 : Nat) (m : ba_M) : AW (Y_Mo_readPlayer S) 0 [some (aR (some a0)), none] [] S m (f_Mo_readPlayer S a0 m) := by
  unfold f_Mo_readPlayer
  refine AW.ck (fun g0 => ?_)
  refine a_aload_n dX12_readPlayer_0 rfl ?_
  refine a_getI dX12_readPlayer_1 fl_RX12_113 rfl g0 ?_
  refine a_iconst (v := nI 5) dX12_readPlayer_4 (by decide) ?_
  refine a_ieq (tgt := 16) dX12_readPlayer_5 (by decide) (fun _ => ?_) (fun _ => ?_)
  · skip
    exact AW.weak (Lw_no (Lw_no Lw_end)) (w_Mo_readPlayer_16 _)
  · skip
    refine a_aload_n dX12_readPlayer_8 rfl ?_
    refine a_iconst (v := nI 5) dX12_readPlayer_9 (by decide) ?_
    refine a_callV_Z dX12_readPlayer_10 lk_RX12_104 mt_Mo_readNumbers vt_Mo_readNumbers ⟨_, rfl, rfl⟩ (fun _ h => m_Mo_readNumbers h) rfl rfl g0 ⟨rfl, rfl, rfl⟩ (fun q9 => ?_)
    refine a_bne (tgt := 18) dX12_readPlayer_13 (by decide) (fun _ => ?_) (fun _ => ?_)
    · skip
      refine a_aload_n dX12_readPlayer_18 rfl ?_
      refine a_getR dX12_readPlayer_19 fl_RX12_19 rfl g0 (fun r10 h11 => ?_)
      refine a_iconst (v := nI 0) dX12_readPlayer_22 (by decide) ?_
      refine a_iald dX12_readPlayer_23 h11 ?_
      refine a_iconst (v := nI 0) dX12_readPlayer_24 (by decide) ?_
      refine a_bipush (v := nI 40) dX12_readPlayer_25 (by decide) ?_
      refine a_callS_Z dX12_readPlayer_27 lk_RX12_84 mt_Mo_in sv_Mo_in (fun _ h => m_Mo_in h) rfl rfl ⟨rfl, rfl, rfl⟩ (fun q12 => ?_)
      refine a_beq (tgt := 91) dX12_readPlayer_30 (by decide) (fun _ => ?_) (fun _ => ?_)
      · skip
        exact AW.weak (Lw_no (Lw_no Lw_end)) (w_Mo_readPlayer_91 _)
      · skip
        refine a_aload_n dX12_readPlayer_33 rfl ?_
        refine a_getR dX12_readPlayer_34 fl_RX12_19 rfl g0 (fun r13 h14 => ?_)
        refine a_iconst (v := nI 1) dX12_readPlayer_37 (by decide) ?_
        refine a_iald dX12_readPlayer_38 h14 ?_
        refine a_iconst (v := nI 1) dX12_readPlayer_39 (by decide) ?_
        refine a_iconst (v := nI 5) dX12_readPlayer_40 (by decide) ?_
        refine a_callS_Z dX12_readPlayer_41 lk_RX12_84 mt_Mo_in sv_Mo_in (fun _ h => m_Mo_in h) rfl rfl ⟨rfl, rfl, rfl⟩ (fun q15 => ?_)
        refine a_beq (tgt := 91) dX12_readPlayer_44 (by decide) (fun _ => ?_) (fun _ => ?_)
        · skip
          exact AW.weak (Lw_no (Lw_no Lw_end)) (w_Mo_readPlayer_91 _)
        · skip
          refine a_aload_n dX12_readPlayer_47 rfl ?_
          refine a_getR dX12_readPlayer_48 fl_RX12_19 rfl g0 (fun r16 h17 => ?_)
          refine a_iconst (v := nI 2) dX12_readPlayer_51 (by decide) ?_
          refine a_iald dX12_readPlayer_52 h17 ?_
          refine a_iconst (v := nI 1) dX12_readPlayer_53 (by decide) ?_
          refine a_bipush (v := nI 9) dX12_readPlayer_54 (by decide) ?_
          refine a_callS_Z dX12_readPlayer_56 lk_RX12_84 mt_Mo_in sv_Mo_in (fun _ h => m_Mo_in h) rfl rfl ⟨rfl, rfl, rfl⟩ (fun q18 => ?_)
          refine a_beq (tgt := 91) dX12_readPlayer_59 (by decide) (fun _ => ?_) (fun _ => ?_)
          · skip
            exact AW.weak (Lw_no (Lw_no Lw_end)) (w_Mo_readPlayer_91 _)
          · skip
            refine a_aload_n dX12_readPlayer_62 rfl ?_
            refine a_getR dX12_readPlayer_63 fl_RX12_19 rfl g0 (fun r19 h20 => ?_)
            refine a_iconst (v := nI 3) dX12_readPlayer_66 (by decide) ?_
            refine a_iald dX12_readPlayer_67 h20 ?_
            refine a_iconst (v := nI 0) dX12_readPlayer_68 (by decide) ?_
            refine a_bipush (v := nI 9) dX12_readPlayer_69 (by decide) ?_
            refine a_callS_Z dX12_readPlayer_71 lk_RX12_84 mt_Mo_in sv_Mo_in (fun _ h => m_Mo_in h) rfl rfl ⟨rfl, rfl, rfl⟩ (fun q21 => ?_)
            refine a_beq (tgt := 91) dX12_readPlayer_74 (by decide) (fun _ => ?_) (fun _ => ?_)
            · skip
              exact AW.weak (Lw_no (Lw_no Lw_end)) (w_Mo_readPlayer_91 _)
            · skip
              refine a_aload_n dX12_readPlayer_77 rfl ?_
              refine a_getR dX12_readPlayer_78 fl_RX12_19 rfl g0 (fun r22 h23 => ?_)
              refine a_iconst (v := nI 4) dX12_readPlayer_81 (by decide) ?_
              refine a_iald dX12_readPlayer_82 h23 ?_
              refine a_iconst (v := nI 0) dX12_readPlayer_83 (by decide) ?_
              refine a_iconst (v := nI 3) dX12_readPlayer_84 (by decide) ?_
              refine a_callS_Z dX12_readPlayer_85 lk_RX12_84 mt_Mo_in sv_Mo_in (fun _ h => m_Mo_in h) rfl rfl ⟨rfl, rfl, rfl⟩ (fun q24 => ?_)
              refine a_bne (tgt := 93) dX12_readPlayer_88 (by decide) (fun _ => ?_) (fun _ => ?_)
              · skip
                refine a_iconst (v := nI 0) dX12_readPlayer_93 (by decide) ?_
                refine a_istore_n dX12_readPlayer_94 rfl rfl ?_
                exact AW.weak (Lw_so rfl (Lw_so rfl Lw_end)) (l_Mo_readPlayer_95 FU _ _ _ g0)
              · skip
                exact AW.weak (Lw_no (Lw_no Lw_end)) (w_Mo_readPlayer_91 _)
    · skip
      exact AW.weak (Lw_no (Lw_no Lw_end)) (w_Mo_readPlayer_16 _)
theorem m_Mo_readPlayer {S : ba_S} {a0 : Nat} {m : ba_M} {q : Bool × ba_M} (h : f_Mo_readPlayer S a0 m = some q) : MA (Y_Mo_readPlayer S) yX12_readPlayer (some .boolean) [aR (some a0)] S m q :=
  ba_met ⟨by decide +kernel, rfl⟩ rfl (fun h => by cases h) (Or.inr (Or.inl ⟨rfl, rfl, _, rfl⟩)) rfl (h ▸ e_Mo_readPlayer S a0 m)

abbrev Y_Mo_readCalled (S : ba_S) : ba_Y (Bool × ba_M) := mZ cX12_readCalled RX12 1 3 64 S
def f_Mo_readCalled_49 (S : ba_S) (m : ba_M) : Option (Bool × ba_M) :=
  (some (false, m))
set_option maxRecDepth 100000 in
theorem w_Mo_readCalled_49 {S : ba_S} : ∀ (m : ba_M), AW (Y_Mo_readCalled S) 49 [none] [] S m (f_Mo_readCalled_49 S m) := by
  intro m
  unfold f_Mo_readCalled_49
  refine a_iconst (v := nI 0) dX12_readCalled_49 (by decide) ?_
  exact AW.ret dX12_readCalled_50 rfl rfl
def f_Mo_readCalled_81 (S : ba_S) (m : ba_M) : Option (Bool × ba_M) :=
  (some (false, m))
set_option maxRecDepth 100000 in
theorem w_Mo_readCalled_81 {S : ba_S} : ∀ (m : ba_M), AW (Y_Mo_readCalled S) 81 [none] [] S m (f_Mo_readCalled_81 S m) := by
  intro m
  unfold f_Mo_readCalled_81
  refine a_iconst (v := nI 0) dX12_readCalled_81 (by decide) ?_
  exact AW.ret dX12_readCalled_82 rfl rfl
def f_Mo_readCalled (S : ba_S) (a0 : Nat) (m : ba_M) : Option (Bool × ba_M) :=
  cK S a0 11 (((f_Mo_readNumbers S a0 (nI 4) m).bind fun q1 => (if q1.1 = true then (ldR S a0 8 20 fun r2 => (bD S r2 (nI 0) (if (gI q1.2 a0 11) ≤ (gI q1.2 r2 ((nI 0)).toNatClampNeg) then (f_Mo_readCalled_49 S q1.2) else (ldR S a0 8 20 fun r4 => (bD S r4 (nI 1) (if (gI q1.2 a0 11) ≤ (gI q1.2 r4 ((nI 1)).toNatClampNeg) then (f_Mo_readCalled_49 S q1.2) else (ldR S a0 8 20 fun r6 => (bD S r6 (nI 0) (ldR S a0 8 20 fun r8 => (bD S r8 (nI 1) (if (gI q1.2 r6 ((nI 0)).toNatClampNeg) = (gI q1.2 r8 ((nI 1)).toNatClampNeg) then (f_Mo_readCalled_49 S q1.2) else (ldR S a0 8 20 fun r10 => (bD S r10 (nI 2) ((f_Mo_in S (gI q1.2 r10 ((nI 2)).toNatClampNeg) (nI 0) (nI 40) q1.2).bind fun q12 => (if q12.1 = true then (ldR S a0 8 20 fun r13 => (bD S r13 (nI 3) ((f_Mo_in S (gI q12.2 r13 ((nI 3)).toNatClampNeg) (nI 1) (nI 9) q12.2).bind fun q15 => (if q15.1 = true then (ldR S a0 13 20 fun r16 => (ldR S a0 8 20 fun r18 => (bD S r18 (nI 0) (ldR S a0 8 20 fun r20 => (bD S r20 (nI 1) (bD S r16 (gI q15.2 r18 ((nI 0)).toNatClampNeg) (ldR S a0 13 20 fun r22 => (ldR S a0 8 20 fun r24 => (bD S r24 (nI 0) (ldR S a0 8 20 fun r26 => (bD S r26 (nI 2) (bD S r22 ((nI 5) + (gI (wI q15.2 r16 ((gI q15.2 r18 ((nI 0)).toNatClampNeg)).toNatClampNeg (gI q15.2 r20 ((nI 1)).toNatClampNeg)) r24 ((nI 0)).toNatClampNeg)) (ldR S a0 13 20 fun r28 => (ldR S a0 8 20 fun r30 => (bD S r30 (nI 0) (ldR S a0 8 20 fun r32 => (bD S r32 (nI 3) (bD S r28 ((nI 10) + (gI (wI (wI q15.2 r16 ((gI q15.2 r18 ((nI 0)).toNatClampNeg)).toNatClampNeg (gI q15.2 r20 ((nI 1)).toNatClampNeg)) r22 (((nI 5) + (gI (wI q15.2 r16 ((gI q15.2 r18 ((nI 0)).toNatClampNeg)).toNatClampNeg (gI q15.2 r20 ((nI 1)).toNatClampNeg)) r24 ((nI 0)).toNatClampNeg))).toNatClampNeg (gI (wI q15.2 r16 ((gI q15.2 r18 ((nI 0)).toNatClampNeg)).toNatClampNeg (gI q15.2 r20 ((nI 1)).toNatClampNeg)) r26 ((nI 2)).toNatClampNeg)) r30 ((nI 0)).toNatClampNeg)) (some (true, (wI (wI (wI q15.2 r16 ((gI q15.2 r18 ((nI 0)).toNatClampNeg)).toNatClampNeg (gI q15.2 r20 ((nI 1)).toNatClampNeg)) r22 (((nI 5) + (gI (wI q15.2 r16 ((gI q15.2 r18 ((nI 0)).toNatClampNeg)).toNatClampNeg (gI q15.2 r20 ((nI 1)).toNatClampNeg)) r24 ((nI 0)).toNatClampNeg))).toNatClampNeg (gI (wI q15.2 r16 ((gI q15.2 r18 ((nI 0)).toNatClampNeg)).toNatClampNeg (gI q15.2 r20 ((nI 1)).toNatClampNeg)) r26 ((nI 2)).toNatClampNeg)) r28 (((nI 10) + (gI (wI (wI q15.2 r16 ((gI q15.2 r18 ((nI 0)).toNatClampNeg)).toNatClampNeg (gI q15.2 r20 ((nI 1)).toNatClampNeg)) r22 (((nI 5) + (gI (wI q15.2 r16 ((gI q15.2 r18 ((nI 0)).toNatClampNeg)).toNatClampNeg (gI q15.2 r20 ((nI 1)).toNatClampNeg)) r24 ((nI 0)).toNatClampNeg))).toNatClampNeg (gI (wI q15.2 r16 ((gI q15.2 r18 ((nI 0)).toNatClampNeg)).toNatClampNeg (gI q15.2 r20 ((nI 1)).toNatClampNeg)) r26 ((nI 2)).toNatClampNeg)) r30 ((nI 0)).toNatClampNeg))).toNatClampNeg (gI (wI (wI q15.2 r16 ((gI q15.2 r18 ((nI 0)).toNatClampNeg)).toNatClampNeg (gI q15.2 r20 ((nI 1)).toNatClampNeg)) r22 (((nI 5) + (gI (wI q15.2 r16 ((gI q15.2 r18 ((nI 0)).toNatClampNeg)).toNatClampNeg (gI q15.2 r20 ((nI 1)).toNatClampNeg)) r24 ((nI 0)).toNatClampNeg))).toNatClampNeg (gI (wI q15.2 r16 ((gI q15.2 r18 ((nI 0)).toNatClampNeg)).toNatClampNeg (gI q15.2 r20 ((nI 1)).toNatClampNeg)) r26 ((nI 2)).toNatClampNeg)) r32 ((nI 3)).toNatClampNeg)))))))))))))))))))))) else (f_Mo_readCalled_81 S q15.2))))) else (f_Mo_readCalled_81 S q12.2)))))))))))))))) else (f_Mo_readCalled_49 S q1.2))))
set_option maxRecDepth 100000 in
theorem e_Mo_readCalled (S : ba_S) (a0 : Nat) (m : ba_M) : AW (Y_Mo_readCalled S) 0 [some (aR (some a0))] [] S m (f_Mo_readCalled S a0 m) := by
  unfold f_Mo_readCalled
  refine AW.ck (fun g0 => ?_)
  refine a_aload_n dX12_readCalled_0 rfl ?_
  refine a_iconst (v := nI 4) dX12_readCalled_1 (by decide) ?_
  refine a_callV_Z dX12_readCalled_2 lk_RX12_104 mt_Mo_readNumbers vt_Mo_readNumbers ⟨_, rfl, rfl⟩ (fun _ h => m_Mo_readNumbers h) rfl rfl g0 ⟨rfl, rfl, rfl⟩ (fun q1 => ?_)
  refine a_beq (tgt := 49) dX12_readCalled_5 (by decide) (fun _ => ?_) (fun _ => ?_)
  · skip
    exact AW.weak (Lw_no Lw_end) (w_Mo_readCalled_49 _)
  · skip
    refine a_aload_n dX12_readCalled_8 rfl ?_
    refine a_getR dX12_readCalled_9 fl_RX12_19 rfl g0 (fun r2 h3 => ?_)
    refine a_iconst (v := nI 0) dX12_readCalled_12 (by decide) ?_
    refine a_iald dX12_readCalled_13 h3 ?_
    refine a_aload_n dX12_readCalled_14 rfl ?_
    refine a_getI dX12_readCalled_15 fl_RX12_113 rfl g0 ?_
    refine a_ige (tgt := 49) dX12_readCalled_18 (by decide) (fun _ => ?_) (fun _ => ?_)
    · skip
      exact AW.weak (Lw_no Lw_end) (w_Mo_readCalled_49 _)
    · skip
      refine a_aload_n dX12_readCalled_21 rfl ?_
      refine a_getR dX12_readCalled_22 fl_RX12_19 rfl g0 (fun r4 h5 => ?_)
      refine a_iconst (v := nI 1) dX12_readCalled_25 (by decide) ?_
      refine a_iald dX12_readCalled_26 h5 ?_
      refine a_aload_n dX12_readCalled_27 rfl ?_
      refine a_getI dX12_readCalled_28 fl_RX12_113 rfl g0 ?_
      refine a_ige (tgt := 49) dX12_readCalled_31 (by decide) (fun _ => ?_) (fun _ => ?_)
      · skip
        exact AW.weak (Lw_no Lw_end) (w_Mo_readCalled_49 _)
      · skip
        refine a_aload_n dX12_readCalled_34 rfl ?_
        refine a_getR dX12_readCalled_35 fl_RX12_19 rfl g0 (fun r6 h7 => ?_)
        refine a_iconst (v := nI 0) dX12_readCalled_38 (by decide) ?_
        refine a_iald dX12_readCalled_39 h7 ?_
        refine a_aload_n dX12_readCalled_40 rfl ?_
        refine a_getR dX12_readCalled_41 fl_RX12_19 rfl g0 (fun r8 h9 => ?_)
        refine a_iconst (v := nI 1) dX12_readCalled_44 (by decide) ?_
        refine a_iald dX12_readCalled_45 h9 ?_
        refine a_ine (tgt := 51) dX12_readCalled_46 (by decide) (fun _ => ?_) (fun _ => ?_)
        · skip
          refine a_aload_n dX12_readCalled_51 rfl ?_
          refine a_getR dX12_readCalled_52 fl_RX12_19 rfl g0 (fun r10 h11 => ?_)
          refine a_iconst (v := nI 2) dX12_readCalled_55 (by decide) ?_
          refine a_iald dX12_readCalled_56 h11 ?_
          refine a_iconst (v := nI 0) dX12_readCalled_57 (by decide) ?_
          refine a_bipush (v := nI 40) dX12_readCalled_58 (by decide) ?_
          refine a_callS_Z dX12_readCalled_60 lk_RX12_84 mt_Mo_in sv_Mo_in (fun _ h => m_Mo_in h) rfl rfl ⟨rfl, rfl, rfl⟩ (fun q12 => ?_)
          refine a_beq (tgt := 81) dX12_readCalled_63 (by decide) (fun _ => ?_) (fun _ => ?_)
          · skip
            exact AW.weak (Lw_no Lw_end) (w_Mo_readCalled_81 _)
          · skip
            refine a_aload_n dX12_readCalled_66 rfl ?_
            refine a_getR dX12_readCalled_67 fl_RX12_19 rfl g0 (fun r13 h14 => ?_)
            refine a_iconst (v := nI 3) dX12_readCalled_70 (by decide) ?_
            refine a_iald dX12_readCalled_71 h14 ?_
            refine a_iconst (v := nI 1) dX12_readCalled_72 (by decide) ?_
            refine a_bipush (v := nI 9) dX12_readCalled_73 (by decide) ?_
            refine a_callS_Z dX12_readCalled_75 lk_RX12_84 mt_Mo_in sv_Mo_in (fun _ h => m_Mo_in h) rfl rfl ⟨rfl, rfl, rfl⟩ (fun q15 => ?_)
            refine a_bne (tgt := 83) dX12_readCalled_78 (by decide) (fun _ => ?_) (fun _ => ?_)
            · skip
              refine a_aload_n dX12_readCalled_83 rfl ?_
              refine a_getR dX12_readCalled_84 fl_RX12_25 rfl g0 (fun r16 h17 => ?_)
              refine a_aload_n dX12_readCalled_87 rfl ?_
              refine a_getR dX12_readCalled_88 fl_RX12_19 rfl g0 (fun r18 h19 => ?_)
              refine a_iconst (v := nI 0) dX12_readCalled_91 (by decide) ?_
              refine a_iald dX12_readCalled_92 h19 ?_
              refine a_aload_n dX12_readCalled_93 rfl ?_
              refine a_getR dX12_readCalled_94 fl_RX12_19 rfl g0 (fun r20 h21 => ?_)
              refine a_iconst (v := nI 1) dX12_readCalled_97 (by decide) ?_
              refine a_iald dX12_readCalled_98 h21 ?_
              refine a_iast dX12_readCalled_99 h17 ?_
              refine a_aload_n dX12_readCalled_100 rfl ?_
              refine a_getR dX12_readCalled_101 fl_RX12_25 rfl g0 (fun r22 h23 => ?_)
              refine a_iconst (v := nI 5) dX12_readCalled_104 (by decide) ?_
              refine a_aload_n dX12_readCalled_105 rfl ?_
              refine a_getR dX12_readCalled_106 fl_RX12_19 rfl g0 (fun r24 h25 => ?_)
              refine a_iconst (v := nI 0) dX12_readCalled_109 (by decide) ?_
              refine a_iald dX12_readCalled_110 h25 ?_
              refine a_iadd dX12_readCalled_111 ?_
              refine a_aload_n dX12_readCalled_112 rfl ?_
              refine a_getR dX12_readCalled_113 fl_RX12_19 rfl g0 (fun r26 h27 => ?_)
              refine a_iconst (v := nI 2) dX12_readCalled_116 (by decide) ?_
              refine a_iald dX12_readCalled_117 h27 ?_
              refine a_iast dX12_readCalled_118 h23 ?_
              refine a_aload_n dX12_readCalled_119 rfl ?_
              refine a_getR dX12_readCalled_120 fl_RX12_25 rfl g0 (fun r28 h29 => ?_)
              refine a_bipush (v := nI 10) dX12_readCalled_123 (by decide) ?_
              refine a_aload_n dX12_readCalled_125 rfl ?_
              refine a_getR dX12_readCalled_126 fl_RX12_19 rfl g0 (fun r30 h31 => ?_)
              refine a_iconst (v := nI 0) dX12_readCalled_129 (by decide) ?_
              refine a_iald dX12_readCalled_130 h31 ?_
              refine a_iadd dX12_readCalled_131 ?_
              refine a_aload_n dX12_readCalled_132 rfl ?_
              refine a_getR dX12_readCalled_133 fl_RX12_19 rfl g0 (fun r32 h33 => ?_)
              refine a_iconst (v := nI 3) dX12_readCalled_136 (by decide) ?_
              refine a_iald dX12_readCalled_137 h33 ?_
              refine a_iast dX12_readCalled_138 h29 ?_
              refine a_iconst (v := nI 1) dX12_readCalled_139 (by decide) ?_
              exact AW.ret dX12_readCalled_140 rfl rfl
            · skip
              exact AW.weak (Lw_no Lw_end) (w_Mo_readCalled_81 _)
        · skip
          exact AW.weak (Lw_no Lw_end) (w_Mo_readCalled_49 _)
theorem m_Mo_readCalled {S : ba_S} {a0 : Nat} {m : ba_M} {q : Bool × ba_M} (h : f_Mo_readCalled S a0 m = some q) : MA (Y_Mo_readCalled S) yX12_readCalled (some .boolean) [aR (some a0)] S m q :=
  ba_met ⟨by decide +kernel, rfl⟩ rfl (fun h => by cases h) (Or.inr (Or.inl ⟨rfl, rfl, _, rfl⟩)) rfl (h ▸ e_Mo_readCalled S a0 m)

abbrev Y_Mo_readLettersOf (S : ba_S) : ba_Y (Bool × ba_M) := mZ cX12_readLettersOf RX12 1 3 64 S
def f_Mo_readLettersOf_35 (S : ba_S) (m : ba_M) : Option (Bool × ba_M) :=
  (some (false, m))
set_option maxRecDepth 100000 in
theorem w_Mo_readLettersOf_35 {S : ba_S} : ∀ (m : ba_M), AW (Y_Mo_readLettersOf S) 35 [none] [] S m (f_Mo_readLettersOf_35 S m) := by
  intro m
  unfold f_Mo_readLettersOf_35
  refine a_iconst (v := nI 0) dX12_readLettersOf_35 (by decide) ?_
  exact AW.ret dX12_readLettersOf_36 rfl rfl
def f_Mo_readLettersOf (S : ba_S) (a0 : Nat) (m : ba_M) : Option (Bool × ba_M) :=
  cK S a0 11 (((f_Mo_readNumbers S a0 (nI 2) m).bind fun q1 => (if q1.1 = true then (ldR S a0 8 20 fun r2 => (bD S r2 (nI 0) (if (gI q1.2 a0 11) ≤ (gI q1.2 r2 ((nI 0)).toNatClampNeg) then (f_Mo_readLettersOf_35 S q1.2) else (ldR S a0 8 20 fun r4 => (bD S r4 (nI 1) ((f_Mo_in S (gI q1.2 r4 ((nI 1)).toNatClampNeg) (nI 0) (nI 3) q1.2).bind fun q6 => (if q6.1 = true then (ldR S a0 14 20 fun r7 => (ldR S a0 8 20 fun r9 => (bD S r9 (nI 0) (ldR S a0 8 20 fun r11 => (bD S r11 (nI 1) (bD S r7 (gI q6.2 r9 ((nI 0)).toNatClampNeg) (some (true, (wI q6.2 r7 ((gI q6.2 r9 ((nI 0)).toNatClampNeg)).toNatClampNeg (gI q6.2 r11 ((nI 1)).toNatClampNeg)))))))))) else (f_Mo_readLettersOf_35 S q6.2)))))))) else (f_Mo_readLettersOf_35 S q1.2))))
set_option maxRecDepth 100000 in
theorem e_Mo_readLettersOf (S : ba_S) (a0 : Nat) (m : ba_M) : AW (Y_Mo_readLettersOf S) 0 [some (aR (some a0))] [] S m (f_Mo_readLettersOf S a0 m) := by
  unfold f_Mo_readLettersOf
  refine AW.ck (fun g0 => ?_)
  refine a_aload_n dX12_readLettersOf_0 rfl ?_
  refine a_iconst (v := nI 2) dX12_readLettersOf_1 (by decide) ?_
  refine a_callV_Z dX12_readLettersOf_2 lk_RX12_104 mt_Mo_readNumbers vt_Mo_readNumbers ⟨_, rfl, rfl⟩ (fun _ h => m_Mo_readNumbers h) rfl rfl g0 ⟨rfl, rfl, rfl⟩ (fun q1 => ?_)
  refine a_beq (tgt := 35) dX12_readLettersOf_5 (by decide) (fun _ => ?_) (fun _ => ?_)
  · skip
    exact AW.weak (Lw_no Lw_end) (w_Mo_readLettersOf_35 _)
  · skip
    refine a_aload_n dX12_readLettersOf_8 rfl ?_
    refine a_getR dX12_readLettersOf_9 fl_RX12_19 rfl g0 (fun r2 h3 => ?_)
    refine a_iconst (v := nI 0) dX12_readLettersOf_12 (by decide) ?_
    refine a_iald dX12_readLettersOf_13 h3 ?_
    refine a_aload_n dX12_readLettersOf_14 rfl ?_
    refine a_getI dX12_readLettersOf_15 fl_RX12_113 rfl g0 ?_
    refine a_ige (tgt := 35) dX12_readLettersOf_18 (by decide) (fun _ => ?_) (fun _ => ?_)
    · skip
      exact AW.weak (Lw_no Lw_end) (w_Mo_readLettersOf_35 _)
    · skip
      refine a_aload_n dX12_readLettersOf_21 rfl ?_
      refine a_getR dX12_readLettersOf_22 fl_RX12_19 rfl g0 (fun r4 h5 => ?_)
      refine a_iconst (v := nI 1) dX12_readLettersOf_25 (by decide) ?_
      refine a_iald dX12_readLettersOf_26 h5 ?_
      refine a_iconst (v := nI 0) dX12_readLettersOf_27 (by decide) ?_
      refine a_iconst (v := nI 3) dX12_readLettersOf_28 (by decide) ?_
      refine a_callS_Z dX12_readLettersOf_29 lk_RX12_84 mt_Mo_in sv_Mo_in (fun _ h => m_Mo_in h) rfl rfl ⟨rfl, rfl, rfl⟩ (fun q6 => ?_)
      refine a_bne (tgt := 37) dX12_readLettersOf_32 (by decide) (fun _ => ?_) (fun _ => ?_)
      · skip
        refine a_aload_n dX12_readLettersOf_37 rfl ?_
        refine a_getR dX12_readLettersOf_38 fl_RX12_28 rfl g0 (fun r7 h8 => ?_)
        refine a_aload_n dX12_readLettersOf_41 rfl ?_
        refine a_getR dX12_readLettersOf_42 fl_RX12_19 rfl g0 (fun r9 h10 => ?_)
        refine a_iconst (v := nI 0) dX12_readLettersOf_45 (by decide) ?_
        refine a_iald dX12_readLettersOf_46 h10 ?_
        refine a_aload_n dX12_readLettersOf_47 rfl ?_
        refine a_getR dX12_readLettersOf_48 fl_RX12_19 rfl g0 (fun r11 h12 => ?_)
        refine a_iconst (v := nI 1) dX12_readLettersOf_51 (by decide) ?_
        refine a_iald dX12_readLettersOf_52 h12 ?_
        refine a_iast dX12_readLettersOf_53 h8 ?_
        refine a_iconst (v := nI 1) dX12_readLettersOf_54 (by decide) ?_
        exact AW.ret dX12_readLettersOf_55 rfl rfl
      · skip
        exact AW.weak (Lw_no Lw_end) (w_Mo_readLettersOf_35 _)
theorem m_Mo_readLettersOf {S : ba_S} {a0 : Nat} {m : ba_M} {q : Bool × ba_M} (h : f_Mo_readLettersOf S a0 m = some q) : MA (Y_Mo_readLettersOf S) yX12_readLettersOf (some .boolean) [aR (some a0)] S m q :=
  ba_met ⟨by decide +kernel, rfl⟩ rfl (fun h => by cases h) (Or.inr (Or.inl ⟨rfl, rfl, _, rfl⟩)) rfl (h ▸ e_Mo_readLettersOf S a0 m)

abbrev Y_Mo_readItem (S : ba_S) : ba_Y (Bool × ba_M) := mZ cX12_readItem RX12 2 4 85 S
def f_Mo_readItem (S : ba_S) (a0 : Nat) (m : ba_M) : Option (Bool × ba_M) :=
  cK S a0 11 (((f_Mo_byteAt S a0 (gI m a0 7) m).bind fun q1 => (if q1.1 = 97 then ((f_Mo_readCalled S a0 (wI q1.2 a0 7 ((gI q1.2 a0 7) + (nI 1)))).bind fun q3 => (some (q3.1, q3.2))) else (if q1.1 = 100 then ((f_Mo_readSlide S a0 (wI q1.2 a0 7 ((gI q1.2 a0 7) + (nI 1)))).bind fun q5 => (some (q5.1, q5.2))) else (if q1.1 = 108 then ((f_Mo_readLettersOf S a0 (wI q1.2 a0 7 ((gI q1.2 a0 7) + (nI 1)))).bind fun q7 => (some (q7.1, q7.2))) else (if q1.1 = 110 then ((f_Mo_readGround S a0 (wI q1.2 a0 7 ((gI q1.2 a0 7) + (nI 1)))).bind fun q9 => (some (q9.1, q9.2))) else (if q1.1 = 112 then ((f_Mo_readPlayer S a0 (wI q1.2 a0 7 ((gI q1.2 a0 7) + (nI 1)))).bind fun q11 => (some (q11.1, q11.2))) else (some (false, (wI q1.2 a0 7 ((gI q1.2 a0 7) + (nI 1))))))))))))
set_option maxRecDepth 100000 in
theorem e_Mo_readItem (S : ba_S) (a0 : Nat) (m : ba_M) : AW (Y_Mo_readItem S) 0 [some (aR (some a0)), none] [] S m (f_Mo_readItem S a0 m) := by
  unfold f_Mo_readItem
  refine AW.ck (fun g0 => ?_)
  refine a_aload_n dX12_readItem_0 rfl ?_
  refine a_aload_n dX12_readItem_1 rfl ?_
  refine a_getI dX12_readItem_2 fl_RX12_93 rfl g0 ?_
  refine a_callV_I dX12_readItem_5 lk_RX12_96 mt_Mo_byteAt vt_Mo_byteAt ⟨_, rfl, rfl⟩ (fun _ h => m_Mo_byteAt h) rfl rfl g0 ⟨rfl, rfl, rfl⟩ (fun q1 => ?_)
  refine a_istore_n dX12_readItem_8 rfl rfl ?_
  refine a_aload_n dX12_readItem_9 rfl ?_
  refine a_dup dX12_readItem_10 rfl ?_
  refine a_getI dX12_readItem_11 fl_RX12_93 rfl g0 ?_
  refine a_iconst (v := nI 1) dX12_readItem_14 (by decide) ?_
  refine a_iadd dX12_readItem_15 ?_
  refine a_putI dX12_readItem_16 fl_RX12_93 (rfl : _ = FieldType.int) rfl rfl rfl g0 ?_
  refine a_iload_n dX12_readItem_19 rfl ?_
  refine AW.if (fun c2 => ?_) (fun c2 => ?_)
  · refine a_look (tgt := 82) (off := 62) dX12_readItem_20 (by decide) (by rw [c2]; first | done | rfl) (by decide) ?_
    refine a_aload_n dX12_readItem_82 rfl ?_
    refine a_callV_Z dX12_readItem_83 lk_RX12_123 mt_Mo_readCalled vt_Mo_readCalled ⟨_, rfl, rfl⟩ (fun _ h => m_Mo_readCalled h) rfl rfl g0 ⟨rfl, rfl, rfl⟩ (fun q3 => ?_)
    exact AW.ret dX12_readItem_86 rfl rfl
  refine AW.if (fun c4 => ?_) (fun c4 => ?_)
  · refine a_look (tgt := 92) (off := 72) dX12_readItem_20 (by decide) (by rw [c4]; first | done | rfl) (by decide) ?_
    refine a_aload_n dX12_readItem_92 rfl ?_
    refine a_callV_Z dX12_readItem_93 lk_RX12_129 mt_Mo_readSlide vt_Mo_readSlide ⟨_, rfl, rfl⟩ (fun _ h => m_Mo_readSlide h) rfl rfl g0 ⟨rfl, rfl, rfl⟩ (fun q5 => ?_)
    exact AW.ret dX12_readItem_96 rfl rfl
  refine AW.if (fun c6 => ?_) (fun c6 => ?_)
  · refine a_look (tgt := 87) (off := 67) dX12_readItem_20 (by decide) (by rw [c6]; first | done | rfl) (by decide) ?_
    refine a_aload_n dX12_readItem_87 rfl ?_
    refine a_callV_Z dX12_readItem_88 lk_RX12_126 mt_Mo_readLettersOf vt_Mo_readLettersOf ⟨_, rfl, rfl⟩ (fun _ h => m_Mo_readLettersOf h) rfl rfl g0 ⟨rfl, rfl, rfl⟩ (fun q7 => ?_)
    exact AW.ret dX12_readItem_91 rfl rfl
  refine AW.if (fun c8 => ?_) (fun c8 => ?_)
  · refine a_look (tgt := 72) (off := 52) dX12_readItem_20 (by decide) (by rw [c8]; first | done | rfl) (by decide) ?_
    refine a_aload_n dX12_readItem_72 rfl ?_
    refine a_callV_Z dX12_readItem_73 lk_RX12_116 mt_Mo_readGround vt_Mo_readGround ⟨_, rfl, rfl⟩ (fun _ h => m_Mo_readGround h) rfl rfl g0 ⟨rfl, rfl, rfl⟩ (fun q9 => ?_)
    exact AW.ret dX12_readItem_76 rfl rfl
  refine AW.if (fun c10 => ?_) (fun c10 => ?_)
  · refine a_look (tgt := 77) (off := 57) dX12_readItem_20 (by decide) (by rw [c10]; first | done | rfl) (by decide) ?_
    refine a_aload_n dX12_readItem_77 rfl ?_
    refine a_callV_Z dX12_readItem_78 lk_RX12_120 mt_Mo_readPlayer vt_Mo_readPlayer ⟨_, rfl, rfl⟩ (fun _ h => m_Mo_readPlayer h) rfl rfl g0 ⟨rfl, rfl, rfl⟩ (fun q11 => ?_)
    exact AW.ret dX12_readItem_81 rfl rfl
  refine a_look (tgt := 97) (off := 77) dX12_readItem_20 (by decide) ((lv_osw c2 rfl).trans ((lv_osw c4 rfl).trans ((lv_osw c6 rfl).trans ((lv_osw c8 rfl).trans ((lv_osw c10 rfl).trans rfl))))) (by decide) ?_
  refine a_iconst (v := nI 0) dX12_readItem_97 (by decide) ?_
  exact AW.ret dX12_readItem_98 rfl rfl
theorem m_Mo_readItem {S : ba_S} {a0 : Nat} {m : ba_M} {q : Bool × ba_M} (h : f_Mo_readItem S a0 m = some q) : MA (Y_Mo_readItem S) yX12_readItem (some .boolean) [aR (some a0)] S m q :=
  ba_met ⟨by decide +kernel, rfl⟩ rfl (fun h => by cases h) (Or.inr (Or.inl ⟨rfl, rfl, _, rfl⟩)) rfl (h ▸ e_Mo_readItem S a0 m)

abbrev Y_Mo_fault (S : ba_S) : ba_Y (Int32 × ba_M) := mI cX12_fault RX12 2 5 106 S
def b_Mo_fault_21 (S : ba_S) (k21 : Nat → ba_M → Option (Int32 × ba_M)) (v0 : Nat) (m : ba_M) : Option (Int32 × ba_M) :=
  (if (gI m v0 6) ≤ (gI m v0 7) then (some ((-4 : Int32), m)) else ((f_Mo_readItem S v0 m).bind fun q1 => (if q1.1 = true then (k21 v0 q1.2) else (some ((gI m v0 7), q1.2)))))
set_option maxRecDepth 100000 in
theorem w_Mo_fault_21 {S : ba_S} {k21 : Nat → ba_M → Option (Int32 × ba_M)} (hk21 : ∀ (v0 : Nat) (m : ba_M), ck S v0 11 = true → AW (Y_Mo_fault S) 21 [some (aR (some v0)), none] [] S m (k21 v0 m)) : ∀ (v0 : Nat) (m : ba_M), ck S v0 11 = true → AW (Y_Mo_fault S) 21 [some (aR (some v0)), none] [] S m (b_Mo_fault_21 S k21 v0 m) := by
  intro v0 m g0
  unfold b_Mo_fault_21
  refine a_aload_n dX12_fault_21 rfl ?_
  refine a_getI dX12_fault_22 fl_RX12_93 rfl g0 ?_
  refine a_aload_n dX12_fault_25 rfl ?_
  refine a_getI dX12_fault_26 fl_RX12_88 rfl g0 ?_
  refine a_ige (tgt := 49) dX12_fault_29 (by decide) (fun _ => ?_) (fun _ => ?_)
  · skip
    refine a_bipush (v := -4) dX12_fault_49 (by decide) ?_
    exact AW.ret dX12_fault_51 rfl rfl
  · skip
    refine a_aload_n dX12_fault_32 rfl ?_
    refine a_getI dX12_fault_33 fl_RX12_93 rfl g0 ?_
    refine a_istore_n dX12_fault_36 rfl rfl ?_
    refine a_aload_n dX12_fault_37 rfl ?_
    refine a_callV_Z dX12_fault_38 lk_RX12_131 mt_Mo_readItem vt_Mo_readItem ⟨_, rfl, rfl⟩ (fun _ h => m_Mo_readItem h) rfl rfl g0 ⟨rfl, rfl, rfl⟩ (fun q1 => ?_)
    refine a_bne (tgt := 46) dX12_fault_41 (by decide) (fun _ => ?_) (fun _ => ?_)
    · skip
      refine a_goto (tgt := 21) dX12_fault_46 (by decide) ?_
      exact AW.weak (Lw_so rfl (Lw_no Lw_end)) (hk21 _ _ g0)
    · skip
      refine a_iload_n dX12_fault_44 rfl ?_
      exact AW.ret dX12_fault_45 rfl rfl
def f_Mo_fault_21 (S : ba_S) : Nat → ba_M → Option (Int32 × ba_M) := fx (fun _ _ => none) (b_Mo_fault_21 S) FU
theorem l_Mo_fault_21 {S : ba_S} : ∀ (n : Nat) (v0 : Nat) (m : ba_M), ck S v0 11 = true → AW (Y_Mo_fault S) 21 [some (aR (some v0)), none] [] S m ((fx (F := Nat → ba_M → Option (Int32 × ba_M)) (fun _ _ => none) (b_Mo_fault_21 S) n) v0 m) := by
  intro n
  induction n with
  | zero => intro _ _ _; exact AW.none
  | succ n ih => exact w_Mo_fault_21 ih
def f_Mo_fault (S : ba_S) (a0 : Nat) (m : ba_M) : Option (Int32 × ba_M) :=
  cK S a0 11 ((f_Mo_fault_21 S a0 (wI (wI (wI (wI m a0 7 (nI 0)) a0 9 (nI 30)) a0 10 (nI 1)) a0 11 (nI 0))))
set_option maxRecDepth 100000 in
theorem e_Mo_fault (S : ba_S) (a0 : Nat) (m : ba_M) : AW (Y_Mo_fault S) 0 [some (aR (some a0)), none] [] S m (f_Mo_fault S a0 m) := by
  unfold f_Mo_fault
  refine AW.ck (fun g0 => ?_)
  refine a_aload_n dX12_fault_0 rfl ?_
  refine a_iconst (v := nI 0) dX12_fault_1 (by decide) ?_
  refine a_putI dX12_fault_2 fl_RX12_93 (rfl : _ = FieldType.int) rfl rfl rfl g0 ?_
  refine a_aload_n dX12_fault_5 rfl ?_
  refine a_bipush (v := nI 30) dX12_fault_6 (by decide) ?_
  refine a_putI dX12_fault_8 fl_RX12_107 (rfl : _ = FieldType.int) rfl rfl rfl g0 ?_
  refine a_aload_n dX12_fault_11 rfl ?_
  refine a_iconst (v := nI 1) dX12_fault_12 (by decide) ?_
  refine a_putI dX12_fault_13 fl_RX12_110 (rfl : _ = FieldType.int) rfl rfl rfl g0 ?_
  refine a_aload_n dX12_fault_16 rfl ?_
  refine a_iconst (v := nI 0) dX12_fault_17 (by decide) ?_
  refine a_putI dX12_fault_18 fl_RX12_113 (rfl : _ = FieldType.int) rfl rfl rfl g0 ?_
  exact AW.weak (Lw_so rfl (Lw_no Lw_end)) (l_Mo_fault_21 FU _ _ g0)
theorem m_Mo_fault {S : ba_S} {a0 : Nat} {m : ba_M} {q : Int32 × ba_M} (h : f_Mo_fault S a0 m = some q) : MA (Y_Mo_fault S) yX12_fault (some .int) [aR (some a0)] S m q :=
  ba_met ⟨by decide +kernel, rfl⟩ rfl (fun h => by cases h) (Or.inl ⟨rfl, rfl, _, rfl⟩) rfl (h ▸ e_Mo_fault S a0 m)

abbrev Y_Mo_calls (S : ba_S) : ba_Y (ba_M) := mV cX12_calls RX12 2 0 0 S
def f_Mo_calls_66 (S : ba_S) (k2 : Nat → Int32 → ba_M → Option (ba_M)) (v0 : Nat) (v1 : Int32) (m : ba_M) : Option (ba_M) :=
  (k2 v0 (v1 + (nI 1)) m)
set_option maxRecDepth 100000 in
theorem w_Mo_calls_66 {S : ba_S} {k2 : Nat → Int32 → ba_M → Option (ba_M)} (hk2 : ∀ (v0 : Nat) (v1 : Int32) (m : ba_M), ck S v0 11 = true → AW (Y_Mo_calls S) 2 [some (aR (some v0)), some (aI v1)] [] S m (k2 v0 v1 m)) : ∀ (v0 : Nat) (v1 : Int32) (m : ba_M), ck S v0 11 = true → AW (Y_Mo_calls S) 66 [some (aR (some v0)), some (aI v1)] [] S m (f_Mo_calls_66 S k2 v0 v1 m) := by
  intro v0 v1 m g0
  unfold f_Mo_calls_66
  refine a_iinc (v := nI 1) dX12_calls_66 rfl (by decide) rfl rfl ?_
  refine a_goto (tgt := 2) dX12_calls_69 (by decide) ?_
  exact AW.weak (Lw_so rfl (Lw_so rfl Lw_end)) (hk2 _ _ _ g0)
def b_Mo_calls_2 (S : ba_S) (k2 : Nat → Int32 → ba_M → Option (ba_M)) (v0 : Nat) (v1 : Int32) (m : ba_M) : Option (ba_M) :=
  (if (gI m v0 11) ≤ v1 then (some m) else (ldR S v0 13 20 fun r1 => (bD S r1 v1 (if (gI m r1 (v1).toNatClampNeg) = (-4 : Int32) then (ldR S v0 13 20 fun r3 => (if (gI m v0 11) = 0 then none else (bD S r3 v1 (ldR S v0 13 20 fun r5 => (ldR S v0 12 20 fun r7 => (ldR S v0 13 20 fun r9 => (bD S r9 v1 (bD S r7 ((nI 5) * (gI (wI m r3 (v1).toNatClampNeg ((v1 + (nI 1)) - (v1 + (nI 1)) / (gI m v0 11) * (gI m v0 11))) r9 (v1).toNatClampNeg)) (bD S r5 ((nI 5) + v1) (ldR S v0 13 20 fun r11 => (bD S r11 ((nI 10) + v1) (f_Mo_calls_66 S k2 v0 v1 (wI (wI (wI m r3 (v1).toNatClampNeg ((v1 + (nI 1)) - (v1 + (nI 1)) / (gI m v0 11) * (gI m v0 11))) r5 (((nI 5) + v1)).toNatClampNeg (gI (wI m r3 (v1).toNatClampNeg ((v1 + (nI 1)) - (v1 + (nI 1)) / (gI m v0 11) * (gI m v0 11))) r7 (((nI 5) * (gI (wI m r3 (v1).toNatClampNeg ((v1 + (nI 1)) - (v1 + (nI 1)) / (gI m v0 11) * (gI m v0 11))) r9 (v1).toNatClampNeg))).toNatClampNeg)) r11 (((nI 10) + v1)).toNatClampNeg (nI 1)))))))))))))) else (f_Mo_calls_66 S k2 v0 v1 m)))))
set_option maxRecDepth 100000 in
theorem w_Mo_calls_2 {S : ba_S} {k2 : Nat → Int32 → ba_M → Option (ba_M)} (hk2 : ∀ (v0 : Nat) (v1 : Int32) (m : ba_M), ck S v0 11 = true → AW (Y_Mo_calls S) 2 [some (aR (some v0)), some (aI v1)] [] S m (k2 v0 v1 m)) : ∀ (v0 : Nat) (v1 : Int32) (m : ba_M), ck S v0 11 = true → AW (Y_Mo_calls S) 2 [some (aR (some v0)), some (aI v1)] [] S m (b_Mo_calls_2 S k2 v0 v1 m) := by
  intro v0 v1 m g0
  unfold b_Mo_calls_2
  refine a_iload_n dX12_calls_2 rfl ?_
  refine a_aload_n dX12_calls_3 rfl ?_
  refine a_getI dX12_calls_4 fl_RX12_113 rfl g0 ?_
  refine a_ige (tgt := 72) dX12_calls_7 (by decide) (fun _ => ?_) (fun _ => ?_)
  · skip
    exact AW.ret dX12_calls_72 rfl rfl
  · skip
    refine a_aload_n dX12_calls_10 rfl ?_
    refine a_getR dX12_calls_11 fl_RX12_25 rfl g0 (fun r1 h2 => ?_)
    refine a_iload_n dX12_calls_14 rfl ?_
    refine a_iald dX12_calls_15 h2 ?_
    refine a_bipush (v := -4) dX12_calls_16 (by decide) ?_
    refine a_ine (tgt := 66) dX12_calls_18 (by decide) (fun _ => ?_) (fun _ => ?_)
    · skip
      exact AW.weak (Lw_so rfl (Lw_so rfl Lw_end)) (w_Mo_calls_66 hk2 _ _ _ g0)
    · skip
      refine a_aload_n dX12_calls_21 rfl ?_
      refine a_getR dX12_calls_22 fl_RX12_25 rfl g0 (fun r3 h4 => ?_)
      refine a_iload_n dX12_calls_25 rfl ?_
      refine a_iload_n dX12_calls_26 rfl ?_
      refine a_iconst (v := nI 1) dX12_calls_27 (by decide) ?_
      refine a_iadd dX12_calls_28 ?_
      refine a_aload_n dX12_calls_29 rfl ?_
      refine a_getI dX12_calls_30 fl_RX12_113 rfl g0 ?_
      refine a_irem dX12_calls_33 ?_
      refine a_iast dX12_calls_34 h4 ?_
      refine a_aload_n dX12_calls_35 rfl ?_
      refine a_getR dX12_calls_36 fl_RX12_25 rfl g0 (fun r5 h6 => ?_)
      refine a_iconst (v := nI 5) dX12_calls_39 (by decide) ?_
      refine a_iload_n dX12_calls_40 rfl ?_
      refine a_iadd dX12_calls_41 ?_
      refine a_aload_n dX12_calls_42 rfl ?_
      refine a_getR dX12_calls_43 fl_RX12_22 rfl g0 (fun r7 h8 => ?_)
      refine a_iconst (v := nI 5) dX12_calls_46 (by decide) ?_
      refine a_aload_n dX12_calls_47 rfl ?_
      refine a_getR dX12_calls_48 fl_RX12_25 rfl g0 (fun r9 h10 => ?_)
      refine a_iload_n dX12_calls_51 rfl ?_
      refine a_iald dX12_calls_52 h10 ?_
      refine a_imul dX12_calls_53 ?_
      refine a_iald dX12_calls_54 h8 ?_
      refine a_iast dX12_calls_55 h6 ?_
      refine a_aload_n dX12_calls_56 rfl ?_
      refine a_getR dX12_calls_57 fl_RX12_25 rfl g0 (fun r11 h12 => ?_)
      refine a_bipush (v := nI 10) dX12_calls_60 (by decide) ?_
      refine a_iload_n dX12_calls_62 rfl ?_
      refine a_iadd dX12_calls_63 ?_
      refine a_iconst (v := nI 1) dX12_calls_64 (by decide) ?_
      refine a_iast dX12_calls_65 h12 ?_
      exact AW.weak (Lw_so rfl (Lw_so rfl Lw_end)) (w_Mo_calls_66 hk2 _ _ _ g0)
def f_Mo_calls_2 (S : ba_S) : Nat → Int32 → ba_M → Option (ba_M) := fx (fun _ _ _ => none) (b_Mo_calls_2 S) FU
theorem l_Mo_calls_2 {S : ba_S} : ∀ (n : Nat) (v0 : Nat) (v1 : Int32) (m : ba_M), ck S v0 11 = true → AW (Y_Mo_calls S) 2 [some (aR (some v0)), some (aI v1)] [] S m ((fx (F := Nat → Int32 → ba_M → Option (ba_M)) (fun _ _ _ => none) (b_Mo_calls_2 S) n) v0 v1 m) := by
  intro n
  induction n with
  | zero => intro _ _ _ _; exact AW.none
  | succ n ih => exact w_Mo_calls_2 ih
def f_Mo_calls (S : ba_S) (a0 : Nat) (m : ba_M) : Option (ba_M) :=
  cK S a0 11 ((f_Mo_calls_2 S a0 (nI 0) m))
set_option maxRecDepth 100000 in
theorem e_Mo_calls (S : ba_S) (a0 : Nat) (m : ba_M) : AW (Y_Mo_calls S) 0 [some (aR (some a0)), none] [] S m (f_Mo_calls S a0 m) := by
  unfold f_Mo_calls
  refine AW.ck (fun g0 => ?_)
  refine a_iconst (v := nI 0) dX12_calls_0 (by decide) ?_
  refine a_istore_n dX12_calls_1 rfl rfl ?_
  exact AW.weak (Lw_so rfl (Lw_so rfl Lw_end)) (l_Mo_calls_2 FU _ _ _ g0)
theorem m_Mo_calls {S : ba_S} {a0 : Nat} {m : ba_M} {q : ba_M} (h : f_Mo_calls S a0 m = some q) : MA (Y_Mo_calls S) yX12_calls none [aR (some a0)] S m q :=
  ba_met ⟨by decide +kernel, rfl⟩ rfl (fun h => by cases h) (Or.inr (Or.inr (Or.inr (Or.inl ⟨rfl, rfl, rfl⟩)))) rfl (h ▸ e_Mo_calls S a0 m)

abbrev Y_Mo_lay (S : ba_S) : ba_Y (Int32 × ba_M) := mI cX12_lay RX12 2 6 127 S
def f_Mo_lay_17 (S : ba_S) (m : ba_M) : Option (Int32 × ba_M) :=
  (some ((-2 : Int32), m))
set_option maxRecDepth 100000 in
theorem w_Mo_lay_17 {S : ba_S} : ∀ (m : ba_M), AW (Y_Mo_lay S) 17 [none, none] [] S m (f_Mo_lay_17 S m) := by
  intro m
  unfold f_Mo_lay_17
  refine a_bipush (v := -2) dX12_lay_17 (by decide) ?_
  exact AW.ret dX12_lay_19 rfl rfl
def f_Mo_lay_182 (S : ba_S) (k151 : Nat → Int32 → ba_M → Option (Int32 × ba_M)) (v0 : Nat) (v1 : Int32) (s0 : Nat) (s1 : Int32) (s2 : Int32) (m : ba_M) : Option (Int32 × ba_M) :=
  (bD S s0 s1 (k151 v0 (v1 + (nI 1)) (wI m s0 (s1).toNatClampNeg s2)))
set_option maxRecDepth 100000 in
theorem w_Mo_lay_182 {S : ba_S} {k151 : Nat → Int32 → ba_M → Option (Int32 × ba_M)} (hk151 : ∀ (v0 : Nat) (v1 : Int32) (m : ba_M), ck S v0 11 = true → AW (Y_Mo_lay S) 151 [some (aR (some v0)), some (aI v1)] [] S m (k151 v0 v1 m)) : ∀ (v0 : Nat) (v1 : Int32) (s0 : Nat) (s1 : Int32) (s2 : Int32) (m : ba_M), ck S v0 11 = true → ck S s0 20 = true → AW (Y_Mo_lay S) 182 [some (aR (some v0)), some (aI v1)] [aI s2, aI s1, aR (some s0)] S m (f_Mo_lay_182 S k151 v0 v1 s0 s1 s2 m) := by
  intro v0 v1 s0 s1 s2 m g0 gs0
  unfold f_Mo_lay_182
  refine a_iast dX12_lay_182 gs0 ?_
  refine a_iinc (v := nI 1) dX12_lay_183 rfl (by decide) rfl rfl ?_
  refine a_goto (tgt := 151) dX12_lay_186 (by decide) ?_
  exact AW.weak (Lw_so rfl (Lw_so rfl Lw_end)) (hk151 _ _ _ g0)
def b_Mo_lay_151 (S : ba_S) (k151 : Nat → Int32 → ba_M → Option (Int32 × ba_M)) (v0 : Nat) (v1 : Int32) (m : ba_M) : Option (Int32 × ba_M) :=
  (if (nI 5) ≤ v1 then (some ((gI (wI (wI (wI m v0 26 (nI 0)) v0 24 (nI 0)) v0 29 (nI 0)) v0 2), (wI (wI (wI m v0 26 (nI 0)) v0 24 (nI 0)) v0 29 (nI 0)))) else (ldR S v0 4 20 fun r1 => (if (gI m v0 2) ≤ v1 then (f_Mo_lay_182 S k151 v0 v1 r1 ((nI 15) + v1) (nI 0) m) else (ldR S v0 14 20 fun r3 => (bD S r3 v1 (f_Mo_lay_182 S k151 v0 v1 r1 ((nI 15) + v1) (gI m r3 (v1).toNatClampNeg) m))))))
set_option maxRecDepth 100000 in
theorem w_Mo_lay_151 {S : ba_S} {k151 : Nat → Int32 → ba_M → Option (Int32 × ba_M)} (hk151 : ∀ (v0 : Nat) (v1 : Int32) (m : ba_M), ck S v0 11 = true → AW (Y_Mo_lay S) 151 [some (aR (some v0)), some (aI v1)] [] S m (k151 v0 v1 m)) : ∀ (v0 : Nat) (v1 : Int32) (m : ba_M), ck S v0 11 = true → AW (Y_Mo_lay S) 151 [some (aR (some v0)), some (aI v1)] [] S m (b_Mo_lay_151 S k151 v0 v1 m) := by
  intro v0 v1 m g0
  unfold b_Mo_lay_151
  refine a_iload_n dX12_lay_151 rfl ?_
  refine a_iconst (v := nI 5) dX12_lay_152 (by decide) ?_
  refine a_ige (tgt := 189) dX12_lay_153 (by decide) (fun _ => ?_) (fun _ => ?_)
  · skip
    refine a_aload_n dX12_lay_189 rfl ?_
    refine a_iconst (v := nI 0) dX12_lay_190 (by decide) ?_
    refine a_putI dX12_lay_191 fl_RX12_141 (rfl : _ = FieldType.int) rfl rfl rfl g0 ?_
    refine a_aload_n dX12_lay_194 rfl ?_
    refine a_iconst (v := nI 0) dX12_lay_195 (by decide) ?_
    refine a_putI dX12_lay_196 fl_RX12_144 (rfl : _ = FieldType.int) rfl rfl rfl g0 ?_
    refine a_aload_n dX12_lay_199 rfl ?_
    refine a_iconst (v := nI 0) dX12_lay_200 (by decide) ?_
    refine a_putI dX12_lay_201 fl_RX12_147 (rfl : _ = FieldType.int) rfl rfl rfl g0 ?_
    refine a_aload_n dX12_lay_204 rfl ?_
    refine a_getI dX12_lay_205 fl_RX12_75 rfl g0 ?_
    exact AW.ret dX12_lay_208 rfl rfl
  · skip
    refine a_aload_n dX12_lay_156 rfl ?_
    refine a_getR dX12_lay_157 fl_RX12_13 rfl g0 (fun r1 h2 => ?_)
    refine a_bipush (v := nI 15) dX12_lay_160 (by decide) ?_
    refine a_iload_n dX12_lay_162 rfl ?_
    refine a_iadd dX12_lay_163 ?_
    refine a_iload_n dX12_lay_164 rfl ?_
    refine a_aload_n dX12_lay_165 rfl ?_
    refine a_getI dX12_lay_166 fl_RX12_75 rfl g0 ?_
    refine a_ige (tgt := 181) dX12_lay_169 (by decide) (fun _ => ?_) (fun _ => ?_)
    · skip
      refine a_iconst (v := nI 0) dX12_lay_181 (by decide) ?_
      exact AW.weak (Lw_so rfl (Lw_so rfl Lw_end)) (w_Mo_lay_182 hk151 _ _ _ _ _ _ g0 h2)
    · skip
      refine a_aload_n dX12_lay_172 rfl ?_
      refine a_getR dX12_lay_173 fl_RX12_28 rfl g0 (fun r3 h4 => ?_)
      refine a_iload_n dX12_lay_176 rfl ?_
      refine a_iald dX12_lay_177 h4 ?_
      refine a_goto (tgt := 182) dX12_lay_178 (by decide) ?_
      exact AW.weak (Lw_so rfl (Lw_so rfl Lw_end)) (w_Mo_lay_182 hk151 _ _ _ _ _ _ g0 h2)
def f_Mo_lay_151 (S : ba_S) : Nat → Int32 → ba_M → Option (Int32 × ba_M) := fx (fun _ _ _ => none) (b_Mo_lay_151 S) FU
theorem l_Mo_lay_151 {S : ba_S} : ∀ (n : Nat) (v0 : Nat) (v1 : Int32) (m : ba_M), ck S v0 11 = true → AW (Y_Mo_lay S) 151 [some (aR (some v0)), some (aI v1)] [] S m ((fx (F := Nat → Int32 → ba_M → Option (Int32 × ba_M)) (fun _ _ _ => none) (b_Mo_lay_151 S) n) v0 v1 m) := by
  intro n
  induction n with
  | zero => intro _ _ _ _; exact AW.none
  | succ n ih => exact w_Mo_lay_151 ih
def b_Mo_lay_125 (S : ba_S) (k125 : Nat → Int32 → ba_M → Option (Int32 × ba_M)) (v0 : Nat) (v1 : Int32) (m : ba_M) : Option (Int32 × ba_M) :=
  (if (nI 15) ≤ v1 then (f_Mo_lay_151 S v0 (nI 0) m) else (ldR S v0 4 20 fun r5 => (ldR S v0 13 20 fun r7 => (bD S r7 v1 (bD S r5 v1 (k125 v0 (v1 + (nI 1)) (wI m r5 (v1).toNatClampNeg (gI m r7 (v1).toNatClampNeg))))))))
set_option maxRecDepth 100000 in
theorem w_Mo_lay_125 {S : ba_S} {k125 : Nat → Int32 → ba_M → Option (Int32 × ba_M)} (hk125 : ∀ (v0 : Nat) (v1 : Int32) (m : ba_M), ck S v0 11 = true → AW (Y_Mo_lay S) 125 [some (aR (some v0)), some (aI v1)] [] S m (k125 v0 v1 m)) : ∀ (v0 : Nat) (v1 : Int32) (m : ba_M), ck S v0 11 = true → AW (Y_Mo_lay S) 125 [some (aR (some v0)), some (aI v1)] [] S m (b_Mo_lay_125 S k125 v0 v1 m) := by
  intro v0 v1 m g0
  unfold b_Mo_lay_125
  refine a_iload_n dX12_lay_125 rfl ?_
  refine a_bipush (v := nI 15) dX12_lay_126 (by decide) ?_
  refine a_ige (tgt := 149) dX12_lay_128 (by decide) (fun _ => ?_) (fun _ => ?_)
  · skip
    refine a_iconst (v := nI 0) dX12_lay_149 (by decide) ?_
    refine a_istore_n dX12_lay_150 rfl rfl ?_
    exact AW.weak (Lw_so rfl (Lw_so rfl Lw_end)) (l_Mo_lay_151 FU _ _ _ g0)
  · skip
    refine a_aload_n dX12_lay_131 rfl ?_
    refine a_getR dX12_lay_132 fl_RX12_13 rfl g0 (fun r5 h6 => ?_)
    refine a_iload_n dX12_lay_135 rfl ?_
    refine a_aload_n dX12_lay_136 rfl ?_
    refine a_getR dX12_lay_137 fl_RX12_25 rfl g0 (fun r7 h8 => ?_)
    refine a_iload_n dX12_lay_140 rfl ?_
    refine a_iald dX12_lay_141 h8 ?_
    refine a_iast dX12_lay_142 h6 ?_
    refine a_iinc (v := nI 1) dX12_lay_143 rfl (by decide) rfl rfl ?_
    refine a_goto (tgt := 125) dX12_lay_146 (by decide) ?_
    exact AW.weak (Lw_so rfl (Lw_so rfl Lw_end)) (hk125 _ _ _ g0)
def f_Mo_lay_125 (S : ba_S) : Nat → Int32 → ba_M → Option (Int32 × ba_M) := fx (fun _ _ _ => none) (b_Mo_lay_125 S) FU
theorem l_Mo_lay_125 {S : ba_S} : ∀ (n : Nat) (v0 : Nat) (v1 : Int32) (m : ba_M), ck S v0 11 = true → AW (Y_Mo_lay S) 125 [some (aR (some v0)), some (aI v1)] [] S m ((fx (F := Nat → Int32 → ba_M → Option (Int32 × ba_M)) (fun _ _ _ => none) (b_Mo_lay_125 S) n) v0 v1 m) := by
  intro n
  induction n with
  | zero => intro _ _ _ _; exact AW.none
  | succ n ih => exact w_Mo_lay_125 ih
def b_Mo_lay_99 (S : ba_S) (k99 : Nat → Int32 → ba_M → Option (Int32 × ba_M)) (v0 : Nat) (v1 : Int32) (m : ba_M) : Option (Int32 × ba_M) :=
  (if (nI 25) ≤ v1 then (f_Mo_lay_125 S v0 (nI 0) m) else (ldR S v0 3 20 fun r9 => (ldR S v0 12 20 fun r11 => (bD S r11 v1 (bD S r9 v1 (k99 v0 (v1 + (nI 1)) (wI m r9 (v1).toNatClampNeg (gI m r11 (v1).toNatClampNeg))))))))
set_option maxRecDepth 100000 in
theorem w_Mo_lay_99 {S : ba_S} {k99 : Nat → Int32 → ba_M → Option (Int32 × ba_M)} (hk99 : ∀ (v0 : Nat) (v1 : Int32) (m : ba_M), ck S v0 11 = true → AW (Y_Mo_lay S) 99 [some (aR (some v0)), some (aI v1)] [] S m (k99 v0 v1 m)) : ∀ (v0 : Nat) (v1 : Int32) (m : ba_M), ck S v0 11 = true → AW (Y_Mo_lay S) 99 [some (aR (some v0)), some (aI v1)] [] S m (b_Mo_lay_99 S k99 v0 v1 m) := by
  intro v0 v1 m g0
  unfold b_Mo_lay_99
  refine a_iload_n dX12_lay_99 rfl ?_
  refine a_bipush (v := nI 25) dX12_lay_100 (by decide) ?_
  refine a_ige (tgt := 123) dX12_lay_102 (by decide) (fun _ => ?_) (fun _ => ?_)
  · skip
    refine a_iconst (v := nI 0) dX12_lay_123 (by decide) ?_
    refine a_istore_n dX12_lay_124 rfl rfl ?_
    exact AW.weak (Lw_so rfl (Lw_so rfl Lw_end)) (l_Mo_lay_125 FU _ _ _ g0)
  · skip
    refine a_aload_n dX12_lay_105 rfl ?_
    refine a_getR dX12_lay_106 fl_RX12_7 rfl g0 (fun r9 h10 => ?_)
    refine a_iload_n dX12_lay_109 rfl ?_
    refine a_aload_n dX12_lay_110 rfl ?_
    refine a_getR dX12_lay_111 fl_RX12_22 rfl g0 (fun r11 h12 => ?_)
    refine a_iload_n dX12_lay_114 rfl ?_
    refine a_iald dX12_lay_115 h12 ?_
    refine a_iast dX12_lay_116 h10 ?_
    refine a_iinc (v := nI 1) dX12_lay_117 rfl (by decide) rfl rfl ?_
    refine a_goto (tgt := 99) dX12_lay_120 (by decide) ?_
    exact AW.weak (Lw_so rfl (Lw_so rfl Lw_end)) (hk99 _ _ _ g0)
def f_Mo_lay_99 (S : ba_S) : Nat → Int32 → ba_M → Option (Int32 × ba_M) := fx (fun _ _ _ => none) (b_Mo_lay_99 S) FU
theorem l_Mo_lay_99 {S : ba_S} : ∀ (n : Nat) (v0 : Nat) (v1 : Int32) (m : ba_M), ck S v0 11 = true → AW (Y_Mo_lay S) 99 [some (aR (some v0)), some (aI v1)] [] S m ((fx (F := Nat → Int32 → ba_M → Option (Int32 × ba_M)) (fun _ _ _ => none) (b_Mo_lay_99 S) n) v0 v1 m) := by
  intro n
  induction n with
  | zero => intro _ _ _ _; exact AW.none
  | succ n ih => exact w_Mo_lay_99 ih
def f_Mo_lay_64 (S : ba_S) (m : ba_M) : Option (Int32 × ba_M) :=
  (some ((-2 : Int32), m))
set_option maxRecDepth 100000 in
theorem w_Mo_lay_64 {S : ba_S} : ∀ (m : ba_M), AW (Y_Mo_lay S) 64 [none, none] [] S m (f_Mo_lay_64 S m) := by
  intro m
  unfold f_Mo_lay_64
  refine a_bipush (v := -2) dX12_lay_64 (by decide) ?_
  exact AW.ret dX12_lay_66 rfl rfl
def b_Mo_lay_26 (S : ba_S) (k26 : Nat → Int32 → ba_M → Option (Int32 × ba_M)) (v0 : Nat) (v1 : Int32) (m : ba_M) : Option (Int32 × ba_M) :=
  (if (gI m v0 11) ≤ v1 then (f_Mo_lay_99 S v0 (nI 0) (wI (wI (wI m v0 0 (gI m v0 9)) v0 1 (gI (wI m v0 0 (gI m v0 9)) v0 10)) v0 2 (gI (wI (wI m v0 0 (gI m v0 9)) v0 1 (gI (wI m v0 0 (gI m v0 9)) v0 10)) v0 11))) else (ldR S v0 12 20 fun r13 => (bD S r13 ((nI 5) * v1) (if (gI m v0 9) < (gI m r13 (((nI 5) * v1)).toNatClampNeg) then (f_Mo_lay_64 S m) else (ldR S v0 13 20 fun r15 => (bD S r15 ((nI 5) + v1) (if (gI m r15 (((nI 5) + v1)).toNatClampNeg) ≤ (gI m v0 9) then (k26 v0 (v1 + (nI 1)) m) else (f_Mo_lay_64 S m))))))))
set_option maxRecDepth 100000 in
theorem w_Mo_lay_26 {S : ba_S} {k26 : Nat → Int32 → ba_M → Option (Int32 × ba_M)} (hk26 : ∀ (v0 : Nat) (v1 : Int32) (m : ba_M), ck S v0 11 = true → AW (Y_Mo_lay S) 26 [some (aR (some v0)), some (aI v1)] [] S m (k26 v0 v1 m)) : ∀ (v0 : Nat) (v1 : Int32) (m : ba_M), ck S v0 11 = true → AW (Y_Mo_lay S) 26 [some (aR (some v0)), some (aI v1)] [] S m (b_Mo_lay_26 S k26 v0 v1 m) := by
  intro v0 v1 m g0
  unfold b_Mo_lay_26
  refine a_iload_n dX12_lay_26 rfl ?_
  refine a_aload_n dX12_lay_27 rfl ?_
  refine a_getI dX12_lay_28 fl_RX12_113 rfl g0 ?_
  refine a_ige (tgt := 73) dX12_lay_31 (by decide) (fun _ => ?_) (fun _ => ?_)
  · skip
    refine a_aload_n dX12_lay_73 rfl ?_
    refine a_aload_n dX12_lay_74 rfl ?_
    refine a_getI dX12_lay_75 fl_RX12_107 rfl g0 ?_
    refine a_putI dX12_lay_78 fl_RX12_68 (rfl : _ = FieldType.int) rfl rfl rfl g0 ?_
    refine a_aload_n dX12_lay_81 rfl ?_
    refine a_aload_n dX12_lay_82 rfl ?_
    refine a_getI dX12_lay_83 fl_RX12_110 rfl g0 ?_
    refine a_putI dX12_lay_86 fl_RX12_72 (rfl : _ = FieldType.int) rfl rfl rfl g0 ?_
    refine a_aload_n dX12_lay_89 rfl ?_
    refine a_aload_n dX12_lay_90 rfl ?_
    refine a_getI dX12_lay_91 fl_RX12_113 rfl g0 ?_
    refine a_putI dX12_lay_94 fl_RX12_75 (rfl : _ = FieldType.int) rfl rfl rfl g0 ?_
    refine a_iconst (v := nI 0) dX12_lay_97 (by decide) ?_
    refine a_istore_n dX12_lay_98 rfl rfl ?_
    exact AW.weak (Lw_so rfl (Lw_so rfl Lw_end)) (l_Mo_lay_99 FU _ _ _ g0)
  · skip
    refine a_aload_n dX12_lay_34 rfl ?_
    refine a_getR dX12_lay_35 fl_RX12_22 rfl g0 (fun r13 h14 => ?_)
    refine a_iconst (v := nI 5) dX12_lay_38 (by decide) ?_
    refine a_iload_n dX12_lay_39 rfl ?_
    refine a_imul dX12_lay_40 ?_
    refine a_iald dX12_lay_41 h14 ?_
    refine a_aload_n dX12_lay_42 rfl ?_
    refine a_getI dX12_lay_43 fl_RX12_107 rfl g0 ?_
    refine a_igt (tgt := 64) dX12_lay_46 (by decide) (fun _ => ?_) (fun _ => ?_)
    · skip
      exact AW.weak (Lw_no (Lw_no Lw_end)) (w_Mo_lay_64 _)
    · skip
      refine a_aload_n dX12_lay_49 rfl ?_
      refine a_getR dX12_lay_50 fl_RX12_25 rfl g0 (fun r15 h16 => ?_)
      refine a_iconst (v := nI 5) dX12_lay_53 (by decide) ?_
      refine a_iload_n dX12_lay_54 rfl ?_
      refine a_iadd dX12_lay_55 ?_
      refine a_iald dX12_lay_56 h16 ?_
      refine a_aload_n dX12_lay_57 rfl ?_
      refine a_getI dX12_lay_58 fl_RX12_107 rfl g0 ?_
      refine a_ile (tgt := 67) dX12_lay_61 (by decide) (fun _ => ?_) (fun _ => ?_)
      · skip
        refine a_iinc (v := nI 1) dX12_lay_67 rfl (by decide) rfl rfl ?_
        refine a_goto (tgt := 26) dX12_lay_70 (by decide) ?_
        exact AW.weak (Lw_so rfl (Lw_so rfl Lw_end)) (hk26 _ _ _ g0)
      · skip
        exact AW.weak (Lw_no (Lw_no Lw_end)) (w_Mo_lay_64 _)
def f_Mo_lay_26 (S : ba_S) : Nat → Int32 → ba_M → Option (Int32 × ba_M) := fx (fun _ _ _ => none) (b_Mo_lay_26 S) FU
theorem l_Mo_lay_26 {S : ba_S} : ∀ (n : Nat) (v0 : Nat) (v1 : Int32) (m : ba_M), ck S v0 11 = true → AW (Y_Mo_lay S) 26 [some (aR (some v0)), some (aI v1)] [] S m ((fx (F := Nat → Int32 → ba_M → Option (Int32 × ba_M)) (fun _ _ _ => none) (b_Mo_lay_26 S) n) v0 v1 m) := by
  intro n
  induction n with
  | zero => intro _ _ _ _; exact AW.none
  | succ n ih => exact w_Mo_lay_26 ih
def f_Mo_lay (S : ba_S) (a0 : Nat) (m : ba_M) : Option (Int32 × ba_M) :=
  cK S a0 11 (((f_Mo_fault S a0 m).bind fun q17 => (if q17.1 = (-4 : Int32) then (if (nI 2) ≤ (gI q17.2 a0 11) then ((f_Mo_calls S a0 q17.2).bind fun q18 => (f_Mo_lay_26 S a0 (nI 0) q18)) else (f_Mo_lay_17 S q17.2)) else (f_Mo_lay_17 S q17.2))))
set_option maxRecDepth 100000 in
theorem e_Mo_lay (S : ba_S) (a0 : Nat) (m : ba_M) : AW (Y_Mo_lay S) 0 [some (aR (some a0)), none] [] S m (f_Mo_lay S a0 m) := by
  unfold f_Mo_lay
  refine AW.ck (fun g0 => ?_)
  refine a_aload_n dX12_lay_0 rfl ?_
  refine a_callV_I dX12_lay_1 lk_RX12_134 mt_Mo_fault vt_Mo_fault ⟨_, rfl, rfl⟩ (fun _ h => m_Mo_fault h) rfl rfl g0 ⟨rfl, rfl, rfl⟩ (fun q17 => ?_)
  refine a_bipush (v := -4) dX12_lay_4 (by decide) ?_
  refine a_ine (tgt := 17) dX12_lay_6 (by decide) (fun _ => ?_) (fun _ => ?_)
  · skip
    exact AW.weak (Lw_no (Lw_no Lw_end)) (w_Mo_lay_17 _)
  · skip
    refine a_aload_n dX12_lay_9 rfl ?_
    refine a_getI dX12_lay_10 fl_RX12_113 rfl g0 ?_
    refine a_iconst (v := nI 2) dX12_lay_13 (by decide) ?_
    refine a_ige (tgt := 20) dX12_lay_14 (by decide) (fun _ => ?_) (fun _ => ?_)
    · skip
      refine a_aload_n dX12_lay_20 rfl ?_
      refine a_callV_V dX12_lay_21 lk_RX12_138 mt_Mo_calls vt_Mo_calls ⟨_, rfl, rfl⟩ (fun _ h => m_Mo_calls h) rfl rfl g0 ⟨rfl, rfl, rfl⟩ (fun q18 => ?_)
      refine a_iconst (v := nI 0) dX12_lay_24 (by decide) ?_
      refine a_istore_n dX12_lay_25 rfl rfl ?_
      exact AW.weak (Lw_so rfl (Lw_so rfl Lw_end)) (l_Mo_lay_26 FU _ _ _ g0)
    · skip
      exact AW.weak (Lw_no (Lw_no Lw_end)) (w_Mo_lay_17 _)
theorem m_Mo_lay {S : ba_S} {a0 : Nat} {m : ba_M} {q : Int32 × ba_M} (h : f_Mo_lay S a0 m = some q) : MA (Y_Mo_lay S) yX12_lay (some .int) [aR (some a0)] S m q :=
  ba_met ⟨by decide +kernel, rfl⟩ rfl (fun h => by cases h) (Or.inl ⟨rfl, rfl, _, rfl⟩) rfl (h ▸ e_Mo_lay S a0 m)

abbrev Y_Mo_player (S : ba_S) : ba_Y (Int32 × ba_M) := mI cX12_player RX12 3 2 43 S
def f_Mo_player_17 (S : ba_S) (m : ba_M) : Option (Int32 × ba_M) :=
  (some ((-1 : Int32), m))
set_option maxRecDepth 100000 in
theorem w_Mo_player_17 {S : ba_S} : ∀ (m : ba_M), AW (Y_Mo_player S) 17 [none, none, none] [] S m (f_Mo_player_17 S m) := by
  intro m
  unfold f_Mo_player_17
  refine a_iconst (v := -1) dX12_player_17 (by decide) ?_
  exact AW.ret dX12_player_18 rfl rfl
def f_Mo_player_46 (S : ba_S) (s0 : Int32) (m : ba_M) : Option (Int32 × ba_M) :=
  (some (s0, m))
set_option maxRecDepth 100000 in
theorem w_Mo_player_46 {S : ba_S} : ∀ (s0 : Int32) (m : ba_M), AW (Y_Mo_player S) 46 [none, none, none] [aI s0] S m (f_Mo_player_46 S s0 m) := by
  intro s0 m
  unfold f_Mo_player_46
  exact AW.ret dX12_player_46 rfl rfl
def f_Mo_player (S : ba_S) (a0 : Nat) (a1 : Int32) (a2 : Int32) (m : ba_M) : Option (Int32 × ba_M) :=
  cK S a0 11 (((f_Mo_isPlayer S a0 a1 m).bind fun q1 => (if q1.1 = true then ((f_Mo_in S a2 (nI 0) (nI 5) q1.2).bind fun q2 => (if q2.1 = true then (if (nI 5) ≤ a2 then (ldR S a0 4 20 fun r3 => (bD S r3 ((nI 15) + a1) (f_Mo_player_46 S (gI q2.2 r3 (((nI 15) + a1)).toNatClampNeg) q2.2))) else (ldR S a0 3 20 fun r5 => (bD S r5 (((nI 5) * a1) + a2) (f_Mo_player_46 S (gI q2.2 r5 ((((nI 5) * a1) + a2)).toNatClampNeg) q2.2)))) else (f_Mo_player_17 S q2.2))) else (f_Mo_player_17 S q1.2))))
set_option maxRecDepth 100000 in
theorem e_Mo_player (S : ba_S) (a0 : Nat) (a1 : Int32) (a2 : Int32) (m : ba_M) : AW (Y_Mo_player S) 0 [some (aR (some a0)), some (aI a1), some (aI a2)] [] S m (f_Mo_player S a0 a1 a2 m) := by
  unfold f_Mo_player
  refine AW.ck (fun g0 => ?_)
  refine a_aload_n dX12_player_0 rfl ?_
  refine a_iload_n dX12_player_1 rfl ?_
  refine a_callV_Z dX12_player_2 lk_RX12_150 mt_Mo_isPlayer vt_Mo_isPlayer ⟨_, rfl, rfl⟩ (fun _ h => m_Mo_isPlayer h) rfl rfl g0 ⟨rfl, rfl, rfl⟩ (fun q1 => ?_)
  refine a_beq (tgt := 17) dX12_player_5 (by decide) (fun _ => ?_) (fun _ => ?_)
  · skip
    exact AW.weak (Lw_no (Lw_no (Lw_no Lw_end))) (w_Mo_player_17 _)
  · skip
    refine a_iload_n dX12_player_8 rfl ?_
    refine a_iconst (v := nI 0) dX12_player_9 (by decide) ?_
    refine a_iconst (v := nI 5) dX12_player_10 (by decide) ?_
    refine a_callS_Z dX12_player_11 lk_RX12_84 mt_Mo_in sv_Mo_in (fun _ h => m_Mo_in h) rfl rfl ⟨rfl, rfl, rfl⟩ (fun q2 => ?_)
    refine a_bne (tgt := 19) dX12_player_14 (by decide) (fun _ => ?_) (fun _ => ?_)
    · skip
      refine a_iload_n dX12_player_19 rfl ?_
      refine a_iconst (v := nI 5) dX12_player_20 (by decide) ?_
      refine a_ige (tgt := 37) dX12_player_21 (by decide) (fun _ => ?_) (fun _ => ?_)
      · skip
        refine a_aload_n dX12_player_37 rfl ?_
        refine a_getR dX12_player_38 fl_RX12_13 rfl g0 (fun r3 h4 => ?_)
        refine a_bipush (v := nI 15) dX12_player_41 (by decide) ?_
        refine a_iload_n dX12_player_43 rfl ?_
        refine a_iadd dX12_player_44 ?_
        refine a_iald dX12_player_45 h4 ?_
        exact AW.weak (Lw_no (Lw_no (Lw_no Lw_end))) (w_Mo_player_46 _ _)
      · skip
        refine a_aload_n dX12_player_24 rfl ?_
        refine a_getR dX12_player_25 fl_RX12_7 rfl g0 (fun r5 h6 => ?_)
        refine a_iconst (v := nI 5) dX12_player_28 (by decide) ?_
        refine a_iload_n dX12_player_29 rfl ?_
        refine a_imul dX12_player_30 ?_
        refine a_iload_n dX12_player_31 rfl ?_
        refine a_iadd dX12_player_32 ?_
        refine a_iald dX12_player_33 h6 ?_
        refine a_goto (tgt := 46) dX12_player_34 (by decide) ?_
        exact AW.weak (Lw_no (Lw_no (Lw_no Lw_end))) (w_Mo_player_46 _ _)
    · skip
      exact AW.weak (Lw_no (Lw_no (Lw_no Lw_end))) (w_Mo_player_17 _)
theorem m_Mo_player {S : ba_S} {a0 : Nat} {a1 : Int32} {a2 : Int32} {m : ba_M} {q : Int32 × ba_M} (h : f_Mo_player S a0 a1 a2 m = some q) : MA (Y_Mo_player S) yX12_player (some .int) [aR (some a0), aI a1, aI a2] S m q :=
  ba_met ⟨by decide +kernel, rfl⟩ rfl (fun h => by cases h) (Or.inl ⟨rfl, rfl, _, rfl⟩) rfl (h ▸ e_Mo_player S a0 a1 a2 m)

abbrev Y_Mo_beatsOf (S : ba_S) : ba_Y (Int32 × ba_M) := mI cX12_beatsOf RX12 6 1 20 S
def f_Mo_beatsOf_47 (S : ba_S) (s0 : Int32) (m : ba_M) : Option (Int32 × ba_M) :=
  (some (s0, m))
set_option maxRecDepth 100000 in
theorem w_Mo_beatsOf_47 {S : ba_S} : ∀ (s0 : Int32) (m : ba_M), AW (Y_Mo_beatsOf S) 47 [none, none, none, none, none, none] [aI s0] S m (f_Mo_beatsOf_47 S s0 m) := by
  intro s0 m
  unfold f_Mo_beatsOf_47
  exact AW.ret dX12_beatsOf_47 rfl rfl
def f_Mo_beatsOf (S : ba_S) (a0 : Nat) (a1 : Int32) (a2 : Int32) (a3 : Int32) (m : ba_M) : Option (Int32 × ba_M) :=
  cK S a0 11 ((ldR S a0 3 20 fun r1 => (bD S r1 (((nI 5) * a1) + (nI 1)) (ldR S a0 3 20 fun r3 => (bD S r3 ((nI 5) * a1) ((f_Mo_size S (a2 - (gI m r3 (((nI 5) * a1)).toNatClampNeg)) m).bind fun q5 => (if (gI m r1 ((((nI 5) * a1) + (nI 1))).toNatClampNeg) = 0 then none else (if (((q5.1 + (gI m r1 ((((nI 5) * a1) + (nI 1))).toNatClampNeg)) - (nI 1)) / (gI m r1 ((((nI 5) * a1) + (nI 1))).toNatClampNeg)) ≤ a3 then (f_Mo_beatsOf_47 S a3 q5.2) else (f_Mo_beatsOf_47 S (((q5.1 + (gI m r1 ((((nI 5) * a1) + (nI 1))).toNatClampNeg)) - (nI 1)) / (gI m r1 ((((nI 5) * a1) + (nI 1))).toNatClampNeg)) q5.2)))))))))
set_option maxRecDepth 100000 in
theorem e_Mo_beatsOf (S : ba_S) (a0 : Nat) (a1 : Int32) (a2 : Int32) (a3 : Int32) (m : ba_M) : AW (Y_Mo_beatsOf S) 0 [some (aR (some a0)), some (aI a1), some (aI a2), some (aI a3), none, none] [] S m (f_Mo_beatsOf S a0 a1 a2 a3 m) := by
  unfold f_Mo_beatsOf
  refine AW.ck (fun g0 => ?_)
  refine a_aload_n dX12_beatsOf_0 rfl ?_
  refine a_getR dX12_beatsOf_1 fl_RX12_7 rfl g0 (fun r1 h2 => ?_)
  refine a_iconst (v := nI 5) dX12_beatsOf_4 (by decide) ?_
  refine a_iload_n dX12_beatsOf_5 rfl ?_
  refine a_imul dX12_beatsOf_6 ?_
  refine a_iconst (v := nI 1) dX12_beatsOf_7 (by decide) ?_
  refine a_iadd dX12_beatsOf_8 ?_
  refine a_iald dX12_beatsOf_9 h2 ?_
  refine a_istore dX12_beatsOf_10 rfl rfl ?_
  refine a_iload_n dX12_beatsOf_12 rfl ?_
  refine a_aload_n dX12_beatsOf_13 rfl ?_
  refine a_getR dX12_beatsOf_14 fl_RX12_7 rfl g0 (fun r3 h4 => ?_)
  refine a_iconst (v := nI 5) dX12_beatsOf_17 (by decide) ?_
  refine a_iload_n dX12_beatsOf_18 rfl ?_
  refine a_imul dX12_beatsOf_19 ?_
  refine a_iald dX12_beatsOf_20 h4 ?_
  refine a_isub dX12_beatsOf_21 ?_
  refine a_callS_I dX12_beatsOf_22 lk_RX12_153 mt_Mo_size sv_Mo_size (fun _ h => m_Mo_size h) rfl rfl ⟨rfl, rfl, rfl⟩ (fun q5 => ?_)
  refine a_iload dX12_beatsOf_25 rfl ?_
  refine a_iadd dX12_beatsOf_27 ?_
  refine a_iconst (v := nI 1) dX12_beatsOf_28 (by decide) ?_
  refine a_isub dX12_beatsOf_29 ?_
  refine a_iload dX12_beatsOf_30 rfl ?_
  refine a_idiv dX12_beatsOf_32 ?_
  refine a_istore dX12_beatsOf_33 rfl rfl ?_
  refine a_iload dX12_beatsOf_35 rfl ?_
  refine a_iload_n dX12_beatsOf_37 rfl ?_
  refine a_ile (tgt := 46) dX12_beatsOf_38 (by decide) (fun _ => ?_) (fun _ => ?_)
  · skip
    refine a_iload_n dX12_beatsOf_46 rfl ?_
    exact AW.weak (Lw_no (Lw_no (Lw_no (Lw_no (Lw_no (Lw_no Lw_end)))))) (w_Mo_beatsOf_47 _ _)
  · skip
    refine a_iload dX12_beatsOf_41 rfl ?_
    refine a_goto (tgt := 47) dX12_beatsOf_43 (by decide) ?_
    exact AW.weak (Lw_no (Lw_no (Lw_no (Lw_no (Lw_no (Lw_no Lw_end)))))) (w_Mo_beatsOf_47 _ _)
theorem m_Mo_beatsOf {S : ba_S} {a0 : Nat} {a1 : Int32} {a2 : Int32} {a3 : Int32} {m : ba_M} {q : Int32 × ba_M} (h : f_Mo_beatsOf S a0 a1 a2 a3 m = some q) : MA (Y_Mo_beatsOf S) yX12_beatsOf (some .int) [aR (some a0), aI a1, aI a2, aI a3] S m q :=
  ba_met ⟨by decide +kernel, rfl⟩ rfl (fun h => by cases h) (Or.inl ⟨rfl, rfl, _, rfl⟩) rfl (h ▸ e_Mo_beatsOf S a0 a1 a2 a3 m)

abbrev Y_Mo_called (S : ba_S) : ba_Y (Int32 × ba_M) := mI cX12_called RX12 3 2 45 S
def f_Mo_called_17 (S : ba_S) (m : ba_M) : Option (Int32 × ba_M) :=
  (some ((-1 : Int32), m))
set_option maxRecDepth 100000 in
theorem w_Mo_called_17 {S : ba_S} : ∀ (m : ba_M), AW (Y_Mo_called S) 17 [none, none, none] [] S m (f_Mo_called_17 S m) := by
  intro m
  unfold f_Mo_called_17
  refine a_iconst (v := -1) dX12_called_17 (by decide) ?_
  exact AW.ret dX12_called_18 rfl rfl
def f_Mo_called_64 (S : ba_S) (s0 : Int32) (m : ba_M) : Option (Int32 × ba_M) :=
  (some (s0, m))
set_option maxRecDepth 100000 in
theorem w_Mo_called_64 {S : ba_S} : ∀ (s0 : Int32) (m : ba_M), AW (Y_Mo_called S) 64 [none, none, none] [aI s0] S m (f_Mo_called_64 S s0 m) := by
  intro s0 m
  unfold f_Mo_called_64
  exact AW.ret dX12_called_64 rfl rfl
def f_Mo_called (S : ba_S) (a0 : Nat) (a1 : Int32) (a2 : Int32) (m : ba_M) : Option (Int32 × ba_M) :=
  cK S a0 11 (((f_Mo_isPlayer S a0 a1 m).bind fun q1 => (if q1.1 = true then ((f_Mo_in S a2 (nI 0) (nI 3) q1.2).bind fun q2 => (if q2.1 = true then (if (nI 3) ≤ a2 then (ldR S a0 4 20 fun r3 => (bD S r3 a1 (ldR S a0 4 20 fun r5 => (bD S r5 ((nI 5) + a1) (ldR S a0 4 20 fun r7 => (bD S r7 ((nI 10) + a1) ((f_Mo_beatsOf S a0 (gI q2.2 r3 (a1).toNatClampNeg) (gI q2.2 r5 (((nI 5) + a1)).toNatClampNeg) (gI q2.2 r7 (((nI 10) + a1)).toNatClampNeg) q2.2).bind fun q9 => (f_Mo_called_64 S q9.1 q9.2)))))))) else (ldR S a0 4 20 fun r10 => (bD S r10 (((nI 5) * a2) + a1) (f_Mo_called_64 S (gI q2.2 r10 ((((nI 5) * a2) + a1)).toNatClampNeg) q2.2)))) else (f_Mo_called_17 S q2.2))) else (f_Mo_called_17 S q1.2))))
set_option maxRecDepth 100000 in
theorem e_Mo_called (S : ba_S) (a0 : Nat) (a1 : Int32) (a2 : Int32) (m : ba_M) : AW (Y_Mo_called S) 0 [some (aR (some a0)), some (aI a1), some (aI a2)] [] S m (f_Mo_called S a0 a1 a2 m) := by
  unfold f_Mo_called
  refine AW.ck (fun g0 => ?_)
  refine a_aload_n dX12_called_0 rfl ?_
  refine a_iload_n dX12_called_1 rfl ?_
  refine a_callV_Z dX12_called_2 lk_RX12_150 mt_Mo_isPlayer vt_Mo_isPlayer ⟨_, rfl, rfl⟩ (fun _ h => m_Mo_isPlayer h) rfl rfl g0 ⟨rfl, rfl, rfl⟩ (fun q1 => ?_)
  refine a_beq (tgt := 17) dX12_called_5 (by decide) (fun _ => ?_) (fun _ => ?_)
  · skip
    exact AW.weak (Lw_no (Lw_no (Lw_no Lw_end))) (w_Mo_called_17 _)
  · skip
    refine a_iload_n dX12_called_8 rfl ?_
    refine a_iconst (v := nI 0) dX12_called_9 (by decide) ?_
    refine a_iconst (v := nI 3) dX12_called_10 (by decide) ?_
    refine a_callS_Z dX12_called_11 lk_RX12_84 mt_Mo_in sv_Mo_in (fun _ h => m_Mo_in h) rfl rfl ⟨rfl, rfl, rfl⟩ (fun q2 => ?_)
    refine a_bne (tgt := 19) dX12_called_14 (by decide) (fun _ => ?_) (fun _ => ?_)
    · skip
      refine a_iload_n dX12_called_19 rfl ?_
      refine a_iconst (v := nI 3) dX12_called_20 (by decide) ?_
      refine a_ige (tgt := 37) dX12_called_21 (by decide) (fun _ => ?_) (fun _ => ?_)
      · skip
        refine a_aload_n dX12_called_37 rfl ?_
        refine a_aload_n dX12_called_38 rfl ?_
        refine a_getR dX12_called_39 fl_RX12_13 rfl g0 (fun r3 h4 => ?_)
        refine a_iload_n dX12_called_42 rfl ?_
        refine a_iald dX12_called_43 h4 ?_
        refine a_aload_n dX12_called_44 rfl ?_
        refine a_getR dX12_called_45 fl_RX12_13 rfl g0 (fun r5 h6 => ?_)
        refine a_iconst (v := nI 5) dX12_called_48 (by decide) ?_
        refine a_iload_n dX12_called_49 rfl ?_
        refine a_iadd dX12_called_50 ?_
        refine a_iald dX12_called_51 h6 ?_
        refine a_aload_n dX12_called_52 rfl ?_
        refine a_getR dX12_called_53 fl_RX12_13 rfl g0 (fun r7 h8 => ?_)
        refine a_bipush (v := nI 10) dX12_called_56 (by decide) ?_
        refine a_iload_n dX12_called_58 rfl ?_
        refine a_iadd dX12_called_59 ?_
        refine a_iald dX12_called_60 h8 ?_
        refine a_callV_I dX12_called_61 lk_RX12_156 mt_Mo_beatsOf vt_Mo_beatsOf ⟨_, rfl, rfl⟩ (fun _ h => m_Mo_beatsOf h) rfl rfl g0 ⟨rfl, rfl, rfl⟩ (fun q9 => ?_)
        exact AW.weak (Lw_no (Lw_no (Lw_no Lw_end))) (w_Mo_called_64 _ _)
      · skip
        refine a_aload_n dX12_called_24 rfl ?_
        refine a_getR dX12_called_25 fl_RX12_13 rfl g0 (fun r10 h11 => ?_)
        refine a_iconst (v := nI 5) dX12_called_28 (by decide) ?_
        refine a_iload_n dX12_called_29 rfl ?_
        refine a_imul dX12_called_30 ?_
        refine a_iload_n dX12_called_31 rfl ?_
        refine a_iadd dX12_called_32 ?_
        refine a_iald dX12_called_33 h11 ?_
        refine a_goto (tgt := 64) dX12_called_34 (by decide) ?_
        exact AW.weak (Lw_no (Lw_no (Lw_no Lw_end))) (w_Mo_called_64 _ _)
    · skip
      exact AW.weak (Lw_no (Lw_no (Lw_no Lw_end))) (w_Mo_called_17 _)
theorem m_Mo_called {S : ba_S} {a0 : Nat} {a1 : Int32} {a2 : Int32} {m : ba_M} {q : Int32 × ba_M} (h : f_Mo_called S a0 a1 a2 m = some q) : MA (Y_Mo_called S) yX12_called (some .int) [aR (some a0), aI a1, aI a2] S m q :=
  ba_met ⟨by decide +kernel, rfl⟩ rfl (fun h => by cases h) (Or.inl ⟨rfl, rfl, _, rfl⟩) rfl (h ▸ e_Mo_called S a0 a1 a2 m)

abbrev Y_Mo_standsOf (S : ba_S) : ba_Y (Int32 × ba_M) := mI cX12_standsOf RX12 10 1 20 S
def f_Mo_standsOf_141 (S : ba_S) (s0 : Int32) (m : ba_M) : Option (Int32 × ba_M) :=
  (some (s0, m))
set_option maxRecDepth 100000 in
theorem w_Mo_standsOf_141 {S : ba_S} : ∀ (s0 : Int32) (m : ba_M), AW (Y_Mo_standsOf S) 141 [none, none, none, none, none, none, none, none, none, none] [aI s0] S m (f_Mo_standsOf_141 S s0 m) := by
  intro s0 m
  unfold f_Mo_standsOf_141
  exact AW.ret dX12_standsOf_141 rfl rfl
def f_Mo_standsOf_96 (S : ba_S) (v0 : Nat) (v5 : Int32) (v6 : Int32) (s0 : Int32) (s1 : Int32) (m : ba_M) : Option (Int32 × ba_M) :=
  (if 0 ≤ (v5 + (v6 * ((s0 * s1) + (gI m v0 1)))) then (if (v5 + (v6 * ((s0 * s1) + (gI m v0 1)))) ≤ (gI m v0 0) then (f_Mo_standsOf_141 S (v5 + (v6 * ((s0 * s1) + (gI m v0 1)))) m) else (f_Mo_standsOf_141 S (gI m v0 0) m)) else (f_Mo_standsOf_141 S (nI 0) m))
set_option maxRecDepth 100000 in
theorem w_Mo_standsOf_96 {S : ba_S} : ∀ (v0 : Nat) (v5 : Int32) (v6 : Int32) (s0 : Int32) (s1 : Int32) (m : ba_M), ck S v0 11 = true → AW (Y_Mo_standsOf S) 96 [some (aR (some v0)), none, none, none, none, some (aI v5), some (aI v6), none, none, none] [aI s1, aI s0] S m (f_Mo_standsOf_96 S v0 v5 v6 s0 s1 m) := by
  intro v0 v5 v6 s0 s1 m g0
  unfold f_Mo_standsOf_96
  refine a_imul dX12_standsOf_96 ?_
  refine a_aload_n dX12_standsOf_97 rfl ?_
  refine a_getI dX12_standsOf_98 fl_RX12_72 rfl g0 ?_
  refine a_iadd dX12_standsOf_101 ?_
  refine a_istore dX12_standsOf_102 rfl rfl ?_
  refine a_iload dX12_standsOf_104 rfl ?_
  refine a_iload dX12_standsOf_106 rfl ?_
  refine a_iload dX12_standsOf_108 rfl ?_
  refine a_imul dX12_standsOf_110 ?_
  refine a_iadd dX12_standsOf_111 ?_
  refine a_istore dX12_standsOf_112 rfl rfl ?_
  refine a_iload dX12_standsOf_114 rfl ?_
  refine a_zge (tgt := 123) dX12_standsOf_116 (by decide) (fun _ => ?_) (fun _ => ?_)
  · skip
    refine a_iload dX12_standsOf_123 rfl ?_
    refine a_aload_n dX12_standsOf_125 rfl ?_
    refine a_getI dX12_standsOf_126 fl_RX12_68 rfl g0 ?_
    refine a_ile (tgt := 139) dX12_standsOf_129 (by decide) (fun _ => ?_) (fun _ => ?_)
    · skip
      refine a_iload dX12_standsOf_139 rfl ?_
      exact AW.weak (Lw_no (Lw_no (Lw_no (Lw_no (Lw_no (Lw_no (Lw_no (Lw_no (Lw_no (Lw_no Lw_end)))))))))) (w_Mo_standsOf_141 _ _)
    · skip
      refine a_aload_n dX12_standsOf_132 rfl ?_
      refine a_getI dX12_standsOf_133 fl_RX12_68 rfl g0 ?_
      refine a_goto (tgt := 141) dX12_standsOf_136 (by decide) ?_
      exact AW.weak (Lw_no (Lw_no (Lw_no (Lw_no (Lw_no (Lw_no (Lw_no (Lw_no (Lw_no (Lw_no Lw_end)))))))))) (w_Mo_standsOf_141 _ _)
  · skip
    refine a_iconst (v := nI 0) dX12_standsOf_119 (by decide) ?_
    refine a_goto (tgt := 141) dX12_standsOf_120 (by decide) ?_
    exact AW.weak (Lw_no (Lw_no (Lw_no (Lw_no (Lw_no (Lw_no (Lw_no (Lw_no (Lw_no (Lw_no Lw_end)))))))))) (w_Mo_standsOf_141 _ _)
def f_Mo_standsOf_69 (S : ba_S) (v5 : Int32) (v6 : Int32) (s0 : Int32) (m : ba_M) : Option (Int32 × ba_M) :=
  (some ((v5 - (v6 * s0)), m))
set_option maxRecDepth 100000 in
theorem w_Mo_standsOf_69 {S : ba_S} : ∀ (v5 : Int32) (v6 : Int32) (s0 : Int32) (m : ba_M), AW (Y_Mo_standsOf S) 69 [none, none, none, none, none, some (aI v5), some (aI v6), none, none, none] [aI s0] S m (f_Mo_standsOf_69 S v5 v6 s0 m) := by
  intro v5 v6 s0 m
  unfold f_Mo_standsOf_69
  refine a_istore dX12_standsOf_69 rfl rfl ?_
  refine a_iload dX12_standsOf_71 rfl ?_
  refine a_iload dX12_standsOf_73 rfl ?_
  refine a_iload dX12_standsOf_75 rfl ?_
  refine a_imul dX12_standsOf_77 ?_
  refine a_isub dX12_standsOf_78 ?_
  exact AW.ret dX12_standsOf_79 rfl rfl
def f_Mo_standsOf_21 (S : ba_S) (v0 : Nat) (v1 : Int32) (v2 : Int32) (v3 : Int32) (v4 : Int32) (v5 : Int32) (s0 : Int32) (m : ba_M) : Option (Int32 × ba_M) :=
  (ldR S v0 3 20 fun r1 => (bD S r1 (((nI 5) * v1) + (nI 1)) (if v2 = (nI 2) then ((f_Mo_size S (v5 - v3) m).bind fun q3 => (if q3.1 ≤ ((gI m r1 ((((nI 5) * v1) + (nI 1))).toNatClampNeg) * v4) then (f_Mo_standsOf_69 S v5 s0 q3.1 q3.2) else (f_Mo_standsOf_69 S v5 s0 ((gI m r1 ((((nI 5) * v1) + (nI 1))).toNatClampNeg) * v4) q3.2))) else (if v2 = (nI 1) then (f_Mo_standsOf_96 S v0 v5 s0 (gI m r1 ((((nI 5) * v1) + (nI 1))).toNatClampNeg) (v4 - (nI 1)) m) else (f_Mo_standsOf_96 S v0 v5 s0 (gI m r1 ((((nI 5) * v1) + (nI 1))).toNatClampNeg) v4 m)))))
set_option maxRecDepth 100000 in
theorem w_Mo_standsOf_21 {S : ba_S} : ∀ (v0 : Nat) (v1 : Int32) (v2 : Int32) (v3 : Int32) (v4 : Int32) (v5 : Int32) (s0 : Int32) (m : ba_M), ck S v0 11 = true → AW (Y_Mo_standsOf S) 21 [some (aR (some v0)), some (aI v1), some (aI v2), some (aI v3), some (aI v4), some (aI v5), none, none, none, none] [aI s0] S m (f_Mo_standsOf_21 S v0 v1 v2 v3 v4 v5 s0 m) := by
  intro v0 v1 v2 v3 v4 v5 s0 m g0
  unfold f_Mo_standsOf_21
  refine a_istore dX12_standsOf_21 rfl rfl ?_
  refine a_aload_n dX12_standsOf_23 rfl ?_
  refine a_getR dX12_standsOf_24 fl_RX12_7 rfl g0 (fun r1 h2 => ?_)
  refine a_iconst (v := nI 5) dX12_standsOf_27 (by decide) ?_
  refine a_iload_n dX12_standsOf_28 rfl ?_
  refine a_imul dX12_standsOf_29 ?_
  refine a_iconst (v := nI 1) dX12_standsOf_30 (by decide) ?_
  refine a_iadd dX12_standsOf_31 ?_
  refine a_iald dX12_standsOf_32 h2 ?_
  refine a_istore dX12_standsOf_33 rfl rfl ?_
  refine a_iload_n dX12_standsOf_35 rfl ?_
  refine a_iconst (v := nI 2) dX12_standsOf_36 (by decide) ?_
  refine a_ine (tgt := 80) dX12_standsOf_37 (by decide) (fun _ => ?_) (fun _ => ?_)
  · skip
    refine a_iload dX12_standsOf_80 rfl ?_
    refine a_iload_n dX12_standsOf_82 rfl ?_
    refine a_iconst (v := nI 1) dX12_standsOf_83 (by decide) ?_
    refine a_ine (tgt := 94) dX12_standsOf_84 (by decide) (fun _ => ?_) (fun _ => ?_)
    · skip
      refine a_iload dX12_standsOf_94 rfl ?_
      exact AW.weak (Lw_so rfl (Lw_no (Lw_no (Lw_no (Lw_no (Lw_so rfl (Lw_so rfl (Lw_no (Lw_no (Lw_no Lw_end)))))))))) (w_Mo_standsOf_96 _ _ _ _ _ _ g0)
    · skip
      refine a_iload dX12_standsOf_87 rfl ?_
      refine a_iconst (v := nI 1) dX12_standsOf_89 (by decide) ?_
      refine a_isub dX12_standsOf_90 ?_
      refine a_goto (tgt := 96) dX12_standsOf_91 (by decide) ?_
      exact AW.weak (Lw_so rfl (Lw_no (Lw_no (Lw_no (Lw_no (Lw_so rfl (Lw_so rfl (Lw_no (Lw_no (Lw_no Lw_end)))))))))) (w_Mo_standsOf_96 _ _ _ _ _ _ g0)
  · skip
    refine a_iload dX12_standsOf_40 rfl ?_
    refine a_iload_n dX12_standsOf_42 rfl ?_
    refine a_isub dX12_standsOf_43 ?_
    refine a_callS_I dX12_standsOf_44 lk_RX12_153 mt_Mo_size sv_Mo_size (fun _ h => m_Mo_size h) rfl rfl ⟨rfl, rfl, rfl⟩ (fun q3 => ?_)
    refine a_istore dX12_standsOf_47 rfl rfl ?_
    refine a_iload dX12_standsOf_49 rfl ?_
    refine a_iload dX12_standsOf_51 rfl ?_
    refine a_imul dX12_standsOf_53 ?_
    refine a_iload dX12_standsOf_54 rfl ?_
    refine a_ige (tgt := 67) dX12_standsOf_56 (by decide) (fun _ => ?_) (fun _ => ?_)
    · skip
      refine a_iload dX12_standsOf_67 rfl ?_
      exact AW.weak (Lw_no (Lw_no (Lw_no (Lw_no (Lw_no (Lw_so rfl (Lw_so rfl (Lw_no (Lw_no (Lw_no Lw_end)))))))))) (w_Mo_standsOf_69 _ _ _ _)
    · skip
      refine a_iload dX12_standsOf_59 rfl ?_
      refine a_iload dX12_standsOf_61 rfl ?_
      refine a_imul dX12_standsOf_63 ?_
      refine a_goto (tgt := 69) dX12_standsOf_64 (by decide) ?_
      exact AW.weak (Lw_no (Lw_no (Lw_no (Lw_no (Lw_no (Lw_so rfl (Lw_so rfl (Lw_no (Lw_no (Lw_no Lw_end)))))))))) (w_Mo_standsOf_69 _ _ _ _)
def f_Mo_standsOf (S : ba_S) (a0 : Nat) (a1 : Int32) (a2 : Int32) (a3 : Int32) (a4 : Int32) (m : ba_M) : Option (Int32 × ba_M) :=
  cK S a0 11 ((ldR S a0 3 20 fun r4 => (bD S r4 ((nI 5) * a1) (if (gI m r4 (((nI 5) * a1)).toNatClampNeg) < a3 then (f_Mo_standsOf_21 S a0 a1 a2 a3 a4 (gI m r4 (((nI 5) * a1)).toNatClampNeg) (-1 : Int32) m) else (f_Mo_standsOf_21 S a0 a1 a2 a3 a4 (gI m r4 (((nI 5) * a1)).toNatClampNeg) (nI 1) m)))))
set_option maxRecDepth 100000 in
theorem e_Mo_standsOf (S : ba_S) (a0 : Nat) (a1 : Int32) (a2 : Int32) (a3 : Int32) (a4 : Int32) (m : ba_M) : AW (Y_Mo_standsOf S) 0 [some (aR (some a0)), some (aI a1), some (aI a2), some (aI a3), some (aI a4), none, none, none, none, none] [] S m (f_Mo_standsOf S a0 a1 a2 a3 a4 m) := by
  unfold f_Mo_standsOf
  refine AW.ck (fun g0 => ?_)
  refine a_aload_n dX12_standsOf_0 rfl ?_
  refine a_getR dX12_standsOf_1 fl_RX12_7 rfl g0 (fun r4 h5 => ?_)
  refine a_iconst (v := nI 5) dX12_standsOf_4 (by decide) ?_
  refine a_iload_n dX12_standsOf_5 rfl ?_
  refine a_imul dX12_standsOf_6 ?_
  refine a_iald dX12_standsOf_7 h5 ?_
  refine a_istore dX12_standsOf_8 rfl rfl ?_
  refine a_iload dX12_standsOf_10 rfl ?_
  refine a_iload_n dX12_standsOf_12 rfl ?_
  refine a_ilt (tgt := 20) dX12_standsOf_13 (by decide) (fun _ => ?_) (fun _ => ?_)
  · skip
    refine a_iconst (v := -1) dX12_standsOf_20 (by decide) ?_
    exact AW.weak (Lw_so rfl (Lw_so rfl (Lw_so rfl (Lw_so rfl (Lw_so rfl (Lw_so rfl (Lw_no (Lw_no (Lw_no (Lw_no Lw_end)))))))))) (w_Mo_standsOf_21 _ _ _ _ _ _ _ _ g0)
  · skip
    refine a_iconst (v := nI 1) dX12_standsOf_16 (by decide) ?_
    refine a_goto (tgt := 21) dX12_standsOf_17 (by decide) ?_
    exact AW.weak (Lw_so rfl (Lw_so rfl (Lw_so rfl (Lw_so rfl (Lw_so rfl (Lw_so rfl (Lw_no (Lw_no (Lw_no (Lw_no Lw_end)))))))))) (w_Mo_standsOf_21 _ _ _ _ _ _ _ _ g0)
theorem m_Mo_standsOf {S : ba_S} {a0 : Nat} {a1 : Int32} {a2 : Int32} {a3 : Int32} {a4 : Int32} {m : ba_M} {q : Int32 × ba_M} (h : f_Mo_standsOf S a0 a1 a2 a3 a4 m = some q) : MA (Y_Mo_standsOf S) yX12_standsOf (some .int) [aR (some a0), aI a1, aI a2, aI a3, aI a4] S m q :=
  ba_met ⟨by decide +kernel, rfl⟩ rfl (fun h => by cases h) (Or.inl ⟨rfl, rfl, _, rfl⟩) rfl (h ▸ e_Mo_standsOf S a0 a1 a2 a3 a4 m)

abbrev Y_Mo_hides (S : ba_S) : ba_Y (Int32 × ba_M) := mI cX12_hides RX12 7 0 0 S
def f_Mo_hides_119 (S : ba_S) (k47 : Nat → Int32 → Int32 → Int32 → Int32 → Int32 → ba_M → Option (Int32 × ba_M)) (v0 : Nat) (v1 : Int32) (v2 : Int32) (v4 : Int32) (v5 : Int32) (v6 : Int32) (m : ba_M) : Option (Int32 × ba_M) :=
  (k47 v0 v1 v2 v4 v5 (v6 + (nI 1)) m)
set_option maxRecDepth 100000 in
theorem w_Mo_hides_119 {S : ba_S} {k47 : Nat → Int32 → Int32 → Int32 → Int32 → Int32 → ba_M → Option (Int32 × ba_M)} (hk47 : ∀ (v0 : Nat) (v1 : Int32) (v2 : Int32) (v4 : Int32) (v5 : Int32) (v6 : Int32) (m : ba_M), ck S v0 11 = true → AW (Y_Mo_hides S) 47 [some (aR (some v0)), some (aI v1), some (aI v2), none, some (aI v4), some (aI v5), some (aI v6)] [] S m (k47 v0 v1 v2 v4 v5 v6 m)) : ∀ (v0 : Nat) (v1 : Int32) (v2 : Int32) (v4 : Int32) (v5 : Int32) (v6 : Int32) (m : ba_M), ck S v0 11 = true → AW (Y_Mo_hides S) 119 [some (aR (some v0)), some (aI v1), some (aI v2), none, some (aI v4), some (aI v5), some (aI v6)] [] S m (f_Mo_hides_119 S k47 v0 v1 v2 v4 v5 v6 m) := by
  intro v0 v1 v2 v4 v5 v6 m g0
  unfold f_Mo_hides_119
  refine a_iinc (v := nI 1) dX12_hides_119 rfl (by decide) rfl rfl ?_
  refine a_goto (tgt := 47) dX12_hides_122 (by decide) ?_
  exact AW.weak (Lw_so rfl (Lw_so rfl (Lw_so rfl (Lw_no (Lw_so rfl (Lw_so rfl (Lw_so rfl Lw_end))))))) (hk47 _ _ _ _ _ _ _ g0)
def b_Mo_hides_47 (S : ba_S) (k47 : Nat → Int32 → Int32 → Int32 → Int32 → Int32 → ba_M → Option (Int32 × ba_M)) (v0 : Nat) (v1 : Int32) (v2 : Int32) (v4 : Int32) (v5 : Int32) (v6 : Int32) (m : ba_M) : Option (Int32 × ba_M) :=
  (if (gI m v0 2) ≤ v6 then (some ((-4 : Int32), m)) else (if v6 = v1 then (f_Mo_hides_119 S k47 v0 v1 v2 v4 v5 v6 m) else (if v6 = v2 then (f_Mo_hides_119 S k47 v0 v1 v2 v4 v5 v6 m) else (ldR S v0 3 20 fun r1 => (bD S r1 (((nI 5) * v6) + (nI 2)) (ldR S v0 3 20 fun r3 => (bD S r3 (((nI 5) * v2) + (nI 2)) (if (gI m r1 ((((nI 5) * v6) + (nI 2))).toNatClampNeg) < (gI m r3 ((((nI 5) * v2) + (nI 2))).toNatClampNeg) then (f_Mo_hides_119 S k47 v0 v1 v2 v4 v5 v6 m) else (ldR S v0 15 20 fun r5 => (bD S r5 v6 (if (gI m r5 (v6).toNatClampNeg) ≤ v4 then (f_Mo_hides_119 S k47 v0 v1 v2 v4 v5 v6 m) else (ldR S v0 15 20 fun r7 => (bD S r7 v6 (if v5 ≤ (gI m r7 (v6).toNatClampNeg) then (f_Mo_hides_119 S k47 v0 v1 v2 v4 v5 v6 m) else (some (v6, m))))))))))))))))
set_option maxRecDepth 100000 in
theorem w_Mo_hides_47 {S : ba_S} {k47 : Nat → Int32 → Int32 → Int32 → Int32 → Int32 → ba_M → Option (Int32 × ba_M)} (hk47 : ∀ (v0 : Nat) (v1 : Int32) (v2 : Int32) (v4 : Int32) (v5 : Int32) (v6 : Int32) (m : ba_M), ck S v0 11 = true → AW (Y_Mo_hides S) 47 [some (aR (some v0)), some (aI v1), some (aI v2), none, some (aI v4), some (aI v5), some (aI v6)] [] S m (k47 v0 v1 v2 v4 v5 v6 m)) : ∀ (v0 : Nat) (v1 : Int32) (v2 : Int32) (v4 : Int32) (v5 : Int32) (v6 : Int32) (m : ba_M), ck S v0 11 = true → AW (Y_Mo_hides S) 47 [some (aR (some v0)), some (aI v1), some (aI v2), none, some (aI v4), some (aI v5), some (aI v6)] [] S m (b_Mo_hides_47 S k47 v0 v1 v2 v4 v5 v6 m) := by
  intro v0 v1 v2 v4 v5 v6 m g0
  unfold b_Mo_hides_47
  refine a_iload dX12_hides_47 rfl ?_
  refine a_aload_n dX12_hides_49 rfl ?_
  refine a_getI dX12_hides_50 fl_RX12_75 rfl g0 ?_
  refine a_ige (tgt := 125) dX12_hides_53 (by decide) (fun _ => ?_) (fun _ => ?_)
  · skip
    refine a_bipush (v := -4) dX12_hides_125 (by decide) ?_
    exact AW.ret dX12_hides_127 rfl rfl
  · skip
    refine a_iload dX12_hides_56 rfl ?_
    refine a_iload_n dX12_hides_58 rfl ?_
    refine a_ieq (tgt := 119) dX12_hides_59 (by decide) (fun _ => ?_) (fun _ => ?_)
    · skip
      exact AW.weak (Lw_so rfl (Lw_so rfl (Lw_so rfl (Lw_no (Lw_so rfl (Lw_so rfl (Lw_so rfl Lw_end))))))) (w_Mo_hides_119 hk47 _ _ _ _ _ _ _ g0)
    · skip
      refine a_iload dX12_hides_62 rfl ?_
      refine a_iload_n dX12_hides_64 rfl ?_
      refine a_ieq (tgt := 119) dX12_hides_65 (by decide) (fun _ => ?_) (fun _ => ?_)
      · skip
        exact AW.weak (Lw_so rfl (Lw_so rfl (Lw_so rfl (Lw_no (Lw_so rfl (Lw_so rfl (Lw_so rfl Lw_end))))))) (w_Mo_hides_119 hk47 _ _ _ _ _ _ _ g0)
      · skip
        refine a_aload_n dX12_hides_68 rfl ?_
        refine a_getR dX12_hides_69 fl_RX12_7 rfl g0 (fun r1 h2 => ?_)
        refine a_iconst (v := nI 5) dX12_hides_72 (by decide) ?_
        refine a_iload dX12_hides_73 rfl ?_
        refine a_imul dX12_hides_75 ?_
        refine a_iconst (v := nI 2) dX12_hides_76 (by decide) ?_
        refine a_iadd dX12_hides_77 ?_
        refine a_iald dX12_hides_78 h2 ?_
        refine a_aload_n dX12_hides_79 rfl ?_
        refine a_getR dX12_hides_80 fl_RX12_7 rfl g0 (fun r3 h4 => ?_)
        refine a_iconst (v := nI 5) dX12_hides_83 (by decide) ?_
        refine a_iload_n dX12_hides_84 rfl ?_
        refine a_imul dX12_hides_85 ?_
        refine a_iconst (v := nI 2) dX12_hides_86 (by decide) ?_
        refine a_iadd dX12_hides_87 ?_
        refine a_iald dX12_hides_88 h4 ?_
        refine a_ilt (tgt := 119) dX12_hides_89 (by decide) (fun _ => ?_) (fun _ => ?_)
        · skip
          exact AW.weak (Lw_so rfl (Lw_so rfl (Lw_so rfl (Lw_no (Lw_so rfl (Lw_so rfl (Lw_so rfl Lw_end))))))) (w_Mo_hides_119 hk47 _ _ _ _ _ _ _ g0)
        · skip
          refine a_aload_n dX12_hides_92 rfl ?_
          refine a_getR dX12_hides_93 fl_RX12_31 rfl g0 (fun r5 h6 => ?_)
          refine a_iload dX12_hides_96 rfl ?_
          refine a_iald dX12_hides_98 h6 ?_
          refine a_iload dX12_hides_99 rfl ?_
          refine a_ile (tgt := 119) dX12_hides_101 (by decide) (fun _ => ?_) (fun _ => ?_)
          · skip
            exact AW.weak (Lw_so rfl (Lw_so rfl (Lw_so rfl (Lw_no (Lw_so rfl (Lw_so rfl (Lw_so rfl Lw_end))))))) (w_Mo_hides_119 hk47 _ _ _ _ _ _ _ g0)
          · skip
            refine a_aload_n dX12_hides_104 rfl ?_
            refine a_getR dX12_hides_105 fl_RX12_31 rfl g0 (fun r7 h8 => ?_)
            refine a_iload dX12_hides_108 rfl ?_
            refine a_iald dX12_hides_110 h8 ?_
            refine a_iload dX12_hides_111 rfl ?_
            refine a_ige (tgt := 119) dX12_hides_113 (by decide) (fun _ => ?_) (fun _ => ?_)
            · skip
              exact AW.weak (Lw_so rfl (Lw_so rfl (Lw_so rfl (Lw_no (Lw_so rfl (Lw_so rfl (Lw_so rfl Lw_end))))))) (w_Mo_hides_119 hk47 _ _ _ _ _ _ _ g0)
            · skip
              refine a_iload dX12_hides_116 rfl ?_
              exact AW.ret dX12_hides_118 rfl rfl
def f_Mo_hides_47 (S : ba_S) : Nat → Int32 → Int32 → Int32 → Int32 → Int32 → ba_M → Option (Int32 × ba_M) := fx (fun _ _ _ _ _ _ _ => none) (b_Mo_hides_47 S) FU
theorem l_Mo_hides_47 {S : ba_S} : ∀ (n : Nat) (v0 : Nat) (v1 : Int32) (v2 : Int32) (v4 : Int32) (v5 : Int32) (v6 : Int32) (m : ba_M), ck S v0 11 = true → AW (Y_Mo_hides S) 47 [some (aR (some v0)), some (aI v1), some (aI v2), none, some (aI v4), some (aI v5), some (aI v6)] [] S m ((fx (F := Nat → Int32 → Int32 → Int32 → Int32 → Int32 → ba_M → Option (Int32 × ba_M)) (fun _ _ _ _ _ _ _ => none) (b_Mo_hides_47 S) n) v0 v1 v2 v4 v5 v6 m) := by
  intro n
  induction n with
  | zero => intro _ _ _ _ _ _ _ _; exact AW.none
  | succ n ih => exact w_Mo_hides_47 ih
def f_Mo_hides_42 (S : ba_S) (v0 : Nat) (v1 : Int32) (v2 : Int32) (v4 : Int32) (s0 : Int32) (m : ba_M) : Option (Int32 × ba_M) :=
  (f_Mo_hides_47 S v0 v1 v2 v4 s0 (nI 0) m)
set_option maxRecDepth 100000 in
theorem w_Mo_hides_42 {S : ba_S} : ∀ (v0 : Nat) (v1 : Int32) (v2 : Int32) (v4 : Int32) (s0 : Int32) (m : ba_M), ck S v0 11 = true → AW (Y_Mo_hides S) 42 [some (aR (some v0)), some (aI v1), some (aI v2), none, some (aI v4), none, none] [aI s0] S m (f_Mo_hides_42 S v0 v1 v2 v4 s0 m) := by
  intro v0 v1 v2 v4 s0 m g0
  unfold f_Mo_hides_42
  refine a_istore dX12_hides_42 rfl rfl ?_
  refine a_iconst (v := nI 0) dX12_hides_44 (by decide) ?_
  refine a_istore dX12_hides_45 rfl rfl ?_
  exact AW.weak (Lw_so rfl (Lw_so rfl (Lw_so rfl (Lw_no (Lw_so rfl (Lw_so rfl (Lw_so rfl Lw_end))))))) (l_Mo_hides_47 FU _ _ _ _ _ _ _ g0)
def f_Mo_hides_20 (S : ba_S) (v0 : Nat) (v1 : Int32) (v2 : Int32) (v3 : Int32) (s0 : Int32) (m : ba_M) : Option (Int32 × ba_M) :=
  (ldR S v0 15 20 fun r9 => (bD S r9 v2 (if (gI m r9 (v2).toNatClampNeg) ≤ v3 then (f_Mo_hides_42 S v0 v1 v2 s0 v3 m) else (ldR S v0 15 20 fun r11 => (bD S r11 v2 (f_Mo_hides_42 S v0 v1 v2 s0 (gI m r11 (v2).toNatClampNeg) m))))))
set_option maxRecDepth 100000 in
theorem w_Mo_hides_20 {S : ba_S} : ∀ (v0 : Nat) (v1 : Int32) (v2 : Int32) (v3 : Int32) (s0 : Int32) (m : ba_M), ck S v0 11 = true → AW (Y_Mo_hides S) 20 [some (aR (some v0)), some (aI v1), some (aI v2), some (aI v3), none, none, none] [aI s0] S m (f_Mo_hides_20 S v0 v1 v2 v3 s0 m) := by
  intro v0 v1 v2 v3 s0 m g0
  unfold f_Mo_hides_20
  refine a_istore dX12_hides_20 rfl rfl ?_
  refine a_iload_n dX12_hides_22 rfl ?_
  refine a_aload_n dX12_hides_23 rfl ?_
  refine a_getR dX12_hides_24 fl_RX12_31 rfl g0 (fun r9 h10 => ?_)
  refine a_iload_n dX12_hides_27 rfl ?_
  refine a_iald dX12_hides_28 h10 ?_
  refine a_ige (tgt := 41) dX12_hides_29 (by decide) (fun _ => ?_) (fun _ => ?_)
  · skip
    refine a_iload_n dX12_hides_41 rfl ?_
    exact AW.weak (Lw_so rfl (Lw_so rfl (Lw_so rfl (Lw_no (Lw_so rfl (Lw_no (Lw_no Lw_end))))))) (w_Mo_hides_42 _ _ _ _ _ _ g0)
  · skip
    refine a_aload_n dX12_hides_32 rfl ?_
    refine a_getR dX12_hides_33 fl_RX12_31 rfl g0 (fun r11 h12 => ?_)
    refine a_iload_n dX12_hides_36 rfl ?_
    refine a_iald dX12_hides_37 h12 ?_
    refine a_goto (tgt := 42) dX12_hides_38 (by decide) ?_
    exact AW.weak (Lw_so rfl (Lw_so rfl (Lw_so rfl (Lw_no (Lw_so rfl (Lw_no (Lw_no Lw_end))))))) (w_Mo_hides_42 _ _ _ _ _ _ g0)
def f_Mo_hides (S : ba_S) (a0 : Nat) (a1 : Int32) (a2 : Int32) (a3 : Int32) (m : ba_M) : Option (Int32 × ba_M) :=
  cK S a0 11 ((ldR S a0 15 20 fun r13 => (bD S r13 a2 (if (gI m r13 (a2).toNatClampNeg) ≤ a3 then (ldR S a0 15 20 fun r15 => (bD S r15 a2 (f_Mo_hides_20 S a0 a1 a2 a3 (gI m r15 (a2).toNatClampNeg) m))) else (f_Mo_hides_20 S a0 a1 a2 a3 a3 m)))))
set_option maxRecDepth 100000 in
theorem e_Mo_hides (S : ba_S) (a0 : Nat) (a1 : Int32) (a2 : Int32) (a3 : Int32) (m : ba_M) : AW (Y_Mo_hides S) 0 [some (aR (some a0)), some (aI a1), some (aI a2), some (aI a3), none, none, none] [] S m (f_Mo_hides S a0 a1 a2 a3 m) := by
  unfold f_Mo_hides
  refine AW.ck (fun g0 => ?_)
  refine a_iload_n dX12_hides_0 rfl ?_
  refine a_aload_n dX12_hides_1 rfl ?_
  refine a_getR dX12_hides_2 fl_RX12_31 rfl g0 (fun r13 h14 => ?_)
  refine a_iload_n dX12_hides_5 rfl ?_
  refine a_iald dX12_hides_6 h14 ?_
  refine a_ige (tgt := 14) dX12_hides_7 (by decide) (fun _ => ?_) (fun _ => ?_)
  · skip
    refine a_aload_n dX12_hides_14 rfl ?_
    refine a_getR dX12_hides_15 fl_RX12_31 rfl g0 (fun r15 h16 => ?_)
    refine a_iload_n dX12_hides_18 rfl ?_
    refine a_iald dX12_hides_19 h16 ?_
    exact AW.weak (Lw_so rfl (Lw_so rfl (Lw_so rfl (Lw_so rfl (Lw_no (Lw_no (Lw_no Lw_end))))))) (w_Mo_hides_20 _ _ _ _ _ _ g0)
  · skip
    refine a_iload_n dX12_hides_10 rfl ?_
    refine a_goto (tgt := 20) dX12_hides_11 (by decide) ?_
    exact AW.weak (Lw_so rfl (Lw_so rfl (Lw_so rfl (Lw_so rfl (Lw_no (Lw_no (Lw_no Lw_end))))))) (w_Mo_hides_20 _ _ _ _ _ _ g0)
theorem m_Mo_hides {S : ba_S} {a0 : Nat} {a1 : Int32} {a2 : Int32} {a3 : Int32} {m : ba_M} {q : Int32 × ba_M} (h : f_Mo_hides S a0 a1 a2 a3 m = some q) : MA (Y_Mo_hides S) yX12_hides (some .int) [aR (some a0), aI a1, aI a2, aI a3] S m q :=
  ba_met ⟨by decide +kernel, rfl⟩ rfl (fun h => by cases h) (Or.inl ⟨rfl, rfl, _, rfl⟩) rfl (h ▸ e_Mo_hides S a0 a1 a2 a3 m)

abbrev Y_Mo_aims (S : ba_S) : ba_Y (ba_M) := mV cX12_aims RX12 9 1 26 S
def f_Mo_aims_176 (S : ba_S) (s0 : Nat) (s1 : Int32) (s2 : Int32) (m : ba_M) : Option (ba_M) :=
  (bD S s0 s1 (some (wI m s0 (s1).toNatClampNeg s2)))
set_option maxRecDepth 100000 in
theorem w_Mo_aims_176 {S : ba_S} : ∀ (s0 : Nat) (s1 : Int32) (s2 : Int32) (m : ba_M), ck S s0 20 = true → AW (Y_Mo_aims S) 176 [none, none, none, none, none, none, none, none, none] [aI s2, aI s1, aR (some s0)] S m (f_Mo_aims_176 S s0 s1 s2 m) := by
  intro s0 s1 s2 m gs0
  unfold f_Mo_aims_176
  refine a_iast dX12_aims_176 gs0 ?_
  exact AW.ret dX12_aims_177 rfl rfl
def f_Mo_aims_135 (S : ba_S) (v0 : Nat) (v1 : Int32) (v3 : Int32) (v6 : Int32) (s0 : Int32) (m : ba_M) : Option (ba_M) :=
  (ldR S v0 17 20 fun r1 => ((f_Mo_hides S v0 v1 v3 v6 m).bind fun q3 => (bD S r1 v3 (ldR S v0 16 20 fun r4 => (ldR S v0 17 20 fun r6 => (bD S r6 v3 (if (gI (wI q3.2 r1 (v3).toNatClampNeg q3.1) r6 (v3).toNatClampNeg) = (-4 : Int32) then (f_Mo_aims_176 S r4 v3 s0 (wI q3.2 r1 (v3).toNatClampNeg q3.1)) else (if (nI 2) = 0 then none else (f_Mo_aims_176 S r4 v3 (s0 / (nI 2)) (wI q3.2 r1 (v3).toNatClampNeg q3.1))))))))))
set_option maxRecDepth 100000 in
theorem w_Mo_aims_135 {S : ba_S} : ∀ (v0 : Nat) (v1 : Int32) (v3 : Int32) (v6 : Int32) (s0 : Int32) (m : ba_M), ck S v0 11 = true → AW (Y_Mo_aims S) 135 [some (aR (some v0)), some (aI v1), none, some (aI v3), none, none, some (aI v6), none, none] [aI s0] S m (f_Mo_aims_135 S v0 v1 v3 v6 s0 m) := by
  intro v0 v1 v3 v6 s0 m g0
  unfold f_Mo_aims_135
  refine a_istore dX12_aims_135 rfl rfl ?_
  refine a_aload_n dX12_aims_137 rfl ?_
  refine a_getR dX12_aims_138 fl_RX12_37 rfl g0 (fun r1 h2 => ?_)
  refine a_iload_n dX12_aims_141 rfl ?_
  refine a_aload_n dX12_aims_142 rfl ?_
  refine a_iload_n dX12_aims_143 rfl ?_
  refine a_iload_n dX12_aims_144 rfl ?_
  refine a_iload dX12_aims_145 rfl ?_
  refine a_callV_I dX12_aims_147 lk_RX12_160 mt_Mo_hides vt_Mo_hides ⟨_, rfl, rfl⟩ (fun _ h => m_Mo_hides h) rfl rfl g0 ⟨rfl, rfl, rfl⟩ (fun q3 => ?_)
  refine a_iast dX12_aims_150 h2 ?_
  refine a_aload_n dX12_aims_151 rfl ?_
  refine a_getR dX12_aims_152 fl_RX12_34 rfl g0 (fun r4 h5 => ?_)
  refine a_iload_n dX12_aims_155 rfl ?_
  refine a_aload_n dX12_aims_156 rfl ?_
  refine a_getR dX12_aims_157 fl_RX12_37 rfl g0 (fun r6 h7 => ?_)
  refine a_iload_n dX12_aims_160 rfl ?_
  refine a_iald dX12_aims_161 h7 ?_
  refine a_bipush (v := -4) dX12_aims_162 (by decide) ?_
  refine a_ine (tgt := 172) dX12_aims_164 (by decide) (fun _ => ?_) (fun _ => ?_)
  · skip
    refine a_iload dX12_aims_172 rfl ?_
    refine a_iconst (v := nI 2) dX12_aims_174 (by decide) ?_
    refine a_idiv dX12_aims_175 ?_
    exact AW.weak (Lw_no (Lw_no (Lw_no (Lw_no (Lw_no (Lw_no (Lw_no (Lw_no (Lw_no Lw_end))))))))) (w_Mo_aims_176 _ _ _ _ h5)
  · skip
    refine a_iload dX12_aims_167 rfl ?_
    refine a_goto (tgt := 176) dX12_aims_169 (by decide) ?_
    exact AW.weak (Lw_no (Lw_no (Lw_no (Lw_no (Lw_no (Lw_no (Lw_no (Lw_no (Lw_no Lw_end))))))))) (w_Mo_aims_176 _ _ _ _ h5)
def f_Mo_aims_89 (S : ba_S) (v0 : Nat) (v1 : Int32) (v3 : Int32) (v4 : Int32) (v5 : Int32) (v6 : Int32) (s0 : Int32) (m : ba_M) : Option (ba_M) :=
  (ldR S v0 3 20 fun r8 => (bD S r8 (((nI 5) * v1) + (nI 3)) (if 0 ≤ ((s0 + (gI m r8 ((((nI 5) * v1) + (nI 3))).toNatClampNeg)) - (v4 - v5)) then (if ((s0 + (gI m r8 ((((nI 5) * v1) + (nI 3))).toNatClampNeg)) - (v4 - v5)) ≤ (nI 10) then (f_Mo_aims_135 S v0 v1 v3 v6 ((s0 + (gI m r8 ((((nI 5) * v1) + (nI 3))).toNatClampNeg)) - (v4 - v5)) m) else (f_Mo_aims_135 S v0 v1 v3 v6 (nI 10) m)) else (f_Mo_aims_135 S v0 v1 v3 v6 (nI 0) m))))
set_option maxRecDepth 100000 in
theorem w_Mo_aims_89 {S : ba_S} : ∀ (v0 : Nat) (v1 : Int32) (v3 : Int32) (v4 : Int32) (v5 : Int32) (v6 : Int32) (s0 : Int32) (m : ba_M), ck S v0 11 = true → AW (Y_Mo_aims S) 89 [some (aR (some v0)), some (aI v1), none, some (aI v3), some (aI v4), some (aI v5), some (aI v6), none, none] [aI s0] S m (f_Mo_aims_89 S v0 v1 v3 v4 v5 v6 s0 m) := by
  intro v0 v1 v3 v4 v5 v6 s0 m g0
  unfold f_Mo_aims_89
  refine a_istore dX12_aims_89 rfl rfl ?_
  refine a_iload dX12_aims_91 rfl ?_
  refine a_aload_n dX12_aims_93 rfl ?_
  refine a_getR dX12_aims_94 fl_RX12_7 rfl g0 (fun r8 h9 => ?_)
  refine a_iconst (v := nI 5) dX12_aims_97 (by decide) ?_
  refine a_iload_n dX12_aims_98 rfl ?_
  refine a_imul dX12_aims_99 ?_
  refine a_iconst (v := nI 3) dX12_aims_100 (by decide) ?_
  refine a_iadd dX12_aims_101 ?_
  refine a_iald dX12_aims_102 h9 ?_
  refine a_iadd dX12_aims_103 ?_
  refine a_iload dX12_aims_104 rfl ?_
  refine a_iload dX12_aims_106 rfl ?_
  refine a_isub dX12_aims_108 ?_
  refine a_isub dX12_aims_109 ?_
  refine a_istore dX12_aims_110 rfl rfl ?_
  refine a_iload dX12_aims_112 rfl ?_
  refine a_zge (tgt := 121) dX12_aims_114 (by decide) (fun _ => ?_) (fun _ => ?_)
  · skip
    refine a_iload dX12_aims_121 rfl ?_
    refine a_bipush (v := nI 10) dX12_aims_123 (by decide) ?_
    refine a_ile (tgt := 133) dX12_aims_125 (by decide) (fun _ => ?_) (fun _ => ?_)
    · skip
      refine a_iload dX12_aims_133 rfl ?_
      exact AW.weak (Lw_so rfl (Lw_so rfl (Lw_no (Lw_so rfl (Lw_no (Lw_no (Lw_so rfl (Lw_no (Lw_no Lw_end))))))))) (w_Mo_aims_135 _ _ _ _ _ _ g0)
    · skip
      refine a_bipush (v := nI 10) dX12_aims_128 (by decide) ?_
      refine a_goto (tgt := 135) dX12_aims_130 (by decide) ?_
      exact AW.weak (Lw_so rfl (Lw_so rfl (Lw_no (Lw_so rfl (Lw_no (Lw_no (Lw_so rfl (Lw_no (Lw_no Lw_end))))))))) (w_Mo_aims_135 _ _ _ _ _ _ g0)
  · skip
    refine a_iconst (v := nI 0) dX12_aims_117 (by decide) ?_
    refine a_goto (tgt := 135) dX12_aims_118 (by decide) ?_
    exact AW.weak (Lw_so rfl (Lw_so rfl (Lw_no (Lw_so rfl (Lw_no (Lw_no (Lw_so rfl (Lw_no (Lw_no Lw_end))))))))) (w_Mo_aims_135 _ _ _ _ _ _ g0)
def f_Mo_aims_48 (S : ba_S) (v0 : Nat) (v1 : Int32) (v3 : Int32) (v4 : Int32) (v5 : Int32) (s0 : Int32) (m : ba_M) : Option (ba_M) :=
  (ldR S v0 3 20 fun r10 => (bD S r10 (((nI 5) * v3) + (nI 4)) (if (gI m r10 ((((nI 5) * v3) + (nI 4))).toNatClampNeg) = (nI 3) then (ldR S v0 3 20 fun r14 => (bD S r14 (((nI 5) * v3) + (nI 2)) (if (nI 2) = 0 then none else (f_Mo_aims_89 S v0 v1 v3 v4 v5 s0 ((gI m r14 ((((nI 5) * v3) + (nI 2))).toNatClampNeg) / (nI 2)) m)))) else (ldR S v0 3 20 fun r12 => (bD S r12 (((nI 5) * v3) + (nI 2)) (f_Mo_aims_89 S v0 v1 v3 v4 v5 s0 (gI m r12 ((((nI 5) * v3) + (nI 2))).toNatClampNeg) m))))))
set_option maxRecDepth 100000 in
theorem w_Mo_aims_48 {S : ba_S} : ∀ (v0 : Nat) (v1 : Int32) (v3 : Int32) (v4 : Int32) (v5 : Int32) (s0 : Int32) (m : ba_M), ck S v0 11 = true → AW (Y_Mo_aims S) 48 [some (aR (some v0)), some (aI v1), none, some (aI v3), some (aI v4), some (aI v5), none, none, none] [aI s0] S m (f_Mo_aims_48 S v0 v1 v3 v4 v5 s0 m) := by
  intro v0 v1 v3 v4 v5 s0 m g0
  unfold f_Mo_aims_48
  refine a_istore dX12_aims_48 rfl rfl ?_
  refine a_aload_n dX12_aims_50 rfl ?_
  refine a_getR dX12_aims_51 fl_RX12_7 rfl g0 (fun r10 h11 => ?_)
  refine a_iconst (v := nI 5) dX12_aims_54 (by decide) ?_
  refine a_iload_n dX12_aims_55 rfl ?_
  refine a_imul dX12_aims_56 ?_
  refine a_iconst (v := nI 4) dX12_aims_57 (by decide) ?_
  refine a_iadd dX12_aims_58 ?_
  refine a_iald dX12_aims_59 h11 ?_
  refine a_iconst (v := nI 3) dX12_aims_60 (by decide) ?_
  refine a_ine (tgt := 79) dX12_aims_61 (by decide) (fun _ => ?_) (fun _ => ?_)
  · skip
    refine a_aload_n dX12_aims_79 rfl ?_
    refine a_getR dX12_aims_80 fl_RX12_7 rfl g0 (fun r12 h13 => ?_)
    refine a_iconst (v := nI 5) dX12_aims_83 (by decide) ?_
    refine a_iload_n dX12_aims_84 rfl ?_
    refine a_imul dX12_aims_85 ?_
    refine a_iconst (v := nI 2) dX12_aims_86 (by decide) ?_
    refine a_iadd dX12_aims_87 ?_
    refine a_iald dX12_aims_88 h13 ?_
    exact AW.weak (Lw_so rfl (Lw_so rfl (Lw_no (Lw_so rfl (Lw_so rfl (Lw_so rfl (Lw_so rfl (Lw_no (Lw_no Lw_end))))))))) (w_Mo_aims_89 _ _ _ _ _ _ _ _ g0)
  · skip
    refine a_aload_n dX12_aims_64 rfl ?_
    refine a_getR dX12_aims_65 fl_RX12_7 rfl g0 (fun r14 h15 => ?_)
    refine a_iconst (v := nI 5) dX12_aims_68 (by decide) ?_
    refine a_iload_n dX12_aims_69 rfl ?_
    refine a_imul dX12_aims_70 ?_
    refine a_iconst (v := nI 2) dX12_aims_71 (by decide) ?_
    refine a_iadd dX12_aims_72 ?_
    refine a_iald dX12_aims_73 h15 ?_
    refine a_iconst (v := nI 2) dX12_aims_74 (by decide) ?_
    refine a_idiv dX12_aims_75 ?_
    refine a_goto (tgt := 89) dX12_aims_76 (by decide) ?_
    exact AW.weak (Lw_so rfl (Lw_so rfl (Lw_no (Lw_so rfl (Lw_so rfl (Lw_so rfl (Lw_so rfl (Lw_no (Lw_no Lw_end))))))))) (w_Mo_aims_89 _ _ _ _ _ _ _ _ g0)
def f_Mo_aims_25 (S : ba_S) (v0 : Nat) (v1 : Int32) (v2 : Int32) (v3 : Int32) (v4 : Int32) (s0 : Int32) (m : ba_M) : Option (ba_M) :=
  (ldR S v0 15 20 fun r16 => (bD S r16 v3 (if (gI m r16 (v3).toNatClampNeg) ≤ v2 then (f_Mo_aims_48 S v0 v1 v3 v4 s0 (v2 - s0) m) else (f_Mo_aims_48 S v0 v1 v3 v4 s0 (v2 + s0) m))))
set_option maxRecDepth 100000 in
theorem w_Mo_aims_25 {S : ba_S} : ∀ (v0 : Nat) (v1 : Int32) (v2 : Int32) (v3 : Int32) (v4 : Int32) (s0 : Int32) (m : ba_M), ck S v0 11 = true → AW (Y_Mo_aims S) 25 [some (aR (some v0)), some (aI v1), some (aI v2), some (aI v3), some (aI v4), none, none, none, none] [aI s0] S m (f_Mo_aims_25 S v0 v1 v2 v3 v4 s0 m) := by
  intro v0 v1 v2 v3 v4 s0 m g0
  unfold f_Mo_aims_25
  refine a_istore dX12_aims_25 rfl rfl ?_
  refine a_aload_n dX12_aims_27 rfl ?_
  refine a_getR dX12_aims_28 fl_RX12_31 rfl g0 (fun r16 h17 => ?_)
  refine a_iload_n dX12_aims_31 rfl ?_
  refine a_iald dX12_aims_32 h17 ?_
  refine a_iload_n dX12_aims_33 rfl ?_
  refine a_ile (tgt := 44) dX12_aims_34 (by decide) (fun _ => ?_) (fun _ => ?_)
  · skip
    refine a_iload_n dX12_aims_44 rfl ?_
    refine a_iload dX12_aims_45 rfl ?_
    refine a_isub dX12_aims_47 ?_
    exact AW.weak (Lw_so rfl (Lw_so rfl (Lw_no (Lw_so rfl (Lw_so rfl (Lw_so rfl (Lw_no (Lw_no (Lw_no Lw_end))))))))) (w_Mo_aims_48 _ _ _ _ _ _ _ g0)
  · skip
    refine a_iload_n dX12_aims_37 rfl ?_
    refine a_iload dX12_aims_38 rfl ?_
    refine a_iadd dX12_aims_40 ?_
    refine a_goto (tgt := 48) dX12_aims_41 (by decide) ?_
    exact AW.weak (Lw_so rfl (Lw_so rfl (Lw_no (Lw_so rfl (Lw_so rfl (Lw_so rfl (Lw_no (Lw_no (Lw_no Lw_end))))))))) (w_Mo_aims_48 _ _ _ _ _ _ _ g0)
def f_Mo_aims (S : ba_S) (a0 : Nat) (a1 : Int32) (a2 : Int32) (a3 : Int32) (m : ba_M) : Option (ba_M) :=
  cK S a0 11 ((ldR S a0 15 20 fun r18 => (bD S r18 a3 ((f_Mo_size S ((gI m r18 (a3).toNatClampNeg) - a2) m).bind fun q20 => (if (nI 3) ≤ q20.1 then (f_Mo_aims_25 S a0 a1 a2 a3 q20.1 (nI 3) q20.2) else (f_Mo_aims_25 S a0 a1 a2 a3 q20.1 q20.1 q20.2))))))
set_option maxRecDepth 100000 in
theorem e_Mo_aims (S : ba_S) (a0 : Nat) (a1 : Int32) (a2 : Int32) (a3 : Int32) (m : ba_M) : AW (Y_Mo_aims S) 0 [some (aR (some a0)), some (aI a1), some (aI a2), some (aI a3), none, none, none, none, none] [] S m (f_Mo_aims S a0 a1 a2 a3 m) := by
  unfold f_Mo_aims
  refine AW.ck (fun g0 => ?_)
  refine a_aload_n dX12_aims_0 rfl ?_
  refine a_getR dX12_aims_1 fl_RX12_31 rfl g0 (fun r18 h19 => ?_)
  refine a_iload_n dX12_aims_4 rfl ?_
  refine a_iald dX12_aims_5 h19 ?_
  refine a_iload_n dX12_aims_6 rfl ?_
  refine a_isub dX12_aims_7 ?_
  refine a_callS_I dX12_aims_8 lk_RX12_153 mt_Mo_size sv_Mo_size (fun _ h => m_Mo_size h) rfl rfl ⟨rfl, rfl, rfl⟩ (fun q20 => ?_)
  refine a_istore dX12_aims_11 rfl rfl ?_
  refine a_iload dX12_aims_13 rfl ?_
  refine a_iconst (v := nI 3) dX12_aims_15 (by decide) ?_
  refine a_ige (tgt := 24) dX12_aims_16 (by decide) (fun _ => ?_) (fun _ => ?_)
  · skip
    refine a_iconst (v := nI 3) dX12_aims_24 (by decide) ?_
    exact AW.weak (Lw_so rfl (Lw_so rfl (Lw_so rfl (Lw_so rfl (Lw_so rfl (Lw_no (Lw_no (Lw_no (Lw_no Lw_end))))))))) (w_Mo_aims_25 _ _ _ _ _ _ _ g0)
  · skip
    refine a_iload dX12_aims_19 rfl ?_
    refine a_goto (tgt := 25) dX12_aims_21 (by decide) ?_
    exact AW.weak (Lw_so rfl (Lw_so rfl (Lw_so rfl (Lw_so rfl (Lw_so rfl (Lw_no (Lw_no (Lw_no (Lw_no Lw_end))))))))) (w_Mo_aims_25 _ _ _ _ _ _ _ g0)
theorem m_Mo_aims {S : ba_S} {a0 : Nat} {a1 : Int32} {a2 : Int32} {a3 : Int32} {m : ba_M} {q : ba_M} (h : f_Mo_aims S a0 a1 a2 a3 m = some q) : MA (Y_Mo_aims S) yX12_aims none [aR (some a0), aI a1, aI a2, aI a3] S m q :=
  ba_met ⟨by decide +kernel, rfl⟩ rfl (fun h => by cases h) (Or.inr (Or.inr (Or.inr (Or.inl ⟨rfl, rfl, rfl⟩)))) rfl (h ▸ e_Mo_aims S a0 a1 a2 a3 m)

abbrev Y_Mo_goBy (S : ba_S) : ba_Y (ba_M) := mV cX12_goBy RX12 6 2 54 S
def f_Mo_goBy_137 (S : ba_S) (k73 : Nat → Int32 → Int32 → Int32 → ba_M → Option (ba_M)) (v0 : Nat) (v1 : Int32) (v2 : Int32) (v5 : Int32) (m : ba_M) : Option (ba_M) :=
  (k73 v0 v1 v2 (v5 + (nI 1)) m)
set_option maxRecDepth 100000 in
theorem w_Mo_goBy_137 {S : ba_S} {k73 : Nat → Int32 → Int32 → Int32 → ba_M → Option (ba_M)} (hk73 : ∀ (v0 : Nat) (v1 : Int32) (v2 : Int32) (v5 : Int32) (m : ba_M), ck S v0 11 = true → AW (Y_Mo_goBy S) 73 [some (aR (some v0)), some (aI v1), some (aI v2), none, none, some (aI v5)] [] S m (k73 v0 v1 v2 v5 m)) : ∀ (v0 : Nat) (v1 : Int32) (v2 : Int32) (v5 : Int32) (m : ba_M), ck S v0 11 = true → AW (Y_Mo_goBy S) 137 [some (aR (some v0)), some (aI v1), some (aI v2), none, none, some (aI v5)] [] S m (f_Mo_goBy_137 S k73 v0 v1 v2 v5 m) := by
  intro v0 v1 v2 v5 m g0
  unfold f_Mo_goBy_137
  refine a_iinc (v := nI 1) dX12_goBy_137 rfl (by decide) rfl rfl ?_
  refine a_goto (tgt := 73) dX12_goBy_140 (by decide) ?_
  exact AW.weak (Lw_so rfl (Lw_so rfl (Lw_so rfl (Lw_no (Lw_no (Lw_so rfl Lw_end)))))) (hk73 _ _ _ _ _ g0)
def f_Mo_goBy_134 (S : ba_S) (k73 : Nat → Int32 → Int32 → Int32 → ba_M → Option (ba_M)) (v0 : Nat) (v1 : Int32) (v2 : Int32) (v5 : Int32) (s0 : Nat) (s1 : Int32) (m : ba_M) : Option (ba_M) :=
  (f_Mo_goBy_137 S k73 v0 v1 v2 v5 (wI m s0 18 s1))
set_option maxRecDepth 100000 in
theorem w_Mo_goBy_134 {S : ba_S} {k73 : Nat → Int32 → Int32 → Int32 → ba_M → Option (ba_M)} (hk73 : ∀ (v0 : Nat) (v1 : Int32) (v2 : Int32) (v5 : Int32) (m : ba_M), ck S v0 11 = true → AW (Y_Mo_goBy S) 73 [some (aR (some v0)), some (aI v1), some (aI v2), none, none, some (aI v5)] [] S m (k73 v0 v1 v2 v5 m)) : ∀ (v0 : Nat) (v1 : Int32) (v2 : Int32) (v5 : Int32) (s0 : Nat) (s1 : Int32) (m : ba_M), ck S v0 11 = true → ck S s0 11 = true → AW (Y_Mo_goBy S) 134 [some (aR (some v0)), some (aI v1), some (aI v2), none, none, some (aI v5)] [aI s1, aR (some s0)] S m (f_Mo_goBy_134 S k73 v0 v1 v2 v5 s0 s1 m) := by
  intro v0 v1 v2 v5 s0 s1 m g0 gs0
  unfold f_Mo_goBy_134
  refine a_putI dX12_goBy_134 fl_RX12_167 (rfl : _ = FieldType.int) rfl rfl rfl gs0 ?_
  exact AW.weak (Lw_so rfl (Lw_so rfl (Lw_so rfl (Lw_no (Lw_no (Lw_so rfl Lw_end)))))) (w_Mo_goBy_137 hk73 _ _ _ _ _ g0)
def f_Mo_goBy_125 (S : ba_S) (k73 : Nat → Int32 → Int32 → Int32 → ba_M → Option (ba_M)) (v0 : Nat) (v1 : Int32) (v2 : Int32) (v5 : Int32) (s0 : Nat) (m : ba_M) : Option (ba_M) :=
  (f_Mo_goBy_134 S k73 v0 v1 v2 v5 s0 v5 m)
set_option maxRecDepth 100000 in
theorem w_Mo_goBy_125 {S : ba_S} {k73 : Nat → Int32 → Int32 → Int32 → ba_M → Option (ba_M)} (hk73 : ∀ (v0 : Nat) (v1 : Int32) (v2 : Int32) (v5 : Int32) (m : ba_M), ck S v0 11 = true → AW (Y_Mo_goBy S) 73 [some (aR (some v0)), some (aI v1), some (aI v2), none, none, some (aI v5)] [] S m (k73 v0 v1 v2 v5 m)) : ∀ (v0 : Nat) (v1 : Int32) (v2 : Int32) (v5 : Int32) (s0 : Nat) (m : ba_M), ck S v0 11 = true → ck S s0 11 = true → AW (Y_Mo_goBy S) 125 [some (aR (some v0)), some (aI v1), some (aI v2), none, none, some (aI v5)] [aR (some s0)] S m (f_Mo_goBy_125 S k73 v0 v1 v2 v5 s0 m) := by
  intro v0 v1 v2 v5 s0 m g0 gs0
  unfold f_Mo_goBy_125
  refine a_iload dX12_goBy_125 rfl ?_
  refine a_goto (tgt := 134) dX12_goBy_127 (by decide) ?_
  exact AW.weak (Lw_so rfl (Lw_so rfl (Lw_so rfl (Lw_no (Lw_no (Lw_so rfl Lw_end)))))) (w_Mo_goBy_134 hk73 _ _ _ _ _ _ _ g0 gs0)
def b_Mo_goBy_73 (S : ba_S) (k73 : Nat → Int32 → Int32 → Int32 → ba_M → Option (ba_M)) (v0 : Nat) (v1 : Int32) (v2 : Int32) (v5 : Int32) (m : ba_M) : Option (ba_M) :=
  (if (gI m v0 2) ≤ v5 then (some m) else (if v5 = v1 then (f_Mo_goBy_137 S k73 v0 v1 v2 v5 m) else ((f_Mo_aims S v0 v1 v2 v5 m).bind fun q1 => (if (gI q1 v0 18) = (-4 : Int32) then (f_Mo_goBy_125 S k73 v0 v1 v2 v5 v0 q1) else (ldR S v0 16 20 fun r2 => (bD S r2 v5 (ldR S v0 16 20 fun r4 => (bD S r4 (gI q1 v0 18) (if (gI q1 r2 (v5).toNatClampNeg) ≤ (gI q1 r4 ((gI q1 v0 18)).toNatClampNeg) then (f_Mo_goBy_134 S k73 v0 v1 v2 v5 v0 (gI q1 v0 18) q1) else (f_Mo_goBy_125 S k73 v0 v1 v2 v5 v0 q1))))))))))
set_option maxRecDepth 100000 in
theorem w_Mo_goBy_73 {S : ba_S} {k73 : Nat → Int32 → Int32 → Int32 → ba_M → Option (ba_M)} (hk73 : ∀ (v0 : Nat) (v1 : Int32) (v2 : Int32) (v5 : Int32) (m : ba_M), ck S v0 11 = true → AW (Y_Mo_goBy S) 73 [some (aR (some v0)), some (aI v1), some (aI v2), none, none, some (aI v5)] [] S m (k73 v0 v1 v2 v5 m)) : ∀ (v0 : Nat) (v1 : Int32) (v2 : Int32) (v5 : Int32) (m : ba_M), ck S v0 11 = true → AW (Y_Mo_goBy S) 73 [some (aR (some v0)), some (aI v1), some (aI v2), none, none, some (aI v5)] [] S m (b_Mo_goBy_73 S k73 v0 v1 v2 v5 m) := by
  intro v0 v1 v2 v5 m g0
  unfold b_Mo_goBy_73
  refine a_iload dX12_goBy_73 rfl ?_
  refine a_aload_n dX12_goBy_75 rfl ?_
  refine a_getI dX12_goBy_76 fl_RX12_75 rfl g0 ?_
  refine a_ige (tgt := 143) dX12_goBy_79 (by decide) (fun _ => ?_) (fun _ => ?_)
  · skip
    exact AW.ret dX12_goBy_143 rfl rfl
  · skip
    refine a_iload dX12_goBy_82 rfl ?_
    refine a_iload_n dX12_goBy_84 rfl ?_
    refine a_ieq (tgt := 137) dX12_goBy_85 (by decide) (fun _ => ?_) (fun _ => ?_)
    · skip
      exact AW.weak (Lw_so rfl (Lw_so rfl (Lw_so rfl (Lw_no (Lw_no (Lw_so rfl Lw_end)))))) (w_Mo_goBy_137 hk73 _ _ _ _ _ g0)
    · skip
      refine a_aload_n dX12_goBy_88 rfl ?_
      refine a_iload_n dX12_goBy_89 rfl ?_
      refine a_iload_n dX12_goBy_90 rfl ?_
      refine a_iload dX12_goBy_91 rfl ?_
      refine a_callV_V dX12_goBy_93 lk_RX12_170 mt_Mo_aims vt_Mo_aims ⟨_, rfl, rfl⟩ (fun _ h => m_Mo_aims h) rfl rfl g0 ⟨rfl, rfl, rfl⟩ (fun q1 => ?_)
      refine a_aload_n dX12_goBy_96 rfl ?_
      refine a_aload_n dX12_goBy_97 rfl ?_
      refine a_getI dX12_goBy_98 fl_RX12_167 rfl g0 ?_
      refine a_bipush (v := -4) dX12_goBy_101 (by decide) ?_
      refine a_ieq (tgt := 125) dX12_goBy_103 (by decide) (fun _ => ?_) (fun _ => ?_)
      · skip
        exact AW.weak (Lw_so rfl (Lw_so rfl (Lw_so rfl (Lw_no (Lw_no (Lw_so rfl Lw_end)))))) (w_Mo_goBy_125 hk73 _ _ _ _ _ _ g0 g0)
      · skip
        refine a_aload_n dX12_goBy_106 rfl ?_
        refine a_getR dX12_goBy_107 fl_RX12_34 rfl g0 (fun r2 h3 => ?_)
        refine a_iload dX12_goBy_110 rfl ?_
        refine a_iald dX12_goBy_112 h3 ?_
        refine a_aload_n dX12_goBy_113 rfl ?_
        refine a_getR dX12_goBy_114 fl_RX12_34 rfl g0 (fun r4 h5 => ?_)
        refine a_aload_n dX12_goBy_117 rfl ?_
        refine a_getI dX12_goBy_118 fl_RX12_167 rfl g0 ?_
        refine a_iald dX12_goBy_121 h5 ?_
        refine a_ile (tgt := 130) dX12_goBy_122 (by decide) (fun _ => ?_) (fun _ => ?_)
        · skip
          refine a_aload_n dX12_goBy_130 rfl ?_
          refine a_getI dX12_goBy_131 fl_RX12_167 rfl g0 ?_
          exact AW.weak (Lw_so rfl (Lw_so rfl (Lw_so rfl (Lw_no (Lw_no (Lw_so rfl Lw_end)))))) (w_Mo_goBy_134 hk73 _ _ _ _ _ _ _ g0 g0)
        · skip
          exact AW.weak (Lw_so rfl (Lw_so rfl (Lw_so rfl (Lw_no (Lw_no (Lw_so rfl Lw_end)))))) (w_Mo_goBy_125 hk73 _ _ _ _ _ _ g0 g0)
def f_Mo_goBy_73 (S : ba_S) : Nat → Int32 → Int32 → Int32 → ba_M → Option (ba_M) := fx (fun _ _ _ _ _ => none) (b_Mo_goBy_73 S) FU
theorem l_Mo_goBy_73 {S : ba_S} : ∀ (n : Nat) (v0 : Nat) (v1 : Int32) (v2 : Int32) (v5 : Int32) (m : ba_M), ck S v0 11 = true → AW (Y_Mo_goBy S) 73 [some (aR (some v0)), some (aI v1), some (aI v2), none, none, some (aI v5)] [] S m ((fx (F := Nat → Int32 → Int32 → Int32 → ba_M → Option (ba_M)) (fun _ _ _ _ _ => none) (b_Mo_goBy_73 S) n) v0 v1 v2 v5 m) := by
  intro n
  induction n with
  | zero => intro _ _ _ _ _ _; exact AW.none
  | succ n ih => exact w_Mo_goBy_73 ih
def f_Mo_goBy_57 (S : ba_S) (k12 : Nat → Int32 → Int32 → Int32 → Int32 → ba_M → Option (ba_M)) (v0 : Nat) (v1 : Int32) (v2 : Int32) (v4 : Int32) (v5 : Int32) (s0 : Nat) (s1 : Int32) (s2 : Int32) (m : ba_M) : Option (ba_M) :=
  (bD S s0 s1 (k12 v0 v1 v2 v4 (v5 + (nI 1)) (wI m s0 (s1).toNatClampNeg s2)))
set_option maxRecDepth 100000 in
theorem w_Mo_goBy_57 {S : ba_S} {k12 : Nat → Int32 → Int32 → Int32 → Int32 → ba_M → Option (ba_M)} (hk12 : ∀ (v0 : Nat) (v1 : Int32) (v2 : Int32) (v4 : Int32) (v5 : Int32) (m : ba_M), ck S v0 11 = true → AW (Y_Mo_goBy S) 12 [some (aR (some v0)), some (aI v1), some (aI v2), none, some (aI v4), some (aI v5)] [] S m (k12 v0 v1 v2 v4 v5 m)) : ∀ (v0 : Nat) (v1 : Int32) (v2 : Int32) (v4 : Int32) (v5 : Int32) (s0 : Nat) (s1 : Int32) (s2 : Int32) (m : ba_M), ck S v0 11 = true → ck S s0 20 = true → AW (Y_Mo_goBy S) 57 [some (aR (some v0)), some (aI v1), some (aI v2), none, some (aI v4), some (aI v5)] [aI s2, aI s1, aR (some s0)] S m (f_Mo_goBy_57 S k12 v0 v1 v2 v4 v5 s0 s1 s2 m) := by
  intro v0 v1 v2 v4 v5 s0 s1 s2 m g0 gs0
  unfold f_Mo_goBy_57
  refine a_iast dX12_goBy_57 gs0 ?_
  refine a_iinc (v := nI 1) dX12_goBy_58 rfl (by decide) rfl rfl ?_
  refine a_goto (tgt := 12) dX12_goBy_61 (by decide) ?_
  exact AW.weak (Lw_so rfl (Lw_so rfl (Lw_so rfl (Lw_no (Lw_so rfl (Lw_so rfl Lw_end)))))) (hk12 _ _ _ _ _ _ g0)
def b_Mo_goBy_12 (S : ba_S) (k12 : Nat → Int32 → Int32 → Int32 → Int32 → ba_M → Option (ba_M)) (v0 : Nat) (v1 : Int32) (v2 : Int32) (v4 : Int32) (v5 : Int32) (m : ba_M) : Option (ba_M) :=
  (if (gI m v0 2) ≤ v5 then (f_Mo_goBy_73 S v0 v1 v2 (nI 0) (wI m v0 18 (-4 : Int32))) else (ldR S v0 15 20 fun r6 => (if v5 = v1 then (f_Mo_goBy_57 S k12 v0 v1 v2 v4 v5 r6 v5 v2 m) else (ldR S v0 3 20 fun r8 => (bD S r8 (((nI 5) * v5) + (nI 4)) ((f_Mo_standsOf S v0 v5 (gI m r8 ((((nI 5) * v5) + (nI 4))).toNatClampNeg) v2 v4 m).bind fun q10 => (f_Mo_goBy_57 S k12 v0 v1 v2 v4 v5 r6 v5 q10.1 q10.2)))))))
set_option maxRecDepth 100000 in
theorem w_Mo_goBy_12 {S : ba_S} {k12 : Nat → Int32 → Int32 → Int32 → Int32 → ba_M → Option (ba_M)} (hk12 : ∀ (v0 : Nat) (v1 : Int32) (v2 : Int32) (v4 : Int32) (v5 : Int32) (m : ba_M), ck S v0 11 = true → AW (Y_Mo_goBy S) 12 [some (aR (some v0)), some (aI v1), some (aI v2), none, some (aI v4), some (aI v5)] [] S m (k12 v0 v1 v2 v4 v5 m)) : ∀ (v0 : Nat) (v1 : Int32) (v2 : Int32) (v4 : Int32) (v5 : Int32) (m : ba_M), ck S v0 11 = true → AW (Y_Mo_goBy S) 12 [some (aR (some v0)), some (aI v1), some (aI v2), none, some (aI v4), some (aI v5)] [] S m (b_Mo_goBy_12 S k12 v0 v1 v2 v4 v5 m) := by
  intro v0 v1 v2 v4 v5 m g0
  unfold b_Mo_goBy_12
  refine a_iload dX12_goBy_12 rfl ?_
  refine a_aload_n dX12_goBy_14 rfl ?_
  refine a_getI dX12_goBy_15 fl_RX12_75 rfl g0 ?_
  refine a_ige (tgt := 64) dX12_goBy_18 (by decide) (fun _ => ?_) (fun _ => ?_)
  · skip
    refine a_aload_n dX12_goBy_64 rfl ?_
    refine a_bipush (v := -4) dX12_goBy_65 (by decide) ?_
    refine a_putI dX12_goBy_67 fl_RX12_167 (rfl : _ = FieldType.int) rfl rfl rfl g0 ?_
    refine a_iconst (v := nI 0) dX12_goBy_70 (by decide) ?_
    refine a_istore dX12_goBy_71 rfl rfl ?_
    exact AW.weak (Lw_so rfl (Lw_so rfl (Lw_so rfl (Lw_no (Lw_no (Lw_so rfl Lw_end)))))) (l_Mo_goBy_73 FU _ _ _ _ _ g0)
  · skip
    refine a_aload_n dX12_goBy_21 rfl ?_
    refine a_getR dX12_goBy_22 fl_RX12_31 rfl g0 (fun r6 h7 => ?_)
    refine a_iload dX12_goBy_25 rfl ?_
    refine a_iload dX12_goBy_27 rfl ?_
    refine a_iload_n dX12_goBy_29 rfl ?_
    refine a_ine (tgt := 37) dX12_goBy_30 (by decide) (fun _ => ?_) (fun _ => ?_)
    · skip
      refine a_aload_n dX12_goBy_37 rfl ?_
      refine a_iload dX12_goBy_38 rfl ?_
      refine a_aload_n dX12_goBy_40 rfl ?_
      refine a_getR dX12_goBy_41 fl_RX12_7 rfl g0 (fun r8 h9 => ?_)
      refine a_iconst (v := nI 5) dX12_goBy_44 (by decide) ?_
      refine a_iload dX12_goBy_45 rfl ?_
      refine a_imul dX12_goBy_47 ?_
      refine a_iconst (v := nI 4) dX12_goBy_48 (by decide) ?_
      refine a_iadd dX12_goBy_49 ?_
      refine a_iald dX12_goBy_50 h9 ?_
      refine a_iload_n dX12_goBy_51 rfl ?_
      refine a_iload dX12_goBy_52 rfl ?_
      refine a_callV_I dX12_goBy_54 lk_RX12_163 mt_Mo_standsOf vt_Mo_standsOf ⟨_, rfl, rfl⟩ (fun _ h => m_Mo_standsOf h) rfl rfl g0 ⟨rfl, rfl, rfl⟩ (fun q10 => ?_)
      exact AW.weak (Lw_so rfl (Lw_so rfl (Lw_so rfl (Lw_no (Lw_so rfl (Lw_so rfl Lw_end)))))) (w_Mo_goBy_57 hk12 _ _ _ _ _ _ _ _ _ g0 h7)
    · skip
      refine a_iload_n dX12_goBy_33 rfl ?_
      refine a_goto (tgt := 57) dX12_goBy_34 (by decide) ?_
      exact AW.weak (Lw_so rfl (Lw_so rfl (Lw_so rfl (Lw_no (Lw_so rfl (Lw_so rfl Lw_end)))))) (w_Mo_goBy_57 hk12 _ _ _ _ _ _ _ _ _ g0 h7)
def f_Mo_goBy_12 (S : ba_S) : Nat → Int32 → Int32 → Int32 → Int32 → ba_M → Option (ba_M) := fx (fun _ _ _ _ _ _ => none) (b_Mo_goBy_12 S) FU
theorem l_Mo_goBy_12 {S : ba_S} : ∀ (n : Nat) (v0 : Nat) (v1 : Int32) (v2 : Int32) (v4 : Int32) (v5 : Int32) (m : ba_M), ck S v0 11 = true → AW (Y_Mo_goBy S) 12 [some (aR (some v0)), some (aI v1), some (aI v2), none, some (aI v4), some (aI v5)] [] S m ((fx (F := Nat → Int32 → Int32 → Int32 → Int32 → ba_M → Option (ba_M)) (fun _ _ _ _ _ _ => none) (b_Mo_goBy_12 S) n) v0 v1 v2 v4 v5 m) := by
  intro n
  induction n with
  | zero => intro _ _ _ _ _ _ _; exact AW.none
  | succ n ih => exact w_Mo_goBy_12 ih
def f_Mo_goBy (S : ba_S) (a0 : Nat) (a1 : Int32) (a2 : Int32) (a3 : Int32) (m : ba_M) : Option (ba_M) :=
  cK S a0 11 (((f_Mo_beatsOf S a0 a1 a2 a3 m).bind fun q11 => (f_Mo_goBy_12 S a0 a1 a2 q11.1 (nI 0) q11.2)))
set_option maxRecDepth 100000 in
theorem e_Mo_goBy (S : ba_S) (a0 : Nat) (a1 : Int32) (a2 : Int32) (a3 : Int32) (m : ba_M) : AW (Y_Mo_goBy S) 0 [some (aR (some a0)), some (aI a1), some (aI a2), some (aI a3), none, none] [] S m (f_Mo_goBy S a0 a1 a2 a3 m) := by
  unfold f_Mo_goBy
  refine AW.ck (fun g0 => ?_)
  refine a_aload_n dX12_goBy_0 rfl ?_
  refine a_iload_n dX12_goBy_1 rfl ?_
  refine a_iload_n dX12_goBy_2 rfl ?_
  refine a_iload_n dX12_goBy_3 rfl ?_
  refine a_callV_I dX12_goBy_4 lk_RX12_156 mt_Mo_beatsOf vt_Mo_beatsOf ⟨_, rfl, rfl⟩ (fun _ h => m_Mo_beatsOf h) rfl rfl g0 ⟨rfl, rfl, rfl⟩ (fun q11 => ?_)
  refine a_istore dX12_goBy_7 rfl rfl ?_
  refine a_iconst (v := nI 0) dX12_goBy_9 (by decide) ?_
  refine a_istore dX12_goBy_10 rfl rfl ?_
  exact AW.weak (Lw_so rfl (Lw_so rfl (Lw_so rfl (Lw_no (Lw_so rfl (Lw_so rfl Lw_end)))))) (l_Mo_goBy_12 FU _ _ _ _ _ _ g0)
theorem m_Mo_goBy {S : ba_S} {a0 : Nat} {a1 : Int32} {a2 : Int32} {a3 : Int32} {m : ba_M} {q : ba_M} (h : f_Mo_goBy S a0 a1 a2 a3 m = some q) : MA (Y_Mo_goBy S) yX12_goBy none [aR (some a0), aI a1, aI a2, aI a3] S m q :=
  ba_met ⟨by decide +kernel, rfl⟩ rfl (fun h => by cases h) (Or.inr (Or.inr (Or.inr (Or.inl ⟨rfl, rfl, rfl⟩)))) rfl (h ▸ e_Mo_goBy S a0 a1 a2 a3 m)

abbrev Y_Mo_go (S : ba_S) : ba_Y (ba_M) := mV cX12_go RX12 2 3 79 S
def f_Mo_go (S : ba_S) (a0 : Nat) (a1 : Int32) (m : ba_M) : Option (ba_M) :=
  cK S a0 11 ((ldR S a0 4 20 fun r1 => (bD S r1 a1 (ldR S a0 4 20 fun r3 => (bD S r3 ((nI 5) + a1) (ldR S a0 4 20 fun r5 => (bD S r5 ((nI 10) + a1) ((f_Mo_goBy S a0 (gI m r1 (a1).toNatClampNeg) (gI m r3 (((nI 5) + a1)).toNatClampNeg) (gI m r5 (((nI 10) + a1)).toNatClampNeg) m).bind fun q7 => (some q7)))))))))
set_option maxRecDepth 100000 in
theorem e_Mo_go (S : ba_S) (a0 : Nat) (a1 : Int32) (m : ba_M) : AW (Y_Mo_go S) 0 [some (aR (some a0)), some (aI a1)] [] S m (f_Mo_go S a0 a1 m) := by
  unfold f_Mo_go
  refine AW.ck (fun g0 => ?_)
  refine a_aload_n dX12_go_0 rfl ?_
  refine a_aload_n dX12_go_1 rfl ?_
  refine a_getR dX12_go_2 fl_RX12_13 rfl g0 (fun r1 h2 => ?_)
  refine a_iload_n dX12_go_5 rfl ?_
  refine a_iald dX12_go_6 h2 ?_
  refine a_aload_n dX12_go_7 rfl ?_
  refine a_getR dX12_go_8 fl_RX12_13 rfl g0 (fun r3 h4 => ?_)
  refine a_iconst (v := nI 5) dX12_go_11 (by decide) ?_
  refine a_iload_n dX12_go_12 rfl ?_
  refine a_iadd dX12_go_13 ?_
  refine a_iald dX12_go_14 h4 ?_
  refine a_aload_n dX12_go_15 rfl ?_
  refine a_getR dX12_go_16 fl_RX12_13 rfl g0 (fun r5 h6 => ?_)
  refine a_bipush (v := nI 10) dX12_go_19 (by decide) ?_
  refine a_iload_n dX12_go_21 rfl ?_
  refine a_iadd dX12_go_22 ?_
  refine a_iald dX12_go_23 h6 ?_
  refine a_callV_V dX12_go_24 lk_RX12_174 mt_Mo_goBy vt_Mo_goBy ⟨_, rfl, rfl⟩ (fun _ h => m_Mo_goBy h) rfl rfl g0 ⟨rfl, rfl, rfl⟩ (fun q7 => ?_)
  exact AW.ret dX12_go_27 rfl rfl
theorem m_Mo_go {S : ba_S} {a0 : Nat} {a1 : Int32} {m : ba_M} {q : ba_M} (h : f_Mo_go S a0 a1 m = some q) : MA (Y_Mo_go S) yX12_go none [aR (some a0), aI a1] S m q :=
  ba_met ⟨by decide +kernel, rfl⟩ rfl (fun h => by cases h) (Or.inr (Or.inr (Or.inr (Or.inl ⟨rfl, rfl, rfl⟩)))) rfl (h ▸ e_Mo_go S a0 a1 m)

abbrev Y_Mo_stands (S : ba_S) : ba_Y (Int32 × ba_M) := mI cX12_stands RX12 3 4 100 S
def f_Mo_stands_16 (S : ba_S) (m : ba_M) : Option (Int32 × ba_M) :=
  (some ((-1 : Int32), m))
set_option maxRecDepth 100000 in
theorem w_Mo_stands_16 {S : ba_S} : ∀ (m : ba_M), AW (Y_Mo_stands S) 16 [none, none, none] [] S m (f_Mo_stands_16 S m) := by
  intro m
  unfold f_Mo_stands_16
  refine a_iconst (v := -1) dX12_stands_16 (by decide) ?_
  exact AW.ret dX12_stands_17 rfl rfl
def f_Mo_stands (S : ba_S) (a0 : Nat) (a1 : Int32) (a2 : Int32) (m : ba_M) : Option (Int32 × ba_M) :=
  cK S a0 11 (((f_Mo_isPlayer S a0 a1 m).bind fun q1 => (if q1.1 = true then ((f_Mo_isPlayer S a0 a2 q1.2).bind fun q2 => (if q2.1 = true then ((f_Mo_go S a0 a1 q2.2).bind fun q3 => (ldR S a0 15 20 fun r4 => (bD S r4 a2 (some ((gI q3 r4 (a2).toNatClampNeg), q3))))) else (f_Mo_stands_16 S q2.2))) else (f_Mo_stands_16 S q1.2))))
set_option maxRecDepth 100000 in
theorem e_Mo_stands (S : ba_S) (a0 : Nat) (a1 : Int32) (a2 : Int32) (m : ba_M) : AW (Y_Mo_stands S) 0 [some (aR (some a0)), some (aI a1), some (aI a2)] [] S m (f_Mo_stands S a0 a1 a2 m) := by
  unfold f_Mo_stands
  refine AW.ck (fun g0 => ?_)
  refine a_aload_n dX12_stands_0 rfl ?_
  refine a_iload_n dX12_stands_1 rfl ?_
  refine a_callV_Z dX12_stands_2 lk_RX12_150 mt_Mo_isPlayer vt_Mo_isPlayer ⟨_, rfl, rfl⟩ (fun _ h => m_Mo_isPlayer h) rfl rfl g0 ⟨rfl, rfl, rfl⟩ (fun q1 => ?_)
  refine a_beq (tgt := 16) dX12_stands_5 (by decide) (fun _ => ?_) (fun _ => ?_)
  · skip
    exact AW.weak (Lw_no (Lw_no (Lw_no Lw_end))) (w_Mo_stands_16 _)
  · skip
    refine a_aload_n dX12_stands_8 rfl ?_
    refine a_iload_n dX12_stands_9 rfl ?_
    refine a_callV_Z dX12_stands_10 lk_RX12_150 mt_Mo_isPlayer vt_Mo_isPlayer ⟨_, rfl, rfl⟩ (fun _ h => m_Mo_isPlayer h) rfl rfl g0 ⟨rfl, rfl, rfl⟩ (fun q2 => ?_)
    refine a_bne (tgt := 18) dX12_stands_13 (by decide) (fun _ => ?_) (fun _ => ?_)
    · skip
      refine a_aload_n dX12_stands_18 rfl ?_
      refine a_iload_n dX12_stands_19 rfl ?_
      refine a_callV_V dX12_stands_20 lk_RX12_177 mt_Mo_go vt_Mo_go ⟨_, rfl, rfl⟩ (fun _ h => m_Mo_go h) rfl rfl g0 ⟨rfl, rfl, rfl⟩ (fun q3 => ?_)
      refine a_aload_n dX12_stands_23 rfl ?_
      refine a_getR dX12_stands_24 fl_RX12_31 rfl g0 (fun r4 h5 => ?_)
      refine a_iload_n dX12_stands_27 rfl ?_
      refine a_iald dX12_stands_28 h5 ?_
      exact AW.ret dX12_stands_29 rfl rfl
    · skip
      exact AW.weak (Lw_no (Lw_no (Lw_no Lw_end))) (w_Mo_stands_16 _)
theorem m_Mo_stands {S : ba_S} {a0 : Nat} {a1 : Int32} {a2 : Int32} {m : ba_M} {q : Int32 × ba_M} (h : f_Mo_stands S a0 a1 a2 m = some q) : MA (Y_Mo_stands S) yX12_stands (some .int) [aR (some a0), aI a1, aI a2] S m q :=
  ba_met ⟨by decide +kernel, rfl⟩ rfl (fun h => by cases h) (Or.inl ⟨rfl, rfl, _, rfl⟩) rfl (h ▸ e_Mo_stands S a0 a1 a2 m)

abbrev Y_Mo_areApart (S : ba_S) : ba_Y (Bool × ba_M) := mZ cX12_areApart RX12 3 2 43 S
def f_Mo_areApart_31 (S : ba_S) (s0 : Bool) (m : ba_M) : Option (Bool × ba_M) :=
  (some (s0, m))
set_option maxRecDepth 100000 in
theorem w_Mo_areApart_31 {S : ba_S} : ∀ (s0 : Bool) (m : ba_M), AW (Y_Mo_areApart S) 31 [none, none, none] [aI (b2i s0)] S m (f_Mo_areApart_31 S s0 m) := by
  intro s0 m
  unfold f_Mo_areApart_31
  exact AW.ret dX12_areApart_31 rfl rfl
def f_Mo_areApart_30 (S : ba_S) (m : ba_M) : Option (Bool × ba_M) :=
  (f_Mo_areApart_31 S false m)
set_option maxRecDepth 100000 in
theorem w_Mo_areApart_30 {S : ba_S} : ∀ (m : ba_M), AW (Y_Mo_areApart S) 30 [none, none, none] [] S m (f_Mo_areApart_30 S m) := by
  intro m
  unfold f_Mo_areApart_30
  refine a_iconst (v := nI 0) dX12_areApart_30 (by decide) ?_
  exact AW.weak (Lw_no (Lw_no (Lw_no Lw_end))) (w_Mo_areApart_31 _ _)
def f_Mo_areApart (S : ba_S) (a0 : Nat) (a1 : Int32) (a2 : Int32) (m : ba_M) : Option (Bool × ba_M) :=
  cK S a0 11 (((f_Mo_isPlayer S a0 a1 m).bind fun q1 => (if q1.1 = true then ((f_Mo_isPlayer S a0 a2 q1.2).bind fun q2 => (if q2.1 = true then (ldR S a0 4 20 fun r3 => (bD S r3 a1 (if (gI q2.2 r3 (a1).toNatClampNeg) = a2 then (f_Mo_areApart_30 S q2.2) else (f_Mo_areApart_31 S true q2.2)))) else (f_Mo_areApart_30 S q2.2))) else (f_Mo_areApart_30 S q1.2))))
set_option maxRecDepth 100000 in
theorem e_Mo_areApart (S : ba_S) (a0 : Nat) (a1 : Int32) (a2 : Int32) (m : ba_M) : AW (Y_Mo_areApart S) 0 [some (aR (some a0)), some (aI a1), some (aI a2)] [] S m (f_Mo_areApart S a0 a1 a2 m) := by
  unfold f_Mo_areApart
  refine AW.ck (fun g0 => ?_)
  refine a_aload_n dX12_areApart_0 rfl ?_
  refine a_iload_n dX12_areApart_1 rfl ?_
  refine a_callV_Z dX12_areApart_2 lk_RX12_150 mt_Mo_isPlayer vt_Mo_isPlayer ⟨_, rfl, rfl⟩ (fun _ h => m_Mo_isPlayer h) rfl rfl g0 ⟨rfl, rfl, rfl⟩ (fun q1 => ?_)
  refine a_beq (tgt := 30) dX12_areApart_5 (by decide) (fun _ => ?_) (fun _ => ?_)
  · skip
    exact AW.weak (Lw_no (Lw_no (Lw_no Lw_end))) (w_Mo_areApart_30 _)
  · skip
    refine a_aload_n dX12_areApart_8 rfl ?_
    refine a_iload_n dX12_areApart_9 rfl ?_
    refine a_callV_Z dX12_areApart_10 lk_RX12_150 mt_Mo_isPlayer vt_Mo_isPlayer ⟨_, rfl, rfl⟩ (fun _ h => m_Mo_isPlayer h) rfl rfl g0 ⟨rfl, rfl, rfl⟩ (fun q2 => ?_)
    refine a_beq (tgt := 30) dX12_areApart_13 (by decide) (fun _ => ?_) (fun _ => ?_)
    · skip
      exact AW.weak (Lw_no (Lw_no (Lw_no Lw_end))) (w_Mo_areApart_30 _)
    · skip
      refine a_aload_n dX12_areApart_16 rfl ?_
      refine a_getR dX12_areApart_17 fl_RX12_13 rfl g0 (fun r3 h4 => ?_)
      refine a_iload_n dX12_areApart_20 rfl ?_
      refine a_iald dX12_areApart_21 h4 ?_
      refine a_iload_n dX12_areApart_22 rfl ?_
      refine a_ieq (tgt := 30) dX12_areApart_23 (by decide) (fun _ => ?_) (fun _ => ?_)
      · skip
        exact AW.weak (Lw_no (Lw_no (Lw_no Lw_end))) (w_Mo_areApart_30 _)
      · skip
        refine a_iconst (v := nI 1) dX12_areApart_26 (by decide) ?_
        refine a_goto (tgt := 31) dX12_areApart_27 (by decide) ?_
        exact AW.weak (Lw_no (Lw_no (Lw_no Lw_end))) (w_Mo_areApart_31 _ _)
theorem m_Mo_areApart {S : ba_S} {a0 : Nat} {a1 : Int32} {a2 : Int32} {m : ba_M} {q : Bool × ba_M} (h : f_Mo_areApart S a0 a1 a2 m = some q) : MA (Y_Mo_areApart S) yX12_areApart (some .boolean) [aR (some a0), aI a1, aI a2] S m q :=
  ba_met ⟨by decide +kernel, rfl⟩ rfl (fun h => by cases h) (Or.inr (Or.inl ⟨rfl, rfl, _, rfl⟩)) rfl (h ▸ e_Mo_areApart S a0 a1 a2 m)

abbrev Y_Mo_chance (S : ba_S) : ba_Y (Int32 × ba_M) := mI cX12_chance RX12 3 4 100 S
def f_Mo_chance (S : ba_S) (a0 : Nat) (a1 : Int32) (a2 : Int32) (m : ba_M) : Option (Int32 × ba_M) :=
  cK S a0 11 (((f_Mo_areApart S a0 a1 a2 m).bind fun q1 => (if q1.1 = true then ((f_Mo_go S a0 a1 q1.2).bind fun q2 => (ldR S a0 16 20 fun r3 => (bD S r3 a2 (some ((gI q2 r3 (a2).toNatClampNeg), q2))))) else (some ((-1 : Int32), q1.2)))))
set_option maxRecDepth 100000 in
theorem e_Mo_chance (S : ba_S) (a0 : Nat) (a1 : Int32) (a2 : Int32) (m : ba_M) : AW (Y_Mo_chance S) 0 [some (aR (some a0)), some (aI a1), some (aI a2)] [] S m (f_Mo_chance S a0 a1 a2 m) := by
  unfold f_Mo_chance
  refine AW.ck (fun g0 => ?_)
  refine a_aload_n dX12_chance_0 rfl ?_
  refine a_iload_n dX12_chance_1 rfl ?_
  refine a_iload_n dX12_chance_2 rfl ?_
  refine a_callV_Z dX12_chance_3 lk_RX12_181 mt_Mo_areApart vt_Mo_areApart ⟨_, rfl, rfl⟩ (fun _ h => m_Mo_areApart h) rfl rfl g0 ⟨rfl, rfl, rfl⟩ (fun q1 => ?_)
  refine a_bne (tgt := 11) dX12_chance_6 (by decide) (fun _ => ?_) (fun _ => ?_)
  · skip
    refine a_aload_n dX12_chance_11 rfl ?_
    refine a_iload_n dX12_chance_12 rfl ?_
    refine a_callV_V dX12_chance_13 lk_RX12_177 mt_Mo_go vt_Mo_go ⟨_, rfl, rfl⟩ (fun _ h => m_Mo_go h) rfl rfl g0 ⟨rfl, rfl, rfl⟩ (fun q2 => ?_)
    refine a_aload_n dX12_chance_16 rfl ?_
    refine a_getR dX12_chance_17 fl_RX12_34 rfl g0 (fun r3 h4 => ?_)
    refine a_iload_n dX12_chance_20 rfl ?_
    refine a_iald dX12_chance_21 h4 ?_
    exact AW.ret dX12_chance_22 rfl rfl
  · skip
    refine a_iconst (v := -1) dX12_chance_9 (by decide) ?_
    exact AW.ret dX12_chance_10 rfl rfl
theorem m_Mo_chance {S : ba_S} {a0 : Nat} {a1 : Int32} {a2 : Int32} {m : ba_M} {q : Int32 × ba_M} (h : f_Mo_chance S a0 a1 a2 m = some q) : MA (Y_Mo_chance S) yX12_chance (some .int) [aR (some a0), aI a1, aI a2] S m q :=
  ba_met ⟨by decide +kernel, rfl⟩ rfl (fun h => by cases h) (Or.inl ⟨rfl, rfl, _, rfl⟩) rfl (h ▸ e_Mo_chance S a0 a1 a2 m)

abbrev Y_Mo_thrown (S : ba_S) : ba_Y (Int32 × ba_M) := mI cX12_thrown RX12 3 4 100 S
def f_Mo_thrown_17 (S : ba_S) (m : ba_M) : Option (Int32 × ba_M) :=
  (some ((-1 : Int32), m))
set_option maxRecDepth 100000 in
theorem w_Mo_thrown_17 {S : ba_S} : ∀ (m : ba_M), AW (Y_Mo_thrown S) 17 [none, none, none] [] S m (f_Mo_thrown_17 S m) := by
  intro m
  unfold f_Mo_thrown_17
  refine a_iconst (v := -1) dX12_thrown_17 (by decide) ?_
  exact AW.ret dX12_thrown_18 rfl rfl
def f_Mo_thrown_44 (S : ba_S) (s0 : Int32) (m : ba_M) : Option (Int32 × ba_M) :=
  (some (s0, m))
set_option maxRecDepth 100000 in
theorem w_Mo_thrown_44 {S : ba_S} : ∀ (s0 : Int32) (m : ba_M), AW (Y_Mo_thrown S) 44 [none, none, none] [aI s0] S m (f_Mo_thrown_44 S s0 m) := by
  intro s0 m
  unfold f_Mo_thrown_44
  exact AW.ret dX12_thrown_44 rfl rfl
def f_Mo_thrown (S : ba_S) (a0 : Nat) (a1 : Int32) (a2 : Int32) (m : ba_M) : Option (Int32 × ba_M) :=
  cK S a0 11 (((f_Mo_isPlayer S a0 a1 m).bind fun q1 => (if q1.1 = true then ((f_Mo_in S a2 (nI 0) (nI 1) q1.2).bind fun q2 => (if q2.1 = true then ((f_Mo_go S a0 a1 q2.2).bind fun q3 => (if a2 = 0 then (f_Mo_thrown_44 S (gI q3 a0 18) q3) else (ldR S a0 16 20 fun r4 => (bD S r4 (gI q3 a0 18) (f_Mo_thrown_44 S (gI q3 r4 ((gI q3 a0 18)).toNatClampNeg) q3))))) else (f_Mo_thrown_17 S q2.2))) else (f_Mo_thrown_17 S q1.2))))
set_option maxRecDepth 100000 in
theorem e_Mo_thrown (S : ba_S) (a0 : Nat) (a1 : Int32) (a2 : Int32) (m : ba_M) : AW (Y_Mo_thrown S) 0 [some (aR (some a0)), some (aI a1), some (aI a2)] [] S m (f_Mo_thrown S a0 a1 a2 m) := by
  unfold f_Mo_thrown
  refine AW.ck (fun g0 => ?_)
  refine a_aload_n dX12_thrown_0 rfl ?_
  refine a_iload_n dX12_thrown_1 rfl ?_
  refine a_callV_Z dX12_thrown_2 lk_RX12_150 mt_Mo_isPlayer vt_Mo_isPlayer ⟨_, rfl, rfl⟩ (fun _ h => m_Mo_isPlayer h) rfl rfl g0 ⟨rfl, rfl, rfl⟩ (fun q1 => ?_)
  refine a_beq (tgt := 17) dX12_thrown_5 (by decide) (fun _ => ?_) (fun _ => ?_)
  · skip
    exact AW.weak (Lw_no (Lw_no (Lw_no Lw_end))) (w_Mo_thrown_17 _)
  · skip
    refine a_iload_n dX12_thrown_8 rfl ?_
    refine a_iconst (v := nI 0) dX12_thrown_9 (by decide) ?_
    refine a_iconst (v := nI 1) dX12_thrown_10 (by decide) ?_
    refine a_callS_Z dX12_thrown_11 lk_RX12_84 mt_Mo_in sv_Mo_in (fun _ h => m_Mo_in h) rfl rfl ⟨rfl, rfl, rfl⟩ (fun q2 => ?_)
    refine a_bne (tgt := 19) dX12_thrown_14 (by decide) (fun _ => ?_) (fun _ => ?_)
    · skip
      refine a_aload_n dX12_thrown_19 rfl ?_
      refine a_iload_n dX12_thrown_20 rfl ?_
      refine a_callV_V dX12_thrown_21 lk_RX12_177 mt_Mo_go vt_Mo_go ⟨_, rfl, rfl⟩ (fun _ h => m_Mo_go h) rfl rfl g0 ⟨rfl, rfl, rfl⟩ (fun q3 => ?_)
      refine a_iload_n dX12_thrown_24 rfl ?_
      refine a_zne (tgt := 35) dX12_thrown_25 (by decide) (fun _ => ?_) (fun _ => ?_)
      · skip
        refine a_aload_n dX12_thrown_35 rfl ?_
        refine a_getR dX12_thrown_36 fl_RX12_34 rfl g0 (fun r4 h5 => ?_)
        refine a_aload_n dX12_thrown_39 rfl ?_
        refine a_getI dX12_thrown_40 fl_RX12_167 rfl g0 ?_
        refine a_iald dX12_thrown_43 h5 ?_
        exact AW.weak (Lw_no (Lw_no (Lw_no Lw_end))) (w_Mo_thrown_44 _ _)
      · skip
        refine a_aload_n dX12_thrown_28 rfl ?_
        refine a_getI dX12_thrown_29 fl_RX12_167 rfl g0 ?_
        refine a_goto (tgt := 44) dX12_thrown_32 (by decide) ?_
        exact AW.weak (Lw_no (Lw_no (Lw_no Lw_end))) (w_Mo_thrown_44 _ _)
    · skip
      exact AW.weak (Lw_no (Lw_no (Lw_no Lw_end))) (w_Mo_thrown_17 _)
theorem m_Mo_thrown {S : ba_S} {a0 : Nat} {a1 : Int32} {a2 : Int32} {m : ba_M} {q : Int32 × ba_M} (h : f_Mo_thrown S a0 a1 a2 m = some q) : MA (Y_Mo_thrown S) yX12_thrown (some .int) [aR (some a0), aI a1, aI a2] S m q :=
  ba_met ⟨by decide +kernel, rfl⟩ rfl (fun h => by cases h) (Or.inl ⟨rfl, rfl, _, rfl⟩) rfl (h ▸ e_Mo_thrown S a0 a1 a2 m)

abbrev Y_Mo_hidden (S : ba_S) : ba_Y (Int32 × ba_M) := mI cX12_hidden RX12 3 4 100 S
def f_Mo_hidden (S : ba_S) (a0 : Nat) (a1 : Int32) (a2 : Int32) (m : ba_M) : Option (Int32 × ba_M) :=
  cK S a0 11 (((f_Mo_areApart S a0 a1 a2 m).bind fun q1 => (if q1.1 = true then ((f_Mo_go S a0 a1 q1.2).bind fun q2 => (ldR S a0 17 20 fun r3 => (bD S r3 a2 (some ((gI q2 r3 (a2).toNatClampNeg), q2))))) else (some ((-1 : Int32), q1.2)))))
set_option maxRecDepth 100000 in
theorem e_Mo_hidden (S : ba_S) (a0 : Nat) (a1 : Int32) (a2 : Int32) (m : ba_M) : AW (Y_Mo_hidden S) 0 [some (aR (some a0)), some (aI a1), some (aI a2)] [] S m (f_Mo_hidden S a0 a1 a2 m) := by
  unfold f_Mo_hidden
  refine AW.ck (fun g0 => ?_)
  refine a_aload_n dX12_hidden_0 rfl ?_
  refine a_iload_n dX12_hidden_1 rfl ?_
  refine a_iload_n dX12_hidden_2 rfl ?_
  refine a_callV_Z dX12_hidden_3 lk_RX12_181 mt_Mo_areApart vt_Mo_areApart ⟨_, rfl, rfl⟩ (fun _ h => m_Mo_areApart h) rfl rfl g0 ⟨rfl, rfl, rfl⟩ (fun q1 => ?_)
  refine a_bne (tgt := 11) dX12_hidden_6 (by decide) (fun _ => ?_) (fun _ => ?_)
  · skip
    refine a_aload_n dX12_hidden_11 rfl ?_
    refine a_iload_n dX12_hidden_12 rfl ?_
    refine a_callV_V dX12_hidden_13 lk_RX12_177 mt_Mo_go vt_Mo_go ⟨_, rfl, rfl⟩ (fun _ h => m_Mo_go h) rfl rfl g0 ⟨rfl, rfl, rfl⟩ (fun q2 => ?_)
    refine a_aload_n dX12_hidden_16 rfl ?_
    refine a_getR dX12_hidden_17 fl_RX12_37 rfl g0 (fun r3 h4 => ?_)
    refine a_iload_n dX12_hidden_20 rfl ?_
    refine a_iald dX12_hidden_21 h4 ?_
    exact AW.ret dX12_hidden_22 rfl rfl
  · skip
    refine a_iconst (v := -1) dX12_hidden_9 (by decide) ?_
    exact AW.ret dX12_hidden_10 rfl rfl
theorem m_Mo_hidden {S : ba_S} {a0 : Nat} {a1 : Int32} {a2 : Int32} {m : ba_M} {q : Int32 × ba_M} (h : f_Mo_hidden S a0 a1 a2 m = some q) : MA (Y_Mo_hidden S) yX12_hidden (some .int) [aR (some a0), aI a1, aI a2] S m q :=
  ba_met ⟨by decide +kernel, rfl⟩ rfl (fun h => by cases h) (Or.inl ⟨rfl, rfl, _, rfl⟩) rfl (h ▸ e_Mo_hidden S a0 a1 a2 m)

abbrev Y_Mo_safe (S : ba_S) : ba_Y (Int32 × ba_M) := mI cX12_safe RX12 6 3 79 S
def f_Mo_safe_17 (S : ba_S) (m : ba_M) : Option (Int32 × ba_M) :=
  (some ((-1 : Int32), m))
set_option maxRecDepth 100000 in
theorem w_Mo_safe_17 {S : ba_S} : ∀ (m : ba_M), AW (Y_Mo_safe S) 17 [none, none, none, none, none, none] [] S m (f_Mo_safe_17 S m) := by
  intro m
  unfold f_Mo_safe_17
  refine a_iconst (v := -1) dX12_safe_17 (by decide) ?_
  exact AW.ret dX12_safe_18 rfl rfl
def f_Mo_safe_256 (S : ba_S) (s0 : Int32) (m : ba_M) : Option (Int32 × ba_M) :=
  (some (s0, m))
set_option maxRecDepth 100000 in
theorem w_Mo_safe_256 {S : ba_S} : ∀ (s0 : Int32) (m : ba_M), AW (Y_Mo_safe S) 256 [none, none, none, none, none, none] [aI s0] S m (f_Mo_safe_256 S s0 m) := by
  intro s0 m
  unfold f_Mo_safe_256
  exact AW.ret dX12_safe_256 rfl rfl
def f_Mo_safe_228 (S : ba_S) (k29 : Nat → Int32 → Int32 → Int32 → ba_M → Option (Int32 × ba_M)) (v0 : Nat) (v1 : Int32) (v2 : Int32) (v3 : Int32) (m : ba_M) : Option (Int32 × ba_M) :=
  (k29 v0 v1 v2 (v3 + (nI 1)) m)
set_option maxRecDepth 100000 in
theorem w_Mo_safe_228 {S : ba_S} {k29 : Nat → Int32 → Int32 → Int32 → ba_M → Option (Int32 × ba_M)} (hk29 : ∀ (v0 : Nat) (v1 : Int32) (v2 : Int32) (v3 : Int32) (m : ba_M), ck S v0 11 = true → AW (Y_Mo_safe S) 29 [some (aR (some v0)), some (aI v1), some (aI v2), some (aI v3), none, none] [] S m (k29 v0 v1 v2 v3 m)) : ∀ (v0 : Nat) (v1 : Int32) (v2 : Int32) (v3 : Int32) (m : ba_M), ck S v0 11 = true → AW (Y_Mo_safe S) 228 [some (aR (some v0)), some (aI v1), some (aI v2), some (aI v3), none, none] [] S m (f_Mo_safe_228 S k29 v0 v1 v2 v3 m) := by
  intro v0 v1 v2 v3 m g0
  unfold f_Mo_safe_228
  refine a_iinc (v := nI 1) dX12_safe_228 rfl (by decide) rfl rfl ?_
  refine a_goto (tgt := 29) dX12_safe_231 (by decide) ?_
  exact AW.weak (Lw_so rfl (Lw_so rfl (Lw_so rfl (Lw_so rfl (Lw_no (Lw_no Lw_end)))))) (hk29 _ _ _ _ _ g0)
def f_Mo_safe_221 (S : ba_S) (k29 : Nat → Int32 → Int32 → Int32 → ba_M → Option (Int32 × ba_M)) (k40 : Nat → Int32 → Int32 → Int32 → Int32 → ba_M → Option (Int32 × ba_M)) (v0 : Nat) (v1 : Int32) (v2 : Int32) (v3 : Int32) (v4 : Int32) (s0 : Nat) (s1 : Int32) (s2 : Int32) (m : ba_M) : Option (Int32 × ba_M) :=
  (bD S s0 s1 (k40 v0 v1 v2 v3 (v4 + (nI 1)) (wI m s0 (s1).toNatClampNeg s2)))
set_option maxRecDepth 100000 in
theorem w_Mo_safe_221 {S : ba_S} {k29 : Nat → Int32 → Int32 → Int32 → ba_M → Option (Int32 × ba_M)} (hk29 : ∀ (v0 : Nat) (v1 : Int32) (v2 : Int32) (v3 : Int32) (m : ba_M), ck S v0 11 = true → AW (Y_Mo_safe S) 29 [some (aR (some v0)), some (aI v1), some (aI v2), some (aI v3), none, none] [] S m (k29 v0 v1 v2 v3 m)) {k40 : Nat → Int32 → Int32 → Int32 → Int32 → ba_M → Option (Int32 × ba_M)} (hk40 : ∀ (v0 : Nat) (v1 : Int32) (v2 : Int32) (v3 : Int32) (v4 : Int32) (m : ba_M), ck S v0 11 = true → AW (Y_Mo_safe S) 40 [some (aR (some v0)), some (aI v1), some (aI v2), some (aI v3), some (aI v4), none] [] S m (k40 v0 v1 v2 v3 v4 m)) : ∀ (v0 : Nat) (v1 : Int32) (v2 : Int32) (v3 : Int32) (v4 : Int32) (s0 : Nat) (s1 : Int32) (s2 : Int32) (m : ba_M), ck S v0 11 = true → ck S s0 20 = true → AW (Y_Mo_safe S) 221 [some (aR (some v0)), some (aI v1), some (aI v2), some (aI v3), some (aI v4), none] [aI s2, aI s1, aR (some s0)] S m (f_Mo_safe_221 S k29 k40 v0 v1 v2 v3 v4 s0 s1 s2 m) := by
  intro v0 v1 v2 v3 v4 s0 s1 s2 m g0 gs0
  unfold f_Mo_safe_221
  refine a_iast dX12_safe_221 gs0 ?_
  refine a_iinc (v := nI 1) dX12_safe_222 rfl (by decide) rfl rfl ?_
  refine a_goto (tgt := 40) dX12_safe_225 (by decide) ?_
  exact AW.weak (Lw_so rfl (Lw_so rfl (Lw_so rfl (Lw_so rfl (Lw_so rfl (Lw_no Lw_end)))))) (hk40 _ _ _ _ _ _ g0)
def f_Mo_safe_192 (S : ba_S) (k29 : Nat → Int32 → Int32 → Int32 → ba_M → Option (Int32 × ba_M)) (k40 : Nat → Int32 → Int32 → Int32 → Int32 → ba_M → Option (Int32 × ba_M)) (v0 : Nat) (v1 : Int32) (v2 : Int32) (v3 : Int32) (v4 : Int32) (v5 : Bool) (s0 : Nat) (s1 : Int32) (s2 : Int32) (m : ba_M) : Option (Int32 × ba_M) :=
  (bD S s0 s1 (ldR S v0 19 20 fun r1 => (if v5 = true then (ldR S v0 16 20 fun r5 => (bD S r5 (gI (wI m s0 (s1).toNatClampNeg s2) v0 18) (f_Mo_safe_221 S k29 k40 v0 v1 v2 v3 v4 r1 (nI 3) (gI (wI m s0 (s1).toNatClampNeg s2) r5 ((gI (wI m s0 (s1).toNatClampNeg s2) v0 18)).toNatClampNeg) (wI m s0 (s1).toNatClampNeg s2)))) else (ldR S v0 19 20 fun r3 => (bD S r3 (nI 3) (f_Mo_safe_221 S k29 k40 v0 v1 v2 v3 v4 r1 (nI 3) (gI (wI m s0 (s1).toNatClampNeg s2) r3 ((nI 3)).toNatClampNeg) (wI m s0 (s1).toNatClampNeg s2)))))))
set_option maxRecDepth 100000 in
theorem w_Mo_safe_192 {S : ba_S} {k29 : Nat → Int32 → Int32 → Int32 → ba_M → Option (Int32 × ba_M)} (hk29 : ∀ (v0 : Nat) (v1 : Int32) (v2 : Int32) (v3 : Int32) (m : ba_M), ck S v0 11 = true → AW (Y_Mo_safe S) 29 [some (aR (some v0)), some (aI v1), some (aI v2), some (aI v3), none, none] [] S m (k29 v0 v1 v2 v3 m)) {k40 : Nat → Int32 → Int32 → Int32 → Int32 → ba_M → Option (Int32 × ba_M)} (hk40 : ∀ (v0 : Nat) (v1 : Int32) (v2 : Int32) (v3 : Int32) (v4 : Int32) (m : ba_M), ck S v0 11 = true → AW (Y_Mo_safe S) 40 [some (aR (some v0)), some (aI v1), some (aI v2), some (aI v3), some (aI v4), none] [] S m (k40 v0 v1 v2 v3 v4 m)) : ∀ (v0 : Nat) (v1 : Int32) (v2 : Int32) (v3 : Int32) (v4 : Int32) (v5 : Bool) (s0 : Nat) (s1 : Int32) (s2 : Int32) (m : ba_M), ck S v0 11 = true → ck S s0 20 = true → AW (Y_Mo_safe S) 192 [some (aR (some v0)), some (aI v1), some (aI v2), some (aI v3), some (aI v4), some (aI (b2i v5))] [aI s2, aI s1, aR (some s0)] S m (f_Mo_safe_192 S k29 k40 v0 v1 v2 v3 v4 v5 s0 s1 s2 m) := by
  intro v0 v1 v2 v3 v4 v5 s0 s1 s2 m g0 gs0
  unfold f_Mo_safe_192
  refine a_iast dX12_safe_192 gs0 ?_
  refine a_aload_n dX12_safe_193 rfl ?_
  refine a_getR dX12_safe_194 fl_RX12_40 rfl g0 (fun r1 h2 => ?_)
  refine a_iconst (v := nI 3) dX12_safe_197 (by decide) ?_
  refine a_iload dX12_safe_198 rfl ?_
  refine a_beq (tgt := 215) dX12_safe_200 (by decide) (fun _ => ?_) (fun _ => ?_)
  · skip
    refine a_aload_n dX12_safe_215 rfl ?_
    refine a_getR dX12_safe_216 fl_RX12_40 rfl g0 (fun r3 h4 => ?_)
    refine a_iconst (v := nI 3) dX12_safe_219 (by decide) ?_
    refine a_iald dX12_safe_220 h4 ?_
    exact AW.weak (Lw_so rfl (Lw_so rfl (Lw_so rfl (Lw_so rfl (Lw_so rfl (Lw_no Lw_end)))))) (w_Mo_safe_221 hk29 hk40 _ _ _ _ _ _ _ _ _ g0 h2)
  · skip
    refine a_aload_n dX12_safe_203 rfl ?_
    refine a_getR dX12_safe_204 fl_RX12_34 rfl g0 (fun r5 h6 => ?_)
    refine a_aload_n dX12_safe_207 rfl ?_
    refine a_getI dX12_safe_208 fl_RX12_167 rfl g0 ?_
    refine a_iald dX12_safe_211 h6 ?_
    refine a_goto (tgt := 221) dX12_safe_212 (by decide) ?_
    exact AW.weak (Lw_so rfl (Lw_so rfl (Lw_so rfl (Lw_so rfl (Lw_so rfl (Lw_no Lw_end)))))) (w_Mo_safe_221 hk29 hk40 _ _ _ _ _ _ _ _ _ g0 h2)
def f_Mo_safe_165 (S : ba_S) (k29 : Nat → Int32 → Int32 → Int32 → ba_M → Option (Int32 × ba_M)) (k40 : Nat → Int32 → Int32 → Int32 → Int32 → ba_M → Option (Int32 × ba_M)) (v0 : Nat) (v1 : Int32) (v2 : Int32) (v3 : Int32) (v4 : Int32) (v5 : Bool) (s0 : Nat) (s1 : Bool) (s2 : Int32) (m : ba_M) : Option (Int32 × ba_M) :=
  (bD S s0 (b2i s1) (ldR S v0 19 20 fun r7 => (if v5 = true then (if (nI 9) = 0 then none else (f_Mo_safe_192 S k29 k40 v0 v1 v2 v3 v4 v5 r7 (nI 2) ((nI 1) + (v4 - v4 / (nI 9) * (nI 9))) (wI m s0 ((b2i s1)).toNatClampNeg s2))) else (ldR S v0 19 20 fun r9 => (bD S r9 (nI 2) (f_Mo_safe_192 S k29 k40 v0 v1 v2 v3 v4 v5 r7 (nI 2) (gI (wI m s0 ((b2i s1)).toNatClampNeg s2) r9 ((nI 2)).toNatClampNeg) (wI m s0 ((b2i s1)).toNatClampNeg s2)))))))
set_option maxRecDepth 100000 in
theorem w_Mo_safe_165 {S : ba_S} {k29 : Nat → Int32 → Int32 → Int32 → ba_M → Option (Int32 × ba_M)} (hk29 : ∀ (v0 : Nat) (v1 : Int32) (v2 : Int32) (v3 : Int32) (m : ba_M), ck S v0 11 = true → AW (Y_Mo_safe S) 29 [some (aR (some v0)), some (aI v1), some (aI v2), some (aI v3), none, none] [] S m (k29 v0 v1 v2 v3 m)) {k40 : Nat → Int32 → Int32 → Int32 → Int32 → ba_M → Option (Int32 × ba_M)} (hk40 : ∀ (v0 : Nat) (v1 : Int32) (v2 : Int32) (v3 : Int32) (v4 : Int32) (m : ba_M), ck S v0 11 = true → AW (Y_Mo_safe S) 40 [some (aR (some v0)), some (aI v1), some (aI v2), some (aI v3), some (aI v4), none] [] S m (k40 v0 v1 v2 v3 v4 m)) : ∀ (v0 : Nat) (v1 : Int32) (v2 : Int32) (v3 : Int32) (v4 : Int32) (v5 : Bool) (s0 : Nat) (s1 : Bool) (s2 : Int32) (m : ba_M), ck S v0 11 = true → ck S s0 20 = true → AW (Y_Mo_safe S) 165 [some (aR (some v0)), some (aI v1), some (aI v2), some (aI v3), some (aI v4), some (aI (b2i v5))] [aI s2, aI (b2i s1), aR (some s0)] S m (f_Mo_safe_165 S k29 k40 v0 v1 v2 v3 v4 v5 s0 s1 s2 m) := by
  intro v0 v1 v2 v3 v4 v5 s0 s1 s2 m g0 gs0
  unfold f_Mo_safe_165
  refine a_iast dX12_safe_165 gs0 ?_
  refine a_aload_n dX12_safe_166 rfl ?_
  refine a_getR dX12_safe_167 fl_RX12_40 rfl g0 (fun r7 h8 => ?_)
  refine a_iconst (v := nI 2) dX12_safe_170 (by decide) ?_
  refine a_iload dX12_safe_171 rfl ?_
  refine a_beq (tgt := 186) dX12_safe_173 (by decide) (fun _ => ?_) (fun _ => ?_)
  · skip
    refine a_aload_n dX12_safe_186 rfl ?_
    refine a_getR dX12_safe_187 fl_RX12_40 rfl g0 (fun r9 h10 => ?_)
    refine a_iconst (v := nI 2) dX12_safe_190 (by decide) ?_
    refine a_iald dX12_safe_191 h10 ?_
    exact AW.weak (Lw_so rfl (Lw_so rfl (Lw_so rfl (Lw_so rfl (Lw_so rfl (Lw_so rfl Lw_end)))))) (w_Mo_safe_192 hk29 hk40 _ _ _ _ _ _ _ _ _ _ g0 h8)
  · skip
    refine a_iconst (v := nI 1) dX12_safe_176 (by decide) ?_
    refine a_iload dX12_safe_177 rfl ?_
    refine a_bipush (v := nI 9) dX12_safe_179 (by decide) ?_
    refine a_irem dX12_safe_181 ?_
    refine a_iadd dX12_safe_182 ?_
    refine a_goto (tgt := 192) dX12_safe_183 (by decide) ?_
    exact AW.weak (Lw_so rfl (Lw_so rfl (Lw_so rfl (Lw_so rfl (Lw_so rfl (Lw_so rfl Lw_end)))))) (w_Mo_safe_192 hk29 hk40 _ _ _ _ _ _ _ _ _ _ g0 h8)
def f_Mo_safe_140 (S : ba_S) (k29 : Nat → Int32 → Int32 → Int32 → ba_M → Option (Int32 × ba_M)) (k40 : Nat → Int32 → Int32 → Int32 → Int32 → ba_M → Option (Int32 × ba_M)) (v0 : Nat) (v1 : Int32) (v2 : Int32) (v3 : Int32) (v4 : Int32) (v5 : Bool) (s0 : Nat) (s1 : Bool) (s2 : Int32) (m : ba_M) : Option (Int32 × ba_M) :=
  (bD S s0 (b2i s1) (ldR S v0 19 20 fun r11 => (if v5 = true then (if (nI 9) = 0 then none else (f_Mo_safe_165 S k29 k40 v0 v1 v2 v3 v4 v5 r11 true (v4 / (nI 9)) (wI m s0 ((b2i s1)).toNatClampNeg s2))) else (ldR S v0 19 20 fun r13 => (bD S r13 (nI 1) (f_Mo_safe_165 S k29 k40 v0 v1 v2 v3 v4 v5 r11 true (gI (wI m s0 ((b2i s1)).toNatClampNeg s2) r13 ((nI 1)).toNatClampNeg) (wI m s0 ((b2i s1)).toNatClampNeg s2)))))))
set_option maxRecDepth 100000 in
theorem w_Mo_safe_140 {S : ba_S} {k29 : Nat → Int32 → Int32 → Int32 → ba_M → Option (Int32 × ba_M)} (hk29 : ∀ (v0 : Nat) (v1 : Int32) (v2 : Int32) (v3 : Int32) (m : ba_M), ck S v0 11 = true → AW (Y_Mo_safe S) 29 [some (aR (some v0)), some (aI v1), some (aI v2), some (aI v3), none, none] [] S m (k29 v0 v1 v2 v3 m)) {k40 : Nat → Int32 → Int32 → Int32 → Int32 → ba_M → Option (Int32 × ba_M)} (hk40 : ∀ (v0 : Nat) (v1 : Int32) (v2 : Int32) (v3 : Int32) (v4 : Int32) (m : ba_M), ck S v0 11 = true → AW (Y_Mo_safe S) 40 [some (aR (some v0)), some (aI v1), some (aI v2), some (aI v3), some (aI v4), none] [] S m (k40 v0 v1 v2 v3 v4 m)) : ∀ (v0 : Nat) (v1 : Int32) (v2 : Int32) (v3 : Int32) (v4 : Int32) (v5 : Bool) (s0 : Nat) (s1 : Bool) (s2 : Int32) (m : ba_M), ck S v0 11 = true → ck S s0 20 = true → AW (Y_Mo_safe S) 140 [some (aR (some v0)), some (aI v1), some (aI v2), some (aI v3), some (aI v4), some (aI (b2i v5))] [aI s2, aI (b2i s1), aR (some s0)] S m (f_Mo_safe_140 S k29 k40 v0 v1 v2 v3 v4 v5 s0 s1 s2 m) := by
  intro v0 v1 v2 v3 v4 v5 s0 s1 s2 m g0 gs0
  unfold f_Mo_safe_140
  refine a_iast dX12_safe_140 gs0 ?_
  refine a_aload_n dX12_safe_141 rfl ?_
  refine a_getR dX12_safe_142 fl_RX12_40 rfl g0 (fun r11 h12 => ?_)
  refine a_iconst (v := nI 1) dX12_safe_145 (by decide) ?_
  refine a_iload dX12_safe_146 rfl ?_
  refine a_beq (tgt := 159) dX12_safe_148 (by decide) (fun _ => ?_) (fun _ => ?_)
  · skip
    refine a_aload_n dX12_safe_159 rfl ?_
    refine a_getR dX12_safe_160 fl_RX12_40 rfl g0 (fun r13 h14 => ?_)
    refine a_iconst (v := nI 1) dX12_safe_163 (by decide) ?_
    refine a_iald dX12_safe_164 h14 ?_
    exact AW.weak (Lw_so rfl (Lw_so rfl (Lw_so rfl (Lw_so rfl (Lw_so rfl (Lw_so rfl Lw_end)))))) (w_Mo_safe_165 hk29 hk40 _ _ _ _ _ _ _ _ _ _ g0 h12)
  · skip
    refine a_iload dX12_safe_151 rfl ?_
    refine a_bipush (v := nI 9) dX12_safe_153 (by decide) ?_
    refine a_idiv dX12_safe_155 ?_
    refine a_goto (tgt := 165) dX12_safe_156 (by decide) ?_
    exact AW.weak (Lw_so rfl (Lw_so rfl (Lw_so rfl (Lw_so rfl (Lw_so rfl (Lw_so rfl Lw_end)))))) (w_Mo_safe_165 hk29 hk40 _ _ _ _ _ _ _ _ _ _ g0 h12)
def f_Mo_safe_118 (S : ba_S) (k29 : Nat → Int32 → Int32 → Int32 → ba_M → Option (Int32 × ba_M)) (k40 : Nat → Int32 → Int32 → Int32 → Int32 → ba_M → Option (Int32 × ba_M)) (v0 : Nat) (v1 : Int32) (v2 : Int32) (v3 : Int32) (v4 : Int32) (s0 : Bool) (m : ba_M) : Option (Int32 × ba_M) :=
  (ldR S v0 19 20 fun r15 => (if s0 = true then (f_Mo_safe_140 S k29 k40 v0 v1 v2 v3 v4 s0 r15 false v3 m) else (ldR S v0 19 20 fun r17 => (bD S r17 (nI 0) (f_Mo_safe_140 S k29 k40 v0 v1 v2 v3 v4 s0 r15 false (gI m r17 ((nI 0)).toNatClampNeg) m)))))
set_option maxRecDepth 100000 in
theorem w_Mo_safe_118 {S : ba_S} {k29 : Nat → Int32 → Int32 → Int32 → ba_M → Option (Int32 × ba_M)} (hk29 : ∀ (v0 : Nat) (v1 : Int32) (v2 : Int32) (v3 : Int32) (m : ba_M), ck S v0 11 = true → AW (Y_Mo_safe S) 29 [some (aR (some v0)), some (aI v1), some (aI v2), some (aI v3), none, none] [] S m (k29 v0 v1 v2 v3 m)) {k40 : Nat → Int32 → Int32 → Int32 → Int32 → ba_M → Option (Int32 × ba_M)} (hk40 : ∀ (v0 : Nat) (v1 : Int32) (v2 : Int32) (v3 : Int32) (v4 : Int32) (m : ba_M), ck S v0 11 = true → AW (Y_Mo_safe S) 40 [some (aR (some v0)), some (aI v1), some (aI v2), some (aI v3), some (aI v4), none] [] S m (k40 v0 v1 v2 v3 v4 m)) : ∀ (v0 : Nat) (v1 : Int32) (v2 : Int32) (v3 : Int32) (v4 : Int32) (s0 : Bool) (m : ba_M), ck S v0 11 = true → AW (Y_Mo_safe S) 118 [some (aR (some v0)), some (aI v1), some (aI v2), some (aI v3), some (aI v4), none] [aI (b2i s0)] S m (f_Mo_safe_118 S k29 k40 v0 v1 v2 v3 v4 s0 m) := by
  intro v0 v1 v2 v3 v4 s0 m g0
  unfold f_Mo_safe_118
  refine a_istore dX12_safe_118 rfl rfl ?_
  refine a_aload_n dX12_safe_120 rfl ?_
  refine a_getR dX12_safe_121 fl_RX12_40 rfl g0 (fun r15 h16 => ?_)
  refine a_iconst (v := nI 0) dX12_safe_124 (by decide) ?_
  refine a_iload dX12_safe_125 rfl ?_
  refine a_beq (tgt := 134) dX12_safe_127 (by decide) (fun _ => ?_) (fun _ => ?_)
  · skip
    refine a_aload_n dX12_safe_134 rfl ?_
    refine a_getR dX12_safe_135 fl_RX12_40 rfl g0 (fun r17 h18 => ?_)
    refine a_iconst (v := nI 0) dX12_safe_138 (by decide) ?_
    refine a_iald dX12_safe_139 h18 ?_
    exact AW.weak (Lw_so rfl (Lw_so rfl (Lw_so rfl (Lw_so rfl (Lw_so rfl (Lw_so rfl Lw_end)))))) (w_Mo_safe_140 hk29 hk40 _ _ _ _ _ _ _ _ _ _ g0 h16)
  · skip
    refine a_iload_n dX12_safe_130 rfl ?_
    refine a_goto (tgt := 140) dX12_safe_131 (by decide) ?_
    exact AW.weak (Lw_so rfl (Lw_so rfl (Lw_so rfl (Lw_so rfl (Lw_so rfl (Lw_so rfl Lw_end)))))) (w_Mo_safe_140 hk29 hk40 _ _ _ _ _ _ _ _ _ _ g0 h16)
def f_Mo_safe_117 (S : ba_S) (k29 : Nat → Int32 → Int32 → Int32 → ba_M → Option (Int32 × ba_M)) (k40 : Nat → Int32 → Int32 → Int32 → Int32 → ba_M → Option (Int32 × ba_M)) (v0 : Nat) (v1 : Int32) (v2 : Int32) (v3 : Int32) (v4 : Int32) (m : ba_M) : Option (Int32 × ba_M) :=
  (f_Mo_safe_118 S k29 k40 v0 v1 v2 v3 v4 false m)
set_option maxRecDepth 100000 in
theorem w_Mo_safe_117 {S : ba_S} {k29 : Nat → Int32 → Int32 → Int32 → ba_M → Option (Int32 × ba_M)} (hk29 : ∀ (v0 : Nat) (v1 : Int32) (v2 : Int32) (v3 : Int32) (m : ba_M), ck S v0 11 = true → AW (Y_Mo_safe S) 29 [some (aR (some v0)), some (aI v1), some (aI v2), some (aI v3), none, none] [] S m (k29 v0 v1 v2 v3 m)) {k40 : Nat → Int32 → Int32 → Int32 → Int32 → ba_M → Option (Int32 × ba_M)} (hk40 : ∀ (v0 : Nat) (v1 : Int32) (v2 : Int32) (v3 : Int32) (v4 : Int32) (m : ba_M), ck S v0 11 = true → AW (Y_Mo_safe S) 40 [some (aR (some v0)), some (aI v1), some (aI v2), some (aI v3), some (aI v4), none] [] S m (k40 v0 v1 v2 v3 v4 m)) : ∀ (v0 : Nat) (v1 : Int32) (v2 : Int32) (v3 : Int32) (v4 : Int32) (m : ba_M), ck S v0 11 = true → AW (Y_Mo_safe S) 117 [some (aR (some v0)), some (aI v1), some (aI v2), some (aI v3), some (aI v4), none] [] S m (f_Mo_safe_117 S k29 k40 v0 v1 v2 v3 v4 m) := by
  intro v0 v1 v2 v3 v4 m g0
  unfold f_Mo_safe_117
  refine a_iconst (v := nI 0) dX12_safe_117 (by decide) ?_
  exact AW.weak (Lw_so rfl (Lw_so rfl (Lw_so rfl (Lw_so rfl (Lw_so rfl (Lw_no Lw_end)))))) (w_Mo_safe_118 hk29 hk40 _ _ _ _ _ _ _ g0)
def f_Mo_safe_113 (S : ba_S) (k29 : Nat → Int32 → Int32 → Int32 → ba_M → Option (Int32 × ba_M)) (k40 : Nat → Int32 → Int32 → Int32 → Int32 → ba_M → Option (Int32 × ba_M)) (v0 : Nat) (v1 : Int32) (v2 : Int32) (v3 : Int32) (v4 : Int32) (m : ba_M) : Option (Int32 × ba_M) :=
  (f_Mo_safe_118 S k29 k40 v0 v1 v2 v3 v4 true m)
set_option maxRecDepth 100000 in
theorem w_Mo_safe_113 {S : ba_S} {k29 : Nat → Int32 → Int32 → Int32 → ba_M → Option (Int32 × ba_M)} (hk29 : ∀ (v0 : Nat) (v1 : Int32) (v2 : Int32) (v3 : Int32) (m : ba_M), ck S v0 11 = true → AW (Y_Mo_safe S) 29 [some (aR (some v0)), some (aI v1), some (aI v2), some (aI v3), none, none] [] S m (k29 v0 v1 v2 v3 m)) {k40 : Nat → Int32 → Int32 → Int32 → Int32 → ba_M → Option (Int32 × ba_M)} (hk40 : ∀ (v0 : Nat) (v1 : Int32) (v2 : Int32) (v3 : Int32) (v4 : Int32) (m : ba_M), ck S v0 11 = true → AW (Y_Mo_safe S) 40 [some (aR (some v0)), some (aI v1), some (aI v2), some (aI v3), some (aI v4), none] [] S m (k40 v0 v1 v2 v3 v4 m)) : ∀ (v0 : Nat) (v1 : Int32) (v2 : Int32) (v3 : Int32) (v4 : Int32) (m : ba_M), ck S v0 11 = true → AW (Y_Mo_safe S) 113 [some (aR (some v0)), some (aI v1), some (aI v2), some (aI v3), some (aI v4), none] [] S m (f_Mo_safe_113 S k29 k40 v0 v1 v2 v3 v4 m) := by
  intro v0 v1 v2 v3 v4 m g0
  unfold f_Mo_safe_113
  refine a_iconst (v := nI 1) dX12_safe_113 (by decide) ?_
  refine a_goto (tgt := 118) dX12_safe_114 (by decide) ?_
  exact AW.weak (Lw_so rfl (Lw_so rfl (Lw_so rfl (Lw_so rfl (Lw_so rfl (Lw_no Lw_end)))))) (w_Mo_safe_118 hk29 hk40 _ _ _ _ _ _ _ g0)
def b_Mo_safe_40 (S : ba_S) (k29 : Nat → Int32 → Int32 → Int32 → ba_M → Option (Int32 × ba_M)) (k40 : Nat → Int32 → Int32 → Int32 → Int32 → ba_M → Option (Int32 × ba_M)) (v0 : Nat) (v1 : Int32) (v2 : Int32) (v3 : Int32) (v4 : Int32) (m : ba_M) : Option (Int32 × ba_M) :=
  (if v3 = v1 then (f_Mo_safe_228 S k29 v0 v1 v2 v3 m) else (if ((nI 9) * ((gI m v0 0) + (nI 1))) ≤ v4 then (f_Mo_safe_228 S k29 v0 v1 v2 v3 m) else (if (nI 9) = 0 then none else (if (nI 9) = 0 then none else ((f_Mo_goBy S v0 v3 (v4 / (nI 9)) ((nI 1) + (v4 - v4 / (nI 9) * (nI 9))) m).bind fun q19 => (if (gI q19 v0 18) = v1 then (f_Mo_safe_117 S k29 k40 v0 v1 v2 v3 v4 q19) else (ldR S v0 19 20 fun r20 => (bD S r20 (nI 0) (if (gI q19 r20 ((nI 0)).toNatClampNeg) = (-4 : Int32) then (f_Mo_safe_113 S k29 k40 v0 v1 v2 v3 v4 q19) else (ldR S v0 16 20 fun r22 => (bD S r22 (gI q19 v0 18) (ldR S v0 19 20 fun r24 => (bD S r24 (nI 3) (if (gI q19 r24 ((nI 3)).toNatClampNeg) ≤ (gI q19 r22 ((gI q19 v0 18)).toNatClampNeg) then (f_Mo_safe_117 S k29 k40 v0 v1 v2 v3 v4 q19) else (f_Mo_safe_113 S k29 k40 v0 v1 v2 v3 v4 q19)))))))))))))))
set_option maxRecDepth 100000 in
theorem w_Mo_safe_40 {S : ba_S} {k29 : Nat → Int32 → Int32 → Int32 → ba_M → Option (Int32 × ba_M)} (hk29 : ∀ (v0 : Nat) (v1 : Int32) (v2 : Int32) (v3 : Int32) (m : ba_M), ck S v0 11 = true → AW (Y_Mo_safe S) 29 [some (aR (some v0)), some (aI v1), some (aI v2), some (aI v3), none, none] [] S m (k29 v0 v1 v2 v3 m)) {k40 : Nat → Int32 → Int32 → Int32 → Int32 → ba_M → Option (Int32 × ba_M)} (hk40 : ∀ (v0 : Nat) (v1 : Int32) (v2 : Int32) (v3 : Int32) (v4 : Int32) (m : ba_M), ck S v0 11 = true → AW (Y_Mo_safe S) 40 [some (aR (some v0)), some (aI v1), some (aI v2), some (aI v3), some (aI v4), none] [] S m (k40 v0 v1 v2 v3 v4 m)) : ∀ (v0 : Nat) (v1 : Int32) (v2 : Int32) (v3 : Int32) (v4 : Int32) (m : ba_M), ck S v0 11 = true → AW (Y_Mo_safe S) 40 [some (aR (some v0)), some (aI v1), some (aI v2), some (aI v3), some (aI v4), none] [] S m (b_Mo_safe_40 S k29 k40 v0 v1 v2 v3 v4 m) := by
  intro v0 v1 v2 v3 v4 m g0
  unfold b_Mo_safe_40
  refine a_iload_n dX12_safe_40 rfl ?_
  refine a_iload_n dX12_safe_41 rfl ?_
  refine a_ieq (tgt := 228) dX12_safe_42 (by decide) (fun _ => ?_) (fun _ => ?_)
  · skip
    exact AW.weak (Lw_so rfl (Lw_so rfl (Lw_so rfl (Lw_so rfl (Lw_no (Lw_no Lw_end)))))) (w_Mo_safe_228 hk29 _ _ _ _ _ g0)
  · skip
    refine a_iload dX12_safe_45 rfl ?_
    refine a_bipush (v := nI 9) dX12_safe_47 (by decide) ?_
    refine a_aload_n dX12_safe_49 rfl ?_
    refine a_getI dX12_safe_50 fl_RX12_68 rfl g0 ?_
    refine a_iconst (v := nI 1) dX12_safe_53 (by decide) ?_
    refine a_iadd dX12_safe_54 ?_
    refine a_imul dX12_safe_55 ?_
    refine a_ige (tgt := 228) dX12_safe_56 (by decide) (fun _ => ?_) (fun _ => ?_)
    · skip
      exact AW.weak (Lw_so rfl (Lw_so rfl (Lw_so rfl (Lw_so rfl (Lw_no (Lw_no Lw_end)))))) (w_Mo_safe_228 hk29 _ _ _ _ _ g0)
    · skip
      refine a_aload_n dX12_safe_59 rfl ?_
      refine a_iload_n dX12_safe_60 rfl ?_
      refine a_iload dX12_safe_61 rfl ?_
      refine a_bipush (v := nI 9) dX12_safe_63 (by decide) ?_
      refine a_idiv dX12_safe_65 ?_
      refine a_iconst (v := nI 1) dX12_safe_66 (by decide) ?_
      refine a_iload dX12_safe_67 rfl ?_
      refine a_bipush (v := nI 9) dX12_safe_69 (by decide) ?_
      refine a_irem dX12_safe_71 ?_
      refine a_iadd dX12_safe_72 ?_
      refine a_callV_V dX12_safe_73 lk_RX12_174 mt_Mo_goBy vt_Mo_goBy ⟨_, rfl, rfl⟩ (fun _ h => m_Mo_goBy h) rfl rfl g0 ⟨rfl, rfl, rfl⟩ (fun q19 => ?_)
      refine a_aload_n dX12_safe_76 rfl ?_
      refine a_getI dX12_safe_77 fl_RX12_167 rfl g0 ?_
      refine a_iload_n dX12_safe_80 rfl ?_
      refine a_ieq (tgt := 117) dX12_safe_81 (by decide) (fun _ => ?_) (fun _ => ?_)
      · skip
        exact AW.weak (Lw_so rfl (Lw_so rfl (Lw_so rfl (Lw_so rfl (Lw_so rfl (Lw_no Lw_end)))))) (w_Mo_safe_117 hk29 hk40 _ _ _ _ _ _ g0)
      · skip
        refine a_aload_n dX12_safe_84 rfl ?_
        refine a_getR dX12_safe_85 fl_RX12_40 rfl g0 (fun r20 h21 => ?_)
        refine a_iconst (v := nI 0) dX12_safe_88 (by decide) ?_
        refine a_iald dX12_safe_89 h21 ?_
        refine a_bipush (v := -4) dX12_safe_90 (by decide) ?_
        refine a_ieq (tgt := 113) dX12_safe_92 (by decide) (fun _ => ?_) (fun _ => ?_)
        · skip
          exact AW.weak (Lw_so rfl (Lw_so rfl (Lw_so rfl (Lw_so rfl (Lw_so rfl (Lw_no Lw_end)))))) (w_Mo_safe_113 hk29 hk40 _ _ _ _ _ _ g0)
        · skip
          refine a_aload_n dX12_safe_95 rfl ?_
          refine a_getR dX12_safe_96 fl_RX12_34 rfl g0 (fun r22 h23 => ?_)
          refine a_aload_n dX12_safe_99 rfl ?_
          refine a_getI dX12_safe_100 fl_RX12_167 rfl g0 ?_
          refine a_iald dX12_safe_103 h23 ?_
          refine a_aload_n dX12_safe_104 rfl ?_
          refine a_getR dX12_safe_105 fl_RX12_40 rfl g0 (fun r24 h25 => ?_)
          refine a_iconst (v := nI 3) dX12_safe_108 (by decide) ?_
          refine a_iald dX12_safe_109 h25 ?_
          refine a_ige (tgt := 117) dX12_safe_110 (by decide) (fun _ => ?_) (fun _ => ?_)
          · skip
            exact AW.weak (Lw_so rfl (Lw_so rfl (Lw_so rfl (Lw_so rfl (Lw_so rfl (Lw_no Lw_end)))))) (w_Mo_safe_117 hk29 hk40 _ _ _ _ _ _ g0)
          · skip
            exact AW.weak (Lw_so rfl (Lw_so rfl (Lw_so rfl (Lw_so rfl (Lw_so rfl (Lw_no Lw_end)))))) (w_Mo_safe_113 hk29 hk40 _ _ _ _ _ _ g0)
def f_Mo_safe_40 (S : ba_S) (k29 : Nat → Int32 → Int32 → Int32 → ba_M → Option (Int32 × ba_M)) : Nat → Int32 → Int32 → Int32 → Int32 → ba_M → Option (Int32 × ba_M) := fx (fun _ _ _ _ _ _ => none) (b_Mo_safe_40 S k29) FU
theorem l_Mo_safe_40 {S : ba_S} {k29 : Nat → Int32 → Int32 → Int32 → ba_M → Option (Int32 × ba_M)} (hk29 : ∀ (v0 : Nat) (v1 : Int32) (v2 : Int32) (v3 : Int32) (m : ba_M), ck S v0 11 = true → AW (Y_Mo_safe S) 29 [some (aR (some v0)), some (aI v1), some (aI v2), some (aI v3), none, none] [] S m (k29 v0 v1 v2 v3 m)) : ∀ (n : Nat) (v0 : Nat) (v1 : Int32) (v2 : Int32) (v3 : Int32) (v4 : Int32) (m : ba_M), ck S v0 11 = true → AW (Y_Mo_safe S) 40 [some (aR (some v0)), some (aI v1), some (aI v2), some (aI v3), some (aI v4), none] [] S m ((fx (F := Nat → Int32 → Int32 → Int32 → Int32 → ba_M → Option (Int32 × ba_M)) (fun _ _ _ _ _ _ => none) (b_Mo_safe_40 S k29) n) v0 v1 v2 v3 v4 m) := by
  intro n
  induction n with
  | zero => intro _ _ _ _ _ _ _; exact AW.none
  | succ n ih => exact w_Mo_safe_40 hk29 ih
def b_Mo_safe_29 (S : ba_S) (k29 : Nat → Int32 → Int32 → Int32 → ba_M → Option (Int32 × ba_M)) (v0 : Nat) (v1 : Int32) (v2 : Int32) (v3 : Int32) (m : ba_M) : Option (Int32 × ba_M) :=
  (if (gI m v0 2) ≤ v3 then (ldR S v0 19 20 fun r26 => (bD S r26 (nI 0) (if (gI m r26 ((nI 0)).toNatClampNeg) = (-4 : Int32) then (f_Mo_safe_256 S (-4 : Int32) m) else (ldR S v0 19 20 fun r28 => (bD S r28 v2 (f_Mo_safe_256 S (gI m r28 (v2).toNatClampNeg) m)))))) else (f_Mo_safe_40 S k29 v0 v1 v2 v3 (nI 0) m))
set_option maxRecDepth 100000 in
theorem w_Mo_safe_29 {S : ba_S} {k29 : Nat → Int32 → Int32 → Int32 → ba_M → Option (Int32 × ba_M)} (hk29 : ∀ (v0 : Nat) (v1 : Int32) (v2 : Int32) (v3 : Int32) (m : ba_M), ck S v0 11 = true → AW (Y_Mo_safe S) 29 [some (aR (some v0)), some (aI v1), some (aI v2), some (aI v3), none, none] [] S m (k29 v0 v1 v2 v3 m)) : ∀ (v0 : Nat) (v1 : Int32) (v2 : Int32) (v3 : Int32) (m : ba_M), ck S v0 11 = true → AW (Y_Mo_safe S) 29 [some (aR (some v0)), some (aI v1), some (aI v2), some (aI v3), none, none] [] S m (b_Mo_safe_29 S k29 v0 v1 v2 v3 m) := by
  intro v0 v1 v2 v3 m g0
  unfold b_Mo_safe_29
  refine a_iload_n dX12_safe_29 rfl ?_
  refine a_aload_n dX12_safe_30 rfl ?_
  refine a_getI dX12_safe_31 fl_RX12_75 rfl g0 ?_
  refine a_ige (tgt := 234) dX12_safe_34 (by decide) (fun _ => ?_) (fun _ => ?_)
  · skip
    refine a_aload_n dX12_safe_234 rfl ?_
    refine a_getR dX12_safe_235 fl_RX12_40 rfl g0 (fun r26 h27 => ?_)
    refine a_iconst (v := nI 0) dX12_safe_238 (by decide) ?_
    refine a_iald dX12_safe_239 h27 ?_
    refine a_bipush (v := -4) dX12_safe_240 (by decide) ?_
    refine a_ine (tgt := 250) dX12_safe_242 (by decide) (fun _ => ?_) (fun _ => ?_)
    · skip
      refine a_aload_n dX12_safe_250 rfl ?_
      refine a_getR dX12_safe_251 fl_RX12_40 rfl g0 (fun r28 h29 => ?_)
      refine a_iload_n dX12_safe_254 rfl ?_
      refine a_iald dX12_safe_255 h29 ?_
      exact AW.weak (Lw_no (Lw_no (Lw_no (Lw_no (Lw_no (Lw_no Lw_end)))))) (w_Mo_safe_256 _ _)
    · skip
      refine a_bipush (v := -4) dX12_safe_245 (by decide) ?_
      refine a_goto (tgt := 256) dX12_safe_247 (by decide) ?_
      exact AW.weak (Lw_no (Lw_no (Lw_no (Lw_no (Lw_no (Lw_no Lw_end)))))) (w_Mo_safe_256 _ _)
  · skip
    refine a_iconst (v := nI 0) dX12_safe_37 (by decide) ?_
    refine a_istore dX12_safe_38 rfl rfl ?_
    exact AW.weak (Lw_so rfl (Lw_so rfl (Lw_so rfl (Lw_so rfl (Lw_so rfl (Lw_no Lw_end)))))) (l_Mo_safe_40 hk29 FU _ _ _ _ _ _ g0)
def f_Mo_safe_29 (S : ba_S) : Nat → Int32 → Int32 → Int32 → ba_M → Option (Int32 × ba_M) := fx (fun _ _ _ _ _ => none) (b_Mo_safe_29 S) FU
theorem l_Mo_safe_29 {S : ba_S} : ∀ (n : Nat) (v0 : Nat) (v1 : Int32) (v2 : Int32) (v3 : Int32) (m : ba_M), ck S v0 11 = true → AW (Y_Mo_safe S) 29 [some (aR (some v0)), some (aI v1), some (aI v2), some (aI v3), none, none] [] S m ((fx (F := Nat → Int32 → Int32 → Int32 → ba_M → Option (Int32 × ba_M)) (fun _ _ _ _ _ => none) (b_Mo_safe_29 S) n) v0 v1 v2 v3 m) := by
  intro n
  induction n with
  | zero => intro _ _ _ _ _ _; exact AW.none
  | succ n ih => exact w_Mo_safe_29 ih
def f_Mo_safe (S : ba_S) (a0 : Nat) (a1 : Int32) (a2 : Int32) (m : ba_M) : Option (Int32 × ba_M) :=
  cK S a0 11 (((f_Mo_isPlayer S a0 a1 m).bind fun q30 => (if q30.1 = true then ((f_Mo_in S a2 (nI 0) (nI 3) q30.2).bind fun q31 => (if q31.1 = true then (ldR S a0 19 20 fun r32 => (bD S r32 (nI 0) (f_Mo_safe_29 S a0 a1 a2 (nI 0) (wI q31.2 r32 ((nI 0)).toNatClampNeg (-4 : Int32))))) else (f_Mo_safe_17 S q31.2))) else (f_Mo_safe_17 S q30.2))))
set_option maxRecDepth 100000 in
theorem e_Mo_safe (S : ba_S) (a0 : Nat) (a1 : Int32) (a2 : Int32) (m : ba_M) : AW (Y_Mo_safe S) 0 [some (aR (some a0)), some (aI a1), some (aI a2), none, none, none] [] S m (f_Mo_safe S a0 a1 a2 m) := by
  unfold f_Mo_safe
  refine AW.ck (fun g0 => ?_)
  refine a_aload_n dX12_safe_0 rfl ?_
  refine a_iload_n dX12_safe_1 rfl ?_
  refine a_callV_Z dX12_safe_2 lk_RX12_150 mt_Mo_isPlayer vt_Mo_isPlayer ⟨_, rfl, rfl⟩ (fun _ h => m_Mo_isPlayer h) rfl rfl g0 ⟨rfl, rfl, rfl⟩ (fun q30 => ?_)
  refine a_beq (tgt := 17) dX12_safe_5 (by decide) (fun _ => ?_) (fun _ => ?_)
  · skip
    exact AW.weak (Lw_no (Lw_no (Lw_no (Lw_no (Lw_no (Lw_no Lw_end)))))) (w_Mo_safe_17 _)
  · skip
    refine a_iload_n dX12_safe_8 rfl ?_
    refine a_iconst (v := nI 0) dX12_safe_9 (by decide) ?_
    refine a_iconst (v := nI 3) dX12_safe_10 (by decide) ?_
    refine a_callS_Z dX12_safe_11 lk_RX12_84 mt_Mo_in sv_Mo_in (fun _ h => m_Mo_in h) rfl rfl ⟨rfl, rfl, rfl⟩ (fun q31 => ?_)
    refine a_bne (tgt := 19) dX12_safe_14 (by decide) (fun _ => ?_) (fun _ => ?_)
    · skip
      refine a_aload_n dX12_safe_19 rfl ?_
      refine a_getR dX12_safe_20 fl_RX12_40 rfl g0 (fun r32 h33 => ?_)
      refine a_iconst (v := nI 0) dX12_safe_23 (by decide) ?_
      refine a_bipush (v := -4) dX12_safe_24 (by decide) ?_
      refine a_iast dX12_safe_26 h33 ?_
      refine a_iconst (v := nI 0) dX12_safe_27 (by decide) ?_
      refine a_istore_n dX12_safe_28 rfl rfl ?_
      exact AW.weak (Lw_so rfl (Lw_so rfl (Lw_so rfl (Lw_so rfl (Lw_no (Lw_no Lw_end)))))) (l_Mo_safe_29 FU _ _ _ _ _ g0)
    · skip
      exact AW.weak (Lw_no (Lw_no (Lw_no (Lw_no (Lw_no (Lw_no Lw_end)))))) (w_Mo_safe_17 _)
theorem m_Mo_safe {S : ba_S} {a0 : Nat} {a1 : Int32} {a2 : Int32} {m : ba_M} {q : Int32 × ba_M} (h : f_Mo_safe S a0 a1 a2 m = some q) : MA (Y_Mo_safe S) yX12_safe (some .int) [aR (some a0), aI a1, aI a2] S m q :=
  ba_met ⟨by decide +kernel, rfl⟩ rfl (fun h => by cases h) (Or.inl ⟨rfl, rfl, _, rfl⟩) rfl (h ▸ e_Mo_safe S a0 a1 a2 m)

abbrev Y_Mo_run (S : ba_S) : ba_Y (Int32 × ba_M) := mI cX12_run RX12 10 4 100 S
def f_Mo_run_18 (S : ba_S) (m : ba_M) : Option (Int32 × ba_M) :=
  (some ((-1 : Int32), m))
set_option maxRecDepth 100000 in
theorem w_Mo_run_18 {S : ba_S} : ∀ (m : ba_M), AW (Y_Mo_run S) 18 [none, none, none, none, none, none, none, none, none, none] [] S m (f_Mo_run_18 S m) := by
  intro m
  unfold f_Mo_run_18
  refine a_iconst (v := -1) dX12_run_18 (by decide) ?_
  exact AW.ret dX12_run_19 rfl rfl
def f_Mo_run_163 (S : ba_S) (s0 : Int32) (m : ba_M) : Option (Int32 × ba_M) :=
  (some (s0, m))
set_option maxRecDepth 100000 in
theorem w_Mo_run_163 {S : ba_S} : ∀ (s0 : Int32) (m : ba_M), AW (Y_Mo_run S) 163 [none, none, none, none, none, none, none, none, none, none] [aI s0] S m (f_Mo_run_163 S s0 m) := by
  intro s0 m
  unfold f_Mo_run_163
  exact AW.ret dX12_run_163 rfl rfl
def f_Mo_run_132 (S : ba_S) (k42 : Nat → Int32 → Int32 → Int32 → Int32 → Int32 → Int32 → Int32 → ba_M → Option (Int32 × ba_M)) (v0 : Nat) (v1 : Int32) (v2 : Int32) (v3 : Int32) (v4 : Int32) (v5 : Int32) (v7 : Int32) (s0 : Int32) (m : ba_M) : Option (Int32 × ba_M) :=
  (k42 v0 v1 v2 v3 v4 v5 s0 (v7 + (nI 1)) m)
set_option maxRecDepth 100000 in
theorem w_Mo_run_132 {S : ba_S} {k42 : Nat → Int32 → Int32 → Int32 → Int32 → Int32 → Int32 → Int32 → ba_M → Option (Int32 × ba_M)} (hk42 : ∀ (v0 : Nat) (v1 : Int32) (v2 : Int32) (v3 : Int32) (v4 : Int32) (v5 : Int32) (v6 : Int32) (v7 : Int32) (m : ba_M), ck S v0 11 = true → AW (Y_Mo_run S) 42 [some (aR (some v0)), some (aI v1), some (aI v2), some (aI v3), some (aI v4), some (aI v5), some (aI v6), some (aI v7), none, none] [] S m (k42 v0 v1 v2 v3 v4 v5 v6 v7 m)) : ∀ (v0 : Nat) (v1 : Int32) (v2 : Int32) (v3 : Int32) (v4 : Int32) (v5 : Int32) (v7 : Int32) (s0 : Int32) (m : ba_M), ck S v0 11 = true → AW (Y_Mo_run S) 132 [some (aR (some v0)), some (aI v1), some (aI v2), some (aI v3), some (aI v4), some (aI v5), none, some (aI v7), none, none] [aI s0] S m (f_Mo_run_132 S k42 v0 v1 v2 v3 v4 v5 v7 s0 m) := by
  intro v0 v1 v2 v3 v4 v5 v7 s0 m g0
  unfold f_Mo_run_132
  refine a_istore dX12_run_132 rfl rfl ?_
  refine a_iinc (v := nI 1) dX12_run_134 rfl (by decide) rfl rfl ?_
  refine a_goto (tgt := 42) dX12_run_137 (by decide) ?_
  exact AW.weak (Lw_so rfl (Lw_so rfl (Lw_so rfl (Lw_so rfl (Lw_so rfl (Lw_so rfl (Lw_so rfl (Lw_so rfl (Lw_no (Lw_no Lw_end)))))))))) (hk42 _ _ _ _ _ _ _ _ _ g0)
def f_Mo_run_118 (S : ba_S) (k42 : Nat → Int32 → Int32 → Int32 → Int32 → Int32 → Int32 → Int32 → ba_M → Option (Int32 × ba_M)) (v0 : Nat) (v1 : Int32) (v2 : Int32) (v3 : Int32) (v4 : Int32) (v6 : Int32) (v7 : Int32) (v8 : Int32) (v9 : Bool) (s0 : Int32) (m : ba_M) : Option (Int32 × ba_M) :=
  (if v9 = true then (f_Mo_run_132 S k42 v0 v1 v2 v3 v4 s0 v7 v8 m) else (f_Mo_run_132 S k42 v0 v1 v2 v3 v4 s0 v7 v6 m))
set_option maxRecDepth 100000 in
theorem w_Mo_run_118 {S : ba_S} {k42 : Nat → Int32 → Int32 → Int32 → Int32 → Int32 → Int32 → Int32 → ba_M → Option (Int32 × ba_M)} (hk42 : ∀ (v0 : Nat) (v1 : Int32) (v2 : Int32) (v3 : Int32) (v4 : Int32) (v5 : Int32) (v6 : Int32) (v7 : Int32) (m : ba_M), ck S v0 11 = true → AW (Y_Mo_run S) 42 [some (aR (some v0)), some (aI v1), some (aI v2), some (aI v3), some (aI v4), some (aI v5), some (aI v6), some (aI v7), none, none] [] S m (k42 v0 v1 v2 v3 v4 v5 v6 v7 m)) : ∀ (v0 : Nat) (v1 : Int32) (v2 : Int32) (v3 : Int32) (v4 : Int32) (v6 : Int32) (v7 : Int32) (v8 : Int32) (v9 : Bool) (s0 : Int32) (m : ba_M), ck S v0 11 = true → AW (Y_Mo_run S) 118 [some (aR (some v0)), some (aI v1), some (aI v2), some (aI v3), some (aI v4), none, some (aI v6), some (aI v7), some (aI v8), some (aI (b2i v9))] [aI s0] S m (f_Mo_run_118 S k42 v0 v1 v2 v3 v4 v6 v7 v8 v9 s0 m) := by
  intro v0 v1 v2 v3 v4 v6 v7 v8 v9 s0 m g0
  unfold f_Mo_run_118
  refine a_istore dX12_run_118 rfl rfl ?_
  refine a_iload dX12_run_120 rfl ?_
  refine a_beq (tgt := 130) dX12_run_122 (by decide) (fun _ => ?_) (fun _ => ?_)
  · skip
    refine a_iload dX12_run_130 rfl ?_
    exact AW.weak (Lw_so rfl (Lw_so rfl (Lw_so rfl (Lw_so rfl (Lw_so rfl (Lw_so rfl (Lw_no (Lw_so rfl (Lw_no (Lw_no Lw_end)))))))))) (w_Mo_run_132 hk42 _ _ _ _ _ _ _ _ _ g0)
  · skip
    refine a_iload dX12_run_125 rfl ?_
    refine a_goto (tgt := 132) dX12_run_127 (by decide) ?_
    exact AW.weak (Lw_so rfl (Lw_so rfl (Lw_so rfl (Lw_so rfl (Lw_so rfl (Lw_so rfl (Lw_no (Lw_so rfl (Lw_no (Lw_no Lw_end)))))))))) (w_Mo_run_132 hk42 _ _ _ _ _ _ _ _ _ g0)
def f_Mo_run_104 (S : ba_S) (k42 : Nat → Int32 → Int32 → Int32 → Int32 → Int32 → Int32 → Int32 → ba_M → Option (Int32 × ba_M)) (v0 : Nat) (v1 : Int32) (v2 : Int32) (v3 : Int32) (v4 : Int32) (v5 : Int32) (v6 : Int32) (v7 : Int32) (v8 : Int32) (s0 : Bool) (m : ba_M) : Option (Int32 × ba_M) :=
  (if s0 = true then (f_Mo_run_118 S k42 v0 v1 v2 v3 v4 v6 v7 v8 s0 v7 m) else (f_Mo_run_118 S k42 v0 v1 v2 v3 v4 v6 v7 v8 s0 v5 m))
set_option maxRecDepth 100000 in
theorem w_Mo_run_104 {S : ba_S} {k42 : Nat → Int32 → Int32 → Int32 → Int32 → Int32 → Int32 → Int32 → ba_M → Option (Int32 × ba_M)} (hk42 : ∀ (v0 : Nat) (v1 : Int32) (v2 : Int32) (v3 : Int32) (v4 : Int32) (v5 : Int32) (v6 : Int32) (v7 : Int32) (m : ba_M), ck S v0 11 = true → AW (Y_Mo_run S) 42 [some (aR (some v0)), some (aI v1), some (aI v2), some (aI v3), some (aI v4), some (aI v5), some (aI v6), some (aI v7), none, none] [] S m (k42 v0 v1 v2 v3 v4 v5 v6 v7 m)) : ∀ (v0 : Nat) (v1 : Int32) (v2 : Int32) (v3 : Int32) (v4 : Int32) (v5 : Int32) (v6 : Int32) (v7 : Int32) (v8 : Int32) (s0 : Bool) (m : ba_M), ck S v0 11 = true → AW (Y_Mo_run S) 104 [some (aR (some v0)), some (aI v1), some (aI v2), some (aI v3), some (aI v4), some (aI v5), some (aI v6), some (aI v7), some (aI v8), none] [aI (b2i s0)] S m (f_Mo_run_104 S k42 v0 v1 v2 v3 v4 v5 v6 v7 v8 s0 m) := by
  intro v0 v1 v2 v3 v4 v5 v6 v7 v8 s0 m g0
  unfold f_Mo_run_104
  refine a_istore dX12_run_104 rfl rfl ?_
  refine a_iload dX12_run_106 rfl ?_
  refine a_beq (tgt := 116) dX12_run_108 (by decide) (fun _ => ?_) (fun _ => ?_)
  · skip
    refine a_iload dX12_run_116 rfl ?_
    exact AW.weak (Lw_so rfl (Lw_so rfl (Lw_so rfl (Lw_so rfl (Lw_so rfl (Lw_no (Lw_so rfl (Lw_so rfl (Lw_so rfl (Lw_so rfl Lw_end)))))))))) (w_Mo_run_118 hk42 _ _ _ _ _ _ _ _ _ _ _ g0)
  · skip
    refine a_iload dX12_run_111 rfl ?_
    refine a_goto (tgt := 118) dX12_run_113 (by decide) ?_
    exact AW.weak (Lw_so rfl (Lw_so rfl (Lw_so rfl (Lw_so rfl (Lw_so rfl (Lw_no (Lw_so rfl (Lw_so rfl (Lw_so rfl (Lw_so rfl Lw_end)))))))))) (w_Mo_run_118 hk42 _ _ _ _ _ _ _ _ _ _ _ g0)
def f_Mo_run_99 (S : ba_S) (k42 : Nat → Int32 → Int32 → Int32 → Int32 → Int32 → Int32 → Int32 → ba_M → Option (Int32 × ba_M)) (v0 : Nat) (v1 : Int32) (v2 : Int32) (v3 : Int32) (v4 : Int32) (v5 : Int32) (v6 : Int32) (v7 : Int32) (v8 : Int32) (m : ba_M) : Option (Int32 × ba_M) :=
  (f_Mo_run_104 S k42 v0 v1 v2 v3 v4 v5 v6 v7 v8 true m)
set_option maxRecDepth 100000 in
theorem w_Mo_run_99 {S : ba_S} {k42 : Nat → Int32 → Int32 → Int32 → Int32 → Int32 → Int32 → Int32 → ba_M → Option (Int32 × ba_M)} (hk42 : ∀ (v0 : Nat) (v1 : Int32) (v2 : Int32) (v3 : Int32) (v4 : Int32) (v5 : Int32) (v6 : Int32) (v7 : Int32) (m : ba_M), ck S v0 11 = true → AW (Y_Mo_run S) 42 [some (aR (some v0)), some (aI v1), some (aI v2), some (aI v3), some (aI v4), some (aI v5), some (aI v6), some (aI v7), none, none] [] S m (k42 v0 v1 v2 v3 v4 v5 v6 v7 m)) : ∀ (v0 : Nat) (v1 : Int32) (v2 : Int32) (v3 : Int32) (v4 : Int32) (v5 : Int32) (v6 : Int32) (v7 : Int32) (v8 : Int32) (m : ba_M), ck S v0 11 = true → AW (Y_Mo_run S) 99 [some (aR (some v0)), some (aI v1), some (aI v2), some (aI v3), some (aI v4), some (aI v5), some (aI v6), some (aI v7), some (aI v8), none] [] S m (f_Mo_run_99 S k42 v0 v1 v2 v3 v4 v5 v6 v7 v8 m) := by
  intro v0 v1 v2 v3 v4 v5 v6 v7 v8 m g0
  unfold f_Mo_run_99
  refine a_iconst (v := nI 1) dX12_run_99 (by decide) ?_
  refine a_goto (tgt := 104) dX12_run_100 (by decide) ?_
  exact AW.weak (Lw_so rfl (Lw_so rfl (Lw_so rfl (Lw_so rfl (Lw_so rfl (Lw_so rfl (Lw_so rfl (Lw_so rfl (Lw_so rfl (Lw_no Lw_end)))))))))) (w_Mo_run_104 hk42 _ _ _ _ _ _ _ _ _ _ _ g0)
def f_Mo_run_83 (S : ba_S) (k42 : Nat → Int32 → Int32 → Int32 → Int32 → Int32 → Int32 → Int32 → ba_M → Option (Int32 × ba_M)) (v0 : Nat) (v1 : Int32) (v2 : Int32) (v3 : Int32) (v4 : Int32) (v5 : Int32) (v6 : Int32) (v7 : Int32) (s0 : Int32) (m : ba_M) : Option (Int32 × ba_M) :=
  (if v5 = (-4 : Int32) then (f_Mo_run_99 S k42 v0 v1 v2 v3 v4 v5 v6 v7 s0 m) else (if v6 ≤ s0 then (f_Mo_run_104 S k42 v0 v1 v2 v3 v4 v5 v6 v7 s0 false m) else (f_Mo_run_99 S k42 v0 v1 v2 v3 v4 v5 v6 v7 s0 m)))
set_option maxRecDepth 100000 in
theorem w_Mo_run_83 {S : ba_S} {k42 : Nat → Int32 → Int32 → Int32 → Int32 → Int32 → Int32 → Int32 → ba_M → Option (Int32 × ba_M)} (hk42 : ∀ (v0 : Nat) (v1 : Int32) (v2 : Int32) (v3 : Int32) (v4 : Int32) (v5 : Int32) (v6 : Int32) (v7 : Int32) (m : ba_M), ck S v0 11 = true → AW (Y_Mo_run S) 42 [some (aR (some v0)), some (aI v1), some (aI v2), some (aI v3), some (aI v4), some (aI v5), some (aI v6), some (aI v7), none, none] [] S m (k42 v0 v1 v2 v3 v4 v5 v6 v7 m)) : ∀ (v0 : Nat) (v1 : Int32) (v2 : Int32) (v3 : Int32) (v4 : Int32) (v5 : Int32) (v6 : Int32) (v7 : Int32) (s0 : Int32) (m : ba_M), ck S v0 11 = true → AW (Y_Mo_run S) 83 [some (aR (some v0)), some (aI v1), some (aI v2), some (aI v3), some (aI v4), some (aI v5), some (aI v6), some (aI v7), none, none] [aI s0] S m (f_Mo_run_83 S k42 v0 v1 v2 v3 v4 v5 v6 v7 s0 m) := by
  intro v0 v1 v2 v3 v4 v5 v6 v7 s0 m g0
  unfold f_Mo_run_83
  refine a_istore dX12_run_83 rfl rfl ?_
  refine a_iload dX12_run_85 rfl ?_
  refine a_bipush (v := -4) dX12_run_87 (by decide) ?_
  refine a_ieq (tgt := 99) dX12_run_89 (by decide) (fun _ => ?_) (fun _ => ?_)
  · skip
    exact AW.weak (Lw_so rfl (Lw_so rfl (Lw_so rfl (Lw_so rfl (Lw_so rfl (Lw_so rfl (Lw_so rfl (Lw_so rfl (Lw_so rfl (Lw_no Lw_end)))))))))) (w_Mo_run_99 hk42 _ _ _ _ _ _ _ _ _ _ g0)
  · skip
    refine a_iload dX12_run_92 rfl ?_
    refine a_iload dX12_run_94 rfl ?_
    refine a_ige (tgt := 103) dX12_run_96 (by decide) (fun _ => ?_) (fun _ => ?_)
    · skip
      refine a_iconst (v := nI 0) dX12_run_103 (by decide) ?_
      exact AW.weak (Lw_so rfl (Lw_so rfl (Lw_so rfl (Lw_so rfl (Lw_so rfl (Lw_so rfl (Lw_so rfl (Lw_so rfl (Lw_so rfl (Lw_no Lw_end)))))))))) (w_Mo_run_104 hk42 _ _ _ _ _ _ _ _ _ _ _ g0)
    · skip
      exact AW.weak (Lw_so rfl (Lw_so rfl (Lw_so rfl (Lw_so rfl (Lw_so rfl (Lw_so rfl (Lw_so rfl (Lw_so rfl (Lw_so rfl (Lw_no Lw_end)))))))))) (w_Mo_run_99 hk42 _ _ _ _ _ _ _ _ _ _ g0)
def b_Mo_run_42 (S : ba_S) (k42 : Nat → Int32 → Int32 → Int32 → Int32 → Int32 → Int32 → Int32 → ba_M → Option (Int32 × ba_M)) (v0 : Nat) (v1 : Int32) (v2 : Int32) (v3 : Int32) (v4 : Int32) (v5 : Int32) (v6 : Int32) (v7 : Int32) (m : ba_M) : Option (Int32 × ba_M) :=
  (if (nI 3) < v7 then (ldR S v0 3 20 fun r1 => (bD S r1 (((nI 5) * v2) + (nI 4)) (if v3 = 0 then (f_Mo_run_163 S v5 (wI m r1 ((((nI 5) * v2) + (nI 4))).toNatClampNeg v4)) else (f_Mo_run_163 S v6 (wI m r1 ((((nI 5) * v2) + (nI 4))).toNatClampNeg v4))))) else (ldR S v0 3 20 fun r3 => (bD S r3 (((nI 5) * v2) + (nI 4)) ((f_Mo_go S v0 v1 (wI m r3 ((((nI 5) * v2) + (nI 4))).toNatClampNeg v7)).bind fun q5 => (if (gI q5 v0 18) = v2 then (ldR S v0 16 20 fun r6 => (bD S r6 v2 (f_Mo_run_83 S k42 v0 v1 v2 v3 v4 v5 v6 v7 (gI q5 r6 (v2).toNatClampNeg) q5))) else (f_Mo_run_83 S k42 v0 v1 v2 v3 v4 v5 v6 v7 (nI 0) q5))))))
set_option maxRecDepth 100000 in
theorem w_Mo_run_42 {S : ba_S} {k42 : Nat → Int32 → Int32 → Int32 → Int32 → Int32 → Int32 → Int32 → ba_M → Option (Int32 × ba_M)} (hk42 : ∀ (v0 : Nat) (v1 : Int32) (v2 : Int32) (v3 : Int32) (v4 : Int32) (v5 : Int32) (v6 : Int32) (v7 : Int32) (m : ba_M), ck S v0 11 = true → AW (Y_Mo_run S) 42 [some (aR (some v0)), some (aI v1), some (aI v2), some (aI v3), some (aI v4), some (aI v5), some (aI v6), some (aI v7), none, none] [] S m (k42 v0 v1 v2 v3 v4 v5 v6 v7 m)) : ∀ (v0 : Nat) (v1 : Int32) (v2 : Int32) (v3 : Int32) (v4 : Int32) (v5 : Int32) (v6 : Int32) (v7 : Int32) (m : ba_M), ck S v0 11 = true → AW (Y_Mo_run S) 42 [some (aR (some v0)), some (aI v1), some (aI v2), some (aI v3), some (aI v4), some (aI v5), some (aI v6), some (aI v7), none, none] [] S m (b_Mo_run_42 S k42 v0 v1 v2 v3 v4 v5 v6 v7 m) := by
  intro v0 v1 v2 v3 v4 v5 v6 v7 m g0
  unfold b_Mo_run_42
  refine a_iload dX12_run_42 rfl ?_
  refine a_iconst (v := nI 3) dX12_run_44 (by decide) ?_
  refine a_igt (tgt := 140) dX12_run_45 (by decide) (fun _ => ?_) (fun _ => ?_)
  · skip
    refine a_aload_n dX12_run_140 rfl ?_
    refine a_getR dX12_run_141 fl_RX12_7 rfl g0 (fun r1 h2 => ?_)
    refine a_iconst (v := nI 5) dX12_run_144 (by decide) ?_
    refine a_iload_n dX12_run_145 rfl ?_
    refine a_imul dX12_run_146 ?_
    refine a_iconst (v := nI 4) dX12_run_147 (by decide) ?_
    refine a_iadd dX12_run_148 ?_
    refine a_iload dX12_run_149 rfl ?_
    refine a_iast dX12_run_151 h2 ?_
    refine a_iload_n dX12_run_152 rfl ?_
    refine a_zne (tgt := 161) dX12_run_153 (by decide) (fun _ => ?_) (fun _ => ?_)
    · skip
      refine a_iload dX12_run_161 rfl ?_
      exact AW.weak (Lw_no (Lw_no (Lw_no (Lw_no (Lw_no (Lw_no (Lw_no (Lw_no (Lw_no (Lw_no Lw_end)))))))))) (w_Mo_run_163 _ _)
    · skip
      refine a_iload dX12_run_156 rfl ?_
      refine a_goto (tgt := 163) dX12_run_158 (by decide) ?_
      exact AW.weak (Lw_no (Lw_no (Lw_no (Lw_no (Lw_no (Lw_no (Lw_no (Lw_no (Lw_no (Lw_no Lw_end)))))))))) (w_Mo_run_163 _ _)
  · skip
    refine a_aload_n dX12_run_48 rfl ?_
    refine a_getR dX12_run_49 fl_RX12_7 rfl g0 (fun r3 h4 => ?_)
    refine a_iconst (v := nI 5) dX12_run_52 (by decide) ?_
    refine a_iload_n dX12_run_53 rfl ?_
    refine a_imul dX12_run_54 ?_
    refine a_iconst (v := nI 4) dX12_run_55 (by decide) ?_
    refine a_iadd dX12_run_56 ?_
    refine a_iload dX12_run_57 rfl ?_
    refine a_iast dX12_run_59 h4 ?_
    refine a_aload_n dX12_run_60 rfl ?_
    refine a_iload_n dX12_run_61 rfl ?_
    refine a_callV_V dX12_run_62 lk_RX12_177 mt_Mo_go vt_Mo_go ⟨_, rfl, rfl⟩ (fun _ h => m_Mo_go h) rfl rfl g0 ⟨rfl, rfl, rfl⟩ (fun q5 => ?_)
    refine a_aload_n dX12_run_65 rfl ?_
    refine a_getI dX12_run_66 fl_RX12_167 rfl g0 ?_
    refine a_iload_n dX12_run_69 rfl ?_
    refine a_ine (tgt := 82) dX12_run_70 (by decide) (fun _ => ?_) (fun _ => ?_)
    · skip
      refine a_iconst (v := nI 0) dX12_run_82 (by decide) ?_
      exact AW.weak (Lw_so rfl (Lw_so rfl (Lw_so rfl (Lw_so rfl (Lw_so rfl (Lw_so rfl (Lw_so rfl (Lw_so rfl (Lw_no (Lw_no Lw_end)))))))))) (w_Mo_run_83 hk42 _ _ _ _ _ _ _ _ _ _ g0)
    · skip
      refine a_aload_n dX12_run_73 rfl ?_
      refine a_getR dX12_run_74 fl_RX12_34 rfl g0 (fun r6 h7 => ?_)
      refine a_iload_n dX12_run_77 rfl ?_
      refine a_iald dX12_run_78 h7 ?_
      refine a_goto (tgt := 83) dX12_run_79 (by decide) ?_
      exact AW.weak (Lw_so rfl (Lw_so rfl (Lw_so rfl (Lw_so rfl (Lw_so rfl (Lw_so rfl (Lw_so rfl (Lw_so rfl (Lw_no (Lw_no Lw_end)))))))))) (w_Mo_run_83 hk42 _ _ _ _ _ _ _ _ _ _ g0)
def f_Mo_run_42 (S : ba_S) : Nat → Int32 → Int32 → Int32 → Int32 → Int32 → Int32 → Int32 → ba_M → Option (Int32 × ba_M) := fx (fun _ _ _ _ _ _ _ _ _ => none) (b_Mo_run_42 S) FU
theorem l_Mo_run_42 {S : ba_S} : ∀ (n : Nat) (v0 : Nat) (v1 : Int32) (v2 : Int32) (v3 : Int32) (v4 : Int32) (v5 : Int32) (v6 : Int32) (v7 : Int32) (m : ba_M), ck S v0 11 = true → AW (Y_Mo_run S) 42 [some (aR (some v0)), some (aI v1), some (aI v2), some (aI v3), some (aI v4), some (aI v5), some (aI v6), some (aI v7), none, none] [] S m ((fx (F := Nat → Int32 → Int32 → Int32 → Int32 → Int32 → Int32 → Int32 → ba_M → Option (Int32 × ba_M)) (fun _ _ _ _ _ _ _ _ _ => none) (b_Mo_run_42 S) n) v0 v1 v2 v3 v4 v5 v6 v7 m) := by
  intro n
  induction n with
  | zero => intro _ _ _ _ _ _ _ _ _ _; exact AW.none
  | succ n ih => exact w_Mo_run_42 ih
def f_Mo_run (S : ba_S) (a0 : Nat) (a1 : Int32) (a2 : Int32) (a3 : Int32) (m : ba_M) : Option (Int32 × ba_M) :=
  cK S a0 11 (((f_Mo_areApart S a0 a1 a2 m).bind fun q8 => (if q8.1 = true then ((f_Mo_in S a3 (nI 0) (nI 1) q8.2).bind fun q9 => (if q9.1 = true then (ldR S a0 3 20 fun r10 => (bD S r10 (((nI 5) * a2) + (nI 4)) (f_Mo_run_42 S a0 a1 a2 a3 (gI q9.2 r10 ((((nI 5) * a2) + (nI 4))).toNatClampNeg) (-4 : Int32) (nI 0) (nI 0) q9.2))) else (f_Mo_run_18 S q9.2))) else (f_Mo_run_18 S q8.2))))
set_option maxRecDepth 100000 in
theorem e_Mo_run (S : ba_S) (a0 : Nat) (a1 : Int32) (a2 : Int32) (a3 : Int32) (m : ba_M) : AW (Y_Mo_run S) 0 [some (aR (some a0)), some (aI a1), some (aI a2), some (aI a3), none, none, none, none, none, none] [] S m (f_Mo_run S a0 a1 a2 a3 m) := by
  unfold f_Mo_run
  refine AW.ck (fun g0 => ?_)
  refine a_aload_n dX12_run_0 rfl ?_
  refine a_iload_n dX12_run_1 rfl ?_
  refine a_iload_n dX12_run_2 rfl ?_
  refine a_callV_Z dX12_run_3 lk_RX12_181 mt_Mo_areApart vt_Mo_areApart ⟨_, rfl, rfl⟩ (fun _ h => m_Mo_areApart h) rfl rfl g0 ⟨rfl, rfl, rfl⟩ (fun q8 => ?_)
  refine a_beq (tgt := 18) dX12_run_6 (by decide) (fun _ => ?_) (fun _ => ?_)
  · skip
    exact AW.weak (Lw_no (Lw_no (Lw_no (Lw_no (Lw_no (Lw_no (Lw_no (Lw_no (Lw_no (Lw_no Lw_end)))))))))) (w_Mo_run_18 _)
  · skip
    refine a_iload_n dX12_run_9 rfl ?_
    refine a_iconst (v := nI 0) dX12_run_10 (by decide) ?_
    refine a_iconst (v := nI 1) dX12_run_11 (by decide) ?_
    refine a_callS_Z dX12_run_12 lk_RX12_84 mt_Mo_in sv_Mo_in (fun _ h => m_Mo_in h) rfl rfl ⟨rfl, rfl, rfl⟩ (fun q9 => ?_)
    refine a_bne (tgt := 20) dX12_run_15 (by decide) (fun _ => ?_) (fun _ => ?_)
    · skip
      refine a_aload_n dX12_run_20 rfl ?_
      refine a_getR dX12_run_21 fl_RX12_7 rfl g0 (fun r10 h11 => ?_)
      refine a_iconst (v := nI 5) dX12_run_24 (by decide) ?_
      refine a_iload_n dX12_run_25 rfl ?_
      refine a_imul dX12_run_26 ?_
      refine a_iconst (v := nI 4) dX12_run_27 (by decide) ?_
      refine a_iadd dX12_run_28 ?_
      refine a_iald dX12_run_29 h11 ?_
      refine a_istore dX12_run_30 rfl rfl ?_
      refine a_bipush (v := -4) dX12_run_32 (by decide) ?_
      refine a_istore dX12_run_34 rfl rfl ?_
      refine a_iconst (v := nI 0) dX12_run_36 (by decide) ?_
      refine a_istore dX12_run_37 rfl rfl ?_
      refine a_iconst (v := nI 0) dX12_run_39 (by decide) ?_
      refine a_istore dX12_run_40 rfl rfl ?_
      exact AW.weak (Lw_so rfl (Lw_so rfl (Lw_so rfl (Lw_so rfl (Lw_so rfl (Lw_so rfl (Lw_so rfl (Lw_so rfl (Lw_no (Lw_no Lw_end)))))))))) (l_Mo_run_42 FU _ _ _ _ _ _ _ _ _ g0)
    · skip
      exact AW.weak (Lw_no (Lw_no (Lw_no (Lw_no (Lw_no (Lw_no (Lw_no (Lw_no (Lw_no (Lw_no Lw_end)))))))))) (w_Mo_run_18 _)
theorem m_Mo_run {S : ba_S} {a0 : Nat} {a1 : Int32} {a2 : Int32} {a3 : Int32} {m : ba_M} {q : Int32 × ba_M} (h : f_Mo_run S a0 a1 a2 a3 m = some q) : MA (Y_Mo_run S) yX12_run (some .int) [aR (some a0), aI a1, aI a2, aI a3] S m q :=
  ba_met ⟨by decide +kernel, rfl⟩ rfl (fun h => by cases h) (Or.inl ⟨rfl, rfl, _, rfl⟩) rfl (h ▸ e_Mo_run S a0 a1 a2 a3 m)

abbrev Y_Mo_codeOf (S : ba_S) : ba_Y (Int32 × ba_M) := mI cX12_codeOf RX12 3 0 0 S
def b_Mo_codeOf_9 (S : ba_S) (k9 : Nat → Int32 → Int32 → ba_M → Option (Int32 × ba_M)) (v0 : Nat) (v1 : Int32) (v2 : Int32) (m : ba_M) : Option (Int32 × ba_M) :=
  (if v2 < 0 then (some (v1, m)) else (ldR S v0 4 20 fun r1 => (bD S r1 ((nI 15) + v2) (k9 v0 (((nI 4) * v1) + (gI m r1 (((nI 15) + v2)).toNatClampNeg)) (v2 + (-1 : Int32)) m))))
set_option maxRecDepth 100000 in
theorem w_Mo_codeOf_9 {S : ba_S} {k9 : Nat → Int32 → Int32 → ba_M → Option (Int32 × ba_M)} (hk9 : ∀ (v0 : Nat) (v1 : Int32) (v2 : Int32) (m : ba_M), ck S v0 11 = true → AW (Y_Mo_codeOf S) 9 [some (aR (some v0)), some (aI v1), some (aI v2)] [] S m (k9 v0 v1 v2 m)) : ∀ (v0 : Nat) (v1 : Int32) (v2 : Int32) (m : ba_M), ck S v0 11 = true → AW (Y_Mo_codeOf S) 9 [some (aR (some v0)), some (aI v1), some (aI v2)] [] S m (b_Mo_codeOf_9 S k9 v0 v1 v2 m) := by
  intro v0 v1 v2 m g0
  unfold b_Mo_codeOf_9
  refine a_iload_n dX12_codeOf_9 rfl ?_
  refine a_zlt (tgt := 33) dX12_codeOf_10 (by decide) (fun _ => ?_) (fun _ => ?_)
  · skip
    refine a_iload_n dX12_codeOf_33 rfl ?_
    exact AW.ret dX12_codeOf_34 rfl rfl
  · skip
    refine a_iconst (v := nI 4) dX12_codeOf_13 (by decide) ?_
    refine a_iload_n dX12_codeOf_14 rfl ?_
    refine a_imul dX12_codeOf_15 ?_
    refine a_aload_n dX12_codeOf_16 rfl ?_
    refine a_getR dX12_codeOf_17 fl_RX12_13 rfl g0 (fun r1 h2 => ?_)
    refine a_bipush (v := nI 15) dX12_codeOf_20 (by decide) ?_
    refine a_iload_n dX12_codeOf_22 rfl ?_
    refine a_iadd dX12_codeOf_23 ?_
    refine a_iald dX12_codeOf_24 h2 ?_
    refine a_iadd dX12_codeOf_25 ?_
    refine a_istore_n dX12_codeOf_26 rfl rfl ?_
    refine a_iinc (v := -1) dX12_codeOf_27 rfl (by decide) rfl rfl ?_
    refine a_goto (tgt := 9) dX12_codeOf_30 (by decide) ?_
    exact AW.weak (Lw_so rfl (Lw_so rfl (Lw_so rfl Lw_end))) (hk9 _ _ _ _ g0)
def f_Mo_codeOf_9 (S : ba_S) : Nat → Int32 → Int32 → ba_M → Option (Int32 × ba_M) := fx (fun _ _ _ _ => none) (b_Mo_codeOf_9 S) FU
theorem l_Mo_codeOf_9 {S : ba_S} : ∀ (n : Nat) (v0 : Nat) (v1 : Int32) (v2 : Int32) (m : ba_M), ck S v0 11 = true → AW (Y_Mo_codeOf S) 9 [some (aR (some v0)), some (aI v1), some (aI v2)] [] S m ((fx (F := Nat → Int32 → Int32 → ba_M → Option (Int32 × ba_M)) (fun _ _ _ _ => none) (b_Mo_codeOf_9 S) n) v0 v1 v2 m) := by
  intro n
  induction n with
  | zero => intro _ _ _ _ _; exact AW.none
  | succ n ih => exact w_Mo_codeOf_9 ih
def f_Mo_codeOf (S : ba_S) (a0 : Nat) (m : ba_M) : Option (Int32 × ba_M) :=
  cK S a0 11 ((f_Mo_codeOf_9 S a0 (nI 0) ((gI m a0 2) - (nI 1)) m))
set_option maxRecDepth 100000 in
theorem e_Mo_codeOf (S : ba_S) (a0 : Nat) (m : ba_M) : AW (Y_Mo_codeOf S) 0 [some (aR (some a0)), none, none] [] S m (f_Mo_codeOf S a0 m) := by
  unfold f_Mo_codeOf
  refine AW.ck (fun g0 => ?_)
  refine a_iconst (v := nI 0) dX12_codeOf_0 (by decide) ?_
  refine a_istore_n dX12_codeOf_1 rfl rfl ?_
  refine a_aload_n dX12_codeOf_2 rfl ?_
  refine a_getI dX12_codeOf_3 fl_RX12_75 rfl g0 ?_
  refine a_iconst (v := nI 1) dX12_codeOf_6 (by decide) ?_
  refine a_isub dX12_codeOf_7 ?_
  refine a_istore_n dX12_codeOf_8 rfl rfl ?_
  exact AW.weak (Lw_so rfl (Lw_so rfl (Lw_so rfl Lw_end))) (l_Mo_codeOf_9 FU _ _ _ _ g0)
theorem m_Mo_codeOf {S : ba_S} {a0 : Nat} {m : ba_M} {q : Int32 × ba_M} (h : f_Mo_codeOf S a0 m = some q) : MA (Y_Mo_codeOf S) yX12_codeOf (some .int) [aR (some a0)] S m q :=
  ba_met ⟨by decide +kernel, rfl⟩ rfl (fun h => by cases h) (Or.inl ⟨rfl, rfl, _, rfl⟩) rfl (h ▸ e_Mo_codeOf S a0 m)

abbrev Y_Mo_left (S : ba_S) : ba_Y (Int32 × ba_M) := mI cX12_left RX12 4 0 0 S
def b_Mo_left_11 (S : ba_S) (k11 : Int32 → Int32 → ba_M → Option (Int32 × ba_M)) (v2 : Int32) (v3 : Int32) (m : ba_M) : Option (Int32 × ba_M) :=
  (if v3 ≤ 0 then (some (v2, m)) else (if (nI 4) = 0 then none else (if (nI 4) = 0 then none else (k11 (v2 - (v3 - v3 / (nI 4) * (nI 4))) (v3 / (nI 4)) m))))
set_option maxRecDepth 100000 in
theorem w_Mo_left_11 {S : ba_S} {k11 : Int32 → Int32 → ba_M → Option (Int32 × ba_M)} (hk11 : ∀ (v2 : Int32) (v3 : Int32) (m : ba_M), AW (Y_Mo_left S) 11 [none, none, some (aI v2), some (aI v3)] [] S m (k11 v2 v3 m)) : ∀ (v2 : Int32) (v3 : Int32) (m : ba_M), AW (Y_Mo_left S) 11 [none, none, some (aI v2), some (aI v3)] [] S m (b_Mo_left_11 S k11 v2 v3 m) := by
  intro v2 v3 m
  unfold b_Mo_left_11
  refine a_iload_n dX12_left_11 rfl ?_
  refine a_zle (tgt := 28) dX12_left_12 (by decide) (fun _ => ?_) (fun _ => ?_)
  · skip
    refine a_iload_n dX12_left_28 rfl ?_
    exact AW.ret dX12_left_29 rfl rfl
  · skip
    refine a_iload_n dX12_left_15 rfl ?_
    refine a_iload_n dX12_left_16 rfl ?_
    refine a_iconst (v := nI 4) dX12_left_17 (by decide) ?_
    refine a_irem dX12_left_18 ?_
    refine a_isub dX12_left_19 ?_
    refine a_istore_n dX12_left_20 rfl rfl ?_
    refine a_iload_n dX12_left_21 rfl ?_
    refine a_iconst (v := nI 4) dX12_left_22 (by decide) ?_
    refine a_idiv dX12_left_23 ?_
    refine a_istore_n dX12_left_24 rfl rfl ?_
    refine a_goto (tgt := 11) dX12_left_25 (by decide) ?_
    exact AW.weak (Lw_no (Lw_no (Lw_so rfl (Lw_so rfl Lw_end)))) (hk11 _ _ _)
def f_Mo_left_11 (S : ba_S) : Int32 → Int32 → ba_M → Option (Int32 × ba_M) := fx (fun _ _ _ => none) (b_Mo_left_11 S) FU
theorem l_Mo_left_11 {S : ba_S} : ∀ (n : Nat) (v2 : Int32) (v3 : Int32) (m : ba_M), AW (Y_Mo_left S) 11 [none, none, some (aI v2), some (aI v3)] [] S m ((fx (F := Int32 → Int32 → ba_M → Option (Int32 × ba_M)) (fun _ _ _ => none) (b_Mo_left_11 S) n) v2 v3 m) := by
  intro n
  induction n with
  | zero => intro _ _ _; exact AW.none
  | succ n ih => exact w_Mo_left_11 ih
def f_Mo_left (S : ba_S) (a0 : Nat) (a1 : Int32) (m : ba_M) : Option (Int32 × ba_M) :=
  cK S a0 11 ((f_Mo_left_11 S (((nI 3) * (gI m a0 2)) + (nI 1)) a1 m))
set_option maxRecDepth 100000 in
theorem e_Mo_left (S : ba_S) (a0 : Nat) (a1 : Int32) (m : ba_M) : AW (Y_Mo_left S) 0 [some (aR (some a0)), some (aI a1), none, none] [] S m (f_Mo_left S a0 a1 m) := by
  unfold f_Mo_left
  refine AW.ck (fun g0 => ?_)
  refine a_iconst (v := nI 3) dX12_left_0 (by decide) ?_
  refine a_aload_n dX12_left_1 rfl ?_
  refine a_getI dX12_left_2 fl_RX12_75 rfl g0 ?_
  refine a_imul dX12_left_5 ?_
  refine a_iconst (v := nI 1) dX12_left_6 (by decide) ?_
  refine a_iadd dX12_left_7 ?_
  refine a_istore_n dX12_left_8 rfl rfl ?_
  refine a_iload_n dX12_left_9 rfl ?_
  refine a_istore_n dX12_left_10 rfl rfl ?_
  exact AW.weak (Lw_no (Lw_no (Lw_so rfl (Lw_so rfl Lw_end)))) (l_Mo_left_11 FU _ _ _)
theorem m_Mo_left {S : ba_S} {a0 : Nat} {a1 : Int32} {m : ba_M} {q : Int32 × ba_M} (h : f_Mo_left S a0 a1 m = some q) : MA (Y_Mo_left S) yX12_left (some .int) [aR (some a0), aI a1] S m q :=
  ba_met ⟨by decide +kernel, rfl⟩ rfl (fun h => by cases h) (Or.inl ⟨rfl, rfl, _, rfl⟩) rfl (h ▸ e_Mo_left S a0 a1 m)

abbrev Y_Mo_then (S : ba_S) : ba_Y (Int64 × ba_M) := mJ cX12_then RX12 5 1 23 S
def f_Mo_then_44 (S : ba_S) (s0 : Int64) (m : ba_M) : Option (Int64 × ba_M) :=
  (some (s0, m))
set_option maxRecDepth 100000 in
theorem w_Mo_then_44 {S : ba_S} : ∀ (s0 : Int64) (m : ba_M), AW (Y_Mo_then S) 44 [none, none, none, none, none] [aJ s0] S m (f_Mo_then_44 S s0 m) := by
  intro s0 m
  unfold f_Mo_then_44
  exact AW.ret dX12_then_44 rfl rfl
def f_Mo_then_16 (S : ba_S) (v0 : Nat) (v1 : Int32) (v2 : Int32) (v3 : Int32) (s0 : Bool) (m : ba_M) : Option (Int64 × ba_M) :=
  (if s0 = true then (if v3 = v2 then (ldR S v0 20 21 fun r3 => ((f_Mo_left S v0 v1 m).bind fun q5 => (bD S r3 (q5.1 - (nI 1)) (f_Mo_then_44 S (gL q5.2 r3 ((q5.1 - (nI 1))).toNatClampNeg) q5.2)))) else (f_Mo_then_44 S (lN 0) m)) else (ldR S v0 21 21 fun r1 => (bD S r1 (((nI 5) * (v1 + ((nI 1) <<< (((nI 2) * v2) &&& 31)))) + v2) (some ((gL m r1 ((((nI 5) * (v1 + ((nI 1) <<< (((nI 2) * v2) &&& 31)))) + v2)).toNatClampNeg), m)))))
set_option maxRecDepth 100000 in
theorem w_Mo_then_16 {S : ba_S} : ∀ (v0 : Nat) (v1 : Int32) (v2 : Int32) (v3 : Int32) (s0 : Bool) (m : ba_M), ck S v0 11 = true → AW (Y_Mo_then S) 16 [some (aR (some v0)), some (aI v1), some (aI v2), some (aI v3), none] [aI (b2i s0)] S m (f_Mo_then_16 S v0 v1 v2 v3 s0 m) := by
  intro v0 v1 v2 v3 s0 m g0
  unfold f_Mo_then_16
  refine a_istore dX12_then_16 rfl rfl ?_
  refine a_iload dX12_then_18 rfl ?_
  refine a_beq (tgt := 45) dX12_then_20 (by decide) (fun _ => ?_) (fun _ => ?_)
  · skip
    refine a_aload_n dX12_then_45 rfl ?_
    refine a_getR dX12_then_46 fl_RX12_47 rfl g0 (fun r1 h2 => ?_)
    refine a_iconst (v := nI 5) dX12_then_49 (by decide) ?_
    refine a_iload_n dX12_then_50 rfl ?_
    refine a_iconst (v := nI 1) dX12_then_51 (by decide) ?_
    refine a_iconst (v := nI 2) dX12_then_52 (by decide) ?_
    refine a_iload_n dX12_then_53 rfl ?_
    refine a_imul dX12_then_54 ?_
    refine a_ishl dX12_then_55 ?_
    refine a_iadd dX12_then_56 ?_
    refine a_imul dX12_then_57 ?_
    refine a_iload_n dX12_then_58 rfl ?_
    refine a_iadd dX12_then_59 ?_
    refine a_lald dX12_then_60 h2 ?_
    exact AW.ret dX12_then_61 rfl rfl
  · skip
    refine a_iload_n dX12_then_23 rfl ?_
    refine a_iload_n dX12_then_24 rfl ?_
    refine a_ine (tgt := 43) dX12_then_25 (by decide) (fun _ => ?_) (fun _ => ?_)
    · skip
      refine a_lconst (v := lN 0) dX12_then_43 (by decide) ?_
      exact AW.weak (Lw_no (Lw_no (Lw_no (Lw_no (Lw_no Lw_end))))) (w_Mo_then_44 _ _)
    · skip
      refine a_aload_n dX12_then_28 rfl ?_
      refine a_getR dX12_then_29 fl_RX12_43 rfl g0 (fun r3 h4 => ?_)
      refine a_aload_n dX12_then_32 rfl ?_
      refine a_iload_n dX12_then_33 rfl ?_
      refine a_callV_I dX12_then_34 lk_RX12_185 mt_Mo_left vt_Mo_left ⟨_, rfl, rfl⟩ (fun _ h => m_Mo_left h) rfl rfl g0 ⟨rfl, rfl, rfl⟩ (fun q5 => ?_)
      refine a_iconst (v := nI 1) dX12_then_37 (by decide) ?_
      refine a_isub dX12_then_38 ?_
      refine a_lald dX12_then_39 h4 ?_
      refine a_goto (tgt := 44) dX12_then_40 (by decide) ?_
      exact AW.weak (Lw_no (Lw_no (Lw_no (Lw_no (Lw_no Lw_end))))) (w_Mo_then_44 _ _)
def f_Mo_then (S : ba_S) (a0 : Nat) (a1 : Int32) (a2 : Int32) (a3 : Int32) (m : ba_M) : Option (Int64 × ba_M) :=
  cK S a0 11 ((if ((a1 >>> (((nI 2) * a2) &&& 31)) &&& (nI 3)) = (nI 3) then (f_Mo_then_16 S a0 a1 a2 a3 true m) else (f_Mo_then_16 S a0 a1 a2 a3 false m)))
set_option maxRecDepth 100000 in
theorem e_Mo_then (S : ba_S) (a0 : Nat) (a1 : Int32) (a2 : Int32) (a3 : Int32) (m : ba_M) : AW (Y_Mo_then S) 0 [some (aR (some a0)), some (aI a1), some (aI a2), some (aI a3), none] [] S m (f_Mo_then S a0 a1 a2 a3 m) := by
  unfold f_Mo_then
  refine AW.ck (fun g0 => ?_)
  refine a_iload_n dX12_then_0 rfl ?_
  refine a_iconst (v := nI 2) dX12_then_1 (by decide) ?_
  refine a_iload_n dX12_then_2 rfl ?_
  refine a_imul dX12_then_3 ?_
  refine a_ishr dX12_then_4 ?_
  refine a_iconst (v := nI 3) dX12_then_5 (by decide) ?_
  refine a_iand dX12_then_6 ?_
  refine a_iconst (v := nI 3) dX12_then_7 (by decide) ?_
  refine a_ine (tgt := 15) dX12_then_8 (by decide) (fun _ => ?_) (fun _ => ?_)
  · skip
    refine a_iconst (v := nI 0) dX12_then_15 (by decide) ?_
    exact AW.weak (Lw_so rfl (Lw_so rfl (Lw_so rfl (Lw_so rfl (Lw_no Lw_end))))) (w_Mo_then_16 _ _ _ _ _ _ g0)
  · skip
    refine a_iconst (v := nI 1) dX12_then_11 (by decide) ?_
    refine a_goto (tgt := 16) dX12_then_12 (by decide) ?_
    exact AW.weak (Lw_so rfl (Lw_so rfl (Lw_so rfl (Lw_so rfl (Lw_no Lw_end))))) (w_Mo_then_16 _ _ _ _ _ _ g0)
theorem m_Mo_then {S : ba_S} {a0 : Nat} {a1 : Int32} {a2 : Int32} {a3 : Int32} {m : ba_M} {q : Int64 × ba_M} (h : f_Mo_then S a0 a1 a2 a3 m = some q) : MA (Y_Mo_then S) yX12_then (some .long) [aR (some a0), aI a1, aI a2, aI a3] S m q :=
  ba_met ⟨by decide +kernel, rfl⟩ rfl (fun h => by cases h) (Or.inr (Or.inr (Or.inl ⟨rfl, rfl, _, rfl⟩))) rfl (h ▸ e_Mo_then S a0 a1 a2 a3 m)

abbrev Y_Mo_findParts (S : ba_S) : ba_Y (ba_M) := mV cX12_findParts RX12 6 4 100 S
def f_Mo_findParts_91 (S : ba_S) (k57 : Nat → Int32 → Int32 → ba_M → Option (ba_M)) (k63 : Nat → Int32 → Int32 → Int32 → ba_M → Option (ba_M)) (v0 : Nat) (v1 : Int32) (v2 : Int32) (v3 : Int32) (s0 : Int64) (m : ba_M) : Option (ba_M) :=
  (ldR S v0 23 20 fun r1 => (bD S r1 v3 (ldR S v0 22 20 fun r3 => (bD S r3 v3 ((f_Mo_then S v0 v2 (gI m r3 (v3).toNatClampNeg) v1 m).bind fun q5 => (ldR S v0 23 20 fun r6 => (bD S r6 v3 (ldR S v0 4 20 fun r8 => (bD S r8 v3 ((f_Mo_then S v0 v2 (gI q5.2 r8 (v3).toNatClampNeg) v1 q5.2).bind fun q10 => (ldR S v0 21 21 fun r11 => (bD S r11 (((nI 5) * v2) + v3) (k63 v0 v1 v2 (v3 + (nI 1)) (wL q10.2 r11 ((((nI 5) * v2) + v3)).toNatClampNeg ((s0 + ((Int32.toInt64 (gI m r1 (v3).toNatClampNeg)) * q5.1)) + ((Int32.toInt64 ((nI 10) - (gI q5.2 r6 (v3).toNatClampNeg))) * q10.1))))))))))))))))
set_option maxRecDepth 100000 in
theorem w_Mo_findParts_91 {S : ba_S} {k57 : Nat → Int32 → Int32 → ba_M → Option (ba_M)} (hk57 : ∀ (v0 : Nat) (v1 : Int32) (v2 : Int32) (m : ba_M), ck S v0 11 = true → AW (Y_Mo_findParts S) 57 [some (aR (some v0)), some (aI v1), some (aI v2), none, none, none] [] S m (k57 v0 v1 v2 m)) {k63 : Nat → Int32 → Int32 → Int32 → ba_M → Option (ba_M)} (hk63 : ∀ (v0 : Nat) (v1 : Int32) (v2 : Int32) (v3 : Int32) (m : ba_M), ck S v0 11 = true → AW (Y_Mo_findParts S) 63 [some (aR (some v0)), some (aI v1), some (aI v2), some (aI v3), none, none] [] S m (k63 v0 v1 v2 v3 m)) : ∀ (v0 : Nat) (v1 : Int32) (v2 : Int32) (v3 : Int32) (s0 : Int64) (m : ba_M), ck S v0 11 = true → AW (Y_Mo_findParts S) 91 [some (aR (some v0)), some (aI v1), some (aI v2), some (aI v3), none, none] [aJ s0] S m (f_Mo_findParts_91 S k57 k63 v0 v1 v2 v3 s0 m) := by
  intro v0 v1 v2 v3 s0 m g0
  unfold f_Mo_findParts_91
  refine a_lstore dX12_findParts_91 rfl rfl ?_
  refine a_lload dX12_findParts_93 rfl ?_
  refine a_aload_n dX12_findParts_95 rfl ?_
  refine a_getR dX12_findParts_96 fl_RX12_53 rfl g0 (fun r1 h2 => ?_)
  refine a_iload_n dX12_findParts_99 rfl ?_
  refine a_iald dX12_findParts_100 h2 ?_
  refine a_i2l dX12_findParts_101 ?_
  refine a_aload_n dX12_findParts_102 rfl ?_
  refine a_iload_n dX12_findParts_103 rfl ?_
  refine a_aload_n dX12_findParts_104 rfl ?_
  refine a_getR dX12_findParts_105 fl_RX12_50 rfl g0 (fun r3 h4 => ?_)
  refine a_iload_n dX12_findParts_108 rfl ?_
  refine a_iald dX12_findParts_109 h4 ?_
  refine a_iload_n dX12_findParts_110 rfl ?_
  refine a_callV_J dX12_findParts_111 lk_RX12_188 mt_Mo_then vt_Mo_then ⟨_, rfl, rfl⟩ (fun _ h => m_Mo_then h) rfl rfl g0 ⟨rfl, rfl, rfl⟩ (fun q5 => ?_)
  refine a_lmul dX12_findParts_114 ?_
  refine a_ladd dX12_findParts_115 ?_
  refine a_lstore dX12_findParts_116 rfl rfl ?_
  refine a_lload dX12_findParts_118 rfl ?_
  refine a_bipush (v := nI 10) dX12_findParts_120 (by decide) ?_
  refine a_aload_n dX12_findParts_122 rfl ?_
  refine a_getR dX12_findParts_123 fl_RX12_53 rfl g0 (fun r6 h7 => ?_)
  refine a_iload_n dX12_findParts_126 rfl ?_
  refine a_iald dX12_findParts_127 h7 ?_
  refine a_isub dX12_findParts_128 ?_
  refine a_i2l dX12_findParts_129 ?_
  refine a_aload_n dX12_findParts_130 rfl ?_
  refine a_iload_n dX12_findParts_131 rfl ?_
  refine a_aload_n dX12_findParts_132 rfl ?_
  refine a_getR dX12_findParts_133 fl_RX12_13 rfl g0 (fun r8 h9 => ?_)
  refine a_iload_n dX12_findParts_136 rfl ?_
  refine a_iald dX12_findParts_137 h9 ?_
  refine a_iload_n dX12_findParts_138 rfl ?_
  refine a_callV_J dX12_findParts_139 lk_RX12_188 mt_Mo_then vt_Mo_then ⟨_, rfl, rfl⟩ (fun _ h => m_Mo_then h) rfl rfl g0 ⟨rfl, rfl, rfl⟩ (fun q10 => ?_)
  refine a_lmul dX12_findParts_142 ?_
  refine a_ladd dX12_findParts_143 ?_
  refine a_lstore dX12_findParts_144 rfl rfl ?_
  refine a_aload_n dX12_findParts_146 rfl ?_
  refine a_getR dX12_findParts_147 fl_RX12_47 rfl g0 (fun r11 h12 => ?_)
  refine a_iconst (v := nI 5) dX12_findParts_150 (by decide) ?_
  refine a_iload_n dX12_findParts_151 rfl ?_
  refine a_imul dX12_findParts_152 ?_
  refine a_iload_n dX12_findParts_153 rfl ?_
  refine a_iadd dX12_findParts_154 ?_
  refine a_lload dX12_findParts_155 rfl ?_
  refine a_last dX12_findParts_157 h12 ?_
  refine a_iinc (v := nI 1) dX12_findParts_158 rfl (by decide) rfl rfl ?_
  refine a_goto (tgt := 63) dX12_findParts_161 (by decide) ?_
  exact AW.weak (Lw_so rfl (Lw_so rfl (Lw_so rfl (Lw_so rfl (Lw_no (Lw_no Lw_end)))))) (hk63 _ _ _ _ _ g0)
def b_Mo_findParts_63 (S : ba_S) (k57 : Nat → Int32 → Int32 → ba_M → Option (ba_M)) (k63 : Nat → Int32 → Int32 → Int32 → ba_M → Option (ba_M)) (v0 : Nat) (v1 : Int32) (v2 : Int32) (v3 : Int32) (m : ba_M) : Option (ba_M) :=
  (if (gI m v0 2) ≤ v3 then (k57 v0 v1 (v2 + (-1 : Int32)) m) else (if v1 = (-4 : Int32) then (ldR S v0 20 21 fun r13 => ((f_Mo_left S v0 v2 m).bind fun q15 => (bD S r13 q15.1 (f_Mo_findParts_91 S k57 k63 v0 v1 v2 v3 (gL q15.2 r13 (q15.1).toNatClampNeg) q15.2)))) else (f_Mo_findParts_91 S k57 k63 v0 v1 v2 v3 (lN 0) m)))
set_option maxRecDepth 100000 in
theorem w_Mo_findParts_63 {S : ba_S} {k57 : Nat → Int32 → Int32 → ba_M → Option (ba_M)} (hk57 : ∀ (v0 : Nat) (v1 : Int32) (v2 : Int32) (m : ba_M), ck S v0 11 = true → AW (Y_Mo_findParts S) 57 [some (aR (some v0)), some (aI v1), some (aI v2), none, none, none] [] S m (k57 v0 v1 v2 m)) {k63 : Nat → Int32 → Int32 → Int32 → ba_M → Option (ba_M)} (hk63 : ∀ (v0 : Nat) (v1 : Int32) (v2 : Int32) (v3 : Int32) (m : ba_M), ck S v0 11 = true → AW (Y_Mo_findParts S) 63 [some (aR (some v0)), some (aI v1), some (aI v2), some (aI v3), none, none] [] S m (k63 v0 v1 v2 v3 m)) : ∀ (v0 : Nat) (v1 : Int32) (v2 : Int32) (v3 : Int32) (m : ba_M), ck S v0 11 = true → AW (Y_Mo_findParts S) 63 [some (aR (some v0)), some (aI v1), some (aI v2), some (aI v3), none, none] [] S m (b_Mo_findParts_63 S k57 k63 v0 v1 v2 v3 m) := by
  intro v0 v1 v2 v3 m g0
  unfold b_Mo_findParts_63
  refine a_iload_n dX12_findParts_63 rfl ?_
  refine a_aload_n dX12_findParts_64 rfl ?_
  refine a_getI dX12_findParts_65 fl_RX12_75 rfl g0 ?_
  refine a_ige (tgt := 164) dX12_findParts_68 (by decide) (fun _ => ?_) (fun _ => ?_)
  · skip
    refine a_iinc (v := -1) dX12_findParts_164 rfl (by decide) rfl rfl ?_
    refine a_goto (tgt := 57) dX12_findParts_167 (by decide) ?_
    exact AW.weak (Lw_so rfl (Lw_so rfl (Lw_so rfl (Lw_no (Lw_no (Lw_no Lw_end)))))) (hk57 _ _ _ _ g0)
  · skip
    refine a_iload_n dX12_findParts_71 rfl ?_
    refine a_bipush (v := -4) dX12_findParts_72 (by decide) ?_
    refine a_ine (tgt := 90) dX12_findParts_74 (by decide) (fun _ => ?_) (fun _ => ?_)
    · skip
      refine a_lconst (v := lN 0) dX12_findParts_90 (by decide) ?_
      exact AW.weak (Lw_so rfl (Lw_so rfl (Lw_so rfl (Lw_so rfl (Lw_no (Lw_no Lw_end)))))) (w_Mo_findParts_91 hk57 hk63 _ _ _ _ _ _ g0)
    · skip
      refine a_aload_n dX12_findParts_77 rfl ?_
      refine a_getR dX12_findParts_78 fl_RX12_43 rfl g0 (fun r13 h14 => ?_)
      refine a_aload_n dX12_findParts_81 rfl ?_
      refine a_iload_n dX12_findParts_82 rfl ?_
      refine a_callV_I dX12_findParts_83 lk_RX12_185 mt_Mo_left vt_Mo_left ⟨_, rfl, rfl⟩ (fun _ h => m_Mo_left h) rfl rfl g0 ⟨rfl, rfl, rfl⟩ (fun q15 => ?_)
      refine a_lald dX12_findParts_86 h14 ?_
      refine a_goto (tgt := 91) dX12_findParts_87 (by decide) ?_
      exact AW.weak (Lw_so rfl (Lw_so rfl (Lw_so rfl (Lw_so rfl (Lw_no (Lw_no Lw_end)))))) (w_Mo_findParts_91 hk57 hk63 _ _ _ _ _ _ g0)
def f_Mo_findParts_63 (S : ba_S) (k57 : Nat → Int32 → Int32 → ba_M → Option (ba_M)) : Nat → Int32 → Int32 → Int32 → ba_M → Option (ba_M) := fx (fun _ _ _ _ _ => none) (b_Mo_findParts_63 S k57) FU
theorem l_Mo_findParts_63 {S : ba_S} {k57 : Nat → Int32 → Int32 → ba_M → Option (ba_M)} (hk57 : ∀ (v0 : Nat) (v1 : Int32) (v2 : Int32) (m : ba_M), ck S v0 11 = true → AW (Y_Mo_findParts S) 57 [some (aR (some v0)), some (aI v1), some (aI v2), none, none, none] [] S m (k57 v0 v1 v2 m)) : ∀ (n : Nat) (v0 : Nat) (v1 : Int32) (v2 : Int32) (v3 : Int32) (m : ba_M), ck S v0 11 = true → AW (Y_Mo_findParts S) 63 [some (aR (some v0)), some (aI v1), some (aI v2), some (aI v3), none, none] [] S m ((fx (F := Nat → Int32 → Int32 → Int32 → ba_M → Option (ba_M)) (fun _ _ _ _ _ => none) (b_Mo_findParts_63 S k57) n) v0 v1 v2 v3 m) := by
  intro n
  induction n with
  | zero => intro _ _ _ _ _ _; exact AW.none
  | succ n ih => exact w_Mo_findParts_63 hk57 ih
def b_Mo_findParts_57 (S : ba_S) (k57 : Nat → Int32 → Int32 → ba_M → Option (ba_M)) (v0 : Nat) (v1 : Int32) (v2 : Int32) (m : ba_M) : Option (ba_M) :=
  (if v2 < 0 then (some m) else (f_Mo_findParts_63 S k57 v0 v1 v2 (nI 0) m))
set_option maxRecDepth 100000 in
theorem w_Mo_findParts_57 {S : ba_S} {k57 : Nat → Int32 → Int32 → ba_M → Option (ba_M)} (hk57 : ∀ (v0 : Nat) (v1 : Int32) (v2 : Int32) (m : ba_M), ck S v0 11 = true → AW (Y_Mo_findParts S) 57 [some (aR (some v0)), some (aI v1), some (aI v2), none, none, none] [] S m (k57 v0 v1 v2 m)) : ∀ (v0 : Nat) (v1 : Int32) (v2 : Int32) (m : ba_M), ck S v0 11 = true → AW (Y_Mo_findParts S) 57 [some (aR (some v0)), some (aI v1), some (aI v2), none, none, none] [] S m (b_Mo_findParts_57 S k57 v0 v1 v2 m) := by
  intro v0 v1 v2 m g0
  unfold b_Mo_findParts_57
  refine a_iload_n dX12_findParts_57 rfl ?_
  refine a_zlt (tgt := 170) dX12_findParts_58 (by decide) (fun _ => ?_) (fun _ => ?_)
  · skip
    exact AW.ret dX12_findParts_170 rfl rfl
  · skip
    refine a_iconst (v := nI 0) dX12_findParts_61 (by decide) ?_
    refine a_istore_n dX12_findParts_62 rfl rfl ?_
    exact AW.weak (Lw_so rfl (Lw_so rfl (Lw_so rfl (Lw_so rfl (Lw_no (Lw_no Lw_end)))))) (l_Mo_findParts_63 hk57 FU _ _ _ _ _ g0)
def f_Mo_findParts_57 (S : ba_S) : Nat → Int32 → Int32 → ba_M → Option (ba_M) := fx (fun _ _ _ _ => none) (b_Mo_findParts_57 S) FU
theorem l_Mo_findParts_57 {S : ba_S} : ∀ (n : Nat) (v0 : Nat) (v1 : Int32) (v2 : Int32) (m : ba_M), ck S v0 11 = true → AW (Y_Mo_findParts S) 57 [some (aR (some v0)), some (aI v1), some (aI v2), none, none, none] [] S m ((fx (F := Nat → Int32 → Int32 → ba_M → Option (ba_M)) (fun _ _ _ _ => none) (b_Mo_findParts_57 S) n) v0 v1 v2 m) := by
  intro n
  induction n with
  | zero => intro _ _ _ _ _; exact AW.none
  | succ n ih => exact w_Mo_findParts_57 ih
def b_Mo_findParts_2 (S : ba_S) (k2 : Nat → Int32 → Int32 → ba_M → Option (ba_M)) (v0 : Nat) (v1 : Int32) (v2 : Int32) (m : ba_M) : Option (ba_M) :=
  (if (gI m v0 2) ≤ v2 then (f_Mo_findParts_57 S v0 v1 (((nI 1) <<< (((nI 2) * (gI m v0 2)) &&& 31)) - (nI 1)) m) else ((f_Mo_go S v0 v2 m).bind fun q16 => (ldR S v0 22 20 fun r17 => (bD S r17 v2 (ldR S v0 23 20 fun r19 => (ldR S v0 16 20 fun r21 => (bD S r21 (gI (wI q16 r17 (v2).toNatClampNeg (gI q16 v0 18)) v0 18) (bD S r19 v2 (k2 v0 v1 (v2 + (nI 1)) (wI (wI q16 r17 (v2).toNatClampNeg (gI q16 v0 18)) r19 (v2).toNatClampNeg (gI (wI q16 r17 (v2).toNatClampNeg (gI q16 v0 18)) r21 ((gI (wI q16 r17 (v2).toNatClampNeg (gI q16 v0 18)) v0 18)).toNatClampNeg)))))))))))
set_option maxRecDepth 100000 in
theorem w_Mo_findParts_2 {S : ba_S} {k2 : Nat → Int32 → Int32 → ba_M → Option (ba_M)} (hk2 : ∀ (v0 : Nat) (v1 : Int32) (v2 : Int32) (m : ba_M), ck S v0 11 = true → AW (Y_Mo_findParts S) 2 [some (aR (some v0)), some (aI v1), some (aI v2), none, none, none] [] S m (k2 v0 v1 v2 m)) : ∀ (v0 : Nat) (v1 : Int32) (v2 : Int32) (m : ba_M), ck S v0 11 = true → AW (Y_Mo_findParts S) 2 [some (aR (some v0)), some (aI v1), some (aI v2), none, none, none] [] S m (b_Mo_findParts_2 S k2 v0 v1 v2 m) := by
  intro v0 v1 v2 m g0
  unfold b_Mo_findParts_2
  refine a_iload_n dX12_findParts_2 rfl ?_
  refine a_aload_n dX12_findParts_3 rfl ?_
  refine a_getI dX12_findParts_4 fl_RX12_75 rfl g0 ?_
  refine a_ige (tgt := 46) dX12_findParts_7 (by decide) (fun _ => ?_) (fun _ => ?_)
  · skip
    refine a_iconst (v := nI 1) dX12_findParts_46 (by decide) ?_
    refine a_iconst (v := nI 2) dX12_findParts_47 (by decide) ?_
    refine a_aload_n dX12_findParts_48 rfl ?_
    refine a_getI dX12_findParts_49 fl_RX12_75 rfl g0 ?_
    refine a_imul dX12_findParts_52 ?_
    refine a_ishl dX12_findParts_53 ?_
    refine a_iconst (v := nI 1) dX12_findParts_54 (by decide) ?_
    refine a_isub dX12_findParts_55 ?_
    refine a_istore_n dX12_findParts_56 rfl rfl ?_
    exact AW.weak (Lw_so rfl (Lw_so rfl (Lw_so rfl (Lw_no (Lw_no (Lw_no Lw_end)))))) (l_Mo_findParts_57 FU _ _ _ _ g0)
  · skip
    refine a_aload_n dX12_findParts_10 rfl ?_
    refine a_iload_n dX12_findParts_11 rfl ?_
    refine a_callV_V dX12_findParts_12 lk_RX12_177 mt_Mo_go vt_Mo_go ⟨_, rfl, rfl⟩ (fun _ h => m_Mo_go h) rfl rfl g0 ⟨rfl, rfl, rfl⟩ (fun q16 => ?_)
    refine a_aload_n dX12_findParts_15 rfl ?_
    refine a_getR dX12_findParts_16 fl_RX12_50 rfl g0 (fun r17 h18 => ?_)
    refine a_iload_n dX12_findParts_19 rfl ?_
    refine a_aload_n dX12_findParts_20 rfl ?_
    refine a_getI dX12_findParts_21 fl_RX12_167 rfl g0 ?_
    refine a_iast dX12_findParts_24 h18 ?_
    refine a_aload_n dX12_findParts_25 rfl ?_
    refine a_getR dX12_findParts_26 fl_RX12_53 rfl g0 (fun r19 h20 => ?_)
    refine a_iload_n dX12_findParts_29 rfl ?_
    refine a_aload_n dX12_findParts_30 rfl ?_
    refine a_getR dX12_findParts_31 fl_RX12_34 rfl g0 (fun r21 h22 => ?_)
    refine a_aload_n dX12_findParts_34 rfl ?_
    refine a_getI dX12_findParts_35 fl_RX12_167 rfl g0 ?_
    refine a_iald dX12_findParts_38 h22 ?_
    refine a_iast dX12_findParts_39 h20 ?_
    refine a_iinc (v := nI 1) dX12_findParts_40 rfl (by decide) rfl rfl ?_
    refine a_goto (tgt := 2) dX12_findParts_43 (by decide) ?_
    exact AW.weak (Lw_so rfl (Lw_so rfl (Lw_so rfl (Lw_no (Lw_no (Lw_no Lw_end)))))) (hk2 _ _ _ _ g0)
def f_Mo_findParts_2 (S : ba_S) : Nat → Int32 → Int32 → ba_M → Option (ba_M) := fx (fun _ _ _ _ => none) (b_Mo_findParts_2 S) FU
theorem l_Mo_findParts_2 {S : ba_S} : ∀ (n : Nat) (v0 : Nat) (v1 : Int32) (v2 : Int32) (m : ba_M), ck S v0 11 = true → AW (Y_Mo_findParts S) 2 [some (aR (some v0)), some (aI v1), some (aI v2), none, none, none] [] S m ((fx (F := Nat → Int32 → Int32 → ba_M → Option (ba_M)) (fun _ _ _ _ => none) (b_Mo_findParts_2 S) n) v0 v1 v2 m) := by
  intro n
  induction n with
  | zero => intro _ _ _ _ _; exact AW.none
  | succ n ih => exact w_Mo_findParts_2 ih
def f_Mo_findParts (S : ba_S) (a0 : Nat) (a1 : Int32) (m : ba_M) : Option (ba_M) :=
  cK S a0 11 ((f_Mo_findParts_2 S a0 a1 (nI 0) m))
set_option maxRecDepth 100000 in
theorem e_Mo_findParts (S : ba_S) (a0 : Nat) (a1 : Int32) (m : ba_M) : AW (Y_Mo_findParts S) 0 [some (aR (some a0)), some (aI a1), none, none, none, none] [] S m (f_Mo_findParts S a0 a1 m) := by
  unfold f_Mo_findParts
  refine AW.ck (fun g0 => ?_)
  refine a_iconst (v := nI 0) dX12_findParts_0 (by decide) ?_
  refine a_istore_n dX12_findParts_1 rfl rfl ?_
  exact AW.weak (Lw_so rfl (Lw_so rfl (Lw_so rfl (Lw_no (Lw_no (Lw_no Lw_end)))))) (l_Mo_findParts_2 FU _ _ _ _ g0)
theorem m_Mo_findParts {S : ba_S} {a0 : Nat} {a1 : Int32} {m : ba_M} {q : ba_M} (h : f_Mo_findParts S a0 a1 m = some q) : MA (Y_Mo_findParts S) yX12_findParts none [aR (some a0), aI a1] S m q :=
  ba_met ⟨by decide +kernel, rfl⟩ rfl (fun h => by cases h) (Or.inr (Or.inr (Or.inr (Or.inl ⟨rfl, rfl, rfl⟩)))) rfl (h ▸ e_Mo_findParts S a0 a1 m)

abbrev Y_Mo_part (S : ba_S) : ba_Y (Int64 × ba_M) := mJ cX12_part RX12 14 1 23 S
def f_Mo_part_73 (S : ba_S) (v8 : Int64) (s0 : Int64) (m : ba_M) : Option (Int64 × ba_M) :=
  (if v8 = 0 then none else (some ((s0 / v8), m)))
set_option maxRecDepth 100000 in
theorem w_Mo_part_73 {S : ba_S} : ∀ (v8 : Int64) (s0 : Int64) (m : ba_M), AW (Y_Mo_part S) 73 [none, none, none, none, none, none, none, none, some (aJ v8), none, none, none, none, none] [aJ s0] S m (f_Mo_part_73 S v8 s0 m) := by
  intro v8 s0 m
  unfold f_Mo_part_73
  refine a_lload dX12_part_73 rfl ?_
  refine a_ldiv dX12_part_75 ?_
  exact AW.ret dX12_part_76 rfl rfl
def b_Mo_part_37 (S : ba_S) (k37 : Int32 → Int64 → Int64 → Int64 → Int64 → ba_M → Option (Int64 × ba_M)) (v2 : Int32) (v4 : Int64) (v6 : Int64) (v8 : Int64) (v10 : Int64) (m : ba_M) : Option (Int64 × ba_M) :=
  (if (lg_cmp v10 (lN 0)) = 0 then (if v2 = 0 then (f_Mo_part_73 S v8 v4 m) else (f_Mo_part_73 S v8 v6 m)) else (if v10 = 0 then none else (k37 v2 v4 v6 v10 (v8 - v8 / v10 * v10) m)))
set_option maxRecDepth 100000 in
theorem w_Mo_part_37 {S : ba_S} {k37 : Int32 → Int64 → Int64 → Int64 → Int64 → ba_M → Option (Int64 × ba_M)} (hk37 : ∀ (v2 : Int32) (v4 : Int64) (v6 : Int64) (v8 : Int64) (v10 : Int64) (m : ba_M), AW (Y_Mo_part S) 37 [none, none, some (aI v2), none, some (aJ v4), none, some (aJ v6), none, some (aJ v8), none, some (aJ v10), none, none, none] [] S m (k37 v2 v4 v6 v8 v10 m)) : ∀ (v2 : Int32) (v4 : Int64) (v6 : Int64) (v8 : Int64) (v10 : Int64) (m : ba_M), AW (Y_Mo_part S) 37 [none, none, some (aI v2), none, some (aJ v4), none, some (aJ v6), none, some (aJ v8), none, some (aJ v10), none, none, none] [] S m (b_Mo_part_37 S k37 v2 v4 v6 v8 v10 m) := by
  intro v2 v4 v6 v8 v10 m
  unfold b_Mo_part_37
  refine a_lload dX12_part_37 rfl ?_
  refine a_lconst (v := lN 0) dX12_part_39 (by decide) ?_
  refine a_lcmp dX12_part_40 ?_
  refine a_zeq (tgt := 62) dX12_part_41 (by decide) (fun _ => ?_) (fun _ => ?_)
  · skip
    refine a_iload_n dX12_part_62 rfl ?_
    refine a_zne (tgt := 71) dX12_part_63 (by decide) (fun _ => ?_) (fun _ => ?_)
    · skip
      refine a_lload dX12_part_71 rfl ?_
      exact AW.weak (Lw_no (Lw_no (Lw_no (Lw_no (Lw_no (Lw_no (Lw_no (Lw_no (Lw_so rfl (Lw_no (Lw_no (Lw_no (Lw_no (Lw_no Lw_end)))))))))))))) (w_Mo_part_73 _ _ _)
    · skip
      refine a_lload dX12_part_66 rfl ?_
      refine a_goto (tgt := 73) dX12_part_68 (by decide) ?_
      exact AW.weak (Lw_no (Lw_no (Lw_no (Lw_no (Lw_no (Lw_no (Lw_no (Lw_no (Lw_so rfl (Lw_no (Lw_no (Lw_no (Lw_no (Lw_no Lw_end)))))))))))))) (w_Mo_part_73 _ _ _)
  · skip
    refine a_lload dX12_part_44 rfl ?_
    refine a_lload dX12_part_46 rfl ?_
    refine a_lrem dX12_part_48 ?_
    refine a_lstore dX12_part_49 rfl rfl ?_
    refine a_lload dX12_part_51 rfl ?_
    refine a_lstore dX12_part_53 rfl rfl ?_
    refine a_lload dX12_part_55 rfl ?_
    refine a_lstore dX12_part_57 rfl rfl ?_
    refine a_goto (tgt := 37) dX12_part_59 (by decide) ?_
    exact AW.weak (Lw_no (Lw_no (Lw_so rfl (Lw_no (Lw_so rfl (Lw_no (Lw_so rfl (Lw_no (Lw_so rfl (Lw_no (Lw_so rfl (Lw_no (Lw_no (Lw_no Lw_end)))))))))))))) (hk37 _ _ _ _ _ _)
def f_Mo_part_37 (S : ba_S) : Int32 → Int64 → Int64 → Int64 → Int64 → ba_M → Option (Int64 × ba_M) := fx (fun _ _ _ _ _ _ => none) (b_Mo_part_37 S) FU
theorem l_Mo_part_37 {S : ba_S} : ∀ (n : Nat) (v2 : Int32) (v4 : Int64) (v6 : Int64) (v8 : Int64) (v10 : Int64) (m : ba_M), AW (Y_Mo_part S) 37 [none, none, some (aI v2), none, some (aJ v4), none, some (aJ v6), none, some (aJ v8), none, some (aJ v10), none, none, none] [] S m ((fx (F := Int32 → Int64 → Int64 → Int64 → Int64 → ba_M → Option (Int64 × ba_M)) (fun _ _ _ _ _ _ => none) (b_Mo_part_37 S) n) v2 v4 v6 v8 v10 m) := by
  intro n
  induction n with
  | zero => intro _ _ _ _ _ _; exact AW.none
  | succ n ih => exact w_Mo_part_37 ih
def f_Mo_part (S : ba_S) (a0 : Nat) (a1 : Int32) (a2 : Int32) (m : ba_M) : Option (Int64 × ba_M) :=
  cK S a0 11 (((f_Mo_codeOf S a0 m).bind fun q1 => (ldR S a0 21 21 fun r2 => (bD S r2 (((nI 5) * q1.1) + a1) (ldR S a0 20 21 fun r4 => ((f_Mo_left S a0 q1.1 q1.2).bind fun q6 => (bD S r4 q6.1 (f_Mo_part_37 S a2 (gL q1.2 r2 ((((nI 5) * q1.1) + a1)).toNatClampNeg) (gL q6.2 r4 (q6.1).toNatClampNeg) (gL q1.2 r2 ((((nI 5) * q1.1) + a1)).toNatClampNeg) (gL q6.2 r4 (q6.1).toNatClampNeg) q6.2))))))))
set_option maxRecDepth 100000 in
theorem e_Mo_part (S : ba_S) (a0 : Nat) (a1 : Int32) (a2 : Int32) (m : ba_M) : AW (Y_Mo_part S) 0 [some (aR (some a0)), some (aI a1), some (aI a2), none, none, none, none, none, none, none, none, none, none, none] [] S m (f_Mo_part S a0 a1 a2 m) := by
  unfold f_Mo_part
  refine AW.ck (fun g0 => ?_)
  refine a_aload_n dX12_part_0 rfl ?_
  refine a_callV_I dX12_part_1 lk_RX12_192 mt_Mo_codeOf vt_Mo_codeOf ⟨_, rfl, rfl⟩ (fun _ h => m_Mo_codeOf h) rfl rfl g0 ⟨rfl, rfl, rfl⟩ (fun q1 => ?_)
  refine a_istore_n dX12_part_4 rfl rfl ?_
  refine a_aload_n dX12_part_5 rfl ?_
  refine a_getR dX12_part_6 fl_RX12_47 rfl g0 (fun r2 h3 => ?_)
  refine a_iconst (v := nI 5) dX12_part_9 (by decide) ?_
  refine a_iload_n dX12_part_10 rfl ?_
  refine a_imul dX12_part_11 ?_
  refine a_iload_n dX12_part_12 rfl ?_
  refine a_iadd dX12_part_13 ?_
  refine a_lald dX12_part_14 h3 ?_
  refine a_lstore dX12_part_15 rfl rfl ?_
  refine a_aload_n dX12_part_17 rfl ?_
  refine a_getR dX12_part_18 fl_RX12_43 rfl g0 (fun r4 h5 => ?_)
  refine a_aload_n dX12_part_21 rfl ?_
  refine a_iload_n dX12_part_22 rfl ?_
  refine a_callV_I dX12_part_23 lk_RX12_185 mt_Mo_left vt_Mo_left ⟨_, rfl, rfl⟩ (fun _ h => m_Mo_left h) rfl rfl g0 ⟨rfl, rfl, rfl⟩ (fun q6 => ?_)
  refine a_lald dX12_part_26 h5 ?_
  refine a_lstore dX12_part_27 rfl rfl ?_
  refine a_lload dX12_part_29 rfl ?_
  refine a_lstore dX12_part_31 rfl rfl ?_
  refine a_lload dX12_part_33 rfl ?_
  refine a_lstore dX12_part_35 rfl rfl ?_
  exact AW.weak (Lw_no (Lw_no (Lw_so rfl (Lw_no (Lw_so rfl (Lw_no (Lw_so rfl (Lw_no (Lw_so rfl (Lw_no (Lw_so rfl (Lw_no (Lw_no (Lw_no Lw_end)))))))))))))) (l_Mo_part_37 FU _ _ _ _ _ _)
theorem m_Mo_part {S : ba_S} {a0 : Nat} {a1 : Int32} {a2 : Int32} {m : ba_M} {q : Int64 × ba_M} (h : f_Mo_part S a0 a1 a2 m = some q) : MA (Y_Mo_part S) yX12_part (some .long) [aR (some a0), aI a1, aI a2] S m q :=
  ba_met ⟨by decide +kernel, rfl⟩ rfl (fun h => by cases h) (Or.inr (Or.inr (Or.inl ⟨rfl, rfl, _, rfl⟩))) rfl (h ▸ e_Mo_part S a0 a1 a2 m)

abbrev Y_Mo_first (S : ba_S) : ba_Y (Int64 × ba_M) := mJ cX12_first RX12 4 5 125 S
def f_Mo_first_25 (S : ba_S) (m : ba_M) : Option (Int64 × ba_M) :=
  (some ((-1 : Int64), m))
set_option maxRecDepth 100000 in
theorem w_Mo_first_25 {S : ba_S} : ∀ (m : ba_M), AW (Y_Mo_first S) 25 [none, none, none, none] [] S m (f_Mo_first_25 S m) := by
  intro m
  unfold f_Mo_first_25
  refine a_ldc2 dX12_first_25 cl_RX12_195 ?_
  exact AW.ret dX12_first_28 rfl rfl
def f_Mo_first (S : ba_S) (a0 : Nat) (a1 : Int32) (a2 : Int32) (a3 : Int32) (m : ba_M) : Option (Int64 × ba_M) :=
  cK S a0 11 (((f_Mo_isPlayer S a0 a1 m).bind fun q1 => (if q1.1 = true then ((f_Mo_isPlayer S a0 a2 q1.2).bind fun q2 => (if q2.1 = true then ((f_Mo_in S a3 (nI 0) (nI 1) q2.2).bind fun q3 => (if q3.1 = true then ((f_Mo_findParts S a0 a2 q3.2).bind fun q4 => ((f_Mo_part S a0 a1 a3 q4).bind fun q5 => (some (q5.1, q5.2)))) else (f_Mo_first_25 S q3.2))) else (f_Mo_first_25 S q2.2))) else (f_Mo_first_25 S q1.2))))
set_option maxRecDepth 100000 in
theorem e_Mo_first (S : ba_S) (a0 : Nat) (a1 : Int32) (a2 : Int32) (a3 : Int32) (m : ba_M) : AW (Y_Mo_first S) 0 [some (aR (some a0)), some (aI a1), some (aI a2), some (aI a3)] [] S m (f_Mo_first S a0 a1 a2 a3 m) := by
  unfold f_Mo_first
  refine AW.ck (fun g0 => ?_)
  refine a_aload_n dX12_first_0 rfl ?_
  refine a_iload_n dX12_first_1 rfl ?_
  refine a_callV_Z dX12_first_2 lk_RX12_150 mt_Mo_isPlayer vt_Mo_isPlayer ⟨_, rfl, rfl⟩ (fun _ h => m_Mo_isPlayer h) rfl rfl g0 ⟨rfl, rfl, rfl⟩ (fun q1 => ?_)
  refine a_beq (tgt := 25) dX12_first_5 (by decide) (fun _ => ?_) (fun _ => ?_)
  · skip
    exact AW.weak (Lw_no (Lw_no (Lw_no (Lw_no Lw_end)))) (w_Mo_first_25 _)
  · skip
    refine a_aload_n dX12_first_8 rfl ?_
    refine a_iload_n dX12_first_9 rfl ?_
    refine a_callV_Z dX12_first_10 lk_RX12_150 mt_Mo_isPlayer vt_Mo_isPlayer ⟨_, rfl, rfl⟩ (fun _ h => m_Mo_isPlayer h) rfl rfl g0 ⟨rfl, rfl, rfl⟩ (fun q2 => ?_)
    refine a_beq (tgt := 25) dX12_first_13 (by decide) (fun _ => ?_) (fun _ => ?_)
    · skip
      exact AW.weak (Lw_no (Lw_no (Lw_no (Lw_no Lw_end)))) (w_Mo_first_25 _)
    · skip
      refine a_iload_n dX12_first_16 rfl ?_
      refine a_iconst (v := nI 0) dX12_first_17 (by decide) ?_
      refine a_iconst (v := nI 1) dX12_first_18 (by decide) ?_
      refine a_callS_Z dX12_first_19 lk_RX12_84 mt_Mo_in sv_Mo_in (fun _ h => m_Mo_in h) rfl rfl ⟨rfl, rfl, rfl⟩ (fun q3 => ?_)
      refine a_bne (tgt := 29) dX12_first_22 (by decide) (fun _ => ?_) (fun _ => ?_)
      · skip
        refine a_aload_n dX12_first_29 rfl ?_
        refine a_iload_n dX12_first_30 rfl ?_
        refine a_callV_V dX12_first_31 lk_RX12_197 mt_Mo_findParts vt_Mo_findParts ⟨_, rfl, rfl⟩ (fun _ h => m_Mo_findParts h) rfl rfl g0 ⟨rfl, rfl, rfl⟩ (fun q4 => ?_)
        refine a_aload_n dX12_first_34 rfl ?_
        refine a_iload_n dX12_first_35 rfl ?_
        refine a_iload_n dX12_first_36 rfl ?_
        refine a_callV_J dX12_first_37 lk_RX12_200 mt_Mo_part vt_Mo_part ⟨_, rfl, rfl⟩ (fun _ h => m_Mo_part h) rfl rfl g0 ⟨rfl, rfl, rfl⟩ (fun q5 => ?_)
        exact AW.ret dX12_first_40 rfl rfl
      · skip
        exact AW.weak (Lw_no (Lw_no (Lw_no (Lw_no Lw_end)))) (w_Mo_first_25 _)
theorem m_Mo_first {S : ba_S} {a0 : Nat} {a1 : Int32} {a2 : Int32} {a3 : Int32} {m : ba_M} {q : Int64 × ba_M} (h : f_Mo_first S a0 a1 a2 a3 m = some q) : MA (Y_Mo_first S) yX12_first (some .long) [aR (some a0), aI a1, aI a2, aI a3] S m q :=
  ba_met ⟨by decide +kernel, rfl⟩ rfl (fun h => by cases h) (Or.inr (Or.inr (Or.inl ⟨rfl, rfl, _, rfl⟩))) rfl (h ▸ e_Mo_first S a0 a1 a2 a3 m)

abbrev Y_Mo_rounds (S : ba_S) : ba_Y (Int64 × ba_M) := mJ cX12_rounds RX12 3 5 125 S
def f_Mo_rounds_17 (S : ba_S) (m : ba_M) : Option (Int64 × ba_M) :=
  (some ((-1 : Int64), m))
set_option maxRecDepth 100000 in
theorem w_Mo_rounds_17 {S : ba_S} : ∀ (m : ba_M), AW (Y_Mo_rounds S) 17 [none, none, none] [] S m (f_Mo_rounds_17 S m) := by
  intro m
  unfold f_Mo_rounds_17
  refine a_ldc2 dX12_rounds_17 cl_RX12_195 ?_
  exact AW.ret dX12_rounds_20 rfl rfl
def f_Mo_rounds (S : ba_S) (a0 : Nat) (a1 : Int32) (a2 : Int32) (m : ba_M) : Option (Int64 × ba_M) :=
  cK S a0 11 (((f_Mo_isPlayer S a0 a1 m).bind fun q1 => (if q1.1 = true then ((f_Mo_in S a2 (nI 0) (nI 1) q1.2).bind fun q2 => (if q2.1 = true then ((f_Mo_findParts S a0 (-4 : Int32) q2.2).bind fun q3 => ((f_Mo_part S a0 a1 a2 q3).bind fun q4 => (some (q4.1, q4.2)))) else (f_Mo_rounds_17 S q2.2))) else (f_Mo_rounds_17 S q1.2))))
set_option maxRecDepth 100000 in
theorem e_Mo_rounds (S : ba_S) (a0 : Nat) (a1 : Int32) (a2 : Int32) (m : ba_M) : AW (Y_Mo_rounds S) 0 [some (aR (some a0)), some (aI a1), some (aI a2)] [] S m (f_Mo_rounds S a0 a1 a2 m) := by
  unfold f_Mo_rounds
  refine AW.ck (fun g0 => ?_)
  refine a_aload_n dX12_rounds_0 rfl ?_
  refine a_iload_n dX12_rounds_1 rfl ?_
  refine a_callV_Z dX12_rounds_2 lk_RX12_150 mt_Mo_isPlayer vt_Mo_isPlayer ⟨_, rfl, rfl⟩ (fun _ h => m_Mo_isPlayer h) rfl rfl g0 ⟨rfl, rfl, rfl⟩ (fun q1 => ?_)
  refine a_beq (tgt := 17) dX12_rounds_5 (by decide) (fun _ => ?_) (fun _ => ?_)
  · skip
    exact AW.weak (Lw_no (Lw_no (Lw_no Lw_end))) (w_Mo_rounds_17 _)
  · skip
    refine a_iload_n dX12_rounds_8 rfl ?_
    refine a_iconst (v := nI 0) dX12_rounds_9 (by decide) ?_
    refine a_iconst (v := nI 1) dX12_rounds_10 (by decide) ?_
    refine a_callS_Z dX12_rounds_11 lk_RX12_84 mt_Mo_in sv_Mo_in (fun _ h => m_Mo_in h) rfl rfl ⟨rfl, rfl, rfl⟩ (fun q2 => ?_)
    refine a_bne (tgt := 21) dX12_rounds_14 (by decide) (fun _ => ?_) (fun _ => ?_)
    · skip
      refine a_aload_n dX12_rounds_21 rfl ?_
      refine a_bipush (v := -4) dX12_rounds_22 (by decide) ?_
      refine a_callV_V dX12_rounds_24 lk_RX12_197 mt_Mo_findParts vt_Mo_findParts ⟨_, rfl, rfl⟩ (fun _ h => m_Mo_findParts h) rfl rfl g0 ⟨rfl, rfl, rfl⟩ (fun q3 => ?_)
      refine a_aload_n dX12_rounds_27 rfl ?_
      refine a_iload_n dX12_rounds_28 rfl ?_
      refine a_iload_n dX12_rounds_29 rfl ?_
      refine a_callV_J dX12_rounds_30 lk_RX12_200 mt_Mo_part vt_Mo_part ⟨_, rfl, rfl⟩ (fun _ h => m_Mo_part h) rfl rfl g0 ⟨rfl, rfl, rfl⟩ (fun q4 => ?_)
      exact AW.ret dX12_rounds_33 rfl rfl
    · skip
      exact AW.weak (Lw_no (Lw_no (Lw_no Lw_end))) (w_Mo_rounds_17 _)
theorem m_Mo_rounds {S : ba_S} {a0 : Nat} {a1 : Int32} {a2 : Int32} {m : ba_M} {q : Int64 × ba_M} (h : f_Mo_rounds S a0 a1 a2 m = some q) : MA (Y_Mo_rounds S) yX12_rounds (some .long) [aR (some a0), aI a1, aI a2] S m q :=
  ba_met ⟨by decide +kernel, rfl⟩ rfl (fun h => by cases h) (Or.inr (Or.inr (Or.inl ⟨rfl, rfl, _, rfl⟩))) rfl (h ▸ e_Mo_rounds S a0 a1 a2 m)

abbrev Y_Mo_knows (S : ba_S) : ba_Y (ba_M) := mV cX12_knows RX12 3 0 0 S
def b_Mo_knows_61 (S : ba_S) (k61 : Nat → Int32 → Int32 → ba_M → Option (ba_M)) (v0 : Nat) (v1 : Int32) (v2 : Int32) (m : ba_M) : Option (ba_M) :=
  (if (nI 4) ≤ v2 then (some (wI m v0 24 ((gI m v0 24) + (nI 1)))) else (ldR S v0 25 20 fun r1 => (ldR S v0 4 20 fun r3 => (bD S r3 (((nI 5) * v2) + v1) (bD S r1 ((((nI 5) * (gI m v0 24)) + (nI 1)) + v2) (k61 v0 v1 (v2 + (nI 1)) (wI m r1 (((((nI 5) * (gI m v0 24)) + (nI 1)) + v2)).toNatClampNeg (gI m r3 ((((nI 5) * v2) + v1)).toNatClampNeg))))))))
set_option maxRecDepth 100000 in
theorem w_Mo_knows_61 {S : ba_S} {k61 : Nat → Int32 → Int32 → ba_M → Option (ba_M)} (hk61 : ∀ (v0 : Nat) (v1 : Int32) (v2 : Int32) (m : ba_M), ck S v0 11 = true → AW (Y_Mo_knows S) 61 [some (aR (some v0)), some (aI v1), some (aI v2)] [] S m (k61 v0 v1 v2 m)) : ∀ (v0 : Nat) (v1 : Int32) (v2 : Int32) (m : ba_M), ck S v0 11 = true → AW (Y_Mo_knows S) 61 [some (aR (some v0)), some (aI v1), some (aI v2)] [] S m (b_Mo_knows_61 S k61 v0 v1 v2 m) := by
  intro v0 v1 v2 m g0
  unfold b_Mo_knows_61
  refine a_iload_n dX12_knows_61 rfl ?_
  refine a_iconst (v := nI 4) dX12_knows_62 (by decide) ?_
  refine a_ige (tgt := 97) dX12_knows_63 (by decide) (fun _ => ?_) (fun _ => ?_)
  · skip
    refine a_aload_n dX12_knows_97 rfl ?_
    refine a_dup dX12_knows_98 rfl ?_
    refine a_getI dX12_knows_99 fl_RX12_144 rfl g0 ?_
    refine a_iconst (v := nI 1) dX12_knows_102 (by decide) ?_
    refine a_iadd dX12_knows_103 ?_
    refine a_putI dX12_knows_104 fl_RX12_144 (rfl : _ = FieldType.int) rfl rfl rfl g0 ?_
    exact AW.ret dX12_knows_107 rfl rfl
  · skip
    refine a_aload_n dX12_knows_66 rfl ?_
    refine a_getR dX12_knows_67 fl_RX12_56 rfl g0 (fun r1 h2 => ?_)
    refine a_iconst (v := nI 5) dX12_knows_70 (by decide) ?_
    refine a_aload_n dX12_knows_71 rfl ?_
    refine a_getI dX12_knows_72 fl_RX12_144 rfl g0 ?_
    refine a_imul dX12_knows_75 ?_
    refine a_iconst (v := nI 1) dX12_knows_76 (by decide) ?_
    refine a_iadd dX12_knows_77 ?_
    refine a_iload_n dX12_knows_78 rfl ?_
    refine a_iadd dX12_knows_79 ?_
    refine a_aload_n dX12_knows_80 rfl ?_
    refine a_getR dX12_knows_81 fl_RX12_13 rfl g0 (fun r3 h4 => ?_)
    refine a_iconst (v := nI 5) dX12_knows_84 (by decide) ?_
    refine a_iload_n dX12_knows_85 rfl ?_
    refine a_imul dX12_knows_86 ?_
    refine a_iload_n dX12_knows_87 rfl ?_
    refine a_iadd dX12_knows_88 ?_
    refine a_iald dX12_knows_89 h4 ?_
    refine a_iast dX12_knows_90 h2 ?_
    refine a_iinc (v := nI 1) dX12_knows_91 rfl (by decide) rfl rfl ?_
    refine a_goto (tgt := 61) dX12_knows_94 (by decide) ?_
    exact AW.weak (Lw_so rfl (Lw_so rfl (Lw_so rfl Lw_end))) (hk61 _ _ _ _ g0)
def f_Mo_knows_61 (S : ba_S) : Nat → Int32 → Int32 → ba_M → Option (ba_M) := fx (fun _ _ _ _ => none) (b_Mo_knows_61 S) FU
theorem l_Mo_knows_61 {S : ba_S} : ∀ (n : Nat) (v0 : Nat) (v1 : Int32) (v2 : Int32) (m : ba_M), ck S v0 11 = true → AW (Y_Mo_knows S) 61 [some (aR (some v0)), some (aI v1), some (aI v2)] [] S m ((fx (F := Nat → Int32 → Int32 → ba_M → Option (ba_M)) (fun _ _ _ _ => none) (b_Mo_knows_61 S) n) v0 v1 v2 m) := by
  intro n
  induction n with
  | zero => intro _ _ _ _ _; exact AW.none
  | succ n ih => exact w_Mo_knows_61 ih
def f_Mo_knows_47 (S : ba_S) (v0 : Nat) (v1 : Int32) (m : ba_M) : Option (ba_M) :=
  (ldR S v0 25 20 fun r5 => (bD S r5 ((nI 5) * (gI m v0 24)) (f_Mo_knows_61 S v0 v1 (nI 0) (wI m r5 (((nI 5) * (gI m v0 24))).toNatClampNeg v1))))
set_option maxRecDepth 100000 in
theorem w_Mo_knows_47 {S : ba_S} : ∀ (v0 : Nat) (v1 : Int32) (m : ba_M), ck S v0 11 = true → AW (Y_Mo_knows S) 47 [some (aR (some v0)), some (aI v1), none] [] S m (f_Mo_knows_47 S v0 v1 m) := by
  intro v0 v1 m g0
  unfold f_Mo_knows_47
  refine a_aload_n dX12_knows_47 rfl ?_
  refine a_getR dX12_knows_48 fl_RX12_56 rfl g0 (fun r5 h6 => ?_)
  refine a_iconst (v := nI 5) dX12_knows_51 (by decide) ?_
  refine a_aload_n dX12_knows_52 rfl ?_
  refine a_getI dX12_knows_53 fl_RX12_144 rfl g0 ?_
  refine a_imul dX12_knows_56 ?_
  refine a_iload_n dX12_knows_57 rfl ?_
  refine a_iast dX12_knows_58 h6 ?_
  refine a_iconst (v := nI 0) dX12_knows_59 (by decide) ?_
  refine a_istore_n dX12_knows_60 rfl rfl ?_
  exact AW.weak (Lw_so rfl (Lw_so rfl (Lw_so rfl Lw_end))) (l_Mo_knows_61 FU _ _ _ _ g0)
def b_Mo_knows_11 (S : ba_S) (k11 : Nat → Int32 → Int32 → ba_M → Option (ba_M)) (v0 : Nat) (v1 : Int32) (v2 : Int32) (m : ba_M) : Option (ba_M) :=
  (if (nI 35) ≤ v2 then (f_Mo_knows_47 S v0 v1 (wI m v0 24 ((gI m v0 24) - (nI 1)))) else (ldR S v0 25 20 fun r7 => (ldR S v0 25 20 fun r9 => (bD S r9 (v2 + (nI 5)) (bD S r7 v2 (k11 v0 v1 (v2 + (nI 1)) (wI m r7 (v2).toNatClampNeg (gI m r9 ((v2 + (nI 5))).toNatClampNeg))))))))
set_option maxRecDepth 100000 in
theorem w_Mo_knows_11 {S : ba_S} {k11 : Nat → Int32 → Int32 → ba_M → Option (ba_M)} (hk11 : ∀ (v0 : Nat) (v1 : Int32) (v2 : Int32) (m : ba_M), ck S v0 11 = true → AW (Y_Mo_knows S) 11 [some (aR (some v0)), some (aI v1), some (aI v2)] [] S m (k11 v0 v1 v2 m)) : ∀ (v0 : Nat) (v1 : Int32) (v2 : Int32) (m : ba_M), ck S v0 11 = true → AW (Y_Mo_knows S) 11 [some (aR (some v0)), some (aI v1), some (aI v2)] [] S m (b_Mo_knows_11 S k11 v0 v1 v2 m) := by
  intro v0 v1 v2 m g0
  unfold b_Mo_knows_11
  refine a_iload_n dX12_knows_11 rfl ?_
  refine a_bipush (v := nI 35) dX12_knows_12 (by decide) ?_
  refine a_ige (tgt := 37) dX12_knows_14 (by decide) (fun _ => ?_) (fun _ => ?_)
  · skip
    refine a_aload_n dX12_knows_37 rfl ?_
    refine a_dup dX12_knows_38 rfl ?_
    refine a_getI dX12_knows_39 fl_RX12_144 rfl g0 ?_
    refine a_iconst (v := nI 1) dX12_knows_42 (by decide) ?_
    refine a_isub dX12_knows_43 ?_
    refine a_putI dX12_knows_44 fl_RX12_144 (rfl : _ = FieldType.int) rfl rfl rfl g0 ?_
    exact AW.weak (Lw_so rfl (Lw_so rfl (Lw_no Lw_end))) (w_Mo_knows_47 _ _ _ g0)
  · skip
    refine a_aload_n dX12_knows_17 rfl ?_
    refine a_getR dX12_knows_18 fl_RX12_56 rfl g0 (fun r7 h8 => ?_)
    refine a_iload_n dX12_knows_21 rfl ?_
    refine a_aload_n dX12_knows_22 rfl ?_
    refine a_getR dX12_knows_23 fl_RX12_56 rfl g0 (fun r9 h10 => ?_)
    refine a_iload_n dX12_knows_26 rfl ?_
    refine a_iconst (v := nI 5) dX12_knows_27 (by decide) ?_
    refine a_iadd dX12_knows_28 ?_
    refine a_iald dX12_knows_29 h10 ?_
    refine a_iast dX12_knows_30 h8 ?_
    refine a_iinc (v := nI 1) dX12_knows_31 rfl (by decide) rfl rfl ?_
    refine a_goto (tgt := 11) dX12_knows_34 (by decide) ?_
    exact AW.weak (Lw_so rfl (Lw_so rfl (Lw_so rfl Lw_end))) (hk11 _ _ _ _ g0)
def f_Mo_knows_11 (S : ba_S) : Nat → Int32 → Int32 → ba_M → Option (ba_M) := fx (fun _ _ _ _ => none) (b_Mo_knows_11 S) FU
theorem l_Mo_knows_11 {S : ba_S} : ∀ (n : Nat) (v0 : Nat) (v1 : Int32) (v2 : Int32) (m : ba_M), ck S v0 11 = true → AW (Y_Mo_knows S) 11 [some (aR (some v0)), some (aI v1), some (aI v2)] [] S m ((fx (F := Nat → Int32 → Int32 → ba_M → Option (ba_M)) (fun _ _ _ _ => none) (b_Mo_knows_11 S) n) v0 v1 v2 m) := by
  intro n
  induction n with
  | zero => intro _ _ _ _ _; exact AW.none
  | succ n ih => exact w_Mo_knows_11 ih
def f_Mo_knows (S : ba_S) (a0 : Nat) (a1 : Int32) (m : ba_M) : Option (ba_M) :=
  cK S a0 11 ((if (gI m a0 24) = (nI 8) then (f_Mo_knows_11 S a0 a1 (nI 0) m) else (f_Mo_knows_47 S a0 a1 m)))
set_option maxRecDepth 100000 in
theorem e_Mo_knows (S : ba_S) (a0 : Nat) (a1 : Int32) (m : ba_M) : AW (Y_Mo_knows S) 0 [some (aR (some a0)), some (aI a1), none] [] S m (f_Mo_knows S a0 a1 m) := by
  unfold f_Mo_knows
  refine AW.ck (fun g0 => ?_)
  refine a_aload_n dX12_knows_0 rfl ?_
  refine a_getI dX12_knows_1 fl_RX12_144 rfl g0 ?_
  refine a_bipush (v := nI 8) dX12_knows_4 (by decide) ?_
  refine a_ine (tgt := 47) dX12_knows_6 (by decide) (fun _ => ?_) (fun _ => ?_)
  · skip
    exact AW.weak (Lw_so rfl (Lw_so rfl (Lw_no Lw_end))) (w_Mo_knows_47 _ _ _ g0)
  · skip
    refine a_iconst (v := nI 0) dX12_knows_9 (by decide) ?_
    refine a_istore_n dX12_knows_10 rfl rfl ?_
    exact AW.weak (Lw_so rfl (Lw_so rfl (Lw_so rfl Lw_end))) (l_Mo_knows_11 FU _ _ _ _ g0)
theorem m_Mo_knows {S : ba_S} {a0 : Nat} {a1 : Int32} {m : ba_M} {q : ba_M} (h : f_Mo_knows S a0 a1 m = some q) : MA (Y_Mo_knows S) yX12_knows none [aR (some a0), aI a1] S m q :=
  ba_met ⟨by decide +kernel, rfl⟩ rfl (fun h => by cases h) (Or.inr (Or.inr (Or.inr (Or.inl ⟨rfl, rfl, rfl⟩)))) rfl (h ▸ e_Mo_knows S a0 a1 m)

abbrev Y_Mo_call (S : ba_S) : ba_Y (Int32 × ba_M) := mI cX12_call RX12 5 2 43 S
def f_Mo_call_44 (S : ba_S) (m : ba_M) : Option (Int32 × ba_M) :=
  (some ((-1 : Int32), m))
set_option maxRecDepth 100000 in
theorem w_Mo_call_44 {S : ba_S} : ∀ (m : ba_M), AW (Y_Mo_call S) 44 [none, none, none, none, none] [] S m (f_Mo_call_44 S m) := by
  intro m
  unfold f_Mo_call_44
  refine a_iconst (v := -1) dX12_call_44 (by decide) ?_
  exact AW.ret dX12_call_45 rfl rfl
def f_Mo_call (S : ba_S) (a0 : Nat) (a1 : Int32) (a2 : Int32) (a3 : Int32) (a4 : Int32) (m : ba_M) : Option (Int32 × ba_M) :=
  cK S a0 11 (((f_Mo_isPlayer S a0 a1 m).bind fun q1 => (if q1.1 = true then ((f_Mo_isPlayer S a0 a2 q1.2).bind fun q2 => (if q2.1 = true then (if a1 = a2 then (f_Mo_call_44 S q2.2) else ((f_Mo_in S a3 (nI 0) (gI q2.2 a0 0) q2.2).bind fun q3 => (if q3.1 = true then ((f_Mo_in S a4 (nI 1) (nI 9) q3.2).bind fun q4 => (if q4.1 = true then ((f_Mo_knows S a0 a1 q4.2).bind fun q5 => (ldR S a0 4 20 fun r6 => (bD S r6 a1 (ldR S a0 4 20 fun r8 => (bD S r8 ((nI 5) + a1) (ldR S a0 4 20 fun r10 => (bD S r10 ((nI 10) + a1) (some ((gI (wI (wI (wI q5 r6 (a1).toNatClampNeg a2) r8 (((nI 5) + a1)).toNatClampNeg a3) r10 (((nI 10) + a1)).toNatClampNeg a4) a0 24), (wI (wI (wI q5 r6 (a1).toNatClampNeg a2) r8 (((nI 5) + a1)).toNatClampNeg a3) r10 (((nI 10) + a1)).toNatClampNeg a4)))))))))) else (f_Mo_call_44 S q4.2))) else (f_Mo_call_44 S q3.2)))) else (f_Mo_call_44 S q2.2))) else (f_Mo_call_44 S q1.2))))
set_option maxRecDepth 100000 in
theorem e_Mo_call (S : ba_S) (a0 : Nat) (a1 : Int32) (a2 : Int32) (a3 : Int32) (a4 : Int32) (m : ba_M) : AW (Y_Mo_call S) 0 [some (aR (some a0)), some (aI a1), some (aI a2), some (aI a3), some (aI a4)] [] S m (f_Mo_call S a0 a1 a2 a3 a4 m) := by
  unfold f_Mo_call
  refine AW.ck (fun g0 => ?_)
  refine a_aload_n dX12_call_0 rfl ?_
  refine a_iload_n dX12_call_1 rfl ?_
  refine a_callV_Z dX12_call_2 lk_RX12_150 mt_Mo_isPlayer vt_Mo_isPlayer ⟨_, rfl, rfl⟩ (fun _ h => m_Mo_isPlayer h) rfl rfl g0 ⟨rfl, rfl, rfl⟩ (fun q1 => ?_)
  refine a_beq (tgt := 44) dX12_call_5 (by decide) (fun _ => ?_) (fun _ => ?_)
  · skip
    exact AW.weak (Lw_no (Lw_no (Lw_no (Lw_no (Lw_no Lw_end))))) (w_Mo_call_44 _)
  · skip
    refine a_aload_n dX12_call_8 rfl ?_
    refine a_iload_n dX12_call_9 rfl ?_
    refine a_callV_Z dX12_call_10 lk_RX12_150 mt_Mo_isPlayer vt_Mo_isPlayer ⟨_, rfl, rfl⟩ (fun _ h => m_Mo_isPlayer h) rfl rfl g0 ⟨rfl, rfl, rfl⟩ (fun q2 => ?_)
    refine a_beq (tgt := 44) dX12_call_13 (by decide) (fun _ => ?_) (fun _ => ?_)
    · skip
      exact AW.weak (Lw_no (Lw_no (Lw_no (Lw_no (Lw_no Lw_end))))) (w_Mo_call_44 _)
    · skip
      refine a_iload_n dX12_call_16 rfl ?_
      refine a_iload_n dX12_call_17 rfl ?_
      refine a_ieq (tgt := 44) dX12_call_18 (by decide) (fun _ => ?_) (fun _ => ?_)
      · skip
        exact AW.weak (Lw_no (Lw_no (Lw_no (Lw_no (Lw_no Lw_end))))) (w_Mo_call_44 _)
      · skip
        refine a_iload_n dX12_call_21 rfl ?_
        refine a_iconst (v := nI 0) dX12_call_22 (by decide) ?_
        refine a_aload_n dX12_call_23 rfl ?_
        refine a_getI dX12_call_24 fl_RX12_68 rfl g0 ?_
        refine a_callS_Z dX12_call_27 lk_RX12_84 mt_Mo_in sv_Mo_in (fun _ h => m_Mo_in h) rfl rfl ⟨rfl, rfl, rfl⟩ (fun q3 => ?_)
        refine a_beq (tgt := 44) dX12_call_30 (by decide) (fun _ => ?_) (fun _ => ?_)
        · skip
          exact AW.weak (Lw_no (Lw_no (Lw_no (Lw_no (Lw_no Lw_end))))) (w_Mo_call_44 _)
        · skip
          refine a_iload dX12_call_33 rfl ?_
          refine a_iconst (v := nI 1) dX12_call_35 (by decide) ?_
          refine a_bipush (v := nI 9) dX12_call_36 (by decide) ?_
          refine a_callS_Z dX12_call_38 lk_RX12_84 mt_Mo_in sv_Mo_in (fun _ h => m_Mo_in h) rfl rfl ⟨rfl, rfl, rfl⟩ (fun q4 => ?_)
          refine a_bne (tgt := 46) dX12_call_41 (by decide) (fun _ => ?_) (fun _ => ?_)
          · skip
            refine a_aload_n dX12_call_46 rfl ?_
            refine a_iload_n dX12_call_47 rfl ?_
            refine a_callV_V dX12_call_48 lk_RX12_204 mt_Mo_knows vt_Mo_knows ⟨_, rfl, rfl⟩ (fun _ h => m_Mo_knows h) rfl rfl g0 ⟨rfl, rfl, rfl⟩ (fun q5 => ?_)
            refine a_aload_n dX12_call_51 rfl ?_
            refine a_getR dX12_call_52 fl_RX12_13 rfl g0 (fun r6 h7 => ?_)
            refine a_iload_n dX12_call_55 rfl ?_
            refine a_iload_n dX12_call_56 rfl ?_
            refine a_iast dX12_call_57 h7 ?_
            refine a_aload_n dX12_call_58 rfl ?_
            refine a_getR dX12_call_59 fl_RX12_13 rfl g0 (fun r8 h9 => ?_)
            refine a_iconst (v := nI 5) dX12_call_62 (by decide) ?_
            refine a_iload_n dX12_call_63 rfl ?_
            refine a_iadd dX12_call_64 ?_
            refine a_iload_n dX12_call_65 rfl ?_
            refine a_iast dX12_call_66 h9 ?_
            refine a_aload_n dX12_call_67 rfl ?_
            refine a_getR dX12_call_68 fl_RX12_13 rfl g0 (fun r10 h11 => ?_)
            refine a_bipush (v := nI 10) dX12_call_71 (by decide) ?_
            refine a_iload_n dX12_call_73 rfl ?_
            refine a_iadd dX12_call_74 ?_
            refine a_iload dX12_call_75 rfl ?_
            refine a_iast dX12_call_77 h11 ?_
            refine a_aload_n dX12_call_78 rfl ?_
            refine a_getI dX12_call_79 fl_RX12_144 rfl g0 ?_
            exact AW.ret dX12_call_82 rfl rfl
          · skip
            exact AW.weak (Lw_no (Lw_no (Lw_no (Lw_no (Lw_no Lw_end))))) (w_Mo_call_44 _)
theorem m_Mo_call {S : ba_S} {a0 : Nat} {a1 : Int32} {a2 : Int32} {a3 : Int32} {a4 : Int32} {m : ba_M} {q : Int32 × ba_M} (h : f_Mo_call S a0 a1 a2 a3 a4 m = some q) : MA (Y_Mo_call S) yX12_call (some .int) [aR (some a0), aI a1, aI a2, aI a3, aI a4] S m q :=
  ba_met ⟨by decide +kernel, rfl⟩ rfl (fun h => by cases h) (Or.inl ⟨rfl, rfl, _, rfl⟩) rfl (h ▸ e_Mo_call S a0 a1 a2 a3 a4 m)

abbrev Y_Mo_letters (S : ba_S) : ba_Y (Int32 × ba_M) := mI cX12_letters RX12 4 2 43 S
def f_Mo_letters_17 (S : ba_S) (m : ba_M) : Option (Int32 × ba_M) :=
  (some ((-1 : Int32), m))
set_option maxRecDepth 100000 in
theorem w_Mo_letters_17 {S : ba_S} : ∀ (m : ba_M), AW (Y_Mo_letters S) 17 [none, none, none, none] [] S m (f_Mo_letters_17 S m) := by
  intro m
  unfold f_Mo_letters_17
  refine a_iconst (v := -1) dX12_letters_17 (by decide) ?_
  exact AW.ret dX12_letters_18 rfl rfl
def f_Mo_letters (S : ba_S) (a0 : Nat) (a1 : Int32) (a2 : Int32) (m : ba_M) : Option (Int32 × ba_M) :=
  cK S a0 11 (((f_Mo_isPlayer S a0 a1 m).bind fun q1 => (if q1.1 = true then ((f_Mo_in S a2 (nI 0) (nI 3) q1.2).bind fun q2 => (if q2.1 = true then ((f_Mo_knows S a0 a1 q2.2).bind fun q3 => (ldR S a0 4 20 fun r4 => (bD S r4 ((nI 15) + a1) (ldR S a0 4 20 fun r6 => (bD S r6 ((nI 15) + a1) (some ((gI q3 r4 (((nI 15) + a1)).toNatClampNeg), (wI q3 r6 (((nI 15) + a1)).toNatClampNeg a2)))))))) else (f_Mo_letters_17 S q2.2))) else (f_Mo_letters_17 S q1.2))))
set_option maxRecDepth 100000 in
theorem e_Mo_letters (S : ba_S) (a0 : Nat) (a1 : Int32) (a2 : Int32) (m : ba_M) : AW (Y_Mo_letters S) 0 [some (aR (some a0)), some (aI a1), some (aI a2), none] [] S m (f_Mo_letters S a0 a1 a2 m) := by
  unfold f_Mo_letters
  refine AW.ck (fun g0 => ?_)
  refine a_aload_n dX12_letters_0 rfl ?_
  refine a_iload_n dX12_letters_1 rfl ?_
  refine a_callV_Z dX12_letters_2 lk_RX12_150 mt_Mo_isPlayer vt_Mo_isPlayer ⟨_, rfl, rfl⟩ (fun _ h => m_Mo_isPlayer h) rfl rfl g0 ⟨rfl, rfl, rfl⟩ (fun q1 => ?_)
  refine a_beq (tgt := 17) dX12_letters_5 (by decide) (fun _ => ?_) (fun _ => ?_)
  · skip
    exact AW.weak (Lw_no (Lw_no (Lw_no (Lw_no Lw_end)))) (w_Mo_letters_17 _)
  · skip
    refine a_iload_n dX12_letters_8 rfl ?_
    refine a_iconst (v := nI 0) dX12_letters_9 (by decide) ?_
    refine a_iconst (v := nI 3) dX12_letters_10 (by decide) ?_
    refine a_callS_Z dX12_letters_11 lk_RX12_84 mt_Mo_in sv_Mo_in (fun _ h => m_Mo_in h) rfl rfl ⟨rfl, rfl, rfl⟩ (fun q2 => ?_)
    refine a_bne (tgt := 19) dX12_letters_14 (by decide) (fun _ => ?_) (fun _ => ?_)
    · skip
      refine a_aload_n dX12_letters_19 rfl ?_
      refine a_iload_n dX12_letters_20 rfl ?_
      refine a_callV_V dX12_letters_21 lk_RX12_204 mt_Mo_knows vt_Mo_knows ⟨_, rfl, rfl⟩ (fun _ h => m_Mo_knows h) rfl rfl g0 ⟨rfl, rfl, rfl⟩ (fun q3 => ?_)
      refine a_aload_n dX12_letters_24 rfl ?_
      refine a_getR dX12_letters_25 fl_RX12_13 rfl g0 (fun r4 h5 => ?_)
      refine a_bipush (v := nI 15) dX12_letters_28 (by decide) ?_
      refine a_iload_n dX12_letters_30 rfl ?_
      refine a_iadd dX12_letters_31 ?_
      refine a_iald dX12_letters_32 h5 ?_
      refine a_istore_n dX12_letters_33 rfl rfl ?_
      refine a_aload_n dX12_letters_34 rfl ?_
      refine a_getR dX12_letters_35 fl_RX12_13 rfl g0 (fun r6 h7 => ?_)
      refine a_bipush (v := nI 15) dX12_letters_38 (by decide) ?_
      refine a_iload_n dX12_letters_40 rfl ?_
      refine a_iadd dX12_letters_41 ?_
      refine a_iload_n dX12_letters_42 rfl ?_
      refine a_iast dX12_letters_43 h7 ?_
      refine a_iload_n dX12_letters_44 rfl ?_
      exact AW.ret dX12_letters_45 rfl rfl
    · skip
      exact AW.weak (Lw_no (Lw_no (Lw_no (Lw_no Lw_end)))) (w_Mo_letters_17 _)
theorem m_Mo_letters {S : ba_S} {a0 : Nat} {a1 : Int32} {a2 : Int32} {m : ba_M} {q : Int32 × ba_M} (h : f_Mo_letters S a0 a1 a2 m = some q) : MA (Y_Mo_letters S) yX12_letters (some .int) [aR (some a0), aI a1, aI a2] S m q :=
  ba_met ⟨by decide +kernel, rfl⟩ rfl (fun h => by cases h) (Or.inl ⟨rfl, rfl, _, rfl⟩) rfl (h ▸ e_Mo_letters S a0 a1 a2 m)

abbrev Y_Mo_undo (S : ba_S) : ba_Y (Int32 × ba_M) := mI cX12_undo RX12 3 0 0 S
def b_Mo_undo_34 (S : ba_S) (k34 : Nat → Int32 → Int32 → ba_M → Option (Int32 × ba_M)) (v0 : Nat) (v1 : Int32) (v2 : Int32) (m : ba_M) : Option (Int32 × ba_M) :=
  (if (nI 4) ≤ v2 then (some ((gI m v0 24), m)) else (ldR S v0 4 20 fun r1 => (ldR S v0 25 20 fun r3 => (bD S r3 ((((nI 5) * (gI m v0 24)) + (nI 1)) + v2) (bD S r1 (((nI 5) * v2) + v1) (k34 v0 v1 (v2 + (nI 1)) (wI m r1 ((((nI 5) * v2) + v1)).toNatClampNeg (gI m r3 (((((nI 5) * (gI m v0 24)) + (nI 1)) + v2)).toNatClampNeg))))))))
set_option maxRecDepth 100000 in
theorem w_Mo_undo_34 {S : ba_S} {k34 : Nat → Int32 → Int32 → ba_M → Option (Int32 × ba_M)} (hk34 : ∀ (v0 : Nat) (v1 : Int32) (v2 : Int32) (m : ba_M), ck S v0 11 = true → AW (Y_Mo_undo S) 34 [some (aR (some v0)), some (aI v1), some (aI v2)] [] S m (k34 v0 v1 v2 m)) : ∀ (v0 : Nat) (v1 : Int32) (v2 : Int32) (m : ba_M), ck S v0 11 = true → AW (Y_Mo_undo S) 34 [some (aR (some v0)), some (aI v1), some (aI v2)] [] S m (b_Mo_undo_34 S k34 v0 v1 v2 m) := by
  intro v0 v1 v2 m g0
  unfold b_Mo_undo_34
  refine a_iload_n dX12_undo_34 rfl ?_
  refine a_iconst (v := nI 4) dX12_undo_35 (by decide) ?_
  refine a_ige (tgt := 70) dX12_undo_36 (by decide) (fun _ => ?_) (fun _ => ?_)
  · skip
    refine a_aload_n dX12_undo_70 rfl ?_
    refine a_getI dX12_undo_71 fl_RX12_144 rfl g0 ?_
    exact AW.ret dX12_undo_74 rfl rfl
  · skip
    refine a_aload_n dX12_undo_39 rfl ?_
    refine a_getR dX12_undo_40 fl_RX12_13 rfl g0 (fun r1 h2 => ?_)
    refine a_iconst (v := nI 5) dX12_undo_43 (by decide) ?_
    refine a_iload_n dX12_undo_44 rfl ?_
    refine a_imul dX12_undo_45 ?_
    refine a_iload_n dX12_undo_46 rfl ?_
    refine a_iadd dX12_undo_47 ?_
    refine a_aload_n dX12_undo_48 rfl ?_
    refine a_getR dX12_undo_49 fl_RX12_56 rfl g0 (fun r3 h4 => ?_)
    refine a_iconst (v := nI 5) dX12_undo_52 (by decide) ?_
    refine a_aload_n dX12_undo_53 rfl ?_
    refine a_getI dX12_undo_54 fl_RX12_144 rfl g0 ?_
    refine a_imul dX12_undo_57 ?_
    refine a_iconst (v := nI 1) dX12_undo_58 (by decide) ?_
    refine a_iadd dX12_undo_59 ?_
    refine a_iload_n dX12_undo_60 rfl ?_
    refine a_iadd dX12_undo_61 ?_
    refine a_iald dX12_undo_62 h4 ?_
    refine a_iast dX12_undo_63 h2 ?_
    refine a_iinc (v := nI 1) dX12_undo_64 rfl (by decide) rfl rfl ?_
    refine a_goto (tgt := 34) dX12_undo_67 (by decide) ?_
    exact AW.weak (Lw_so rfl (Lw_so rfl (Lw_so rfl Lw_end))) (hk34 _ _ _ _ g0)
def f_Mo_undo_34 (S : ba_S) : Nat → Int32 → Int32 → ba_M → Option (Int32 × ba_M) := fx (fun _ _ _ _ => none) (b_Mo_undo_34 S) FU
theorem l_Mo_undo_34 {S : ba_S} : ∀ (n : Nat) (v0 : Nat) (v1 : Int32) (v2 : Int32) (m : ba_M), ck S v0 11 = true → AW (Y_Mo_undo S) 34 [some (aR (some v0)), some (aI v1), some (aI v2)] [] S m ((fx (F := Nat → Int32 → Int32 → ba_M → Option (Int32 × ba_M)) (fun _ _ _ _ => none) (b_Mo_undo_34 S) n) v0 v1 v2 m) := by
  intro n
  induction n with
  | zero => intro _ _ _ _ _; exact AW.none
  | succ n ih => exact w_Mo_undo_34 ih
def f_Mo_undo (S : ba_S) (a0 : Nat) (m : ba_M) : Option (Int32 × ba_M) :=
  cK S a0 11 ((if (gI m a0 24) = 0 then (some ((-2 : Int32), m)) else (ldR S a0 25 20 fun r5 => (bD S r5 ((nI 5) * (gI (wI m a0 24 ((gI m a0 24) - (nI 1))) a0 24)) (f_Mo_undo_34 S a0 (gI (wI m a0 24 ((gI m a0 24) - (nI 1))) r5 (((nI 5) * (gI (wI m a0 24 ((gI m a0 24) - (nI 1))) a0 24))).toNatClampNeg) (nI 0) (wI m a0 24 ((gI m a0 24) - (nI 1))))))))
set_option maxRecDepth 100000 in
theorem e_Mo_undo (S : ba_S) (a0 : Nat) (m : ba_M) : AW (Y_Mo_undo S) 0 [some (aR (some a0)), none, none] [] S m (f_Mo_undo S a0 m) := by
  unfold f_Mo_undo
  refine AW.ck (fun g0 => ?_)
  refine a_aload_n dX12_undo_0 rfl ?_
  refine a_getI dX12_undo_1 fl_RX12_144 rfl g0 ?_
  refine a_zne (tgt := 10) dX12_undo_4 (by decide) (fun _ => ?_) (fun _ => ?_)
  · skip
    refine a_aload_n dX12_undo_10 rfl ?_
    refine a_dup dX12_undo_11 rfl ?_
    refine a_getI dX12_undo_12 fl_RX12_144 rfl g0 ?_
    refine a_iconst (v := nI 1) dX12_undo_15 (by decide) ?_
    refine a_isub dX12_undo_16 ?_
    refine a_putI dX12_undo_17 fl_RX12_144 (rfl : _ = FieldType.int) rfl rfl rfl g0 ?_
    refine a_aload_n dX12_undo_20 rfl ?_
    refine a_getR dX12_undo_21 fl_RX12_56 rfl g0 (fun r5 h6 => ?_)
    refine a_iconst (v := nI 5) dX12_undo_24 (by decide) ?_
    refine a_aload_n dX12_undo_25 rfl ?_
    refine a_getI dX12_undo_26 fl_RX12_144 rfl g0 ?_
    refine a_imul dX12_undo_29 ?_
    refine a_iald dX12_undo_30 h6 ?_
    refine a_istore_n dX12_undo_31 rfl rfl ?_
    refine a_iconst (v := nI 0) dX12_undo_32 (by decide) ?_
    refine a_istore_n dX12_undo_33 rfl rfl ?_
    exact AW.weak (Lw_so rfl (Lw_so rfl (Lw_so rfl Lw_end))) (l_Mo_undo_34 FU _ _ _ _ g0)
  · skip
    refine a_bipush (v := -2) dX12_undo_7 (by decide) ?_
    exact AW.ret dX12_undo_9 rfl rfl
theorem m_Mo_undo {S : ba_S} {a0 : Nat} {m : ba_M} {q : Int32 × ba_M} (h : f_Mo_undo S a0 m = some q) : MA (Y_Mo_undo S) yX12_undo (some .int) [aR (some a0)] S m q :=
  ba_met ⟨by decide +kernel, rfl⟩ rfl (fun h => by cases h) (Or.inl ⟨rfl, rfl, _, rfl⟩) rfl (h ▸ e_Mo_undo S a0 m)

abbrev Y_Mo_seen (S : ba_S) : ba_Y (Int32 × ba_M) := mI cX12_seen RX12 4 2 43 S
def f_Mo_seen_28 (S : ba_S) (m : ba_M) : Option (Int32 × ba_M) :=
  (some ((-1 : Int32), m))
set_option maxRecDepth 100000 in
theorem w_Mo_seen_28 {S : ba_S} : ∀ (m : ba_M), AW (Y_Mo_seen S) 28 [none, none, none, none] [] S m (f_Mo_seen_28 S m) := by
  intro m
  unfold f_Mo_seen_28
  refine a_iconst (v := -1) dX12_seen_28 (by decide) ?_
  exact AW.ret dX12_seen_29 rfl rfl
def f_Mo_seen (S : ba_S) (a0 : Nat) (a1 : Int32) (a2 : Int32) (a3 : Int32) (m : ba_M) : Option (Int32 × ba_M) :=
  cK S a0 11 (((f_Mo_isPlayer S a0 a1 m).bind fun q1 => (if q1.1 = true then ((f_Mo_isPlayer S a0 a2 q1.2).bind fun q2 => (if q2.1 = true then ((f_Mo_in S a3 (nI 0) (gI q2.2 a0 0) q2.2).bind fun q3 => (if q3.1 = true then (if (gI q3.2 a0 26) = (nI 8) then (some ((-3 : Int32), q3.2)) else (ldR S a0 27 20 fun r4 => (bD S r4 ((nI 3) * (gI q3.2 a0 26)) (ldR S a0 27 20 fun r6 => (bD S r6 (((nI 3) * (gI (wI q3.2 r4 (((nI 3) * (gI q3.2 a0 26))).toNatClampNeg a1) a0 26)) + (nI 1)) (ldR S a0 27 20 fun r8 => (bD S r8 (((nI 3) * (gI (wI (wI q3.2 r4 (((nI 3) * (gI q3.2 a0 26))).toNatClampNeg a1) r6 ((((nI 3) * (gI (wI q3.2 r4 (((nI 3) * (gI q3.2 a0 26))).toNatClampNeg a1) a0 26)) + (nI 1))).toNatClampNeg a2) a0 26)) + (nI 2)) (some ((gI (wI (wI (wI (wI q3.2 r4 (((nI 3) * (gI q3.2 a0 26))).toNatClampNeg a1) r6 ((((nI 3) * (gI (wI q3.2 r4 (((nI 3) * (gI q3.2 a0 26))).toNatClampNeg a1) a0 26)) + (nI 1))).toNatClampNeg a2) r8 ((((nI 3) * (gI (wI (wI q3.2 r4 (((nI 3) * (gI q3.2 a0 26))).toNatClampNeg a1) r6 ((((nI 3) * (gI (wI q3.2 r4 (((nI 3) * (gI q3.2 a0 26))).toNatClampNeg a1) a0 26)) + (nI 1))).toNatClampNeg a2) a0 26)) + (nI 2))).toNatClampNeg a3) a0 26 ((gI (wI (wI (wI q3.2 r4 (((nI 3) * (gI q3.2 a0 26))).toNatClampNeg a1) r6 ((((nI 3) * (gI (wI q3.2 r4 (((nI 3) * (gI q3.2 a0 26))).toNatClampNeg a1) a0 26)) + (nI 1))).toNatClampNeg a2) r8 ((((nI 3) * (gI (wI (wI q3.2 r4 (((nI 3) * (gI q3.2 a0 26))).toNatClampNeg a1) r6 ((((nI 3) * (gI (wI q3.2 r4 (((nI 3) * (gI q3.2 a0 26))).toNatClampNeg a1) a0 26)) + (nI 1))).toNatClampNeg a2) a0 26)) + (nI 2))).toNatClampNeg a3) a0 26) + (nI 1))) a0 26), (wI (wI (wI (wI q3.2 r4 (((nI 3) * (gI q3.2 a0 26))).toNatClampNeg a1) r6 ((((nI 3) * (gI (wI q3.2 r4 (((nI 3) * (gI q3.2 a0 26))).toNatClampNeg a1) a0 26)) + (nI 1))).toNatClampNeg a2) r8 ((((nI 3) * (gI (wI (wI q3.2 r4 (((nI 3) * (gI q3.2 a0 26))).toNatClampNeg a1) r6 ((((nI 3) * (gI (wI q3.2 r4 (((nI 3) * (gI q3.2 a0 26))).toNatClampNeg a1) a0 26)) + (nI 1))).toNatClampNeg a2) a0 26)) + (nI 2))).toNatClampNeg a3) a0 26 ((gI (wI (wI (wI q3.2 r4 (((nI 3) * (gI q3.2 a0 26))).toNatClampNeg a1) r6 ((((nI 3) * (gI (wI q3.2 r4 (((nI 3) * (gI q3.2 a0 26))).toNatClampNeg a1) a0 26)) + (nI 1))).toNatClampNeg a2) r8 ((((nI 3) * (gI (wI (wI q3.2 r4 (((nI 3) * (gI q3.2 a0 26))).toNatClampNeg a1) r6 ((((nI 3) * (gI (wI q3.2 r4 (((nI 3) * (gI q3.2 a0 26))).toNatClampNeg a1) a0 26)) + (nI 1))).toNatClampNeg a2) a0 26)) + (nI 2))).toNatClampNeg a3) a0 26) + (nI 1)))))))))))) else (f_Mo_seen_28 S q3.2))) else (f_Mo_seen_28 S q2.2))) else (f_Mo_seen_28 S q1.2))))
set_option maxRecDepth 100000 in
theorem e_Mo_seen (S : ba_S) (a0 : Nat) (a1 : Int32) (a2 : Int32) (a3 : Int32) (m : ba_M) : AW (Y_Mo_seen S) 0 [some (aR (some a0)), some (aI a1), some (aI a2), some (aI a3)] [] S m (f_Mo_seen S a0 a1 a2 a3 m) := by
  unfold f_Mo_seen
  refine AW.ck (fun g0 => ?_)
  refine a_aload_n dX12_seen_0 rfl ?_
  refine a_iload_n dX12_seen_1 rfl ?_
  refine a_callV_Z dX12_seen_2 lk_RX12_150 mt_Mo_isPlayer vt_Mo_isPlayer ⟨_, rfl, rfl⟩ (fun _ h => m_Mo_isPlayer h) rfl rfl g0 ⟨rfl, rfl, rfl⟩ (fun q1 => ?_)
  refine a_beq (tgt := 28) dX12_seen_5 (by decide) (fun _ => ?_) (fun _ => ?_)
  · skip
    exact AW.weak (Lw_no (Lw_no (Lw_no (Lw_no Lw_end)))) (w_Mo_seen_28 _)
  · skip
    refine a_aload_n dX12_seen_8 rfl ?_
    refine a_iload_n dX12_seen_9 rfl ?_
    refine a_callV_Z dX12_seen_10 lk_RX12_150 mt_Mo_isPlayer vt_Mo_isPlayer ⟨_, rfl, rfl⟩ (fun _ h => m_Mo_isPlayer h) rfl rfl g0 ⟨rfl, rfl, rfl⟩ (fun q2 => ?_)
    refine a_beq (tgt := 28) dX12_seen_13 (by decide) (fun _ => ?_) (fun _ => ?_)
    · skip
      exact AW.weak (Lw_no (Lw_no (Lw_no (Lw_no Lw_end)))) (w_Mo_seen_28 _)
    · skip
      refine a_iload_n dX12_seen_16 rfl ?_
      refine a_iconst (v := nI 0) dX12_seen_17 (by decide) ?_
      refine a_aload_n dX12_seen_18 rfl ?_
      refine a_getI dX12_seen_19 fl_RX12_68 rfl g0 ?_
      refine a_callS_Z dX12_seen_22 lk_RX12_84 mt_Mo_in sv_Mo_in (fun _ h => m_Mo_in h) rfl rfl ⟨rfl, rfl, rfl⟩ (fun q3 => ?_)
      refine a_bne (tgt := 30) dX12_seen_25 (by decide) (fun _ => ?_) (fun _ => ?_)
      · skip
        refine a_aload_n dX12_seen_30 rfl ?_
        refine a_getI dX12_seen_31 fl_RX12_141 rfl g0 ?_
        refine a_bipush (v := nI 8) dX12_seen_34 (by decide) ?_
        refine a_ine (tgt := 42) dX12_seen_36 (by decide) (fun _ => ?_) (fun _ => ?_)
        · skip
          refine a_aload_n dX12_seen_42 rfl ?_
          refine a_getR dX12_seen_43 fl_RX12_59 rfl g0 (fun r4 h5 => ?_)
          refine a_iconst (v := nI 3) dX12_seen_46 (by decide) ?_
          refine a_aload_n dX12_seen_47 rfl ?_
          refine a_getI dX12_seen_48 fl_RX12_141 rfl g0 ?_
          refine a_imul dX12_seen_51 ?_
          refine a_iload_n dX12_seen_52 rfl ?_
          refine a_iast dX12_seen_53 h5 ?_
          refine a_aload_n dX12_seen_54 rfl ?_
          refine a_getR dX12_seen_55 fl_RX12_59 rfl g0 (fun r6 h7 => ?_)
          refine a_iconst (v := nI 3) dX12_seen_58 (by decide) ?_
          refine a_aload_n dX12_seen_59 rfl ?_
          refine a_getI dX12_seen_60 fl_RX12_141 rfl g0 ?_
          refine a_imul dX12_seen_63 ?_
          refine a_iconst (v := nI 1) dX12_seen_64 (by decide) ?_
          refine a_iadd dX12_seen_65 ?_
          refine a_iload_n dX12_seen_66 rfl ?_
          refine a_iast dX12_seen_67 h7 ?_
          refine a_aload_n dX12_seen_68 rfl ?_
          refine a_getR dX12_seen_69 fl_RX12_59 rfl g0 (fun r8 h9 => ?_)
          refine a_iconst (v := nI 3) dX12_seen_72 (by decide) ?_
          refine a_aload_n dX12_seen_73 rfl ?_
          refine a_getI dX12_seen_74 fl_RX12_141 rfl g0 ?_
          refine a_imul dX12_seen_77 ?_
          refine a_iconst (v := nI 2) dX12_seen_78 (by decide) ?_
          refine a_iadd dX12_seen_79 ?_
          refine a_iload_n dX12_seen_80 rfl ?_
          refine a_iast dX12_seen_81 h9 ?_
          refine a_aload_n dX12_seen_82 rfl ?_
          refine a_dup dX12_seen_83 rfl ?_
          refine a_getI dX12_seen_84 fl_RX12_141 rfl g0 ?_
          refine a_iconst (v := nI 1) dX12_seen_87 (by decide) ?_
          refine a_iadd dX12_seen_88 ?_
          refine a_putI dX12_seen_89 fl_RX12_141 (rfl : _ = FieldType.int) rfl rfl rfl g0 ?_
          refine a_aload_n dX12_seen_92 rfl ?_
          refine a_getI dX12_seen_93 fl_RX12_141 rfl g0 ?_
          exact AW.ret dX12_seen_96 rfl rfl
        · skip
          refine a_bipush (v := -3) dX12_seen_39 (by decide) ?_
          exact AW.ret dX12_seen_41 rfl rfl
      · skip
        exact AW.weak (Lw_no (Lw_no (Lw_no (Lw_no Lw_end)))) (w_Mo_seen_28 _)
theorem m_Mo_seen {S : ba_S} {a0 : Nat} {a1 : Int32} {a2 : Int32} {a3 : Int32} {m : ba_M} {q : Int32 × ba_M} (h : f_Mo_seen S a0 a1 a2 a3 m = some q) : MA (Y_Mo_seen S) yX12_seen (some .int) [aR (some a0), aI a1, aI a2, aI a3] S m q :=
  ba_met ⟨by decide +kernel, rfl⟩ rfl (fun h => by cases h) (Or.inl ⟨rfl, rfl, _, rfl⟩) rfl (h ▸ e_Mo_seen S a0 a1 a2 a3 m)

abbrev Y_Mo_forget (S : ba_S) : ba_Y (Int32 × ba_M) := mI cX12_forget RX12 2 0 0 S
def f_Mo_forget (S : ba_S) (a0 : Nat) (m : ba_M) : Option (Int32 × ba_M) :=
  cK S a0 11 ((some ((gI m a0 26), (wI m a0 26 (nI 0)))))
set_option maxRecDepth 100000 in
theorem e_Mo_forget (S : ba_S) (a0 : Nat) (m : ba_M) : AW (Y_Mo_forget S) 0 [some (aR (some a0)), none] [] S m (f_Mo_forget S a0 m) := by
  unfold f_Mo_forget
  refine AW.ck (fun g0 => ?_)
  refine a_aload_n dX12_forget_0 rfl ?_
  refine a_getI dX12_forget_1 fl_RX12_141 rfl g0 ?_
  refine a_istore_n dX12_forget_4 rfl rfl ?_
  refine a_aload_n dX12_forget_5 rfl ?_
  refine a_iconst (v := nI 0) dX12_forget_6 (by decide) ?_
  refine a_putI dX12_forget_7 fl_RX12_141 (rfl : _ = FieldType.int) rfl rfl rfl g0 ?_
  refine a_iload_n dX12_forget_10 rfl ?_
  exact AW.ret dX12_forget_11 rfl rfl
theorem m_Mo_forget {S : ba_S} {a0 : Nat} {m : ba_M} {q : Int32 × ba_M} (h : f_Mo_forget S a0 m = some q) : MA (Y_Mo_forget S) yX12_forget (some .int) [aR (some a0)] S m q :=
  ba_met ⟨by decide +kernel, rfl⟩ rfl (fun h => by cases h) (Or.inl ⟨rfl, rfl, _, rfl⟩) rfl (h ▸ e_Mo_forget S a0 m)

abbrev Y_Mo_kinds (S : ba_S) : ba_Y (Int32 × ba_M) := mI cX12_kinds RX12 8 2 49 S
def f_Mo_kinds_158 (S : ba_S) (k15 : Nat → Int32 → Int32 → Int32 → ba_M → Option (Int32 × ba_M)) (k68 : Nat → Int32 → Int32 → Int32 → Int32 → Int32 → Int32 → ba_M → Option (Int32 × ba_M)) (v0 : Nat) (v1 : Int32) (v3 : Int32) (v4 : Int32) (v5 : Int32) (v6 : Int32) (s0 : Int32) (s1 : Int32) (m : ba_M) : Option (Int32 × ba_M) :=
  (k68 v0 v1 (s0 &&& s1) v3 v4 v5 (v6 + (nI 1)) m)
set_option maxRecDepth 100000 in
theorem w_Mo_kinds_158 {S : ba_S} {k15 : Nat → Int32 → Int32 → Int32 → ba_M → Option (Int32 × ba_M)} (hk15 : ∀ (v0 : Nat) (v1 : Int32) (v2 : Int32) (v3 : Int32) (m : ba_M), ck S v0 11 = true → AW (Y_Mo_kinds S) 15 [some (aR (some v0)), some (aI v1), some (aI v2), some (aI v3), none, none, none, none] [] S m (k15 v0 v1 v2 v3 m)) {k68 : Nat → Int32 → Int32 → Int32 → Int32 → Int32 → Int32 → ba_M → Option (Int32 × ba_M)} (hk68 : ∀ (v0 : Nat) (v1 : Int32) (v2 : Int32) (v3 : Int32) (v4 : Int32) (v5 : Int32) (v6 : Int32) (m : ba_M), ck S v0 11 = true → AW (Y_Mo_kinds S) 68 [some (aR (some v0)), some (aI v1), some (aI v2), some (aI v3), some (aI v4), some (aI v5), some (aI v6), none] [] S m (k68 v0 v1 v2 v3 v4 v5 v6 m)) : ∀ (v0 : Nat) (v1 : Int32) (v3 : Int32) (v4 : Int32) (v5 : Int32) (v6 : Int32) (s0 : Int32) (s1 : Int32) (m : ba_M), ck S v0 11 = true → AW (Y_Mo_kinds S) 158 [some (aR (some v0)), some (aI v1), none, some (aI v3), some (aI v4), some (aI v5), some (aI v6), none] [aI s1, aI s0] S m (f_Mo_kinds_158 S k15 k68 v0 v1 v3 v4 v5 v6 s0 s1 m) := by
  intro v0 v1 v3 v4 v5 v6 s0 s1 m g0
  unfold f_Mo_kinds_158
  refine a_iand dX12_kinds_158 ?_
  refine a_istore_n dX12_kinds_159 rfl rfl ?_
  refine a_iinc (v := nI 1) dX12_kinds_160 rfl (by decide) rfl rfl ?_
  refine a_goto (tgt := 68) dX12_kinds_163 (by decide) ?_
  exact AW.weak (Lw_so rfl (Lw_so rfl (Lw_so rfl (Lw_so rfl (Lw_so rfl (Lw_so rfl (Lw_so rfl (Lw_no Lw_end)))))))) (hk68 _ _ _ _ _ _ _ _ g0)
def f_Mo_kinds_156 (S : ba_S) (k15 : Nat → Int32 → Int32 → Int32 → ba_M → Option (Int32 × ba_M)) (k68 : Nat → Int32 → Int32 → Int32 → Int32 → Int32 → Int32 → ba_M → Option (Int32 × ba_M)) (v0 : Nat) (v1 : Int32) (v3 : Int32) (v4 : Int32) (v5 : Int32) (v6 : Int32) (s0 : Int32) (m : ba_M) : Option (Int32 × ba_M) :=
  (f_Mo_kinds_158 S k15 k68 v0 v1 v3 v4 v5 v6 s0 (nI 15) m)
set_option maxRecDepth 100000 in
theorem w_Mo_kinds_156 {S : ba_S} {k15 : Nat → Int32 → Int32 → Int32 → ba_M → Option (Int32 × ba_M)} (hk15 : ∀ (v0 : Nat) (v1 : Int32) (v2 : Int32) (v3 : Int32) (m : ba_M), ck S v0 11 = true → AW (Y_Mo_kinds S) 15 [some (aR (some v0)), some (aI v1), some (aI v2), some (aI v3), none, none, none, none] [] S m (k15 v0 v1 v2 v3 m)) {k68 : Nat → Int32 → Int32 → Int32 → Int32 → Int32 → Int32 → ba_M → Option (Int32 × ba_M)} (hk68 : ∀ (v0 : Nat) (v1 : Int32) (v2 : Int32) (v3 : Int32) (v4 : Int32) (v5 : Int32) (v6 : Int32) (m : ba_M), ck S v0 11 = true → AW (Y_Mo_kinds S) 68 [some (aR (some v0)), some (aI v1), some (aI v2), some (aI v3), some (aI v4), some (aI v5), some (aI v6), none] [] S m (k68 v0 v1 v2 v3 v4 v5 v6 m)) : ∀ (v0 : Nat) (v1 : Int32) (v3 : Int32) (v4 : Int32) (v5 : Int32) (v6 : Int32) (s0 : Int32) (m : ba_M), ck S v0 11 = true → AW (Y_Mo_kinds S) 156 [some (aR (some v0)), some (aI v1), none, some (aI v3), some (aI v4), some (aI v5), some (aI v6), none] [aI s0] S m (f_Mo_kinds_156 S k15 k68 v0 v1 v3 v4 v5 v6 s0 m) := by
  intro v0 v1 v3 v4 v5 v6 s0 m g0
  unfold f_Mo_kinds_156
  refine a_bipush (v := nI 15) dX12_kinds_156 (by decide) ?_
  exact AW.weak (Lw_so rfl (Lw_so rfl (Lw_no (Lw_so rfl (Lw_so rfl (Lw_so rfl (Lw_so rfl (Lw_no Lw_end)))))))) (w_Mo_kinds_158 hk15 hk68 _ _ _ _ _ _ _ _ _ g0)
def f_Mo_kinds_115 (S : ba_S) (k15 : Nat → Int32 → Int32 → Int32 → ba_M → Option (Int32 × ba_M)) (k68 : Nat → Int32 → Int32 → Int32 → Int32 → Int32 → Int32 → ba_M → Option (Int32 × ba_M)) (v0 : Nat) (v1 : Int32) (v2 : Int32) (v3 : Int32) (v4 : Int32) (v5 : Int32) (v6 : Int32) (s0 : Int32) (m : ba_M) : Option (Int32 × ba_M) :=
  (ldR S v0 27 20 fun r1 => (bD S r1 (((nI 3) * v3) + (nI 1)) (if (gI m r1 ((((nI 3) * v3) + (nI 1))).toNatClampNeg) = v1 then (ldR S v0 27 20 fun r3 => (bD S r3 (((nI 3) * v3) + (nI 2)) (if s0 = (gI m r3 ((((nI 3) * v3) + (nI 2))).toNatClampNeg) then (f_Mo_kinds_156 S k15 k68 v0 v1 v3 v4 v5 v6 v2 m) else (f_Mo_kinds_158 S k15 k68 v0 v1 v3 v4 v5 v6 v2 (((nI 1) <<< (v6 &&& 31)) ^^^ (-1 : Int32)) m)))) else (f_Mo_kinds_156 S k15 k68 v0 v1 v3 v4 v5 v6 v2 m))))
set_option maxRecDepth 100000 in
theorem w_Mo_kinds_115 {S : ba_S} {k15 : Nat → Int32 → Int32 → Int32 → ba_M → Option (Int32 × ba_M)} (hk15 : ∀ (v0 : Nat) (v1 : Int32) (v2 : Int32) (v3 : Int32) (m : ba_M), ck S v0 11 = true → AW (Y_Mo_kinds S) 15 [some (aR (some v0)), some (aI v1), some (aI v2), some (aI v3), none, none, none, none] [] S m (k15 v0 v1 v2 v3 m)) {k68 : Nat → Int32 → Int32 → Int32 → Int32 → Int32 → Int32 → ba_M → Option (Int32 × ba_M)} (hk68 : ∀ (v0 : Nat) (v1 : Int32) (v2 : Int32) (v3 : Int32) (v4 : Int32) (v5 : Int32) (v6 : Int32) (m : ba_M), ck S v0 11 = true → AW (Y_Mo_kinds S) 68 [some (aR (some v0)), some (aI v1), some (aI v2), some (aI v3), some (aI v4), some (aI v5), some (aI v6), none] [] S m (k68 v0 v1 v2 v3 v4 v5 v6 m)) : ∀ (v0 : Nat) (v1 : Int32) (v2 : Int32) (v3 : Int32) (v4 : Int32) (v5 : Int32) (v6 : Int32) (s0 : Int32) (m : ba_M), ck S v0 11 = true → AW (Y_Mo_kinds S) 115 [some (aR (some v0)), some (aI v1), some (aI v2), some (aI v3), some (aI v4), some (aI v5), some (aI v6), none] [aI s0] S m (f_Mo_kinds_115 S k15 k68 v0 v1 v2 v3 v4 v5 v6 s0 m) := by
  intro v0 v1 v2 v3 v4 v5 v6 s0 m g0
  unfold f_Mo_kinds_115
  refine a_istore dX12_kinds_115 rfl rfl ?_
  refine a_iload_n dX12_kinds_117 rfl ?_
  refine a_aload_n dX12_kinds_118 rfl ?_
  refine a_getR dX12_kinds_119 fl_RX12_59 rfl g0 (fun r1 h2 => ?_)
  refine a_iconst (v := nI 3) dX12_kinds_122 (by decide) ?_
  refine a_iload_n dX12_kinds_123 rfl ?_
  refine a_imul dX12_kinds_124 ?_
  refine a_iconst (v := nI 1) dX12_kinds_125 (by decide) ?_
  refine a_iadd dX12_kinds_126 ?_
  refine a_iald dX12_kinds_127 h2 ?_
  refine a_iload_n dX12_kinds_128 rfl ?_
  refine a_ine (tgt := 156) dX12_kinds_129 (by decide) (fun _ => ?_) (fun _ => ?_)
  · skip
    exact AW.weak (Lw_so rfl (Lw_so rfl (Lw_no (Lw_so rfl (Lw_so rfl (Lw_so rfl (Lw_so rfl (Lw_no Lw_end)))))))) (w_Mo_kinds_156 hk15 hk68 _ _ _ _ _ _ _ _ g0)
  · skip
    refine a_iload dX12_kinds_132 rfl ?_
    refine a_aload_n dX12_kinds_134 rfl ?_
    refine a_getR dX12_kinds_135 fl_RX12_59 rfl g0 (fun r3 h4 => ?_)
    refine a_iconst (v := nI 3) dX12_kinds_138 (by decide) ?_
    refine a_iload_n dX12_kinds_139 rfl ?_
    refine a_imul dX12_kinds_140 ?_
    refine a_iconst (v := nI 2) dX12_kinds_141 (by decide) ?_
    refine a_iadd dX12_kinds_142 ?_
    refine a_iald dX12_kinds_143 h4 ?_
    refine a_ieq (tgt := 156) dX12_kinds_144 (by decide) (fun _ => ?_) (fun _ => ?_)
    · skip
      exact AW.weak (Lw_so rfl (Lw_so rfl (Lw_no (Lw_so rfl (Lw_so rfl (Lw_so rfl (Lw_so rfl (Lw_no Lw_end)))))))) (w_Mo_kinds_156 hk15 hk68 _ _ _ _ _ _ _ _ g0)
    · skip
      refine a_iconst (v := nI 1) dX12_kinds_147 (by decide) ?_
      refine a_iload dX12_kinds_148 rfl ?_
      refine a_ishl dX12_kinds_150 ?_
      refine a_iconst (v := -1) dX12_kinds_151 (by decide) ?_
      refine a_ixor dX12_kinds_152 ?_
      refine a_goto (tgt := 158) dX12_kinds_153 (by decide) ?_
      exact AW.weak (Lw_so rfl (Lw_so rfl (Lw_no (Lw_so rfl (Lw_so rfl (Lw_so rfl (Lw_so rfl (Lw_no Lw_end)))))))) (w_Mo_kinds_158 hk15 hk68 _ _ _ _ _ _ _ _ _ g0)
def b_Mo_kinds_68 (S : ba_S) (k15 : Nat → Int32 → Int32 → Int32 → ba_M → Option (Int32 × ba_M)) (k68 : Nat → Int32 → Int32 → Int32 → Int32 → Int32 → Int32 → ba_M → Option (Int32 × ba_M)) (v0 : Nat) (v1 : Int32) (v2 : Int32) (v3 : Int32) (v4 : Int32) (v5 : Int32) (v6 : Int32) (m : ba_M) : Option (Int32 × ba_M) :=
  (if (nI 3) < v6 then (k15 v0 v1 v2 (v3 + (nI 1)) m) else (ldR S v0 4 20 fun r5 => (bD S r5 v4 (if (gI m r5 (v4).toNatClampNeg) = v1 then (ldR S v0 4 20 fun r10 => (bD S r10 ((nI 5) + v4) (f_Mo_kinds_115 S k15 k68 v0 v1 v2 v3 v4 v5 v6 (gI m r10 (((nI 5) + v4)).toNatClampNeg) m))) else (ldR S v0 4 20 fun r7 => (bD S r7 ((nI 5) + v4) ((f_Mo_standsOf S v0 v1 v6 (gI m r7 (((nI 5) + v4)).toNatClampNeg) v5 m).bind fun q9 => (f_Mo_kinds_115 S k15 k68 v0 v1 v2 v3 v4 v5 v6 q9.1 q9.2))))))))
set_option maxRecDepth 100000 in
theorem w_Mo_kinds_68 {S : ba_S} {k15 : Nat → Int32 → Int32 → Int32 → ba_M → Option (Int32 × ba_M)} (hk15 : ∀ (v0 : Nat) (v1 : Int32) (v2 : Int32) (v3 : Int32) (m : ba_M), ck S v0 11 = true → AW (Y_Mo_kinds S) 15 [some (aR (some v0)), some (aI v1), some (aI v2), some (aI v3), none, none, none, none] [] S m (k15 v0 v1 v2 v3 m)) {k68 : Nat → Int32 → Int32 → Int32 → Int32 → Int32 → Int32 → ba_M → Option (Int32 × ba_M)} (hk68 : ∀ (v0 : Nat) (v1 : Int32) (v2 : Int32) (v3 : Int32) (v4 : Int32) (v5 : Int32) (v6 : Int32) (m : ba_M), ck S v0 11 = true → AW (Y_Mo_kinds S) 68 [some (aR (some v0)), some (aI v1), some (aI v2), some (aI v3), some (aI v4), some (aI v5), some (aI v6), none] [] S m (k68 v0 v1 v2 v3 v4 v5 v6 m)) : ∀ (v0 : Nat) (v1 : Int32) (v2 : Int32) (v3 : Int32) (v4 : Int32) (v5 : Int32) (v6 : Int32) (m : ba_M), ck S v0 11 = true → AW (Y_Mo_kinds S) 68 [some (aR (some v0)), some (aI v1), some (aI v2), some (aI v3), some (aI v4), some (aI v5), some (aI v6), none] [] S m (b_Mo_kinds_68 S k15 k68 v0 v1 v2 v3 v4 v5 v6 m) := by
  intro v0 v1 v2 v3 v4 v5 v6 m g0
  unfold b_Mo_kinds_68
  refine a_iload dX12_kinds_68 rfl ?_
  refine a_iconst (v := nI 3) dX12_kinds_70 (by decide) ?_
  refine a_igt (tgt := 166) dX12_kinds_71 (by decide) (fun _ => ?_) (fun _ => ?_)
  · skip
    refine a_iinc (v := nI 1) dX12_kinds_166 rfl (by decide) rfl rfl ?_
    refine a_goto (tgt := 15) dX12_kinds_169 (by decide) ?_
    exact AW.weak (Lw_so rfl (Lw_so rfl (Lw_so rfl (Lw_so rfl (Lw_no (Lw_no (Lw_no (Lw_no Lw_end)))))))) (hk15 _ _ _ _ _ g0)
  · skip
    refine a_aload_n dX12_kinds_74 rfl ?_
    refine a_getR dX12_kinds_75 fl_RX12_13 rfl g0 (fun r5 h6 => ?_)
    refine a_iload dX12_kinds_78 rfl ?_
    refine a_iald dX12_kinds_80 h6 ?_
    refine a_iload_n dX12_kinds_81 rfl ?_
    refine a_ine (tgt := 97) dX12_kinds_82 (by decide) (fun _ => ?_) (fun _ => ?_)
    · skip
      refine a_aload_n dX12_kinds_97 rfl ?_
      refine a_iload_n dX12_kinds_98 rfl ?_
      refine a_iload dX12_kinds_99 rfl ?_
      refine a_aload_n dX12_kinds_101 rfl ?_
      refine a_getR dX12_kinds_102 fl_RX12_13 rfl g0 (fun r7 h8 => ?_)
      refine a_iconst (v := nI 5) dX12_kinds_105 (by decide) ?_
      refine a_iload dX12_kinds_106 rfl ?_
      refine a_iadd dX12_kinds_108 ?_
      refine a_iald dX12_kinds_109 h8 ?_
      refine a_iload dX12_kinds_110 rfl ?_
      refine a_callV_I dX12_kinds_112 lk_RX12_163 mt_Mo_standsOf vt_Mo_standsOf ⟨_, rfl, rfl⟩ (fun _ h => m_Mo_standsOf h) rfl rfl g0 ⟨rfl, rfl, rfl⟩ (fun q9 => ?_)
      exact AW.weak (Lw_so rfl (Lw_so rfl (Lw_so rfl (Lw_so rfl (Lw_so rfl (Lw_so rfl (Lw_so rfl (Lw_no Lw_end)))))))) (w_Mo_kinds_115 hk15 hk68 _ _ _ _ _ _ _ _ _ g0)
    · skip
      refine a_aload_n dX12_kinds_85 rfl ?_
      refine a_getR dX12_kinds_86 fl_RX12_13 rfl g0 (fun r10 h11 => ?_)
      refine a_iconst (v := nI 5) dX12_kinds_89 (by decide) ?_
      refine a_iload dX12_kinds_90 rfl ?_
      refine a_iadd dX12_kinds_92 ?_
      refine a_iald dX12_kinds_93 h11 ?_
      refine a_goto (tgt := 115) dX12_kinds_94 (by decide) ?_
      exact AW.weak (Lw_so rfl (Lw_so rfl (Lw_so rfl (Lw_so rfl (Lw_so rfl (Lw_so rfl (Lw_so rfl (Lw_no Lw_end)))))))) (w_Mo_kinds_115 hk15 hk68 _ _ _ _ _ _ _ _ _ g0)
def f_Mo_kinds_68 (S : ba_S) (k15 : Nat → Int32 → Int32 → Int32 → ba_M → Option (Int32 × ba_M)) : Nat → Int32 → Int32 → Int32 → Int32 → Int32 → Int32 → ba_M → Option (Int32 × ba_M) := fx (fun _ _ _ _ _ _ _ _ => none) (b_Mo_kinds_68 S k15) FU
theorem l_Mo_kinds_68 {S : ba_S} {k15 : Nat → Int32 → Int32 → Int32 → ba_M → Option (Int32 × ba_M)} (hk15 : ∀ (v0 : Nat) (v1 : Int32) (v2 : Int32) (v3 : Int32) (m : ba_M), ck S v0 11 = true → AW (Y_Mo_kinds S) 15 [some (aR (some v0)), some (aI v1), some (aI v2), some (aI v3), none, none, none, none] [] S m (k15 v0 v1 v2 v3 m)) : ∀ (n : Nat) (v0 : Nat) (v1 : Int32) (v2 : Int32) (v3 : Int32) (v4 : Int32) (v5 : Int32) (v6 : Int32) (m : ba_M), ck S v0 11 = true → AW (Y_Mo_kinds S) 68 [some (aR (some v0)), some (aI v1), some (aI v2), some (aI v3), some (aI v4), some (aI v5), some (aI v6), none] [] S m ((fx (F := Nat → Int32 → Int32 → Int32 → Int32 → Int32 → Int32 → ba_M → Option (Int32 × ba_M)) (fun _ _ _ _ _ _ _ _ => none) (b_Mo_kinds_68 S k15) n) v0 v1 v2 v3 v4 v5 v6 m) := by
  intro n
  induction n with
  | zero => intro _ _ _ _ _ _ _ _ _; exact AW.none
  | succ n ih => exact w_Mo_kinds_68 hk15 ih
def b_Mo_kinds_15 (S : ba_S) (k15 : Nat → Int32 → Int32 → Int32 → ba_M → Option (Int32 × ba_M)) (v0 : Nat) (v1 : Int32) (v2 : Int32) (v3 : Int32) (m : ba_M) : Option (Int32 × ba_M) :=
  (if (gI m v0 26) ≤ v3 then (some (v2, m)) else (ldR S v0 27 20 fun r12 => (bD S r12 ((nI 3) * v3) (ldR S v0 4 20 fun r14 => (bD S r14 (gI m r12 (((nI 3) * v3)).toNatClampNeg) (ldR S v0 4 20 fun r16 => (bD S r16 ((nI 5) + (gI m r12 (((nI 3) * v3)).toNatClampNeg)) (ldR S v0 4 20 fun r18 => (bD S r18 ((nI 10) + (gI m r12 (((nI 3) * v3)).toNatClampNeg)) ((f_Mo_beatsOf S v0 (gI m r14 ((gI m r12 (((nI 3) * v3)).toNatClampNeg)).toNatClampNeg) (gI m r16 (((nI 5) + (gI m r12 (((nI 3) * v3)).toNatClampNeg))).toNatClampNeg) (gI m r18 (((nI 10) + (gI m r12 (((nI 3) * v3)).toNatClampNeg))).toNatClampNeg) m).bind fun q20 => (f_Mo_kinds_68 S k15 v0 v1 v2 v3 (gI m r12 (((nI 3) * v3)).toNatClampNeg) q20.1 (nI 0) q20.2)))))))))))
set_option maxRecDepth 100000 in
theorem w_Mo_kinds_15 {S : ba_S} {k15 : Nat → Int32 → Int32 → Int32 → ba_M → Option (Int32 × ba_M)} (hk15 : ∀ (v0 : Nat) (v1 : Int32) (v2 : Int32) (v3 : Int32) (m : ba_M), ck S v0 11 = true → AW (Y_Mo_kinds S) 15 [some (aR (some v0)), some (aI v1), some (aI v2), some (aI v3), none, none, none, none] [] S m (k15 v0 v1 v2 v3 m)) : ∀ (v0 : Nat) (v1 : Int32) (v2 : Int32) (v3 : Int32) (m : ba_M), ck S v0 11 = true → AW (Y_Mo_kinds S) 15 [some (aR (some v0)), some (aI v1), some (aI v2), some (aI v3), none, none, none, none] [] S m (b_Mo_kinds_15 S k15 v0 v1 v2 v3 m) := by
  intro v0 v1 v2 v3 m g0
  unfold b_Mo_kinds_15
  refine a_iload_n dX12_kinds_15 rfl ?_
  refine a_aload_n dX12_kinds_16 rfl ?_
  refine a_getI dX12_kinds_17 fl_RX12_141 rfl g0 ?_
  refine a_ige (tgt := 172) dX12_kinds_20 (by decide) (fun _ => ?_) (fun _ => ?_)
  · skip
    refine a_iload_n dX12_kinds_172 rfl ?_
    exact AW.ret dX12_kinds_173 rfl rfl
  · skip
    refine a_aload_n dX12_kinds_23 rfl ?_
    refine a_getR dX12_kinds_24 fl_RX12_59 rfl g0 (fun r12 h13 => ?_)
    refine a_iconst (v := nI 3) dX12_kinds_27 (by decide) ?_
    refine a_iload_n dX12_kinds_28 rfl ?_
    refine a_imul dX12_kinds_29 ?_
    refine a_iald dX12_kinds_30 h13 ?_
    refine a_istore dX12_kinds_31 rfl rfl ?_
    refine a_aload_n dX12_kinds_33 rfl ?_
    refine a_aload_n dX12_kinds_34 rfl ?_
    refine a_getR dX12_kinds_35 fl_RX12_13 rfl g0 (fun r14 h15 => ?_)
    refine a_iload dX12_kinds_38 rfl ?_
    refine a_iald dX12_kinds_40 h15 ?_
    refine a_aload_n dX12_kinds_41 rfl ?_
    refine a_getR dX12_kinds_42 fl_RX12_13 rfl g0 (fun r16 h17 => ?_)
    refine a_iconst (v := nI 5) dX12_kinds_45 (by decide) ?_
    refine a_iload dX12_kinds_46 rfl ?_
    refine a_iadd dX12_kinds_48 ?_
    refine a_iald dX12_kinds_49 h17 ?_
    refine a_aload_n dX12_kinds_50 rfl ?_
    refine a_getR dX12_kinds_51 fl_RX12_13 rfl g0 (fun r18 h19 => ?_)
    refine a_bipush (v := nI 10) dX12_kinds_54 (by decide) ?_
    refine a_iload dX12_kinds_56 rfl ?_
    refine a_iadd dX12_kinds_58 ?_
    refine a_iald dX12_kinds_59 h19 ?_
    refine a_callV_I dX12_kinds_60 lk_RX12_156 mt_Mo_beatsOf vt_Mo_beatsOf ⟨_, rfl, rfl⟩ (fun _ h => m_Mo_beatsOf h) rfl rfl g0 ⟨rfl, rfl, rfl⟩ (fun q20 => ?_)
    refine a_istore dX12_kinds_63 rfl rfl ?_
    refine a_iconst (v := nI 0) dX12_kinds_65 (by decide) ?_
    refine a_istore dX12_kinds_66 rfl rfl ?_
    exact AW.weak (Lw_so rfl (Lw_so rfl (Lw_so rfl (Lw_so rfl (Lw_so rfl (Lw_so rfl (Lw_so rfl (Lw_no Lw_end)))))))) (l_Mo_kinds_68 hk15 FU _ _ _ _ _ _ _ _ g0)
def f_Mo_kinds_15 (S : ba_S) : Nat → Int32 → Int32 → Int32 → ba_M → Option (Int32 × ba_M) := fx (fun _ _ _ _ _ => none) (b_Mo_kinds_15 S) FU
theorem l_Mo_kinds_15 {S : ba_S} : ∀ (n : Nat) (v0 : Nat) (v1 : Int32) (v2 : Int32) (v3 : Int32) (m : ba_M), ck S v0 11 = true → AW (Y_Mo_kinds S) 15 [some (aR (some v0)), some (aI v1), some (aI v2), some (aI v3), none, none, none, none] [] S m ((fx (F := Nat → Int32 → Int32 → Int32 → ba_M → Option (Int32 × ba_M)) (fun _ _ _ _ _ => none) (b_Mo_kinds_15 S) n) v0 v1 v2 v3 m) := by
  intro n
  induction n with
  | zero => intro _ _ _ _ _ _; exact AW.none
  | succ n ih => exact w_Mo_kinds_15 ih
def f_Mo_kinds (S : ba_S) (a0 : Nat) (a1 : Int32) (m : ba_M) : Option (Int32 × ba_M) :=
  cK S a0 11 (((f_Mo_isPlayer S a0 a1 m).bind fun q21 => (if q21.1 = true then (f_Mo_kinds_15 S a0 a1 (nI 15) (nI 0) q21.2) else (some ((-1 : Int32), q21.2)))))
set_option maxRecDepth 100000 in
theorem e_Mo_kinds (S : ba_S) (a0 : Nat) (a1 : Int32) (m : ba_M) : AW (Y_Mo_kinds S) 0 [some (aR (some a0)), some (aI a1), none, none, none, none, none, none] [] S m (f_Mo_kinds S a0 a1 m) := by
  unfold f_Mo_kinds
  refine AW.ck (fun g0 => ?_)
  refine a_aload_n dX12_kinds_0 rfl ?_
  refine a_iload_n dX12_kinds_1 rfl ?_
  refine a_callV_Z dX12_kinds_2 lk_RX12_150 mt_Mo_isPlayer vt_Mo_isPlayer ⟨_, rfl, rfl⟩ (fun _ h => m_Mo_isPlayer h) rfl rfl g0 ⟨rfl, rfl, rfl⟩ (fun q21 => ?_)
  refine a_bne (tgt := 10) dX12_kinds_5 (by decide) (fun _ => ?_) (fun _ => ?_)
  · skip
    refine a_bipush (v := nI 15) dX12_kinds_10 (by decide) ?_
    refine a_istore_n dX12_kinds_12 rfl rfl ?_
    refine a_iconst (v := nI 0) dX12_kinds_13 (by decide) ?_
    refine a_istore_n dX12_kinds_14 rfl rfl ?_
    exact AW.weak (Lw_so rfl (Lw_so rfl (Lw_so rfl (Lw_so rfl (Lw_no (Lw_no (Lw_no (Lw_no Lw_end)))))))) (l_Mo_kinds_15 FU _ _ _ _ _ g0)
  · skip
    refine a_iconst (v := -1) dX12_kinds_8 (by decide) ?_
    exact AW.ret dX12_kinds_9 rfl rfl
theorem m_Mo_kinds {S : ba_S} {a0 : Nat} {a1 : Int32} {m : ba_M} {q : Int32 × ba_M} (h : f_Mo_kinds S a0 a1 m = some q) : MA (Y_Mo_kinds S) yX12_kinds (some .int) [aR (some a0), aI a1] S m q :=
  ba_met ⟨by decide +kernel, rfl⟩ rfl (fun h => by cases h) (Or.inl ⟨rfl, rfl, _, rfl⟩) rfl (h ▸ e_Mo_kinds S a0 a1 m)

abbrev Y_Mo_afternoon (S : ba_S) : ba_Y (Int32 × ba_M) := mI cX12_afternoon RX12 8 4 100 S
def f_Mo_afternoon_20 (S : ba_S) (m : ba_M) : Option (Int32 × ba_M) :=
  (some ((-1 : Int32), m))
set_option maxRecDepth 100000 in
theorem w_Mo_afternoon_20 {S : ba_S} : ∀ (m : ba_M), AW (Y_Mo_afternoon S) 20 [none, none, none, none, none, none, none, none] [] S m (f_Mo_afternoon_20 S m) := by
  intro m
  unfold f_Mo_afternoon_20
  refine a_iconst (v := -1) dX12_afternoon_20 (by decide) ?_
  exact AW.ret dX12_afternoon_21 rfl rfl
def f_Mo_afternoon_170 (S : ba_S) (s0 : Int32) (m : ba_M) : Option (Int32 × ba_M) :=
  (some (s0, m))
set_option maxRecDepth 100000 in
theorem w_Mo_afternoon_170 {S : ba_S} : ∀ (s0 : Int32) (m : ba_M), AW (Y_Mo_afternoon S) 170 [none, none, none, none, none, none, none, none] [aI s0] S m (f_Mo_afternoon_170 S s0 m) := by
  intro s0 m
  unfold f_Mo_afternoon_170
  exact AW.ret dX12_afternoon_170 rfl rfl
def f_Mo_afternoon_143 (S : ba_S) (k58 : Nat → Int32 → Int32 → Int32 → Int32 → ba_M → Option (Int32 × ba_M)) (v0 : Nat) (v1 : Int32) (v2 : Int32) (v4 : Int32) (s0 : Int32) (m : ba_M) : Option (Int32 × ba_M) :=
  (ldR S v0 28 20 fun r1 => (bD S r1 s0 (bD S r1 s0 (k58 v0 v1 v2 s0 (v4 + (nI 1)) (wI m r1 (s0).toNatClampNeg ((gI m r1 (s0).toNatClampNeg) + (nI 1)))))))
set_option maxRecDepth 100000 in
theorem w_Mo_afternoon_143 {S : ba_S} {k58 : Nat → Int32 → Int32 → Int32 → Int32 → ba_M → Option (Int32 × ba_M)} (hk58 : ∀ (v0 : Nat) (v1 : Int32) (v2 : Int32) (v3 : Int32) (v4 : Int32) (m : ba_M), ck S v0 11 = true → AW (Y_Mo_afternoon S) 58 [some (aR (some v0)), some (aI v1), some (aI v2), some (aI v3), some (aI v4), none, none, none] [] S m (k58 v0 v1 v2 v3 v4 m)) : ∀ (v0 : Nat) (v1 : Int32) (v2 : Int32) (v4 : Int32) (s0 : Int32) (m : ba_M), ck S v0 11 = true → AW (Y_Mo_afternoon S) 143 [some (aR (some v0)), some (aI v1), some (aI v2), none, some (aI v4), none, none, none] [aI s0] S m (f_Mo_afternoon_143 S k58 v0 v1 v2 v4 s0 m) := by
  intro v0 v1 v2 v4 s0 m g0
  unfold f_Mo_afternoon_143
  refine a_istore_n dX12_afternoon_143 rfl rfl ?_
  refine a_aload_n dX12_afternoon_144 rfl ?_
  refine a_getR dX12_afternoon_145 fl_RX12_62 rfl g0 (fun r1 h2 => ?_)
  refine a_iload_n dX12_afternoon_148 rfl ?_
  refine a_dup2 dX12_afternoon_149 rfl rfl ?_
  refine a_iald dX12_afternoon_150 h2 ?_
  refine a_iconst (v := nI 1) dX12_afternoon_151 (by decide) ?_
  refine a_iadd dX12_afternoon_152 ?_
  refine a_iast dX12_afternoon_153 h2 ?_
  refine a_iinc (v := nI 1) dX12_afternoon_154 rfl (by decide) rfl rfl ?_
  refine a_goto (tgt := 58) dX12_afternoon_157 (by decide) ?_
  exact AW.weak (Lw_so rfl (Lw_so rfl (Lw_so rfl (Lw_so rfl (Lw_so rfl (Lw_no (Lw_no (Lw_no Lw_end)))))))) (hk58 _ _ _ _ _ _ g0)
def f_Mo_afternoon_123 (S : ba_S) (k58 : Nat → Int32 → Int32 → Int32 → Int32 → ba_M → Option (Int32 × ba_M)) (v0 : Nat) (v1 : Int32) (v2 : Int32) (v3 : Int32) (v4 : Int32) (s0 : Bool) (m : ba_M) : Option (Int32 × ba_M) :=
  (if s0 = true then (f_Mo_afternoon_143 S k58 v0 v1 v2 v4 (gI m v0 18) m) else (ldR S v0 4 20 fun r3 => (bD S r3 v3 (f_Mo_afternoon_143 S k58 v0 v1 v2 v4 (gI m r3 (v3).toNatClampNeg) m))))
set_option maxRecDepth 100000 in
theorem w_Mo_afternoon_123 {S : ba_S} {k58 : Nat → Int32 → Int32 → Int32 → Int32 → ba_M → Option (Int32 × ba_M)} (hk58 : ∀ (v0 : Nat) (v1 : Int32) (v2 : Int32) (v3 : Int32) (v4 : Int32) (m : ba_M), ck S v0 11 = true → AW (Y_Mo_afternoon S) 58 [some (aR (some v0)), some (aI v1), some (aI v2), some (aI v3), some (aI v4), none, none, none] [] S m (k58 v0 v1 v2 v3 v4 m)) : ∀ (v0 : Nat) (v1 : Int32) (v2 : Int32) (v3 : Int32) (v4 : Int32) (s0 : Bool) (m : ba_M), ck S v0 11 = true → AW (Y_Mo_afternoon S) 123 [some (aR (some v0)), some (aI v1), some (aI v2), some (aI v3), some (aI v4), none, none, none] [aI (b2i s0)] S m (f_Mo_afternoon_123 S k58 v0 v1 v2 v3 v4 s0 m) := by
  intro v0 v1 v2 v3 v4 s0 m g0
  unfold f_Mo_afternoon_123
  refine a_istore dX12_afternoon_123 rfl rfl ?_
  refine a_iload dX12_afternoon_125 rfl ?_
  refine a_beq (tgt := 137) dX12_afternoon_127 (by decide) (fun _ => ?_) (fun _ => ?_)
  · skip
    refine a_aload_n dX12_afternoon_137 rfl ?_
    refine a_getR dX12_afternoon_138 fl_RX12_13 rfl g0 (fun r3 h4 => ?_)
    refine a_iload_n dX12_afternoon_141 rfl ?_
    refine a_iald dX12_afternoon_142 h4 ?_
    exact AW.weak (Lw_so rfl (Lw_so rfl (Lw_so rfl (Lw_no (Lw_so rfl (Lw_no (Lw_no (Lw_no Lw_end)))))))) (w_Mo_afternoon_143 hk58 _ _ _ _ _ _ g0)
  · skip
    refine a_aload_n dX12_afternoon_130 rfl ?_
    refine a_getI dX12_afternoon_131 fl_RX12_167 rfl g0 ?_
    refine a_goto (tgt := 143) dX12_afternoon_134 (by decide) ?_
    exact AW.weak (Lw_so rfl (Lw_so rfl (Lw_so rfl (Lw_no (Lw_so rfl (Lw_no (Lw_no (Lw_no Lw_end)))))))) (w_Mo_afternoon_143 hk58 _ _ _ _ _ _ g0)
def b_Mo_afternoon_58 (S : ba_S) (k58 : Nat → Int32 → Int32 → Int32 → Int32 → ba_M → Option (Int32 × ba_M)) (v0 : Nat) (v1 : Int32) (v2 : Int32) (v3 : Int32) (v4 : Int32) (m : ba_M) : Option (Int32 × ba_M) :=
  (ldR S v0 28 20 fun r5 => (bD S r5 v3 (if (nI 4) ≤ (gI m r5 (v3).toNatClampNeg) then (if v2 = 0 then (f_Mo_afternoon_170 S v3 m) else (f_Mo_afternoon_170 S v4 m)) else ((f_Mo_go S v0 v3 m).bind fun q7 => (if (lN 65521) = 0 then none else (if (lN 10) = 0 then none else (ldR S v0 16 20 fun r8 => (bD S r8 (gI q7 v0 18) (if 0 ≤ (lg_cmp (((((((lN 7919) * (Int32.toInt64 v1)) + ((lN 6151) * (Int32.toInt64 v4))) + (lN 1)) * ((((lN 7919) * (Int32.toInt64 v1)) + ((lN 6151) * (Int32.toInt64 v4))) + (lN 1))) - (((((lN 7919) * (Int32.toInt64 v1)) + ((lN 6151) * (Int32.toInt64 v4))) + (lN 1)) * ((((lN 7919) * (Int32.toInt64 v1)) + ((lN 6151) * (Int32.toInt64 v4))) + (lN 1))) / (lN 65521) * (lN 65521)) - ((((((lN 7919) * (Int32.toInt64 v1)) + ((lN 6151) * (Int32.toInt64 v4))) + (lN 1)) * ((((lN 7919) * (Int32.toInt64 v1)) + ((lN 6151) * (Int32.toInt64 v4))) + (lN 1))) - (((((lN 7919) * (Int32.toInt64 v1)) + ((lN 6151) * (Int32.toInt64 v4))) + (lN 1)) * ((((lN 7919) * (Int32.toInt64 v1)) + ((lN 6151) * (Int32.toInt64 v4))) + (lN 1))) / (lN 65521) * (lN 65521)) / (lN 10) * (lN 10)) (Int32.toInt64 (gI q7 r8 ((gI q7 v0 18)).toNatClampNeg))) then (f_Mo_afternoon_123 S k58 v0 v1 v2 v3 v4 false q7) else (f_Mo_afternoon_123 S k58 v0 v1 v2 v3 v4 true q7))))))))))
set_option maxRecDepth 100000 in
theorem w_Mo_afternoon_58 {S : ba_S} {k58 : Nat → Int32 → Int32 → Int32 → Int32 → ba_M → Option (Int32 × ba_M)} (hk58 : ∀ (v0 : Nat) (v1 : Int32) (v2 : Int32) (v3 : Int32) (v4 : Int32) (m : ba_M), ck S v0 11 = true → AW (Y_Mo_afternoon S) 58 [some (aR (some v0)), some (aI v1), some (aI v2), some (aI v3), some (aI v4), none, none, none] [] S m (k58 v0 v1 v2 v3 v4 m)) : ∀ (v0 : Nat) (v1 : Int32) (v2 : Int32) (v3 : Int32) (v4 : Int32) (m : ba_M), ck S v0 11 = true → AW (Y_Mo_afternoon S) 58 [some (aR (some v0)), some (aI v1), some (aI v2), some (aI v3), some (aI v4), none, none, none] [] S m (b_Mo_afternoon_58 S k58 v0 v1 v2 v3 v4 m) := by
  intro v0 v1 v2 v3 v4 m g0
  unfold b_Mo_afternoon_58
  refine a_aload_n dX12_afternoon_58 rfl ?_
  refine a_getR dX12_afternoon_59 fl_RX12_62 rfl g0 (fun r5 h6 => ?_)
  refine a_iload_n dX12_afternoon_62 rfl ?_
  refine a_iald dX12_afternoon_63 h6 ?_
  refine a_iconst (v := nI 4) dX12_afternoon_64 (by decide) ?_
  refine a_ige (tgt := 160) dX12_afternoon_65 (by decide) (fun _ => ?_) (fun _ => ?_)
  · skip
    refine a_iload_n dX12_afternoon_160 rfl ?_
    refine a_zne (tgt := 168) dX12_afternoon_161 (by decide) (fun _ => ?_) (fun _ => ?_)
    · skip
      refine a_iload dX12_afternoon_168 rfl ?_
      exact AW.weak (Lw_no (Lw_no (Lw_no (Lw_no (Lw_no (Lw_no (Lw_no (Lw_no Lw_end)))))))) (w_Mo_afternoon_170 _ _)
    · skip
      refine a_iload_n dX12_afternoon_164 rfl ?_
      refine a_goto (tgt := 170) dX12_afternoon_165 (by decide) ?_
      exact AW.weak (Lw_no (Lw_no (Lw_no (Lw_no (Lw_no (Lw_no (Lw_no (Lw_no Lw_end)))))))) (w_Mo_afternoon_170 _ _)
  · skip
    refine a_aload_n dX12_afternoon_68 rfl ?_
    refine a_iload_n dX12_afternoon_69 rfl ?_
    refine a_callV_V dX12_afternoon_70 lk_RX12_177 mt_Mo_go vt_Mo_go ⟨_, rfl, rfl⟩ (fun _ h => m_Mo_go h) rfl rfl g0 ⟨rfl, rfl, rfl⟩ (fun q7 => ?_)
    refine a_ldc2 dX12_afternoon_73 cl_RX12_207 ?_
    refine a_iload_n dX12_afternoon_76 rfl ?_
    refine a_i2l dX12_afternoon_77 ?_
    refine a_lmul dX12_afternoon_78 ?_
    refine a_ldc2 dX12_afternoon_79 cl_RX12_209 ?_
    refine a_iload dX12_afternoon_82 rfl ?_
    refine a_i2l dX12_afternoon_84 ?_
    refine a_lmul dX12_afternoon_85 ?_
    refine a_ladd dX12_afternoon_86 ?_
    refine a_lconst (v := lN 1) dX12_afternoon_87 (by decide) ?_
    refine a_ladd dX12_afternoon_88 ?_
    refine a_lstore dX12_afternoon_89 rfl rfl ?_
    refine a_lload dX12_afternoon_91 rfl ?_
    refine a_lload dX12_afternoon_93 rfl ?_
    refine a_lmul dX12_afternoon_95 ?_
    refine a_ldc2 dX12_afternoon_96 cl_RX12_211 ?_
    refine a_lrem dX12_afternoon_99 ?_
    refine a_ldc2 dX12_afternoon_100 cl_RX12_82 ?_
    refine a_lrem dX12_afternoon_103 ?_
    refine a_aload_n dX12_afternoon_104 rfl ?_
    refine a_getR dX12_afternoon_105 fl_RX12_34 rfl g0 (fun r8 h9 => ?_)
    refine a_aload_n dX12_afternoon_108 rfl ?_
    refine a_getI dX12_afternoon_109 fl_RX12_167 rfl g0 ?_
    refine a_iald dX12_afternoon_112 h9 ?_
    refine a_i2l dX12_afternoon_113 ?_
    refine a_lcmp dX12_afternoon_114 ?_
    refine a_zge (tgt := 122) dX12_afternoon_115 (by decide) (fun _ => ?_) (fun _ => ?_)
    · skip
      refine a_iconst (v := nI 0) dX12_afternoon_122 (by decide) ?_
      exact AW.weak (Lw_so rfl (Lw_so rfl (Lw_so rfl (Lw_so rfl (Lw_so rfl (Lw_no (Lw_no (Lw_no Lw_end)))))))) (w_Mo_afternoon_123 hk58 _ _ _ _ _ _ _ g0)
    · skip
      refine a_iconst (v := nI 1) dX12_afternoon_118 (by decide) ?_
      refine a_goto (tgt := 123) dX12_afternoon_119 (by decide) ?_
      exact AW.weak (Lw_so rfl (Lw_so rfl (Lw_so rfl (Lw_so rfl (Lw_so rfl (Lw_no (Lw_no (Lw_no Lw_end)))))))) (w_Mo_afternoon_123 hk58 _ _ _ _ _ _ _ g0)
def f_Mo_afternoon_58 (S : ba_S) : Nat → Int32 → Int32 → Int32 → Int32 → ba_M → Option (Int32 × ba_M) := fx (fun _ _ _ _ _ _ => none) (b_Mo_afternoon_58 S) FU
theorem l_Mo_afternoon_58 {S : ba_S} : ∀ (n : Nat) (v0 : Nat) (v1 : Int32) (v2 : Int32) (v3 : Int32) (v4 : Int32) (m : ba_M), ck S v0 11 = true → AW (Y_Mo_afternoon S) 58 [some (aR (some v0)), some (aI v1), some (aI v2), some (aI v3), some (aI v4), none, none, none] [] S m ((fx (F := Nat → Int32 → Int32 → Int32 → Int32 → ba_M → Option (Int32 × ba_M)) (fun _ _ _ _ _ _ => none) (b_Mo_afternoon_58 S) n) v0 v1 v2 v3 v4 m) := by
  intro n
  induction n with
  | zero => intro _ _ _ _ _ _ _; exact AW.none
  | succ n ih => exact w_Mo_afternoon_58 ih
def b_Mo_afternoon_24 (S : ba_S) (k24 : Nat → Int32 → Int32 → Int32 → ba_M → Option (Int32 × ba_M)) (v0 : Nat) (v1 : Int32) (v2 : Int32) (v3 : Int32) (m : ba_M) : Option (Int32 × ba_M) :=
  (if (gI m v0 2) ≤ v3 then (f_Mo_afternoon_58 S v0 v1 v2 (nI 0) (nI 0) m) else (ldR S v0 28 20 fun r10 => (ldR S v0 4 20 fun r12 => (bD S r12 ((nI 15) + v3) (bD S r10 v3 (k24 v0 v1 v2 (v3 + (nI 1)) (wI m r10 (v3).toNatClampNeg (gI m r12 (((nI 15) + v3)).toNatClampNeg))))))))
set_option maxRecDepth 100000 in
theorem w_Mo_afternoon_24 {S : ba_S} {k24 : Nat → Int32 → Int32 → Int32 → ba_M → Option (Int32 × ba_M)} (hk24 : ∀ (v0 : Nat) (v1 : Int32) (v2 : Int32) (v3 : Int32) (m : ba_M), ck S v0 11 = true → AW (Y_Mo_afternoon S) 24 [some (aR (some v0)), some (aI v1), some (aI v2), some (aI v3), none, none, none, none] [] S m (k24 v0 v1 v2 v3 m)) : ∀ (v0 : Nat) (v1 : Int32) (v2 : Int32) (v3 : Int32) (m : ba_M), ck S v0 11 = true → AW (Y_Mo_afternoon S) 24 [some (aR (some v0)), some (aI v1), some (aI v2), some (aI v3), none, none, none, none] [] S m (b_Mo_afternoon_24 S k24 v0 v1 v2 v3 m) := by
  intro v0 v1 v2 v3 m g0
  unfold b_Mo_afternoon_24
  refine a_iload_n dX12_afternoon_24 rfl ?_
  refine a_aload_n dX12_afternoon_25 rfl ?_
  refine a_getI dX12_afternoon_26 fl_RX12_75 rfl g0 ?_
  refine a_ige (tgt := 53) dX12_afternoon_29 (by decide) (fun _ => ?_) (fun _ => ?_)
  · skip
    refine a_iconst (v := nI 0) dX12_afternoon_53 (by decide) ?_
    refine a_istore_n dX12_afternoon_54 rfl rfl ?_
    refine a_iconst (v := nI 0) dX12_afternoon_55 (by decide) ?_
    refine a_istore dX12_afternoon_56 rfl rfl ?_
    exact AW.weak (Lw_so rfl (Lw_so rfl (Lw_so rfl (Lw_so rfl (Lw_so rfl (Lw_no (Lw_no (Lw_no Lw_end)))))))) (l_Mo_afternoon_58 FU _ _ _ _ _ _ g0)
  · skip
    refine a_aload_n dX12_afternoon_32 rfl ?_
    refine a_getR dX12_afternoon_33 fl_RX12_62 rfl g0 (fun r10 h11 => ?_)
    refine a_iload_n dX12_afternoon_36 rfl ?_
    refine a_aload_n dX12_afternoon_37 rfl ?_
    refine a_getR dX12_afternoon_38 fl_RX12_13 rfl g0 (fun r12 h13 => ?_)
    refine a_bipush (v := nI 15) dX12_afternoon_41 (by decide) ?_
    refine a_iload_n dX12_afternoon_43 rfl ?_
    refine a_iadd dX12_afternoon_44 ?_
    refine a_iald dX12_afternoon_45 h13 ?_
    refine a_iast dX12_afternoon_46 h11 ?_
    refine a_iinc (v := nI 1) dX12_afternoon_47 rfl (by decide) rfl rfl ?_
    refine a_goto (tgt := 24) dX12_afternoon_50 (by decide) ?_
    exact AW.weak (Lw_so rfl (Lw_so rfl (Lw_so rfl (Lw_so rfl (Lw_no (Lw_no (Lw_no (Lw_no Lw_end)))))))) (hk24 _ _ _ _ _ g0)
def f_Mo_afternoon_24 (S : ba_S) : Nat → Int32 → Int32 → Int32 → ba_M → Option (Int32 × ba_M) := fx (fun _ _ _ _ _ => none) (b_Mo_afternoon_24 S) FU
theorem l_Mo_afternoon_24 {S : ba_S} : ∀ (n : Nat) (v0 : Nat) (v1 : Int32) (v2 : Int32) (v3 : Int32) (m : ba_M), ck S v0 11 = true → AW (Y_Mo_afternoon S) 24 [some (aR (some v0)), some (aI v1), some (aI v2), some (aI v3), none, none, none, none] [] S m ((fx (F := Nat → Int32 → Int32 → Int32 → ba_M → Option (Int32 × ba_M)) (fun _ _ _ _ _ => none) (b_Mo_afternoon_24 S) n) v0 v1 v2 v3 m) := by
  intro n
  induction n with
  | zero => intro _ _ _ _ _ _; exact AW.none
  | succ n ih => exact w_Mo_afternoon_24 ih
def f_Mo_afternoon (S : ba_S) (a0 : Nat) (a1 : Int32) (a2 : Int32) (m : ba_M) : Option (Int32 × ba_M) :=
  cK S a0 11 (((f_Mo_in S a1 (nI 0) (nI 9999) m).bind fun q14 => (if q14.1 = true then ((f_Mo_in S a2 (nI 0) (nI 1) q14.2).bind fun q15 => (if q15.1 = true then (f_Mo_afternoon_24 S a0 a1 a2 (nI 0) q15.2) else (f_Mo_afternoon_20 S q15.2))) else (f_Mo_afternoon_20 S q14.2))))
set_option maxRecDepth 100000 in
theorem e_Mo_afternoon (S : ba_S) (a0 : Nat) (a1 : Int32) (a2 : Int32) (m : ba_M) : AW (Y_Mo_afternoon S) 0 [some (aR (some a0)), some (aI a1), some (aI a2), none, none, none, none, none] [] S m (f_Mo_afternoon S a0 a1 a2 m) := by
  unfold f_Mo_afternoon
  refine AW.ck (fun g0 => ?_)
  refine a_iload_n dX12_afternoon_0 rfl ?_
  refine a_iconst (v := nI 0) dX12_afternoon_1 (by decide) ?_
  refine a_sipush (v := nI 9999) dX12_afternoon_2 (by decide) ?_
  refine a_callS_Z dX12_afternoon_5 lk_RX12_84 mt_Mo_in sv_Mo_in (fun _ h => m_Mo_in h) rfl rfl ⟨rfl, rfl, rfl⟩ (fun q14 => ?_)
  refine a_beq (tgt := 20) dX12_afternoon_8 (by decide) (fun _ => ?_) (fun _ => ?_)
  · skip
    exact AW.weak (Lw_no (Lw_no (Lw_no (Lw_no (Lw_no (Lw_no (Lw_no (Lw_no Lw_end)))))))) (w_Mo_afternoon_20 _)
  · skip
    refine a_iload_n dX12_afternoon_11 rfl ?_
    refine a_iconst (v := nI 0) dX12_afternoon_12 (by decide) ?_
    refine a_iconst (v := nI 1) dX12_afternoon_13 (by decide) ?_
    refine a_callS_Z dX12_afternoon_14 lk_RX12_84 mt_Mo_in sv_Mo_in (fun _ h => m_Mo_in h) rfl rfl ⟨rfl, rfl, rfl⟩ (fun q15 => ?_)
    refine a_bne (tgt := 22) dX12_afternoon_17 (by decide) (fun _ => ?_) (fun _ => ?_)
    · skip
      refine a_iconst (v := nI 0) dX12_afternoon_22 (by decide) ?_
      refine a_istore_n dX12_afternoon_23 rfl rfl ?_
      exact AW.weak (Lw_so rfl (Lw_so rfl (Lw_so rfl (Lw_so rfl (Lw_no (Lw_no (Lw_no (Lw_no Lw_end)))))))) (l_Mo_afternoon_24 FU _ _ _ _ _ g0)
    · skip
      exact AW.weak (Lw_no (Lw_no (Lw_no (Lw_no (Lw_no (Lw_no (Lw_no (Lw_no Lw_end)))))))) (w_Mo_afternoon_20 _)
theorem m_Mo_afternoon {S : ba_S} {a0 : Nat} {a1 : Int32} {a2 : Int32} {m : ba_M} {q : Int32 × ba_M} (h : f_Mo_afternoon S a0 a1 a2 m = some q) : MA (Y_Mo_afternoon S) yX12_afternoon (some .int) [aR (some a0), aI a1, aI a2] S m q :=
  ba_met ⟨by decide +kernel, rfl⟩ rfl (fun h => by cases h) (Or.inl ⟨rfl, rfl, _, rfl⟩) rfl (h ▸ e_Mo_afternoon S a0 a1 a2 m)

abbrev Y_Mo_keep (S : ba_S) : ba_Y (Int32 × ba_M) := mI cX12_keep RX12 2 0 0 S
def b_Mo_keep_13 (S : ba_S) (k13 : Nat → Int32 → ba_M → Option (Int32 × ba_M)) (v0 : Nat) (v1 : Int32) (m : ba_M) : Option (Int32 × ba_M) :=
  (if (nI 20) ≤ v1 then (some ((gI (wI m v0 29 ((gI m v0 29) + (nI 1))) v0 29), (wI m v0 29 ((gI m v0 29) + (nI 1))))) else (ldR S v0 30 20 fun r1 => (ldR S v0 4 20 fun r3 => (bD S r3 v1 (bD S r1 (((nI 20) * (gI m v0 29)) + v1) (k13 v0 (v1 + (nI 1)) (wI m r1 ((((nI 20) * (gI m v0 29)) + v1)).toNatClampNeg (gI m r3 (v1).toNatClampNeg))))))))
set_option maxRecDepth 100000 in
theorem w_Mo_keep_13 {S : ba_S} {k13 : Nat → Int32 → ba_M → Option (Int32 × ba_M)} (hk13 : ∀ (v0 : Nat) (v1 : Int32) (m : ba_M), ck S v0 11 = true → AW (Y_Mo_keep S) 13 [some (aR (some v0)), some (aI v1)] [] S m (k13 v0 v1 m)) : ∀ (v0 : Nat) (v1 : Int32) (m : ba_M), ck S v0 11 = true → AW (Y_Mo_keep S) 13 [some (aR (some v0)), some (aI v1)] [] S m (b_Mo_keep_13 S k13 v0 v1 m) := by
  intro v0 v1 m g0
  unfold b_Mo_keep_13
  refine a_iload_n dX12_keep_13 rfl ?_
  refine a_bipush (v := nI 20) dX12_keep_14 (by decide) ?_
  refine a_ige (tgt := 45) dX12_keep_16 (by decide) (fun _ => ?_) (fun _ => ?_)
  · skip
    refine a_aload_n dX12_keep_45 rfl ?_
    refine a_dup dX12_keep_46 rfl ?_
    refine a_getI dX12_keep_47 fl_RX12_147 rfl g0 ?_
    refine a_iconst (v := nI 1) dX12_keep_50 (by decide) ?_
    refine a_iadd dX12_keep_51 ?_
    refine a_putI dX12_keep_52 fl_RX12_147 (rfl : _ = FieldType.int) rfl rfl rfl g0 ?_
    refine a_aload_n dX12_keep_55 rfl ?_
    refine a_getI dX12_keep_56 fl_RX12_147 rfl g0 ?_
    exact AW.ret dX12_keep_59 rfl rfl
  · skip
    refine a_aload_n dX12_keep_19 rfl ?_
    refine a_getR dX12_keep_20 fl_RX12_65 rfl g0 (fun r1 h2 => ?_)
    refine a_bipush (v := nI 20) dX12_keep_23 (by decide) ?_
    refine a_aload_n dX12_keep_25 rfl ?_
    refine a_getI dX12_keep_26 fl_RX12_147 rfl g0 ?_
    refine a_imul dX12_keep_29 ?_
    refine a_iload_n dX12_keep_30 rfl ?_
    refine a_iadd dX12_keep_31 ?_
    refine a_aload_n dX12_keep_32 rfl ?_
    refine a_getR dX12_keep_33 fl_RX12_13 rfl g0 (fun r3 h4 => ?_)
    refine a_iload_n dX12_keep_36 rfl ?_
    refine a_iald dX12_keep_37 h4 ?_
    refine a_iast dX12_keep_38 h2 ?_
    refine a_iinc (v := nI 1) dX12_keep_39 rfl (by decide) rfl rfl ?_
    refine a_goto (tgt := 13) dX12_keep_42 (by decide) ?_
    exact AW.weak (Lw_so rfl (Lw_so rfl Lw_end)) (hk13 _ _ _ g0)
def f_Mo_keep_13 (S : ba_S) : Nat → Int32 → ba_M → Option (Int32 × ba_M) := fx (fun _ _ _ => none) (b_Mo_keep_13 S) FU
theorem l_Mo_keep_13 {S : ba_S} : ∀ (n : Nat) (v0 : Nat) (v1 : Int32) (m : ba_M), ck S v0 11 = true → AW (Y_Mo_keep S) 13 [some (aR (some v0)), some (aI v1)] [] S m ((fx (F := Nat → Int32 → ba_M → Option (Int32 × ba_M)) (fun _ _ _ => none) (b_Mo_keep_13 S) n) v0 v1 m) := by
  intro n
  induction n with
  | zero => intro _ _ _ _; exact AW.none
  | succ n ih => exact w_Mo_keep_13 ih
def f_Mo_keep (S : ba_S) (a0 : Nat) (m : ba_M) : Option (Int32 × ba_M) :=
  cK S a0 11 ((if (gI m a0 29) = (nI 2) then (some ((-3 : Int32), m)) else (f_Mo_keep_13 S a0 (nI 0) m)))
set_option maxRecDepth 100000 in
theorem e_Mo_keep (S : ba_S) (a0 : Nat) (m : ba_M) : AW (Y_Mo_keep S) 0 [some (aR (some a0)), none] [] S m (f_Mo_keep S a0 m) := by
  unfold f_Mo_keep
  refine AW.ck (fun g0 => ?_)
  refine a_aload_n dX12_keep_0 rfl ?_
  refine a_getI dX12_keep_1 fl_RX12_147 rfl g0 ?_
  refine a_iconst (v := nI 2) dX12_keep_4 (by decide) ?_
  refine a_ine (tgt := 11) dX12_keep_5 (by decide) (fun _ => ?_) (fun _ => ?_)
  · skip
    refine a_iconst (v := nI 0) dX12_keep_11 (by decide) ?_
    refine a_istore_n dX12_keep_12 rfl rfl ?_
    exact AW.weak (Lw_so rfl (Lw_so rfl Lw_end)) (l_Mo_keep_13 FU _ _ _ g0)
  · skip
    refine a_bipush (v := -3) dX12_keep_8 (by decide) ?_
    exact AW.ret dX12_keep_10 rfl rfl
theorem m_Mo_keep {S : ba_S} {a0 : Nat} {m : ba_M} {q : Int32 × ba_M} (h : f_Mo_keep S a0 m = some q) : MA (Y_Mo_keep S) yX12_keep (some .int) [aR (some a0)] S m q :=
  ba_met ⟨by decide +kernel, rfl⟩ rfl (fun h => by cases h) (Or.inl ⟨rfl, rfl, _, rfl⟩) rfl (h ▸ e_Mo_keep S a0 m)

abbrev Y_Mo_back (S : ba_S) : ba_Y (Int32 × ba_M) := mI cX12_back RX12 2 0 0 S
def b_Mo_back_22 (S : ba_S) (k22 : Nat → Int32 → ba_M → Option (Int32 × ba_M)) (v0 : Nat) (v1 : Int32) (m : ba_M) : Option (Int32 × ba_M) :=
  (if (nI 20) ≤ v1 then (some ((gI (wI m v0 24 (nI 0)) v0 29), (wI m v0 24 (nI 0)))) else (ldR S v0 4 20 fun r1 => (ldR S v0 30 20 fun r3 => (bD S r3 (((nI 20) * (gI m v0 29)) + v1) (bD S r1 v1 (k22 v0 (v1 + (nI 1)) (wI m r1 (v1).toNatClampNeg (gI m r3 ((((nI 20) * (gI m v0 29)) + v1)).toNatClampNeg))))))))
set_option maxRecDepth 100000 in
theorem w_Mo_back_22 {S : ba_S} {k22 : Nat → Int32 → ba_M → Option (Int32 × ba_M)} (hk22 : ∀ (v0 : Nat) (v1 : Int32) (m : ba_M), ck S v0 11 = true → AW (Y_Mo_back S) 22 [some (aR (some v0)), some (aI v1)] [] S m (k22 v0 v1 m)) : ∀ (v0 : Nat) (v1 : Int32) (m : ba_M), ck S v0 11 = true → AW (Y_Mo_back S) 22 [some (aR (some v0)), some (aI v1)] [] S m (b_Mo_back_22 S k22 v0 v1 m) := by
  intro v0 v1 m g0
  unfold b_Mo_back_22
  refine a_iload_n dX12_back_22 rfl ?_
  refine a_bipush (v := nI 20) dX12_back_23 (by decide) ?_
  refine a_ige (tgt := 54) dX12_back_25 (by decide) (fun _ => ?_) (fun _ => ?_)
  · skip
    refine a_aload_n dX12_back_54 rfl ?_
    refine a_iconst (v := nI 0) dX12_back_55 (by decide) ?_
    refine a_putI dX12_back_56 fl_RX12_144 (rfl : _ = FieldType.int) rfl rfl rfl g0 ?_
    refine a_aload_n dX12_back_59 rfl ?_
    refine a_getI dX12_back_60 fl_RX12_147 rfl g0 ?_
    exact AW.ret dX12_back_63 rfl rfl
  · skip
    refine a_aload_n dX12_back_28 rfl ?_
    refine a_getR dX12_back_29 fl_RX12_13 rfl g0 (fun r1 h2 => ?_)
    refine a_iload_n dX12_back_32 rfl ?_
    refine a_aload_n dX12_back_33 rfl ?_
    refine a_getR dX12_back_34 fl_RX12_65 rfl g0 (fun r3 h4 => ?_)
    refine a_bipush (v := nI 20) dX12_back_37 (by decide) ?_
    refine a_aload_n dX12_back_39 rfl ?_
    refine a_getI dX12_back_40 fl_RX12_147 rfl g0 ?_
    refine a_imul dX12_back_43 ?_
    refine a_iload_n dX12_back_44 rfl ?_
    refine a_iadd dX12_back_45 ?_
    refine a_iald dX12_back_46 h4 ?_
    refine a_iast dX12_back_47 h2 ?_
    refine a_iinc (v := nI 1) dX12_back_48 rfl (by decide) rfl rfl ?_
    refine a_goto (tgt := 22) dX12_back_51 (by decide) ?_
    exact AW.weak (Lw_so rfl (Lw_so rfl Lw_end)) (hk22 _ _ _ g0)
def f_Mo_back_22 (S : ba_S) : Nat → Int32 → ba_M → Option (Int32 × ba_M) := fx (fun _ _ _ => none) (b_Mo_back_22 S) FU
theorem l_Mo_back_22 {S : ba_S} : ∀ (n : Nat) (v0 : Nat) (v1 : Int32) (m : ba_M), ck S v0 11 = true → AW (Y_Mo_back S) 22 [some (aR (some v0)), some (aI v1)] [] S m ((fx (F := Nat → Int32 → ba_M → Option (Int32 × ba_M)) (fun _ _ _ => none) (b_Mo_back_22 S) n) v0 v1 m) := by
  intro n
  induction n with
  | zero => intro _ _ _ _; exact AW.none
  | succ n ih => exact w_Mo_back_22 ih
def f_Mo_back (S : ba_S) (a0 : Nat) (m : ba_M) : Option (Int32 × ba_M) :=
  cK S a0 11 ((if (gI m a0 29) = 0 then (some ((-2 : Int32), m)) else (f_Mo_back_22 S a0 (nI 0) (wI m a0 29 ((gI m a0 29) - (nI 1))))))
set_option maxRecDepth 100000 in
theorem e_Mo_back (S : ba_S) (a0 : Nat) (m : ba_M) : AW (Y_Mo_back S) 0 [some (aR (some a0)), none] [] S m (f_Mo_back S a0 m) := by
  unfold f_Mo_back
  refine AW.ck (fun g0 => ?_)
  refine a_aload_n dX12_back_0 rfl ?_
  refine a_getI dX12_back_1 fl_RX12_147 rfl g0 ?_
  refine a_zne (tgt := 10) dX12_back_4 (by decide) (fun _ => ?_) (fun _ => ?_)
  · skip
    refine a_aload_n dX12_back_10 rfl ?_
    refine a_dup dX12_back_11 rfl ?_
    refine a_getI dX12_back_12 fl_RX12_147 rfl g0 ?_
    refine a_iconst (v := nI 1) dX12_back_15 (by decide) ?_
    refine a_isub dX12_back_16 ?_
    refine a_putI dX12_back_17 fl_RX12_147 (rfl : _ = FieldType.int) rfl rfl rfl g0 ?_
    refine a_iconst (v := nI 0) dX12_back_20 (by decide) ?_
    refine a_istore_n dX12_back_21 rfl rfl ?_
    exact AW.weak (Lw_so rfl (Lw_so rfl Lw_end)) (l_Mo_back_22 FU _ _ _ g0)
  · skip
    refine a_bipush (v := -2) dX12_back_7 (by decide) ?_
    exact AW.ret dX12_back_9 rfl rfl
theorem m_Mo_back {S : ba_S} {a0 : Nat} {m : ba_M} {q : Int32 × ba_M} (h : f_Mo_back S a0 m = some q) : MA (Y_Mo_back S) yX12_back (some .int) [aR (some a0)] S m q :=
  ba_met ⟨by decide +kernel, rfl⟩ rfl (fun h => by cases h) (Or.inl ⟨rfl, rfl, _, rfl⟩) rfl (h ▸ e_Mo_back S a0 m)

abbrev Y_Mo_count (S : ba_S) : ba_Y (Int32 × ba_M) := mI cX12_count RX12 2 0 0 S
def f_Mo_count (S : ba_S) (a0 : Nat) (a1 : Int32) (m : ba_M) : Option (Int32 × ba_M) :=
  cK S a0 11 ((if a1 = 0 then (some ((gI m a0 2), m)) else (if a1 = 1 then (some ((gI m a0 0), m)) else (if a1 = 2 then (some ((gI m a0 1), m)) else (if a1 = 3 then (some ((gI m a0 26), m)) else (if a1 = 4 then (some ((gI m a0 24), m)) else (if a1 = 5 then (some ((gI m a0 29), m)) else (if a1 = 6 then (some ((gI m a0 6), m)) else (some ((-1 : Int32), m))))))))))
set_option maxRecDepth 100000 in
theorem e_Mo_count (S : ba_S) (a0 : Nat) (a1 : Int32) (m : ba_M) : AW (Y_Mo_count S) 0 [some (aR (some a0)), some (aI a1)] [] S m (f_Mo_count S a0 a1 m) := by
  unfold f_Mo_count
  refine AW.ck (fun g0 => ?_)
  refine a_iload_n dX12_count_0 rfl ?_
  refine AW.if (fun c1 => ?_) (fun c1 => ?_)
  · refine a_tabIn (tgt := 44) dX12_count_1 (by rw [c1]; decide) (by rw [c1]; decide) (by rw [c1]; rfl) (by decide) ?_
    refine a_aload_n dX12_count_44 rfl ?_
    refine a_getI dX12_count_45 fl_RX12_75 rfl g0 ?_
    exact AW.ret dX12_count_48 rfl rfl
  refine AW.if (fun c2 => ?_) (fun c2 => ?_)
  · refine a_tabIn (tgt := 49) dX12_count_1 (by rw [c2]; decide) (by rw [c2]; decide) (by rw [c2]; rfl) (by decide) ?_
    refine a_aload_n dX12_count_49 rfl ?_
    refine a_getI dX12_count_50 fl_RX12_68 rfl g0 ?_
    exact AW.ret dX12_count_53 rfl rfl
  refine AW.if (fun c3 => ?_) (fun c3 => ?_)
  · refine a_tabIn (tgt := 54) dX12_count_1 (by rw [c3]; decide) (by rw [c3]; decide) (by rw [c3]; rfl) (by decide) ?_
    refine a_aload_n dX12_count_54 rfl ?_
    refine a_getI dX12_count_55 fl_RX12_72 rfl g0 ?_
    exact AW.ret dX12_count_58 rfl rfl
  refine AW.if (fun c4 => ?_) (fun c4 => ?_)
  · refine a_tabIn (tgt := 59) dX12_count_1 (by rw [c4]; decide) (by rw [c4]; decide) (by rw [c4]; rfl) (by decide) ?_
    refine a_aload_n dX12_count_59 rfl ?_
    refine a_getI dX12_count_60 fl_RX12_141 rfl g0 ?_
    exact AW.ret dX12_count_63 rfl rfl
  refine AW.if (fun c5 => ?_) (fun c5 => ?_)
  · refine a_tabIn (tgt := 64) dX12_count_1 (by rw [c5]; decide) (by rw [c5]; decide) (by rw [c5]; rfl) (by decide) ?_
    refine a_aload_n dX12_count_64 rfl ?_
    refine a_getI dX12_count_65 fl_RX12_144 rfl g0 ?_
    exact AW.ret dX12_count_68 rfl rfl
  refine AW.if (fun c6 => ?_) (fun c6 => ?_)
  · refine a_tabIn (tgt := 69) dX12_count_1 (by rw [c6]; decide) (by rw [c6]; decide) (by rw [c6]; rfl) (by decide) ?_
    refine a_aload_n dX12_count_69 rfl ?_
    refine a_getI dX12_count_70 fl_RX12_147 rfl g0 ?_
    exact AW.ret dX12_count_73 rfl rfl
  refine AW.if (fun c7 => ?_) (fun c7 => ?_)
  · refine a_tabIn (tgt := 74) dX12_count_1 (by rw [c7]; decide) (by rw [c7]; decide) (by rw [c7]; rfl) (by decide) ?_
    refine a_aload_n dX12_count_74 rfl ?_
    refine a_getI dX12_count_75 fl_RX12_88 rfl g0 ?_
    exact AW.ret dX12_count_78 rfl rfl
  refine a_tabOut (tgt := 79) dX12_count_1 (by have uc1 : ¬ Int32.toInt (a1) = 0 := lv_neT c1 rfl; have uc2 : ¬ Int32.toInt (a1) = 1 := lv_neT c2 rfl; have uc3 : ¬ Int32.toInt (a1) = 2 := lv_neT c3 rfl; have uc4 : ¬ Int32.toInt (a1) = 3 := lv_neT c4 rfl; have uc5 : ¬ Int32.toInt (a1) = 4 := lv_neT c5 rfl; have uc6 : ¬ Int32.toInt (a1) = 5 := lv_neT c6 rfl; have uc7 : ¬ Int32.toInt (a1) = 6 := lv_neT c7 rfl; omega) (by decide) ?_
  refine a_iconst (v := -1) dX12_count_79 (by decide) ?_
  exact AW.ret dX12_count_80 rfl rfl
theorem m_Mo_count {S : ba_S} {a0 : Nat} {a1 : Int32} {m : ba_M} {q : Int32 × ba_M} (h : f_Mo_count S a0 a1 m = some q) : MA (Y_Mo_count S) yX12_count (some .int) [aR (some a0), aI a1] S m q :=
  ba_met ⟨by decide +kernel, rfl⟩ rfl (fun h => by cases h) (Or.inl ⟨rfl, rfl, _, rfl⟩) rfl (h ▸ e_Mo_count S a0 a1 m)

