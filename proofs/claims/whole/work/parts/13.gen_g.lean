abbrev Y_La_law (N : Nat) (xs : Nat → Int32) : ba_Y (Bool × ba_S × ba_M) := (cL_law, RL, 4, .ireturn, 8, 186, false, some (N, xs), fun q => (some (aI (b2i q.1)), q.2.1, q.2.2))
def f_La_law_858 (N : Nat) (xs : Nat → Int32) (k18 : ba_S → Nat → Nat → Int32 → ba_M → Option (Bool × ba_S × ba_M)) (S : ba_S) (v1 : Nat) (v2 : Nat) (v3 : Int32) (m : ba_M) : Option (Bool × ba_S × ba_M) :=
  (k18 S v1 v2 (v3 + (nI 5)) m)
set_option maxRecDepth 100000 in
theorem w_La_law_858 {N : Nat} {xs : Nat → Int32} {k18 : ba_S → Nat → Nat → Int32 → ba_M → Option (Bool × ba_S × ba_M)} (hk18 : ∀ (S : ba_S) (v1 : Nat) (v2 : Nat) (v3 : Int32) (m : ba_M), AW (Y_La_law N xs) 18 [some (aX), some (aR (some v1)), some (aR (some v2)), some (aI v3)] [] S m (k18 S v1 v2 v3 m)) : ∀ (S : ba_S) (v1 : Nat) (v2 : Nat) (v3 : Int32) (m : ba_M), AW (Y_La_law N xs) 858 [some (aX), some (aR (some v1)), some (aR (some v2)), some (aI v3)] [] S m (f_La_law_858 N xs k18 S v1 v2 v3 m) := by
  intro S v1 v2 v3 m
  unfold f_La_law_858
  refine a_iinc (v := nI 5) dL_law_858 rfl (by decide) rfl rfl ?_
  refine a_goto (tgt := 18) dL_law_861 (by decide) ?_
  exact AW.weak (Lw_so rfl (Lw_so rfl (Lw_so rfl (Lw_so rfl Lw_end)))) (hk18 _ _ _ _ _)
def b_La_law_18 (N : Nat) (xs : Nat → Int32) (k18 : ba_S → Nat → Nat → Int32 → ba_M → Option (Bool × ba_S × ba_M)) (S : ba_S) (v1 : Nat) (v2 : Nat) (v3 : Int32) (m : ba_M) : Option (Bool × ba_S × ba_M) :=
  (if ((nI N) - (nI 5)) < v3 then (some (true, S, m)) else (sD N v3 (if ((xs (v3).toNatClampNeg) &&& (nI 31)) = 0 then (sD N (v3 + (nI 1)) (sD N (v3 + (nI 2)) (sD N (v3 + (nI 3)) (cK S v1 10 ((f_Ba_write S v1 (xs ((v3 + (nI 1))).toNatClampNeg) (((Int32.toInt64 (xs ((v3 + (nI 2))).toNatClampNeg)) <<< (Int32.toInt64 (nI 32) &&& 63)) ||| ((Int32.toInt64 (xs ((v3 + (nI 3))).toNatClampNeg)) &&& (lN 4294967295))) m).bind fun q2 => (sD N (v3 + (nI 1)) (sD N (v3 + (nI 2)) (sD N (v3 + (nI 3)) (cK S v2 11 ((f_Mo_write S v2 (xs ((v3 + (nI 1))).toNatClampNeg) (((Int32.toInt64 (xs ((v3 + (nI 2))).toNatClampNeg)) <<< (Int32.toInt64 (nI 32) &&& 63)) ||| ((Int32.toInt64 (xs ((v3 + (nI 3))).toNatClampNeg)) &&& (lN 4294967295))) q2.2).bind fun q4 => (if q2.1 = q4.1 then (f_La_law_858 N xs  k18 S v1 v2 v3 q4.2) else (some (false, S, q4.2))))))))))))) else (if ((xs (v3).toNatClampNeg) &&& (nI 31)) = 1 then (cK S v1 10 ((f_Ba_wipe S v1 m).bind fun q7 => (cK S v2 11 ((f_Mo_wipe S v2 q7.2).bind fun q9 => (if q7.1 = q9.1 then (f_La_law_858 N xs  k18 S v1 v2 v3 q9.2) else (some (false, S, q9.2))))))) else (if ((xs (v3).toNatClampNeg) &&& (nI 31)) = 2 then (cK S v1 10 ((f_Ba_fault S v1 m).bind fun q12 => (cK S v2 11 ((f_Mo_fault S v2 q12.2).bind fun q14 => (if q12.1 = q14.1 then (f_La_law_858 N xs  k18 S v1 v2 v3 q14.2) else (some (false, S, q14.2))))))) else (if ((xs (v3).toNatClampNeg) &&& (nI 31)) = 3 then (cK S v1 10 ((f_Ba_lay S v1 m).bind fun q17 => (cK S v2 11 ((f_Mo_lay S v2 q17.2).bind fun q19 => (if q17.1 = q19.1 then (f_La_law_858 N xs  k18 S v1 v2 v3 q19.2) else (some (false, S, q19.2))))))) else (if ((xs (v3).toNatClampNeg) &&& (nI 31)) = 4 then (sD N (v3 + (nI 1)) (sD N (v3 + (nI 2)) (cK S v1 10 ((f_Ba_player S v1 (xs ((v3 + (nI 1))).toNatClampNeg) (xs ((v3 + (nI 2))).toNatClampNeg) m).bind fun q22 => (sD N (v3 + (nI 1)) (sD N (v3 + (nI 2)) (cK S v2 11 ((f_Mo_player S v2 (xs ((v3 + (nI 1))).toNatClampNeg) (xs ((v3 + (nI 2))).toNatClampNeg) q22.2).bind fun q24 => (if q22.1 = q24.1 then (f_La_law_858 N xs  k18 S v1 v2 v3 q24.2) else (some (false, S, q24.2))))))))))) else (if ((xs (v3).toNatClampNeg) &&& (nI 31)) = 5 then (sD N (v3 + (nI 1)) (sD N (v3 + (nI 2)) (cK S v1 10 ((f_Ba_called S v1 (xs ((v3 + (nI 1))).toNatClampNeg) (xs ((v3 + (nI 2))).toNatClampNeg) m).bind fun q27 => (sD N (v3 + (nI 1)) (sD N (v3 + (nI 2)) (cK S v2 11 ((f_Mo_called S v2 (xs ((v3 + (nI 1))).toNatClampNeg) (xs ((v3 + (nI 2))).toNatClampNeg) q27.2).bind fun q29 => (if q27.1 = q29.1 then (f_La_law_858 N xs  k18 S v1 v2 v3 q29.2) else (some (false, S, q29.2))))))))))) else (if ((xs (v3).toNatClampNeg) &&& (nI 31)) = 6 then (sD N (v3 + (nI 1)) (sD N (v3 + (nI 2)) (cK S v1 10 ((f_Ba_stands S v1 (xs ((v3 + (nI 1))).toNatClampNeg) (xs ((v3 + (nI 2))).toNatClampNeg) m).bind fun q32 => (sD N (v3 + (nI 1)) (sD N (v3 + (nI 2)) (cK S v2 11 ((f_Mo_stands S v2 (xs ((v3 + (nI 1))).toNatClampNeg) (xs ((v3 + (nI 2))).toNatClampNeg) q32.2).bind fun q34 => (if q32.1 = q34.1 then (f_La_law_858 N xs  k18 S v1 v2 v3 q34.2) else (some (false, S, q34.2))))))))))) else (if ((xs (v3).toNatClampNeg) &&& (nI 31)) = 7 then (sD N (v3 + (nI 1)) (sD N (v3 + (nI 2)) (cK S v1 10 ((f_Ba_chance S v1 (xs ((v3 + (nI 1))).toNatClampNeg) (xs ((v3 + (nI 2))).toNatClampNeg) m).bind fun q37 => (sD N (v3 + (nI 1)) (sD N (v3 + (nI 2)) (cK S v2 11 ((f_Mo_chance S v2 (xs ((v3 + (nI 1))).toNatClampNeg) (xs ((v3 + (nI 2))).toNatClampNeg) q37.2).bind fun q39 => (if q37.1 = q39.1 then (f_La_law_858 N xs  k18 S v1 v2 v3 q39.2) else (some (false, S, q39.2))))))))))) else (if ((xs (v3).toNatClampNeg) &&& (nI 31)) = 8 then (sD N (v3 + (nI 1)) (sD N (v3 + (nI 2)) (cK S v1 10 ((f_Ba_thrown S v1 (xs ((v3 + (nI 1))).toNatClampNeg) (xs ((v3 + (nI 2))).toNatClampNeg) m).bind fun q42 => (sD N (v3 + (nI 1)) (sD N (v3 + (nI 2)) (cK S v2 11 ((f_Mo_thrown S v2 (xs ((v3 + (nI 1))).toNatClampNeg) (xs ((v3 + (nI 2))).toNatClampNeg) q42.2).bind fun q44 => (if q42.1 = q44.1 then (f_La_law_858 N xs  k18 S v1 v2 v3 q44.2) else (some (false, S, q44.2))))))))))) else (if ((xs (v3).toNatClampNeg) &&& (nI 31)) = 9 then (sD N (v3 + (nI 1)) (sD N (v3 + (nI 2)) (cK S v1 10 ((f_Ba_hidden S v1 (xs ((v3 + (nI 1))).toNatClampNeg) (xs ((v3 + (nI 2))).toNatClampNeg) m).bind fun q47 => (sD N (v3 + (nI 1)) (sD N (v3 + (nI 2)) (cK S v2 11 ((f_Mo_hidden S v2 (xs ((v3 + (nI 1))).toNatClampNeg) (xs ((v3 + (nI 2))).toNatClampNeg) q47.2).bind fun q49 => (if q47.1 = q49.1 then (f_La_law_858 N xs  k18 S v1 v2 v3 q49.2) else (some (false, S, q49.2))))))))))) else (if ((xs (v3).toNatClampNeg) &&& (nI 31)) = 10 then (sD N (v3 + (nI 1)) (sD N (v3 + (nI 2)) (cK S v1 10 ((f_Ba_safe S v1 (xs ((v3 + (nI 1))).toNatClampNeg) (xs ((v3 + (nI 2))).toNatClampNeg) m).bind fun q52 => (sD N (v3 + (nI 1)) (sD N (v3 + (nI 2)) (cK S v2 11 ((f_Mo_safe S v2 (xs ((v3 + (nI 1))).toNatClampNeg) (xs ((v3 + (nI 2))).toNatClampNeg) q52.2).bind fun q54 => (if q52.1 = q54.1 then (f_La_law_858 N xs  k18 S v1 v2 v3 q54.2) else (some (false, S, q54.2))))))))))) else (if ((xs (v3).toNatClampNeg) &&& (nI 31)) = 11 then (sD N (v3 + (nI 1)) (sD N (v3 + (nI 2)) (sD N (v3 + (nI 3)) (cK S v1 10 ((f_Ba_run S v1 (xs ((v3 + (nI 1))).toNatClampNeg) (xs ((v3 + (nI 2))).toNatClampNeg) (xs ((v3 + (nI 3))).toNatClampNeg) m).bind fun q57 => (sD N (v3 + (nI 1)) (sD N (v3 + (nI 2)) (sD N (v3 + (nI 3)) (cK S v2 11 ((f_Mo_run S v2 (xs ((v3 + (nI 1))).toNatClampNeg) (xs ((v3 + (nI 2))).toNatClampNeg) (xs ((v3 + (nI 3))).toNatClampNeg) q57.2).bind fun q59 => (if q57.1 = q59.1 then (f_La_law_858 N xs  k18 S v1 v2 v3 q59.2) else (some (false, S, q59.2))))))))))))) else (if ((xs (v3).toNatClampNeg) &&& (nI 31)) = 12 then (sD N (v3 + (nI 1)) (sD N (v3 + (nI 2)) (sD N (v3 + (nI 3)) (cK S v1 10 ((f_Ba_first S v1 (xs ((v3 + (nI 1))).toNatClampNeg) (xs ((v3 + (nI 2))).toNatClampNeg) (xs ((v3 + (nI 3))).toNatClampNeg) m).bind fun q62 => (sD N (v3 + (nI 1)) (sD N (v3 + (nI 2)) (sD N (v3 + (nI 3)) (cK S v2 11 ((f_Mo_first S v2 (xs ((v3 + (nI 1))).toNatClampNeg) (xs ((v3 + (nI 2))).toNatClampNeg) (xs ((v3 + (nI 3))).toNatClampNeg) q62.2).bind fun q64 => (if (lg_cmp q62.1 q64.1) = 0 then (f_La_law_858 N xs  k18 S v1 v2 v3 q64.2) else (some (false, S, q64.2))))))))))))) else (if ((xs (v3).toNatClampNeg) &&& (nI 31)) = 13 then (sD N (v3 + (nI 1)) (sD N (v3 + (nI 2)) (cK S v1 10 ((f_Ba_rounds S v1 (xs ((v3 + (nI 1))).toNatClampNeg) (xs ((v3 + (nI 2))).toNatClampNeg) m).bind fun q67 => (sD N (v3 + (nI 1)) (sD N (v3 + (nI 2)) (cK S v2 11 ((f_Mo_rounds S v2 (xs ((v3 + (nI 1))).toNatClampNeg) (xs ((v3 + (nI 2))).toNatClampNeg) q67.2).bind fun q69 => (if (lg_cmp q67.1 q69.1) = 0 then (f_La_law_858 N xs  k18 S v1 v2 v3 q69.2) else (some (false, S, q69.2))))))))))) else (if ((xs (v3).toNatClampNeg) &&& (nI 31)) = 14 then (sD N (v3 + (nI 1)) (sD N (v3 + (nI 2)) (sD N (v3 + (nI 3)) (sD N (v3 + (nI 4)) (cK S v1 10 ((f_Ba_call S v1 (xs ((v3 + (nI 1))).toNatClampNeg) (xs ((v3 + (nI 2))).toNatClampNeg) (xs ((v3 + (nI 3))).toNatClampNeg) (xs ((v3 + (nI 4))).toNatClampNeg) m).bind fun q72 => (sD N (v3 + (nI 1)) (sD N (v3 + (nI 2)) (sD N (v3 + (nI 3)) (sD N (v3 + (nI 4)) (cK S v2 11 ((f_Mo_call S v2 (xs ((v3 + (nI 1))).toNatClampNeg) (xs ((v3 + (nI 2))).toNatClampNeg) (xs ((v3 + (nI 3))).toNatClampNeg) (xs ((v3 + (nI 4))).toNatClampNeg) q72.2).bind fun q74 => (if q72.1 = q74.1 then (f_La_law_858 N xs  k18 S v1 v2 v3 q74.2) else (some (false, S, q74.2))))))))))))))) else (if ((xs (v3).toNatClampNeg) &&& (nI 31)) = 15 then (sD N (v3 + (nI 1)) (sD N (v3 + (nI 2)) (cK S v1 10 ((f_Ba_letters S v1 (xs ((v3 + (nI 1))).toNatClampNeg) (xs ((v3 + (nI 2))).toNatClampNeg) m).bind fun q77 => (sD N (v3 + (nI 1)) (sD N (v3 + (nI 2)) (cK S v2 11 ((f_Mo_letters S v2 (xs ((v3 + (nI 1))).toNatClampNeg) (xs ((v3 + (nI 2))).toNatClampNeg) q77.2).bind fun q79 => (if q77.1 = q79.1 then (f_La_law_858 N xs  k18 S v1 v2 v3 q79.2) else (some (false, S, q79.2))))))))))) else (if ((xs (v3).toNatClampNeg) &&& (nI 31)) = 16 then (cK S v1 10 ((f_Ba_undo S v1 m).bind fun q82 => (cK S v2 11 ((f_Mo_undo S v2 q82.2).bind fun q84 => (if q82.1 = q84.1 then (f_La_law_858 N xs  k18 S v1 v2 v3 q84.2) else (some (false, S, q84.2))))))) else (if ((xs (v3).toNatClampNeg) &&& (nI 31)) = 17 then (sD N (v3 + (nI 1)) (sD N (v3 + (nI 2)) (sD N (v3 + (nI 3)) (cK S v1 10 ((f_Ba_seen S v1 (xs ((v3 + (nI 1))).toNatClampNeg) (xs ((v3 + (nI 2))).toNatClampNeg) (xs ((v3 + (nI 3))).toNatClampNeg) m).bind fun q87 => (sD N (v3 + (nI 1)) (sD N (v3 + (nI 2)) (sD N (v3 + (nI 3)) (cK S v2 11 ((f_Mo_seen S v2 (xs ((v3 + (nI 1))).toNatClampNeg) (xs ((v3 + (nI 2))).toNatClampNeg) (xs ((v3 + (nI 3))).toNatClampNeg) q87.2).bind fun q89 => (if q87.1 = q89.1 then (f_La_law_858 N xs  k18 S v1 v2 v3 q89.2) else (some (false, S, q89.2))))))))))))) else (if ((xs (v3).toNatClampNeg) &&& (nI 31)) = 18 then (cK S v1 10 ((f_Ba_forget S v1 m).bind fun q92 => (cK S v2 11 ((f_Mo_forget S v2 q92.2).bind fun q94 => (if q92.1 = q94.1 then (f_La_law_858 N xs  k18 S v1 v2 v3 q94.2) else (some (false, S, q94.2))))))) else (if ((xs (v3).toNatClampNeg) &&& (nI 31)) = 19 then (sD N (v3 + (nI 1)) (cK S v1 10 ((f_Ba_kinds S v1 (xs ((v3 + (nI 1))).toNatClampNeg) m).bind fun q97 => (sD N (v3 + (nI 1)) (cK S v2 11 ((f_Mo_kinds S v2 (xs ((v3 + (nI 1))).toNatClampNeg) q97.2).bind fun q99 => (if q97.1 = q99.1 then (f_La_law_858 N xs  k18 S v1 v2 v3 q99.2) else (some (false, S, q99.2))))))))) else (if ((xs (v3).toNatClampNeg) &&& (nI 31)) = 20 then (sD N (v3 + (nI 1)) (sD N (v3 + (nI 2)) (cK S v1 10 ((f_Ba_afternoon S v1 (xs ((v3 + (nI 1))).toNatClampNeg) (xs ((v3 + (nI 2))).toNatClampNeg) m).bind fun q102 => (sD N (v3 + (nI 1)) (sD N (v3 + (nI 2)) (cK S v2 11 ((f_Mo_afternoon S v2 (xs ((v3 + (nI 1))).toNatClampNeg) (xs ((v3 + (nI 2))).toNatClampNeg) q102.2).bind fun q104 => (if q102.1 = q104.1 then (f_La_law_858 N xs  k18 S v1 v2 v3 q104.2) else (some (false, S, q104.2))))))))))) else (if ((xs (v3).toNatClampNeg) &&& (nI 31)) = 21 then (cK S v1 10 ((f_Ba_keep S v1 m).bind fun q107 => (cK S v2 11 ((f_Mo_keep S v2 q107.2).bind fun q109 => (if q107.1 = q109.1 then (f_La_law_858 N xs  k18 S v1 v2 v3 q109.2) else (some (false, S, q109.2))))))) else (if ((xs (v3).toNatClampNeg) &&& (nI 31)) = 22 then (cK S v1 10 ((f_Ba_back S v1 m).bind fun q112 => (cK S v2 11 ((f_Mo_back S v2 q112.2).bind fun q114 => (if q112.1 = q114.1 then (f_La_law_858 N xs  k18 S v1 v2 v3 q114.2) else (some (false, S, q114.2))))))) else (if ((xs (v3).toNatClampNeg) &&& (nI 31)) = 23 then (sD N (v3 + (nI 1)) (cK S v1 10 ((f_Ba_count S v1 (xs ((v3 + (nI 1))).toNatClampNeg) m).bind fun q117 => (sD N (v3 + (nI 1)) (cK S v2 11 ((f_Mo_count S v2 (xs ((v3 + (nI 1))).toNatClampNeg) q117.2).bind fun q119 => (if q117.1 = q119.1 then (f_La_law_858 N xs  k18 S v1 v2 v3 q119.2) else (some (false, S, q119.2))))))))) else (f_La_law_858 N xs  k18 S v1 v2 v3 m)))))))))))))))))))))))))))
set_option maxRecDepth 100000 in
theorem w_La_law_18 {N : Nat} {xs : Nat → Int32} {k18 : ba_S → Nat → Nat → Int32 → ba_M → Option (Bool × ba_S × ba_M)} (hk18 : ∀ (S : ba_S) (v1 : Nat) (v2 : Nat) (v3 : Int32) (m : ba_M), AW (Y_La_law N xs) 18 [some (aX), some (aR (some v1)), some (aR (some v2)), some (aI v3)] [] S m (k18 S v1 v2 v3 m)) : ∀ (S : ba_S) (v1 : Nat) (v2 : Nat) (v3 : Int32) (m : ba_M), AW (Y_La_law N xs) 18 [some (aX), some (aR (some v1)), some (aR (some v2)), some (aI v3)] [] S m (b_La_law_18 N xs k18 S v1 v2 v3 m) := by
  intro S v1 v2 v3 m
  unfold b_La_law_18
  refine a_iload_n dL_law_18 rfl ?_
  refine a_aload_nX dL_law_19 rfl ?_
  refine a_slen rfl dL_law_20 ?_
  refine a_iconst (v := nI 5) dL_law_21 (by decide) ?_
  refine a_isub dL_law_22 ?_
  refine a_igt (tgt := 864) dL_law_23 (by decide) (fun _ => ?_) (fun _ => ?_)
  · skip
    refine a_iconst (v := nI 1) dL_law_864 (by decide) ?_
    exact AW.ret dL_law_865 rfl rfl
  · skip
    refine a_aload_nX dL_law_26 rfl ?_
    refine a_iload_n dL_law_27 rfl ?_
    refine a_sld rfl dL_law_28 ?_
    refine a_bipush (v := nI 31) dL_law_29 (by decide) ?_
    refine a_iand dL_law_31 ?_
    refine AW.if (fun c1 => ?_) (fun c1 => ?_)
    · refine a_tabIn (tgt := 144) dL_law_32 (by rw [c1]; decide) (by rw [c1]; decide) (by rw [c1]; rfl) (by decide) ?_
      refine a_aload_n dL_law_144 rfl ?_
      refine a_aload_nX dL_law_145 rfl ?_
      refine a_iload_n dL_law_146 rfl ?_
      refine a_iconst (v := nI 1) dL_law_147 (by decide) ?_
      refine a_iadd dL_law_148 ?_
      refine a_sld rfl dL_law_149 ?_
      refine a_aload_nX dL_law_150 rfl ?_
      refine a_iload_n dL_law_151 rfl ?_
      refine a_iconst (v := nI 2) dL_law_152 (by decide) ?_
      refine a_iadd dL_law_153 ?_
      refine a_sld rfl dL_law_154 ?_
      refine a_i2l dL_law_155 ?_
      refine a_bipush (v := nI 32) dL_law_156 (by decide) ?_
      refine a_lshl dL_law_158 ?_
      refine a_aload_nX dL_law_159 rfl ?_
      refine a_iload_n dL_law_160 rfl ?_
      refine a_iconst (v := nI 3) dL_law_161 (by decide) ?_
      refine a_iadd dL_law_162 ?_
      refine a_sld rfl dL_law_163 ?_
      refine a_i2l dL_law_164 ?_
      refine a_ldc2 dL_law_165 cl_RL_13 ?_
      refine a_land dL_law_168 ?_
      refine a_lor dL_law_169 ?_
      refine AW.ck (fun h3 => ?_)
      refine a_callV_I dL_law_170 lk_RL_15 mt_Ba_write vt_Ba_write ⟨_, rfl, rfl⟩ (fun _ h => m_Ba_write h) rfl rfl h3 ⟨rfl, rfl, rfl⟩ (fun q2 => ?_)
      refine a_aload_n dL_law_173 rfl ?_
      refine a_aload_nX dL_law_174 rfl ?_
      refine a_iload_n dL_law_175 rfl ?_
      refine a_iconst (v := nI 1) dL_law_176 (by decide) ?_
      refine a_iadd dL_law_177 ?_
      refine a_sld rfl dL_law_178 ?_
      refine a_aload_nX dL_law_179 rfl ?_
      refine a_iload_n dL_law_180 rfl ?_
      refine a_iconst (v := nI 2) dL_law_181 (by decide) ?_
      refine a_iadd dL_law_182 ?_
      refine a_sld rfl dL_law_183 ?_
      refine a_i2l dL_law_184 ?_
      refine a_bipush (v := nI 32) dL_law_185 (by decide) ?_
      refine a_lshl dL_law_187 ?_
      refine a_aload_nX dL_law_188 rfl ?_
      refine a_iload_n dL_law_189 rfl ?_
      refine a_iconst (v := nI 3) dL_law_190 (by decide) ?_
      refine a_iadd dL_law_191 ?_
      refine a_sld rfl dL_law_192 ?_
      refine a_i2l dL_law_193 ?_
      refine a_ldc2 dL_law_194 cl_RL_13 ?_
      refine a_land dL_law_197 ?_
      refine a_lor dL_law_198 ?_
      refine AW.ck (fun h5 => ?_)
      refine a_callV_I dL_law_199 lk_RL_19 mt_Mo_write vt_Mo_write ⟨_, rfl, rfl⟩ (fun _ h => m_Mo_write h) rfl rfl h5 ⟨rfl, rfl, rfl⟩ (fun q4 => ?_)
      refine a_ieq (tgt := 858) dL_law_202 (by decide) (fun _ => ?_) (fun _ => ?_)
      · skip
        exact AW.weak (Lw_so rfl (Lw_so rfl (Lw_so rfl (Lw_so rfl Lw_end)))) (w_La_law_858 hk18 _ _ _ _ _)
      · skip
        refine a_iconst (v := nI 0) dL_law_205 (by decide) ?_
        exact AW.ret dL_law_206 rfl rfl
    refine AW.if (fun c6 => ?_) (fun c6 => ?_)
    · refine a_tabIn (tgt := 207) dL_law_32 (by rw [c6]; decide) (by rw [c6]; decide) (by rw [c6]; rfl) (by decide) ?_
      refine a_aload_n dL_law_207 rfl ?_
      refine AW.ck (fun h8 => ?_)
      refine a_callV_I dL_law_208 lk_RL_20 mt_Ba_wipe vt_Ba_wipe ⟨_, rfl, rfl⟩ (fun _ h => m_Ba_wipe h) rfl rfl h8 ⟨rfl, rfl, rfl⟩ (fun q7 => ?_)
      refine a_aload_n dL_law_211 rfl ?_
      refine AW.ck (fun h10 => ?_)
      refine a_callV_I dL_law_212 lk_RL_24 mt_Mo_wipe vt_Mo_wipe ⟨_, rfl, rfl⟩ (fun _ h => m_Mo_wipe h) rfl rfl h10 ⟨rfl, rfl, rfl⟩ (fun q9 => ?_)
      refine a_ieq (tgt := 858) dL_law_215 (by decide) (fun _ => ?_) (fun _ => ?_)
      · skip
        exact AW.weak (Lw_so rfl (Lw_so rfl (Lw_so rfl (Lw_so rfl Lw_end)))) (w_La_law_858 hk18 _ _ _ _ _)
      · skip
        refine a_iconst (v := nI 0) dL_law_218 (by decide) ?_
        exact AW.ret dL_law_219 rfl rfl
    refine AW.if (fun c11 => ?_) (fun c11 => ?_)
    · refine a_tabIn (tgt := 220) dL_law_32 (by rw [c11]; decide) (by rw [c11]; decide) (by rw [c11]; rfl) (by decide) ?_
      refine a_aload_n dL_law_220 rfl ?_
      refine AW.ck (fun h13 => ?_)
      refine a_callV_I dL_law_221 lk_RL_25 mt_Ba_fault vt_Ba_fault ⟨_, rfl, rfl⟩ (fun _ h => m_Ba_fault h) rfl rfl h13 ⟨rfl, rfl, rfl⟩ (fun q12 => ?_)
      refine a_aload_n dL_law_224 rfl ?_
      refine AW.ck (fun h15 => ?_)
      refine a_callV_I dL_law_225 lk_RL_28 mt_Mo_fault vt_Mo_fault ⟨_, rfl, rfl⟩ (fun _ h => m_Mo_fault h) rfl rfl h15 ⟨rfl, rfl, rfl⟩ (fun q14 => ?_)
      refine a_ieq (tgt := 858) dL_law_228 (by decide) (fun _ => ?_) (fun _ => ?_)
      · skip
        exact AW.weak (Lw_so rfl (Lw_so rfl (Lw_so rfl (Lw_so rfl Lw_end)))) (w_La_law_858 hk18 _ _ _ _ _)
      · skip
        refine a_iconst (v := nI 0) dL_law_231 (by decide) ?_
        exact AW.ret dL_law_232 rfl rfl
    refine AW.if (fun c16 => ?_) (fun c16 => ?_)
    · refine a_tabIn (tgt := 233) dL_law_32 (by rw [c16]; decide) (by rw [c16]; decide) (by rw [c16]; rfl) (by decide) ?_
      refine a_aload_n dL_law_233 rfl ?_
      refine AW.ck (fun h18 => ?_)
      refine a_callV_I dL_law_234 lk_RL_29 mt_Ba_lay vt_Ba_lay ⟨_, rfl, rfl⟩ (fun _ h => m_Ba_lay h) rfl rfl h18 ⟨rfl, rfl, rfl⟩ (fun q17 => ?_)
      refine a_aload_n dL_law_237 rfl ?_
      refine AW.ck (fun h20 => ?_)
      refine a_callV_I dL_law_238 lk_RL_32 mt_Mo_lay vt_Mo_lay ⟨_, rfl, rfl⟩ (fun _ h => m_Mo_lay h) rfl rfl h20 ⟨rfl, rfl, rfl⟩ (fun q19 => ?_)
      refine a_ieq (tgt := 858) dL_law_241 (by decide) (fun _ => ?_) (fun _ => ?_)
      · skip
        exact AW.weak (Lw_so rfl (Lw_so rfl (Lw_so rfl (Lw_so rfl Lw_end)))) (w_La_law_858 hk18 _ _ _ _ _)
      · skip
        refine a_iconst (v := nI 0) dL_law_244 (by decide) ?_
        exact AW.ret dL_law_245 rfl rfl
    refine AW.if (fun c21 => ?_) (fun c21 => ?_)
    · refine a_tabIn (tgt := 246) dL_law_32 (by rw [c21]; decide) (by rw [c21]; decide) (by rw [c21]; rfl) (by decide) ?_
      refine a_aload_n dL_law_246 rfl ?_
      refine a_aload_nX dL_law_247 rfl ?_
      refine a_iload_n dL_law_248 rfl ?_
      refine a_iconst (v := nI 1) dL_law_249 (by decide) ?_
      refine a_iadd dL_law_250 ?_
      refine a_sld rfl dL_law_251 ?_
      refine a_aload_nX dL_law_252 rfl ?_
      refine a_iload_n dL_law_253 rfl ?_
      refine a_iconst (v := nI 2) dL_law_254 (by decide) ?_
      refine a_iadd dL_law_255 ?_
      refine a_sld rfl dL_law_256 ?_
      refine AW.ck (fun h23 => ?_)
      refine a_callV_I dL_law_257 lk_RL_33 mt_Ba_player vt_Ba_player ⟨_, rfl, rfl⟩ (fun _ h => m_Ba_player h) rfl rfl h23 ⟨rfl, rfl, rfl⟩ (fun q22 => ?_)
      refine a_aload_n dL_law_260 rfl ?_
      refine a_aload_nX dL_law_261 rfl ?_
      refine a_iload_n dL_law_262 rfl ?_
      refine a_iconst (v := nI 1) dL_law_263 (by decide) ?_
      refine a_iadd dL_law_264 ?_
      refine a_sld rfl dL_law_265 ?_
      refine a_aload_nX dL_law_266 rfl ?_
      refine a_iload_n dL_law_267 rfl ?_
      refine a_iconst (v := nI 2) dL_law_268 (by decide) ?_
      refine a_iadd dL_law_269 ?_
      refine a_sld rfl dL_law_270 ?_
      refine AW.ck (fun h25 => ?_)
      refine a_callV_I dL_law_271 lk_RL_37 mt_Mo_player vt_Mo_player ⟨_, rfl, rfl⟩ (fun _ h => m_Mo_player h) rfl rfl h25 ⟨rfl, rfl, rfl⟩ (fun q24 => ?_)
      refine a_ieq (tgt := 858) dL_law_274 (by decide) (fun _ => ?_) (fun _ => ?_)
      · skip
        exact AW.weak (Lw_so rfl (Lw_so rfl (Lw_so rfl (Lw_so rfl Lw_end)))) (w_La_law_858 hk18 _ _ _ _ _)
      · skip
        refine a_iconst (v := nI 0) dL_law_277 (by decide) ?_
        exact AW.ret dL_law_278 rfl rfl
    refine AW.if (fun c26 => ?_) (fun c26 => ?_)
    · refine a_tabIn (tgt := 279) dL_law_32 (by rw [c26]; decide) (by rw [c26]; decide) (by rw [c26]; rfl) (by decide) ?_
      refine a_aload_n dL_law_279 rfl ?_
      refine a_aload_nX dL_law_280 rfl ?_
      refine a_iload_n dL_law_281 rfl ?_
      refine a_iconst (v := nI 1) dL_law_282 (by decide) ?_
      refine a_iadd dL_law_283 ?_
      refine a_sld rfl dL_law_284 ?_
      refine a_aload_nX dL_law_285 rfl ?_
      refine a_iload_n dL_law_286 rfl ?_
      refine a_iconst (v := nI 2) dL_law_287 (by decide) ?_
      refine a_iadd dL_law_288 ?_
      refine a_sld rfl dL_law_289 ?_
      refine AW.ck (fun h28 => ?_)
      refine a_callV_I dL_law_290 lk_RL_38 mt_Ba_called vt_Ba_called ⟨_, rfl, rfl⟩ (fun _ h => m_Ba_called h) rfl rfl h28 ⟨rfl, rfl, rfl⟩ (fun q27 => ?_)
      refine a_aload_n dL_law_293 rfl ?_
      refine a_aload_nX dL_law_294 rfl ?_
      refine a_iload_n dL_law_295 rfl ?_
      refine a_iconst (v := nI 1) dL_law_296 (by decide) ?_
      refine a_iadd dL_law_297 ?_
      refine a_sld rfl dL_law_298 ?_
      refine a_aload_nX dL_law_299 rfl ?_
      refine a_iload_n dL_law_300 rfl ?_
      refine a_iconst (v := nI 2) dL_law_301 (by decide) ?_
      refine a_iadd dL_law_302 ?_
      refine a_sld rfl dL_law_303 ?_
      refine AW.ck (fun h30 => ?_)
      refine a_callV_I dL_law_304 lk_RL_41 mt_Mo_called vt_Mo_called ⟨_, rfl, rfl⟩ (fun _ h => m_Mo_called h) rfl rfl h30 ⟨rfl, rfl, rfl⟩ (fun q29 => ?_)
      refine a_ieq (tgt := 858) dL_law_307 (by decide) (fun _ => ?_) (fun _ => ?_)
      · skip
        exact AW.weak (Lw_so rfl (Lw_so rfl (Lw_so rfl (Lw_so rfl Lw_end)))) (w_La_law_858 hk18 _ _ _ _ _)
      · skip
        refine a_iconst (v := nI 0) dL_law_310 (by decide) ?_
        exact AW.ret dL_law_311 rfl rfl
    refine AW.if (fun c31 => ?_) (fun c31 => ?_)
    · refine a_tabIn (tgt := 312) dL_law_32 (by rw [c31]; decide) (by rw [c31]; decide) (by rw [c31]; rfl) (by decide) ?_
      refine a_aload_n dL_law_312 rfl ?_
      refine a_aload_nX dL_law_313 rfl ?_
      refine a_iload_n dL_law_314 rfl ?_
      refine a_iconst (v := nI 1) dL_law_315 (by decide) ?_
      refine a_iadd dL_law_316 ?_
      refine a_sld rfl dL_law_317 ?_
      refine a_aload_nX dL_law_318 rfl ?_
      refine a_iload_n dL_law_319 rfl ?_
      refine a_iconst (v := nI 2) dL_law_320 (by decide) ?_
      refine a_iadd dL_law_321 ?_
      refine a_sld rfl dL_law_322 ?_
      refine AW.ck (fun h33 => ?_)
      refine a_callV_I dL_law_323 lk_RL_42 mt_Ba_stands vt_Ba_stands ⟨_, rfl, rfl⟩ (fun _ h => m_Ba_stands h) rfl rfl h33 ⟨rfl, rfl, rfl⟩ (fun q32 => ?_)
      refine a_aload_n dL_law_326 rfl ?_
      refine a_aload_nX dL_law_327 rfl ?_
      refine a_iload_n dL_law_328 rfl ?_
      refine a_iconst (v := nI 1) dL_law_329 (by decide) ?_
      refine a_iadd dL_law_330 ?_
      refine a_sld rfl dL_law_331 ?_
      refine a_aload_nX dL_law_332 rfl ?_
      refine a_iload_n dL_law_333 rfl ?_
      refine a_iconst (v := nI 2) dL_law_334 (by decide) ?_
      refine a_iadd dL_law_335 ?_
      refine a_sld rfl dL_law_336 ?_
      refine AW.ck (fun h35 => ?_)
      refine a_callV_I dL_law_337 lk_RL_45 mt_Mo_stands vt_Mo_stands ⟨_, rfl, rfl⟩ (fun _ h => m_Mo_stands h) rfl rfl h35 ⟨rfl, rfl, rfl⟩ (fun q34 => ?_)
      refine a_ieq (tgt := 858) dL_law_340 (by decide) (fun _ => ?_) (fun _ => ?_)
      · skip
        exact AW.weak (Lw_so rfl (Lw_so rfl (Lw_so rfl (Lw_so rfl Lw_end)))) (w_La_law_858 hk18 _ _ _ _ _)
      · skip
        refine a_iconst (v := nI 0) dL_law_343 (by decide) ?_
        exact AW.ret dL_law_344 rfl rfl
    refine AW.if (fun c36 => ?_) (fun c36 => ?_)
    · refine a_tabIn (tgt := 345) dL_law_32 (by rw [c36]; decide) (by rw [c36]; decide) (by rw [c36]; rfl) (by decide) ?_
      refine a_aload_n dL_law_345 rfl ?_
      refine a_aload_nX dL_law_346 rfl ?_
      refine a_iload_n dL_law_347 rfl ?_
      refine a_iconst (v := nI 1) dL_law_348 (by decide) ?_
      refine a_iadd dL_law_349 ?_
      refine a_sld rfl dL_law_350 ?_
      refine a_aload_nX dL_law_351 rfl ?_
      refine a_iload_n dL_law_352 rfl ?_
      refine a_iconst (v := nI 2) dL_law_353 (by decide) ?_
      refine a_iadd dL_law_354 ?_
      refine a_sld rfl dL_law_355 ?_
      refine AW.ck (fun h38 => ?_)
      refine a_callV_I dL_law_356 lk_RL_46 mt_Ba_chance vt_Ba_chance ⟨_, rfl, rfl⟩ (fun _ h => m_Ba_chance h) rfl rfl h38 ⟨rfl, rfl, rfl⟩ (fun q37 => ?_)
      refine a_aload_n dL_law_359 rfl ?_
      refine a_aload_nX dL_law_360 rfl ?_
      refine a_iload_n dL_law_361 rfl ?_
      refine a_iconst (v := nI 1) dL_law_362 (by decide) ?_
      refine a_iadd dL_law_363 ?_
      refine a_sld rfl dL_law_364 ?_
      refine a_aload_nX dL_law_365 rfl ?_
      refine a_iload_n dL_law_366 rfl ?_
      refine a_iconst (v := nI 2) dL_law_367 (by decide) ?_
      refine a_iadd dL_law_368 ?_
      refine a_sld rfl dL_law_369 ?_
      refine AW.ck (fun h40 => ?_)
      refine a_callV_I dL_law_370 lk_RL_49 mt_Mo_chance vt_Mo_chance ⟨_, rfl, rfl⟩ (fun _ h => m_Mo_chance h) rfl rfl h40 ⟨rfl, rfl, rfl⟩ (fun q39 => ?_)
      refine a_ieq (tgt := 858) dL_law_373 (by decide) (fun _ => ?_) (fun _ => ?_)
      · skip
        exact AW.weak (Lw_so rfl (Lw_so rfl (Lw_so rfl (Lw_so rfl Lw_end)))) (w_La_law_858 hk18 _ _ _ _ _)
      · skip
        refine a_iconst (v := nI 0) dL_law_376 (by decide) ?_
        exact AW.ret dL_law_377 rfl rfl
    refine AW.if (fun c41 => ?_) (fun c41 => ?_)
    · refine a_tabIn (tgt := 378) dL_law_32 (by rw [c41]; decide) (by rw [c41]; decide) (by rw [c41]; rfl) (by decide) ?_
      refine a_aload_n dL_law_378 rfl ?_
      refine a_aload_nX dL_law_379 rfl ?_
      refine a_iload_n dL_law_380 rfl ?_
      refine a_iconst (v := nI 1) dL_law_381 (by decide) ?_
      refine a_iadd dL_law_382 ?_
      refine a_sld rfl dL_law_383 ?_
      refine a_aload_nX dL_law_384 rfl ?_
      refine a_iload_n dL_law_385 rfl ?_
      refine a_iconst (v := nI 2) dL_law_386 (by decide) ?_
      refine a_iadd dL_law_387 ?_
      refine a_sld rfl dL_law_388 ?_
      refine AW.ck (fun h43 => ?_)
      refine a_callV_I dL_law_389 lk_RL_50 mt_Ba_thrown vt_Ba_thrown ⟨_, rfl, rfl⟩ (fun _ h => m_Ba_thrown h) rfl rfl h43 ⟨rfl, rfl, rfl⟩ (fun q42 => ?_)
      refine a_aload_n dL_law_392 rfl ?_
      refine a_aload_nX dL_law_393 rfl ?_
      refine a_iload_n dL_law_394 rfl ?_
      refine a_iconst (v := nI 1) dL_law_395 (by decide) ?_
      refine a_iadd dL_law_396 ?_
      refine a_sld rfl dL_law_397 ?_
      refine a_aload_nX dL_law_398 rfl ?_
      refine a_iload_n dL_law_399 rfl ?_
      refine a_iconst (v := nI 2) dL_law_400 (by decide) ?_
      refine a_iadd dL_law_401 ?_
      refine a_sld rfl dL_law_402 ?_
      refine AW.ck (fun h45 => ?_)
      refine a_callV_I dL_law_403 lk_RL_53 mt_Mo_thrown vt_Mo_thrown ⟨_, rfl, rfl⟩ (fun _ h => m_Mo_thrown h) rfl rfl h45 ⟨rfl, rfl, rfl⟩ (fun q44 => ?_)
      refine a_ieq (tgt := 858) dL_law_406 (by decide) (fun _ => ?_) (fun _ => ?_)
      · skip
        exact AW.weak (Lw_so rfl (Lw_so rfl (Lw_so rfl (Lw_so rfl Lw_end)))) (w_La_law_858 hk18 _ _ _ _ _)
      · skip
        refine a_iconst (v := nI 0) dL_law_409 (by decide) ?_
        exact AW.ret dL_law_410 rfl rfl
    refine AW.if (fun c46 => ?_) (fun c46 => ?_)
    · refine a_tabIn (tgt := 411) dL_law_32 (by rw [c46]; decide) (by rw [c46]; decide) (by rw [c46]; rfl) (by decide) ?_
      refine a_aload_n dL_law_411 rfl ?_
      refine a_aload_nX dL_law_412 rfl ?_
      refine a_iload_n dL_law_413 rfl ?_
      refine a_iconst (v := nI 1) dL_law_414 (by decide) ?_
      refine a_iadd dL_law_415 ?_
      refine a_sld rfl dL_law_416 ?_
      refine a_aload_nX dL_law_417 rfl ?_
      refine a_iload_n dL_law_418 rfl ?_
      refine a_iconst (v := nI 2) dL_law_419 (by decide) ?_
      refine a_iadd dL_law_420 ?_
      refine a_sld rfl dL_law_421 ?_
      refine AW.ck (fun h48 => ?_)
      refine a_callV_I dL_law_422 lk_RL_54 mt_Ba_hidden vt_Ba_hidden ⟨_, rfl, rfl⟩ (fun _ h => m_Ba_hidden h) rfl rfl h48 ⟨rfl, rfl, rfl⟩ (fun q47 => ?_)
      refine a_aload_n dL_law_425 rfl ?_
      refine a_aload_nX dL_law_426 rfl ?_
      refine a_iload_n dL_law_427 rfl ?_
      refine a_iconst (v := nI 1) dL_law_428 (by decide) ?_
      refine a_iadd dL_law_429 ?_
      refine a_sld rfl dL_law_430 ?_
      refine a_aload_nX dL_law_431 rfl ?_
      refine a_iload_n dL_law_432 rfl ?_
      refine a_iconst (v := nI 2) dL_law_433 (by decide) ?_
      refine a_iadd dL_law_434 ?_
      refine a_sld rfl dL_law_435 ?_
      refine AW.ck (fun h50 => ?_)
      refine a_callV_I dL_law_436 lk_RL_57 mt_Mo_hidden vt_Mo_hidden ⟨_, rfl, rfl⟩ (fun _ h => m_Mo_hidden h) rfl rfl h50 ⟨rfl, rfl, rfl⟩ (fun q49 => ?_)
      refine a_ieq (tgt := 858) dL_law_439 (by decide) (fun _ => ?_) (fun _ => ?_)
      · skip
        exact AW.weak (Lw_so rfl (Lw_so rfl (Lw_so rfl (Lw_so rfl Lw_end)))) (w_La_law_858 hk18 _ _ _ _ _)
      · skip
        refine a_iconst (v := nI 0) dL_law_442 (by decide) ?_
        exact AW.ret dL_law_443 rfl rfl
    refine AW.if (fun c51 => ?_) (fun c51 => ?_)
    · refine a_tabIn (tgt := 444) dL_law_32 (by rw [c51]; decide) (by rw [c51]; decide) (by rw [c51]; rfl) (by decide) ?_
      refine a_aload_n dL_law_444 rfl ?_
      refine a_aload_nX dL_law_445 rfl ?_
      refine a_iload_n dL_law_446 rfl ?_
      refine a_iconst (v := nI 1) dL_law_447 (by decide) ?_
      refine a_iadd dL_law_448 ?_
      refine a_sld rfl dL_law_449 ?_
      refine a_aload_nX dL_law_450 rfl ?_
      refine a_iload_n dL_law_451 rfl ?_
      refine a_iconst (v := nI 2) dL_law_452 (by decide) ?_
      refine a_iadd dL_law_453 ?_
      refine a_sld rfl dL_law_454 ?_
      refine AW.ck (fun h53 => ?_)
      refine a_callV_I dL_law_455 lk_RL_58 mt_Ba_safe vt_Ba_safe ⟨_, rfl, rfl⟩ (fun _ h => m_Ba_safe h) rfl rfl h53 ⟨rfl, rfl, rfl⟩ (fun q52 => ?_)
      refine a_aload_n dL_law_458 rfl ?_
      refine a_aload_nX dL_law_459 rfl ?_
      refine a_iload_n dL_law_460 rfl ?_
      refine a_iconst (v := nI 1) dL_law_461 (by decide) ?_
      refine a_iadd dL_law_462 ?_
      refine a_sld rfl dL_law_463 ?_
      refine a_aload_nX dL_law_464 rfl ?_
      refine a_iload_n dL_law_465 rfl ?_
      refine a_iconst (v := nI 2) dL_law_466 (by decide) ?_
      refine a_iadd dL_law_467 ?_
      refine a_sld rfl dL_law_468 ?_
      refine AW.ck (fun h55 => ?_)
      refine a_callV_I dL_law_469 lk_RL_61 mt_Mo_safe vt_Mo_safe ⟨_, rfl, rfl⟩ (fun _ h => m_Mo_safe h) rfl rfl h55 ⟨rfl, rfl, rfl⟩ (fun q54 => ?_)
      refine a_ieq (tgt := 858) dL_law_472 (by decide) (fun _ => ?_) (fun _ => ?_)
      · skip
        exact AW.weak (Lw_so rfl (Lw_so rfl (Lw_so rfl (Lw_so rfl Lw_end)))) (w_La_law_858 hk18 _ _ _ _ _)
      · skip
        refine a_iconst (v := nI 0) dL_law_475 (by decide) ?_
        exact AW.ret dL_law_476 rfl rfl
    refine AW.if (fun c56 => ?_) (fun c56 => ?_)
    · refine a_tabIn (tgt := 477) dL_law_32 (by rw [c56]; decide) (by rw [c56]; decide) (by rw [c56]; rfl) (by decide) ?_
      refine a_aload_n dL_law_477 rfl ?_
      refine a_aload_nX dL_law_478 rfl ?_
      refine a_iload_n dL_law_479 rfl ?_
      refine a_iconst (v := nI 1) dL_law_480 (by decide) ?_
      refine a_iadd dL_law_481 ?_
      refine a_sld rfl dL_law_482 ?_
      refine a_aload_nX dL_law_483 rfl ?_
      refine a_iload_n dL_law_484 rfl ?_
      refine a_iconst (v := nI 2) dL_law_485 (by decide) ?_
      refine a_iadd dL_law_486 ?_
      refine a_sld rfl dL_law_487 ?_
      refine a_aload_nX dL_law_488 rfl ?_
      refine a_iload_n dL_law_489 rfl ?_
      refine a_iconst (v := nI 3) dL_law_490 (by decide) ?_
      refine a_iadd dL_law_491 ?_
      refine a_sld rfl dL_law_492 ?_
      refine AW.ck (fun h58 => ?_)
      refine a_callV_I dL_law_493 lk_RL_62 mt_Ba_run vt_Ba_run ⟨_, rfl, rfl⟩ (fun _ h => m_Ba_run h) rfl rfl h58 ⟨rfl, rfl, rfl⟩ (fun q57 => ?_)
      refine a_aload_n dL_law_496 rfl ?_
      refine a_aload_nX dL_law_497 rfl ?_
      refine a_iload_n dL_law_498 rfl ?_
      refine a_iconst (v := nI 1) dL_law_499 (by decide) ?_
      refine a_iadd dL_law_500 ?_
      refine a_sld rfl dL_law_501 ?_
      refine a_aload_nX dL_law_502 rfl ?_
      refine a_iload_n dL_law_503 rfl ?_
      refine a_iconst (v := nI 2) dL_law_504 (by decide) ?_
      refine a_iadd dL_law_505 ?_
      refine a_sld rfl dL_law_506 ?_
      refine a_aload_nX dL_law_507 rfl ?_
      refine a_iload_n dL_law_508 rfl ?_
      refine a_iconst (v := nI 3) dL_law_509 (by decide) ?_
      refine a_iadd dL_law_510 ?_
      refine a_sld rfl dL_law_511 ?_
      refine AW.ck (fun h60 => ?_)
      refine a_callV_I dL_law_512 lk_RL_66 mt_Mo_run vt_Mo_run ⟨_, rfl, rfl⟩ (fun _ h => m_Mo_run h) rfl rfl h60 ⟨rfl, rfl, rfl⟩ (fun q59 => ?_)
      refine a_ieq (tgt := 858) dL_law_515 (by decide) (fun _ => ?_) (fun _ => ?_)
      · skip
        exact AW.weak (Lw_so rfl (Lw_so rfl (Lw_so rfl (Lw_so rfl Lw_end)))) (w_La_law_858 hk18 _ _ _ _ _)
      · skip
        refine a_iconst (v := nI 0) dL_law_518 (by decide) ?_
        exact AW.ret dL_law_519 rfl rfl
    refine AW.if (fun c61 => ?_) (fun c61 => ?_)
    · refine a_tabIn (tgt := 520) dL_law_32 (by rw [c61]; decide) (by rw [c61]; decide) (by rw [c61]; rfl) (by decide) ?_
      refine a_aload_n dL_law_520 rfl ?_
      refine a_aload_nX dL_law_521 rfl ?_
      refine a_iload_n dL_law_522 rfl ?_
      refine a_iconst (v := nI 1) dL_law_523 (by decide) ?_
      refine a_iadd dL_law_524 ?_
      refine a_sld rfl dL_law_525 ?_
      refine a_aload_nX dL_law_526 rfl ?_
      refine a_iload_n dL_law_527 rfl ?_
      refine a_iconst (v := nI 2) dL_law_528 (by decide) ?_
      refine a_iadd dL_law_529 ?_
      refine a_sld rfl dL_law_530 ?_
      refine a_aload_nX dL_law_531 rfl ?_
      refine a_iload_n dL_law_532 rfl ?_
      refine a_iconst (v := nI 3) dL_law_533 (by decide) ?_
      refine a_iadd dL_law_534 ?_
      refine a_sld rfl dL_law_535 ?_
      refine AW.ck (fun h63 => ?_)
      refine a_callV_J dL_law_536 lk_RL_67 mt_Ba_first vt_Ba_first ⟨_, rfl, rfl⟩ (fun _ h => m_Ba_first h) rfl rfl h63 ⟨rfl, rfl, rfl⟩ (fun q62 => ?_)
      refine a_aload_n dL_law_539 rfl ?_
      refine a_aload_nX dL_law_540 rfl ?_
      refine a_iload_n dL_law_541 rfl ?_
      refine a_iconst (v := nI 1) dL_law_542 (by decide) ?_
      refine a_iadd dL_law_543 ?_
      refine a_sld rfl dL_law_544 ?_
      refine a_aload_nX dL_law_545 rfl ?_
      refine a_iload_n dL_law_546 rfl ?_
      refine a_iconst (v := nI 2) dL_law_547 (by decide) ?_
      refine a_iadd dL_law_548 ?_
      refine a_sld rfl dL_law_549 ?_
      refine a_aload_nX dL_law_550 rfl ?_
      refine a_iload_n dL_law_551 rfl ?_
      refine a_iconst (v := nI 3) dL_law_552 (by decide) ?_
      refine a_iadd dL_law_553 ?_
      refine a_sld rfl dL_law_554 ?_
      refine AW.ck (fun h65 => ?_)
      refine a_callV_J dL_law_555 lk_RL_71 mt_Mo_first vt_Mo_first ⟨_, rfl, rfl⟩ (fun _ h => m_Mo_first h) rfl rfl h65 ⟨rfl, rfl, rfl⟩ (fun q64 => ?_)
      refine a_lcmp dL_law_558 ?_
      refine a_zeq (tgt := 858) dL_law_559 (by decide) (fun _ => ?_) (fun _ => ?_)
      · skip
        exact AW.weak (Lw_so rfl (Lw_so rfl (Lw_so rfl (Lw_so rfl Lw_end)))) (w_La_law_858 hk18 _ _ _ _ _)
      · skip
        refine a_iconst (v := nI 0) dL_law_562 (by decide) ?_
        exact AW.ret dL_law_563 rfl rfl
    refine AW.if (fun c66 => ?_) (fun c66 => ?_)
    · refine a_tabIn (tgt := 564) dL_law_32 (by rw [c66]; decide) (by rw [c66]; decide) (by rw [c66]; rfl) (by decide) ?_
      refine a_aload_n dL_law_564 rfl ?_
      refine a_aload_nX dL_law_565 rfl ?_
      refine a_iload_n dL_law_566 rfl ?_
      refine a_iconst (v := nI 1) dL_law_567 (by decide) ?_
      refine a_iadd dL_law_568 ?_
      refine a_sld rfl dL_law_569 ?_
      refine a_aload_nX dL_law_570 rfl ?_
      refine a_iload_n dL_law_571 rfl ?_
      refine a_iconst (v := nI 2) dL_law_572 (by decide) ?_
      refine a_iadd dL_law_573 ?_
      refine a_sld rfl dL_law_574 ?_
      refine AW.ck (fun h68 => ?_)
      refine a_callV_J dL_law_575 lk_RL_72 mt_Ba_rounds vt_Ba_rounds ⟨_, rfl, rfl⟩ (fun _ h => m_Ba_rounds h) rfl rfl h68 ⟨rfl, rfl, rfl⟩ (fun q67 => ?_)
      refine a_aload_n dL_law_578 rfl ?_
      refine a_aload_nX dL_law_579 rfl ?_
      refine a_iload_n dL_law_580 rfl ?_
      refine a_iconst (v := nI 1) dL_law_581 (by decide) ?_
      refine a_iadd dL_law_582 ?_
      refine a_sld rfl dL_law_583 ?_
      refine a_aload_nX dL_law_584 rfl ?_
      refine a_iload_n dL_law_585 rfl ?_
      refine a_iconst (v := nI 2) dL_law_586 (by decide) ?_
      refine a_iadd dL_law_587 ?_
      refine a_sld rfl dL_law_588 ?_
      refine AW.ck (fun h70 => ?_)
      refine a_callV_J dL_law_589 lk_RL_76 mt_Mo_rounds vt_Mo_rounds ⟨_, rfl, rfl⟩ (fun _ h => m_Mo_rounds h) rfl rfl h70 ⟨rfl, rfl, rfl⟩ (fun q69 => ?_)
      refine a_lcmp dL_law_592 ?_
      refine a_zeq (tgt := 858) dL_law_593 (by decide) (fun _ => ?_) (fun _ => ?_)
      · skip
        exact AW.weak (Lw_so rfl (Lw_so rfl (Lw_so rfl (Lw_so rfl Lw_end)))) (w_La_law_858 hk18 _ _ _ _ _)
      · skip
        refine a_iconst (v := nI 0) dL_law_596 (by decide) ?_
        exact AW.ret dL_law_597 rfl rfl
    refine AW.if (fun c71 => ?_) (fun c71 => ?_)
    · refine a_tabIn (tgt := 598) dL_law_32 (by rw [c71]; decide) (by rw [c71]; decide) (by rw [c71]; rfl) (by decide) ?_
      refine a_aload_n dL_law_598 rfl ?_
      refine a_aload_nX dL_law_599 rfl ?_
      refine a_iload_n dL_law_600 rfl ?_
      refine a_iconst (v := nI 1) dL_law_601 (by decide) ?_
      refine a_iadd dL_law_602 ?_
      refine a_sld rfl dL_law_603 ?_
      refine a_aload_nX dL_law_604 rfl ?_
      refine a_iload_n dL_law_605 rfl ?_
      refine a_iconst (v := nI 2) dL_law_606 (by decide) ?_
      refine a_iadd dL_law_607 ?_
      refine a_sld rfl dL_law_608 ?_
      refine a_aload_nX dL_law_609 rfl ?_
      refine a_iload_n dL_law_610 rfl ?_
      refine a_iconst (v := nI 3) dL_law_611 (by decide) ?_
      refine a_iadd dL_law_612 ?_
      refine a_sld rfl dL_law_613 ?_
      refine a_aload_nX dL_law_614 rfl ?_
      refine a_iload_n dL_law_615 rfl ?_
      refine a_iconst (v := nI 4) dL_law_616 (by decide) ?_
      refine a_iadd dL_law_617 ?_
      refine a_sld rfl dL_law_618 ?_
      refine AW.ck (fun h73 => ?_)
      refine a_callV_I dL_law_619 lk_RL_77 mt_Ba_call vt_Ba_call ⟨_, rfl, rfl⟩ (fun _ h => m_Ba_call h) rfl rfl h73 ⟨rfl, rfl, rfl⟩ (fun q72 => ?_)
      refine a_aload_n dL_law_622 rfl ?_
      refine a_aload_nX dL_law_623 rfl ?_
      refine a_iload_n dL_law_624 rfl ?_
      refine a_iconst (v := nI 1) dL_law_625 (by decide) ?_
      refine a_iadd dL_law_626 ?_
      refine a_sld rfl dL_law_627 ?_
      refine a_aload_nX dL_law_628 rfl ?_
      refine a_iload_n dL_law_629 rfl ?_
      refine a_iconst (v := nI 2) dL_law_630 (by decide) ?_
      refine a_iadd dL_law_631 ?_
      refine a_sld rfl dL_law_632 ?_
      refine a_aload_nX dL_law_633 rfl ?_
      refine a_iload_n dL_law_634 rfl ?_
      refine a_iconst (v := nI 3) dL_law_635 (by decide) ?_
      refine a_iadd dL_law_636 ?_
      refine a_sld rfl dL_law_637 ?_
      refine a_aload_nX dL_law_638 rfl ?_
      refine a_iload_n dL_law_639 rfl ?_
      refine a_iconst (v := nI 4) dL_law_640 (by decide) ?_
      refine a_iadd dL_law_641 ?_
      refine a_sld rfl dL_law_642 ?_
      refine AW.ck (fun h75 => ?_)
      refine a_callV_I dL_law_643 lk_RL_81 mt_Mo_call vt_Mo_call ⟨_, rfl, rfl⟩ (fun _ h => m_Mo_call h) rfl rfl h75 ⟨rfl, rfl, rfl⟩ (fun q74 => ?_)
      refine a_ieq (tgt := 858) dL_law_646 (by decide) (fun _ => ?_) (fun _ => ?_)
      · skip
        exact AW.weak (Lw_so rfl (Lw_so rfl (Lw_so rfl (Lw_so rfl Lw_end)))) (w_La_law_858 hk18 _ _ _ _ _)
      · skip
        refine a_iconst (v := nI 0) dL_law_649 (by decide) ?_
        exact AW.ret dL_law_650 rfl rfl
    refine AW.if (fun c76 => ?_) (fun c76 => ?_)
    · refine a_tabIn (tgt := 651) dL_law_32 (by rw [c76]; decide) (by rw [c76]; decide) (by rw [c76]; rfl) (by decide) ?_
      refine a_aload_n dL_law_651 rfl ?_
      refine a_aload_nX dL_law_652 rfl ?_
      refine a_iload_n dL_law_653 rfl ?_
      refine a_iconst (v := nI 1) dL_law_654 (by decide) ?_
      refine a_iadd dL_law_655 ?_
      refine a_sld rfl dL_law_656 ?_
      refine a_aload_nX dL_law_657 rfl ?_
      refine a_iload_n dL_law_658 rfl ?_
      refine a_iconst (v := nI 2) dL_law_659 (by decide) ?_
      refine a_iadd dL_law_660 ?_
      refine a_sld rfl dL_law_661 ?_
      refine AW.ck (fun h78 => ?_)
      refine a_callV_I dL_law_662 lk_RL_82 mt_Ba_letters vt_Ba_letters ⟨_, rfl, rfl⟩ (fun _ h => m_Ba_letters h) rfl rfl h78 ⟨rfl, rfl, rfl⟩ (fun q77 => ?_)
      refine a_aload_n dL_law_665 rfl ?_
      refine a_aload_nX dL_law_666 rfl ?_
      refine a_iload_n dL_law_667 rfl ?_
      refine a_iconst (v := nI 1) dL_law_668 (by decide) ?_
      refine a_iadd dL_law_669 ?_
      refine a_sld rfl dL_law_670 ?_
      refine a_aload_nX dL_law_671 rfl ?_
      refine a_iload_n dL_law_672 rfl ?_
      refine a_iconst (v := nI 2) dL_law_673 (by decide) ?_
      refine a_iadd dL_law_674 ?_
      refine a_sld rfl dL_law_675 ?_
      refine AW.ck (fun h80 => ?_)
      refine a_callV_I dL_law_676 lk_RL_85 mt_Mo_letters vt_Mo_letters ⟨_, rfl, rfl⟩ (fun _ h => m_Mo_letters h) rfl rfl h80 ⟨rfl, rfl, rfl⟩ (fun q79 => ?_)
      refine a_ieq (tgt := 858) dL_law_679 (by decide) (fun _ => ?_) (fun _ => ?_)
      · skip
        exact AW.weak (Lw_so rfl (Lw_so rfl (Lw_so rfl (Lw_so rfl Lw_end)))) (w_La_law_858 hk18 _ _ _ _ _)
      · skip
        refine a_iconst (v := nI 0) dL_law_682 (by decide) ?_
        exact AW.ret dL_law_683 rfl rfl
    refine AW.if (fun c81 => ?_) (fun c81 => ?_)
    · refine a_tabIn (tgt := 684) dL_law_32 (by rw [c81]; decide) (by rw [c81]; decide) (by rw [c81]; rfl) (by decide) ?_
      refine a_aload_n dL_law_684 rfl ?_
      refine AW.ck (fun h83 => ?_)
      refine a_callV_I dL_law_685 lk_RL_86 mt_Ba_undo vt_Ba_undo ⟨_, rfl, rfl⟩ (fun _ h => m_Ba_undo h) rfl rfl h83 ⟨rfl, rfl, rfl⟩ (fun q82 => ?_)
      refine a_aload_n dL_law_688 rfl ?_
      refine AW.ck (fun h85 => ?_)
      refine a_callV_I dL_law_689 lk_RL_89 mt_Mo_undo vt_Mo_undo ⟨_, rfl, rfl⟩ (fun _ h => m_Mo_undo h) rfl rfl h85 ⟨rfl, rfl, rfl⟩ (fun q84 => ?_)
      refine a_ieq (tgt := 858) dL_law_692 (by decide) (fun _ => ?_) (fun _ => ?_)
      · skip
        exact AW.weak (Lw_so rfl (Lw_so rfl (Lw_so rfl (Lw_so rfl Lw_end)))) (w_La_law_858 hk18 _ _ _ _ _)
      · skip
        refine a_iconst (v := nI 0) dL_law_695 (by decide) ?_
        exact AW.ret dL_law_696 rfl rfl
    refine AW.if (fun c86 => ?_) (fun c86 => ?_)
    · refine a_tabIn (tgt := 697) dL_law_32 (by rw [c86]; decide) (by rw [c86]; decide) (by rw [c86]; rfl) (by decide) ?_
      refine a_aload_n dL_law_697 rfl ?_
      refine a_aload_nX dL_law_698 rfl ?_
      refine a_iload_n dL_law_699 rfl ?_
      refine a_iconst (v := nI 1) dL_law_700 (by decide) ?_
      refine a_iadd dL_law_701 ?_
      refine a_sld rfl dL_law_702 ?_
      refine a_aload_nX dL_law_703 rfl ?_
      refine a_iload_n dL_law_704 rfl ?_
      refine a_iconst (v := nI 2) dL_law_705 (by decide) ?_
      refine a_iadd dL_law_706 ?_
      refine a_sld rfl dL_law_707 ?_
      refine a_aload_nX dL_law_708 rfl ?_
      refine a_iload_n dL_law_709 rfl ?_
      refine a_iconst (v := nI 3) dL_law_710 (by decide) ?_
      refine a_iadd dL_law_711 ?_
      refine a_sld rfl dL_law_712 ?_
      refine AW.ck (fun h88 => ?_)
      refine a_callV_I dL_law_713 lk_RL_90 mt_Ba_seen vt_Ba_seen ⟨_, rfl, rfl⟩ (fun _ h => m_Ba_seen h) rfl rfl h88 ⟨rfl, rfl, rfl⟩ (fun q87 => ?_)
      refine a_aload_n dL_law_716 rfl ?_
      refine a_aload_nX dL_law_717 rfl ?_
      refine a_iload_n dL_law_718 rfl ?_
      refine a_iconst (v := nI 1) dL_law_719 (by decide) ?_
      refine a_iadd dL_law_720 ?_
      refine a_sld rfl dL_law_721 ?_
      refine a_aload_nX dL_law_722 rfl ?_
      refine a_iload_n dL_law_723 rfl ?_
      refine a_iconst (v := nI 2) dL_law_724 (by decide) ?_
      refine a_iadd dL_law_725 ?_
      refine a_sld rfl dL_law_726 ?_
      refine a_aload_nX dL_law_727 rfl ?_
      refine a_iload_n dL_law_728 rfl ?_
      refine a_iconst (v := nI 3) dL_law_729 (by decide) ?_
      refine a_iadd dL_law_730 ?_
      refine a_sld rfl dL_law_731 ?_
      refine AW.ck (fun h90 => ?_)
      refine a_callV_I dL_law_732 lk_RL_93 mt_Mo_seen vt_Mo_seen ⟨_, rfl, rfl⟩ (fun _ h => m_Mo_seen h) rfl rfl h90 ⟨rfl, rfl, rfl⟩ (fun q89 => ?_)
      refine a_ieq (tgt := 858) dL_law_735 (by decide) (fun _ => ?_) (fun _ => ?_)
      · skip
        exact AW.weak (Lw_so rfl (Lw_so rfl (Lw_so rfl (Lw_so rfl Lw_end)))) (w_La_law_858 hk18 _ _ _ _ _)
      · skip
        refine a_iconst (v := nI 0) dL_law_738 (by decide) ?_
        exact AW.ret dL_law_739 rfl rfl
    refine AW.if (fun c91 => ?_) (fun c91 => ?_)
    · refine a_tabIn (tgt := 740) dL_law_32 (by rw [c91]; decide) (by rw [c91]; decide) (by rw [c91]; rfl) (by decide) ?_
      refine a_aload_n dL_law_740 rfl ?_
      refine AW.ck (fun h93 => ?_)
      refine a_callV_I dL_law_741 lk_RL_94 mt_Ba_forget vt_Ba_forget ⟨_, rfl, rfl⟩ (fun _ h => m_Ba_forget h) rfl rfl h93 ⟨rfl, rfl, rfl⟩ (fun q92 => ?_)
      refine a_aload_n dL_law_744 rfl ?_
      refine AW.ck (fun h95 => ?_)
      refine a_callV_I dL_law_745 lk_RL_97 mt_Mo_forget vt_Mo_forget ⟨_, rfl, rfl⟩ (fun _ h => m_Mo_forget h) rfl rfl h95 ⟨rfl, rfl, rfl⟩ (fun q94 => ?_)
      refine a_ieq (tgt := 858) dL_law_748 (by decide) (fun _ => ?_) (fun _ => ?_)
      · skip
        exact AW.weak (Lw_so rfl (Lw_so rfl (Lw_so rfl (Lw_so rfl Lw_end)))) (w_La_law_858 hk18 _ _ _ _ _)
      · skip
        refine a_iconst (v := nI 0) dL_law_751 (by decide) ?_
        exact AW.ret dL_law_752 rfl rfl
    refine AW.if (fun c96 => ?_) (fun c96 => ?_)
    · refine a_tabIn (tgt := 753) dL_law_32 (by rw [c96]; decide) (by rw [c96]; decide) (by rw [c96]; rfl) (by decide) ?_
      refine a_aload_n dL_law_753 rfl ?_
      refine a_aload_nX dL_law_754 rfl ?_
      refine a_iload_n dL_law_755 rfl ?_
      refine a_iconst (v := nI 1) dL_law_756 (by decide) ?_
      refine a_iadd dL_law_757 ?_
      refine a_sld rfl dL_law_758 ?_
      refine AW.ck (fun h98 => ?_)
      refine a_callV_I dL_law_759 lk_RL_98 mt_Ba_kinds vt_Ba_kinds ⟨_, rfl, rfl⟩ (fun _ h => m_Ba_kinds h) rfl rfl h98 ⟨rfl, rfl, rfl⟩ (fun q97 => ?_)
      refine a_aload_n dL_law_762 rfl ?_
      refine a_aload_nX dL_law_763 rfl ?_
      refine a_iload_n dL_law_764 rfl ?_
      refine a_iconst (v := nI 1) dL_law_765 (by decide) ?_
      refine a_iadd dL_law_766 ?_
      refine a_sld rfl dL_law_767 ?_
      refine AW.ck (fun h100 => ?_)
      refine a_callV_I dL_law_768 lk_RL_102 mt_Mo_kinds vt_Mo_kinds ⟨_, rfl, rfl⟩ (fun _ h => m_Mo_kinds h) rfl rfl h100 ⟨rfl, rfl, rfl⟩ (fun q99 => ?_)
      refine a_ieq (tgt := 858) dL_law_771 (by decide) (fun _ => ?_) (fun _ => ?_)
      · skip
        exact AW.weak (Lw_so rfl (Lw_so rfl (Lw_so rfl (Lw_so rfl Lw_end)))) (w_La_law_858 hk18 _ _ _ _ _)
      · skip
        refine a_iconst (v := nI 0) dL_law_774 (by decide) ?_
        exact AW.ret dL_law_775 rfl rfl
    refine AW.if (fun c101 => ?_) (fun c101 => ?_)
    · refine a_tabIn (tgt := 776) dL_law_32 (by rw [c101]; decide) (by rw [c101]; decide) (by rw [c101]; rfl) (by decide) ?_
      refine a_aload_n dL_law_776 rfl ?_
      refine a_aload_nX dL_law_777 rfl ?_
      refine a_iload_n dL_law_778 rfl ?_
      refine a_iconst (v := nI 1) dL_law_779 (by decide) ?_
      refine a_iadd dL_law_780 ?_
      refine a_sld rfl dL_law_781 ?_
      refine a_aload_nX dL_law_782 rfl ?_
      refine a_iload_n dL_law_783 rfl ?_
      refine a_iconst (v := nI 2) dL_law_784 (by decide) ?_
      refine a_iadd dL_law_785 ?_
      refine a_sld rfl dL_law_786 ?_
      refine AW.ck (fun h103 => ?_)
      refine a_callV_I dL_law_787 lk_RL_103 mt_Ba_afternoon vt_Ba_afternoon ⟨_, rfl, rfl⟩ (fun _ h => m_Ba_afternoon h) rfl rfl h103 ⟨rfl, rfl, rfl⟩ (fun q102 => ?_)
      refine a_aload_n dL_law_790 rfl ?_
      refine a_aload_nX dL_law_791 rfl ?_
      refine a_iload_n dL_law_792 rfl ?_
      refine a_iconst (v := nI 1) dL_law_793 (by decide) ?_
      refine a_iadd dL_law_794 ?_
      refine a_sld rfl dL_law_795 ?_
      refine a_aload_nX dL_law_796 rfl ?_
      refine a_iload_n dL_law_797 rfl ?_
      refine a_iconst (v := nI 2) dL_law_798 (by decide) ?_
      refine a_iadd dL_law_799 ?_
      refine a_sld rfl dL_law_800 ?_
      refine AW.ck (fun h105 => ?_)
      refine a_callV_I dL_law_801 lk_RL_106 mt_Mo_afternoon vt_Mo_afternoon ⟨_, rfl, rfl⟩ (fun _ h => m_Mo_afternoon h) rfl rfl h105 ⟨rfl, rfl, rfl⟩ (fun q104 => ?_)
      refine a_ieq (tgt := 858) dL_law_804 (by decide) (fun _ => ?_) (fun _ => ?_)
      · skip
        exact AW.weak (Lw_so rfl (Lw_so rfl (Lw_so rfl (Lw_so rfl Lw_end)))) (w_La_law_858 hk18 _ _ _ _ _)
      · skip
        refine a_iconst (v := nI 0) dL_law_807 (by decide) ?_
        exact AW.ret dL_law_808 rfl rfl
    refine AW.if (fun c106 => ?_) (fun c106 => ?_)
    · refine a_tabIn (tgt := 809) dL_law_32 (by rw [c106]; decide) (by rw [c106]; decide) (by rw [c106]; rfl) (by decide) ?_
      refine a_aload_n dL_law_809 rfl ?_
      refine AW.ck (fun h108 => ?_)
      refine a_callV_I dL_law_810 lk_RL_107 mt_Ba_keep vt_Ba_keep ⟨_, rfl, rfl⟩ (fun _ h => m_Ba_keep h) rfl rfl h108 ⟨rfl, rfl, rfl⟩ (fun q107 => ?_)
      refine a_aload_n dL_law_813 rfl ?_
      refine AW.ck (fun h110 => ?_)
      refine a_callV_I dL_law_814 lk_RL_110 mt_Mo_keep vt_Mo_keep ⟨_, rfl, rfl⟩ (fun _ h => m_Mo_keep h) rfl rfl h110 ⟨rfl, rfl, rfl⟩ (fun q109 => ?_)
      refine a_ieq (tgt := 858) dL_law_817 (by decide) (fun _ => ?_) (fun _ => ?_)
      · skip
        exact AW.weak (Lw_so rfl (Lw_so rfl (Lw_so rfl (Lw_so rfl Lw_end)))) (w_La_law_858 hk18 _ _ _ _ _)
      · skip
        refine a_iconst (v := nI 0) dL_law_820 (by decide) ?_
        exact AW.ret dL_law_821 rfl rfl
    refine AW.if (fun c111 => ?_) (fun c111 => ?_)
    · refine a_tabIn (tgt := 822) dL_law_32 (by rw [c111]; decide) (by rw [c111]; decide) (by rw [c111]; rfl) (by decide) ?_
      refine a_aload_n dL_law_822 rfl ?_
      refine AW.ck (fun h113 => ?_)
      refine a_callV_I dL_law_823 lk_RL_111 mt_Ba_back vt_Ba_back ⟨_, rfl, rfl⟩ (fun _ h => m_Ba_back h) rfl rfl h113 ⟨rfl, rfl, rfl⟩ (fun q112 => ?_)
      refine a_aload_n dL_law_826 rfl ?_
      refine AW.ck (fun h115 => ?_)
      refine a_callV_I dL_law_827 lk_RL_114 mt_Mo_back vt_Mo_back ⟨_, rfl, rfl⟩ (fun _ h => m_Mo_back h) rfl rfl h115 ⟨rfl, rfl, rfl⟩ (fun q114 => ?_)
      refine a_ieq (tgt := 858) dL_law_830 (by decide) (fun _ => ?_) (fun _ => ?_)
      · skip
        exact AW.weak (Lw_so rfl (Lw_so rfl (Lw_so rfl (Lw_so rfl Lw_end)))) (w_La_law_858 hk18 _ _ _ _ _)
      · skip
        refine a_iconst (v := nI 0) dL_law_833 (by decide) ?_
        exact AW.ret dL_law_834 rfl rfl
    refine AW.if (fun c116 => ?_) (fun c116 => ?_)
    · refine a_tabIn (tgt := 835) dL_law_32 (by rw [c116]; decide) (by rw [c116]; decide) (by rw [c116]; rfl) (by decide) ?_
      refine a_aload_n dL_law_835 rfl ?_
      refine a_aload_nX dL_law_836 rfl ?_
      refine a_iload_n dL_law_837 rfl ?_
      refine a_iconst (v := nI 1) dL_law_838 (by decide) ?_
      refine a_iadd dL_law_839 ?_
      refine a_sld rfl dL_law_840 ?_
      refine AW.ck (fun h118 => ?_)
      refine a_callV_I dL_law_841 lk_RL_115 mt_Ba_count vt_Ba_count ⟨_, rfl, rfl⟩ (fun _ h => m_Ba_count h) rfl rfl h118 ⟨rfl, rfl, rfl⟩ (fun q117 => ?_)
      refine a_aload_n dL_law_844 rfl ?_
      refine a_aload_nX dL_law_845 rfl ?_
      refine a_iload_n dL_law_846 rfl ?_
      refine a_iconst (v := nI 1) dL_law_847 (by decide) ?_
      refine a_iadd dL_law_848 ?_
      refine a_sld rfl dL_law_849 ?_
      refine AW.ck (fun h120 => ?_)
      refine a_callV_I dL_law_850 lk_RL_118 mt_Mo_count vt_Mo_count ⟨_, rfl, rfl⟩ (fun _ h => m_Mo_count h) rfl rfl h120 ⟨rfl, rfl, rfl⟩ (fun q119 => ?_)
      refine a_ieq (tgt := 858) dL_law_853 (by decide) (fun _ => ?_) (fun _ => ?_)
      · skip
        exact AW.weak (Lw_so rfl (Lw_so rfl (Lw_so rfl (Lw_so rfl Lw_end)))) (w_La_law_858 hk18 _ _ _ _ _)
      · skip
        refine a_iconst (v := nI 0) dL_law_856 (by decide) ?_
        exact AW.ret dL_law_857 rfl rfl
    refine a_tabOut (tgt := 858) dL_law_32 (by have uc1 : ¬ Int32.toInt (((xs (v3).toNatClampNeg) &&& (nI 31))) = 0 := lv_neT c1 rfl; have uc6 : ¬ Int32.toInt (((xs (v3).toNatClampNeg) &&& (nI 31))) = 1 := lv_neT c6 rfl; have uc11 : ¬ Int32.toInt (((xs (v3).toNatClampNeg) &&& (nI 31))) = 2 := lv_neT c11 rfl; have uc16 : ¬ Int32.toInt (((xs (v3).toNatClampNeg) &&& (nI 31))) = 3 := lv_neT c16 rfl; have uc21 : ¬ Int32.toInt (((xs (v3).toNatClampNeg) &&& (nI 31))) = 4 := lv_neT c21 rfl; have uc26 : ¬ Int32.toInt (((xs (v3).toNatClampNeg) &&& (nI 31))) = 5 := lv_neT c26 rfl; have uc31 : ¬ Int32.toInt (((xs (v3).toNatClampNeg) &&& (nI 31))) = 6 := lv_neT c31 rfl; have uc36 : ¬ Int32.toInt (((xs (v3).toNatClampNeg) &&& (nI 31))) = 7 := lv_neT c36 rfl; have uc41 : ¬ Int32.toInt (((xs (v3).toNatClampNeg) &&& (nI 31))) = 8 := lv_neT c41 rfl; have uc46 : ¬ Int32.toInt (((xs (v3).toNatClampNeg) &&& (nI 31))) = 9 := lv_neT c46 rfl; have uc51 : ¬ Int32.toInt (((xs (v3).toNatClampNeg) &&& (nI 31))) = 10 := lv_neT c51 rfl; have uc56 : ¬ Int32.toInt (((xs (v3).toNatClampNeg) &&& (nI 31))) = 11 := lv_neT c56 rfl; have uc61 : ¬ Int32.toInt (((xs (v3).toNatClampNeg) &&& (nI 31))) = 12 := lv_neT c61 rfl; have uc66 : ¬ Int32.toInt (((xs (v3).toNatClampNeg) &&& (nI 31))) = 13 := lv_neT c66 rfl; have uc71 : ¬ Int32.toInt (((xs (v3).toNatClampNeg) &&& (nI 31))) = 14 := lv_neT c71 rfl; have uc76 : ¬ Int32.toInt (((xs (v3).toNatClampNeg) &&& (nI 31))) = 15 := lv_neT c76 rfl; have uc81 : ¬ Int32.toInt (((xs (v3).toNatClampNeg) &&& (nI 31))) = 16 := lv_neT c81 rfl; have uc86 : ¬ Int32.toInt (((xs (v3).toNatClampNeg) &&& (nI 31))) = 17 := lv_neT c86 rfl; have uc91 : ¬ Int32.toInt (((xs (v3).toNatClampNeg) &&& (nI 31))) = 18 := lv_neT c91 rfl; have uc96 : ¬ Int32.toInt (((xs (v3).toNatClampNeg) &&& (nI 31))) = 19 := lv_neT c96 rfl; have uc101 : ¬ Int32.toInt (((xs (v3).toNatClampNeg) &&& (nI 31))) = 20 := lv_neT c101 rfl; have uc106 : ¬ Int32.toInt (((xs (v3).toNatClampNeg) &&& (nI 31))) = 21 := lv_neT c106 rfl; have uc111 : ¬ Int32.toInt (((xs (v3).toNatClampNeg) &&& (nI 31))) = 22 := lv_neT c111 rfl; have uc116 : ¬ Int32.toInt (((xs (v3).toNatClampNeg) &&& (nI 31))) = 23 := lv_neT c116 rfl; omega) (by decide) ?_
    exact AW.weak (Lw_so rfl (Lw_so rfl (Lw_so rfl (Lw_so rfl Lw_end)))) (w_La_law_858 hk18 _ _ _ _ _)
def f_La_law_18 (N : Nat) (xs : Nat → Int32) : ba_S → Nat → Nat → Int32 → ba_M → Option (Bool × ba_S × ba_M) := fx (fun _ _ _ _ _ => none) (b_La_law_18 N xs) FU
theorem l_La_law_18 {N : Nat} {xs : Nat → Int32} : ∀ (n : Nat) (S : ba_S) (v1 : Nat) (v2 : Nat) (v3 : Int32) (m : ba_M), AW (Y_La_law N xs) 18 [some (aX), some (aR (some v1)), some (aR (some v2)), some (aI v3)] [] S m ((fx (F := ba_S → Nat → Nat → Int32 → ba_M → Option (Bool × ba_S × ba_M)) (fun _ _ _ _ _ => none) (b_La_law_18 N xs) n) S v1 v2 v3 m) := by
  intro n
  induction n with
  | zero => intro _ _ _ _ _; exact AW.none
  | succ n ih => exact w_La_law_18 ih
def f_La_law (N : Nat) (xs : Nat → Int32) (S : ba_S) (m : ba_M) : Option (Bool × ba_S × ba_M) :=
  (sB (pS S 10 0 (nF 10)) (pM (nN S) m) fun S121 m122 => ((f_Ba_init S121 (nN S) m122).bind fun q123 => (sB (pS q123.1 11 0 (nF 11)) (pM (nN q123.1) q123.2) fun S124 m125 => ((f_Mo_init S124 (nN q123.1) m125).bind fun q126 => (f_La_law_18 N xs  q126.1 (nN S) (nN q123.1) (nI 0) q126.2)))))
set_option maxRecDepth 100000 in
theorem e_La_law {N : Nat} {xs : Nat → Int32} (S : ba_S) (m : ba_M) : AW (Y_La_law N xs) 0 [some (aX), none, none, none] [] S m (f_La_law N xs S m) := by
  unfold f_La_law
  refine a_new dL_law_0 nw_RL_7 ?_
  refine AW.sB (fun S121 m122 => ?_)
  refine a_dup dL_law_3 rfl ?_
  refine a_callI_C dL_law_4 lk_RL_9 mt_Ba_init iv_Ba_init (fun _ h => m_Ba_init h) rfl rfl ⟨rfl, rfl, rfl⟩ (fun q123 => ?_)
  refine a_astore_n dL_law_7 rfl rfl ?_
  refine a_new dL_law_8 nw_RL_10 ?_
  refine AW.sB (fun S124 m125 => ?_)
  refine a_dup dL_law_11 rfl ?_
  refine a_callI_C dL_law_12 lk_RL_12 mt_Mo_init iv_Mo_init (fun _ h => m_Mo_init h) rfl rfl ⟨rfl, rfl, rfl⟩ (fun q126 => ?_)
  refine a_astore_n dL_law_15 rfl rfl ?_
  refine a_iconst (v := nI 0) dL_law_16 (by decide) ?_
  refine a_istore_n dL_law_17 rfl rfl ?_
  exact AW.weak (Lw_so rfl (Lw_so rfl (Lw_so rfl (Lw_so rfl Lw_end)))) (l_La_law_18 FU _ _ _ _ _)

