theorem tm {i : Nat} {w : Cond} (h : lw_tbl[i]? = some w) : w ∈ lw_tbl := List.mem_of_getElem? h
theorem lo_RX9_3 : Cond.methodLink RX9 3 Lib.objectInit ∈ lw_tbl := (tm (i := 68) (by decide +kernel))
theorem fl_RX9_9 : ba_fl RX9 9 8 0 true := ⟨_, _, _, rfl, by decide, (tm (i := 69) (by decide +kernel)), rfl, fun _ => Or.inr trivial⟩
theorem fl_RX9_15 : ba_fl RX9 15 8 1 false := ⟨_, _, _, rfl, by decide, (tm (i := 70) (by decide +kernel)), rfl, fun _ => Or.inr trivial⟩
theorem lo_RX3_3 : Cond.methodLink RX3 3 Lib.objectInit ∈ lw_tbl := (tm (i := 84) (by decide +kernel))
theorem fl_RX3_11 : ba_fl RX3 11 3 0 true := ⟨_, _, _, rfl, by decide, (tm (i := 85) (by decide +kernel)), rfl, fun _ => Or.inr trivial⟩
theorem fl_RX3_15 : ba_fl RX3 15 3 1 false := ⟨_, _, _, rfl, by decide, (tm (i := 86) (by decide +kernel)), rfl, fun _ => Or.inr trivial⟩
theorem lo_RX10_3 : Cond.methodLink RX10 3 Lib.objectInit ∈ lw_tbl := (tm (i := 116) (by decide +kernel))
theorem fl_RX10_9 : ba_fl RX10 9 9 0 false := ⟨_, _, _, rfl, by decide, (tm (i := 117) (by decide +kernel)), rfl, fun _ => Or.inr trivial⟩
theorem fl_RX10_15 : ba_fl RX10 15 9 1 false := ⟨_, _, _, rfl, by decide, (tm (i := 121) (by decide +kernel)), rfl, fun _ => Or.inr trivial⟩
theorem fl_RX10_18 : ba_fl RX10 18 9 2 false := ⟨_, _, _, rfl, by decide, (tm (i := 125) (by decide +kernel)), rfl, fun _ => Or.inr trivial⟩
theorem fl_RX10_21 : ba_fl RX10 21 9 3 false := ⟨_, _, _, rfl, by decide, (tm (i := 128) (by decide +kernel)), rfl, fun _ => Or.inr trivial⟩
theorem lo_RX2_1 : Cond.methodLink RX2 1 Lib.objectInit ∈ lw_tbl := (tm (i := 110) (by decide +kernel))
theorem nw_RX2_7 : ba_nw RX2 7 9 := ⟨_, _, _, rfl, (tm (i := 111) (by decide +kernel)), (tm (i := 112) (by decide +kernel)), (tm (i := 46) (by decide +kernel))⟩
theorem lk_RX2_9 : Cond.methodLinkNest RX2 9 yX10_init "BallAndName" ∈ lw_tbl := (tm (i := 113) (by decide +kernel))
theorem mt_To_init : ba_mt yX10_init cX10_init 1 none 0 := ⟨(tm (i := 115) (by decide +kernel)), (tm (i := 46) (by decide +kernel)), by decide +kernel, by decide +kernel, by decide +kernel⟩
theorem iv_To_init : Cond.instanceMethod yX10_init ∈ lw_tbl ∧ yX10_init.name = "<init>" := ⟨(tm (i := 114) (by decide +kernel)), rfl⟩
theorem fl_RX2_10 : ba_fl RX2 10 2 0 true := ⟨_, _, _, rfl, by decide, (tm (i := 142) (by decide +kernel)), rfl, fun _ => Or.inr trivial⟩
theorem fl_RX2_16 : ba_fl RX2 16 2 1 false := ⟨_, _, _, rfl, by decide, (tm (i := 149) (by decide +kernel)), rfl, fun _ => Or.inr trivial⟩
theorem fl_RX2_20 : ba_fl RX2 20 2 2 false := ⟨_, _, _, rfl, by decide, (tm (i := 153) (by decide +kernel)), rfl, fun _ => Or.inr trivial⟩
theorem fl_RX2_23 : ba_fl RX2 23 2 3 false := ⟨_, _, _, rfl, by decide, (tm (i := 156) (by decide +kernel)), rfl, fun _ => Or.inr trivial⟩
theorem fl_RX2_26 : ba_fl RX2 26 2 4 false := ⟨_, _, _, rfl, by decide, (tm (i := 159) (by decide +kernel)), rfl, fun _ => Or.inr trivial⟩
theorem fl_RX2_29 : ba_fl RX2 29 2 5 false := ⟨_, _, _, rfl, by decide, (tm (i := 162) (by decide +kernel)), rfl, fun _ => Or.inr trivial⟩
theorem fl_RX0_11 : ba_fl RX0 11 0 0 true := ⟨_, _, _, rfl, by decide, (tm (i := 178) (by decide +kernel)), rfl, fun _ => Or.inr trivial⟩
theorem nw_RX0_9 : ba_nw RX0 9 2 := ⟨_, _, _, rfl, (tm (i := 104) (by decide +kernel)), (tm (i := 106) (by decide +kernel)), (tm (i := 45) (by decide +kernel))⟩
theorem lk_RX0_17 : Cond.methodLinkNest RX0 17 yX2_init "BallAndName" ∈ lw_tbl := (tm (i := 107) (by decide +kernel))
theorem mt_Pl_init : ba_mt yX2_init cX2_init 1 none 0 := ⟨(tm (i := 109) (by decide +kernel)), (tm (i := 45) (by decide +kernel)), by decide +kernel, by decide +kernel, by decide +kernel⟩
theorem iv_Pl_init : Cond.instanceMethod yX2_init ∈ lw_tbl ∧ yX2_init.name = "<init>" := ⟨(tm (i := 108) (by decide +kernel)), rfl⟩
theorem lo_RX0_3 : Cond.methodLink RX0 3 Lib.objectInit ∈ lw_tbl := (tm (i := 103) (by decide +kernel))
theorem ca_RX0_9 : Cond.classLink RX0 9 RX2 ∈ lw_tbl := (tm (i := 104) (by decide +kernel))
theorem fl_RX0_18 : ba_fl RX0 18 0 1 true := ⟨_, _, _, rfl, by decide, (tm (i := 179) (by decide +kernel)), rfl, fun _ => Or.inr trivial⟩
theorem fl_RX0_22 : ba_fl RX0 22 0 2 false := ⟨_, _, _, rfl, by decide, (tm (i := 180) (by decide +kernel)), rfl, fun _ => Or.inr trivial⟩
theorem fl_RX0_26 : ba_fl RX0 26 0 3 false := ⟨_, _, _, rfl, by decide, (tm (i := 186) (by decide +kernel)), rfl, fun _ => Or.inr trivial⟩
theorem fl_RX0_29 : ba_fl RX0 29 0 4 false := ⟨_, _, _, rfl, by decide, (tm (i := 191) (by decide +kernel)), rfl, fun _ => Or.inr trivial⟩
theorem lo_RX4_3 : Cond.methodLink RX4 3 Lib.objectInit ∈ lw_tbl := (tm (i := 97) (by decide +kernel))
theorem nw_RX4_9 : ba_nw RX4 9 0 := ⟨_, _, _, rfl, (tm (i := 98) (by decide +kernel)), (tm (i := 99) (by decide +kernel)), (tm (i := 44) (by decide +kernel))⟩
theorem lk_RX4_11 : Cond.methodLink RX4 11 yX0_init ∈ lw_tbl := (tm (i := 100) (by decide +kernel))
theorem mt_Ga_init : ba_mt yX0_init cX0_init 2 none 0 := ⟨(tm (i := 102) (by decide +kernel)), (tm (i := 44) (by decide +kernel)), by decide +kernel, by decide +kernel, by decide +kernel⟩
theorem iv_Ga_init : Cond.instanceMethod yX0_init ∈ lw_tbl ∧ yX0_init.name = "<init>" := ⟨(tm (i := 101) (by decide +kernel)), rfl⟩
theorem fl_RX4_12 : ba_fl RX4 12 4 0 true := ⟨_, _, _, rfl, by decide, (tm (i := 206) (by decide +kernel)), rfl, fun _ => Or.inr trivial⟩
theorem fl_RX4_18 : ba_fl RX4 18 4 1 true := ⟨_, _, _, rfl, by decide, (tm (i := 210) (by decide +kernel)), rfl, fun _ => Or.inr trivial⟩
theorem fl_RX4_22 : ba_fl RX4 22 4 2 true := ⟨_, _, _, rfl, by decide, (tm (i := 211) (by decide +kernel)), rfl, fun _ => Or.inr trivial⟩
theorem fl_RX4_25 : ba_fl RX4 25 4 3 true := ⟨_, _, _, rfl, by decide, (tm (i := 212) (by decide +kernel)), rfl, fun _ => Or.inr trivial⟩
theorem fl_RX4_28 : ba_fl RX4 28 4 4 false := ⟨_, _, _, rfl, by decide, (tm (i := 213) (by decide +kernel)), rfl, fun _ => Or.inr trivial⟩
theorem fl_RX4_32 : ba_fl RX4 32 4 5 false := ⟨_, _, _, rfl, by decide, (tm (i := 215) (by decide +kernel)), rfl, fun _ => Or.inr trivial⟩
theorem fl_RX4_35 : ba_fl RX4 35 4 6 false := ⟨_, _, _, rfl, by decide, (tm (i := 216) (by decide +kernel)), rfl, fun _ => Or.inr trivial⟩
theorem lo_RX6_3 : Cond.methodLink RX6 3 Lib.objectInit ∈ lw_tbl := (tm (i := 240) (by decide +kernel))
theorem fl_RX6_9 : ba_fl RX6 9 5 0 false := ⟨_, _, _, rfl, by decide, (tm (i := 241) (by decide +kernel)), rfl, fun _ => Or.inr trivial⟩
theorem fl_RX6_15 : ba_fl RX6 15 5 1 false := ⟨_, _, _, rfl, by decide, (tm (i := 243) (by decide +kernel)), rfl, fun _ => Or.inr trivial⟩
theorem fl_RX6_19 : ba_fl RX6 19 5 2 false := ⟨_, _, _, rfl, by decide, (tm (i := 245) (by decide +kernel)), rfl, fun _ => Or.inr trivial⟩
theorem fl_RX6_22 : ba_fl RX6 22 5 3 false := ⟨_, _, _, rfl, by decide, (tm (i := 247) (by decide +kernel)), rfl, fun _ => Or.inr trivial⟩
theorem fl_RX6_25 : ba_fl RX6 25 5 4 false := ⟨_, _, _, rfl, by decide, (tm (i := 249) (by decide +kernel)), rfl, fun _ => Or.inr trivial⟩
theorem lo_RX1_5 : Cond.methodLink RX1 5 Lib.objectInit ∈ lw_tbl := (tm (i := 267) (by decide +kernel))
theorem fl_RX1_11 : ba_fl RX1 11 1 0 true := ⟨_, _, _, rfl, by decide, (tm (i := 268) (by decide +kernel)), rfl, fun _ => Or.inr trivial⟩
theorem fl_RX1_15 : ba_fl RX1 15 1 1 true := ⟨_, _, _, rfl, by decide, (tm (i := 269) (by decide +kernel)), rfl, fun _ => Or.inr trivial⟩
theorem fl_RX1_18 : ba_fl RX1 18 1 2 true := ⟨_, _, _, rfl, by decide, (tm (i := 270) (by decide +kernel)), rfl, fun _ => Or.inr trivial⟩
theorem fl_RX1_21 : ba_fl RX1 21 1 3 true := ⟨_, _, _, rfl, by decide, (tm (i := 271) (by decide +kernel)), rfl, fun _ => Or.inr trivial⟩
theorem fl_RX1_25 : ba_fl RX1 25 1 4 true := ⟨_, _, _, rfl, by decide, (tm (i := 272) (by decide +kernel)), rfl, fun _ => Or.inr trivial⟩
theorem fl_RX1_28 : ba_fl RX1 28 1 5 false := ⟨_, _, _, rfl, by decide, (tm (i := 273) (by decide +kernel)), rfl, fun _ => Or.inr trivial⟩
theorem fl_RX1_32 : ba_fl RX1 32 1 6 false := ⟨_, _, _, rfl, by decide, (tm (i := 275) (by decide +kernel)), rfl, fun _ => Or.inr trivial⟩
theorem fl_RX1_36 : ba_fl RX1 36 1 7 false := ⟨_, _, _, rfl, by decide, (tm (i := 277) (by decide +kernel)), rfl, fun _ => Or.inr trivial⟩
theorem lo_RX8_3 : Cond.methodLink RX8 3 Lib.objectInit ∈ lw_tbl := (tm (i := 302) (by decide +kernel))
theorem fl_RX8_9 : ba_fl RX8 9 7 0 true := ⟨_, _, _, rfl, by decide, (tm (i := 303) (by decide +kernel)), rfl, fun _ => Or.inr trivial⟩
theorem fl_RX8_15 : ba_fl RX8 15 7 1 true := ⟨_, _, _, rfl, by decide, (tm (i := 304) (by decide +kernel)), rfl, fun _ => Or.inr trivial⟩
theorem fl_RX8_18 : ba_fl RX8 18 7 2 true := ⟨_, _, _, rfl, by decide, (tm (i := 305) (by decide +kernel)), rfl, fun _ => Or.inr trivial⟩
theorem fl_RX8_21 : ba_fl RX8 21 7 3 false := ⟨_, _, _, rfl, by decide, (tm (i := 306) (by decide +kernel)), rfl, fun _ => Or.inr trivial⟩
theorem fl_RX7_29 : ba_fl RX7 29 6 1 true := ⟨_, _, _, rfl, by decide, (tm (i := 330) (by decide +kernel)), rfl, fun _ => Or.inr trivial⟩
theorem nw_RX7_27 : ba_nw RX7 27 9 := ⟨_, _, _, rfl, (tm (i := 326) (by decide +kernel)), (tm (i := 112) (by decide +kernel)), (tm (i := 46) (by decide +kernel))⟩
theorem lk_RX7_33 : Cond.methodLinkNest RX7 33 yX10_init "BallAndName" ∈ lw_tbl := (tm (i := 328) (by decide +kernel))
theorem lo_RX7_3 : Cond.methodLink RX7 3 Lib.objectInit ∈ lw_tbl := (tm (i := 322) (by decide +kernel))
theorem fl_RX7_9 : ba_fl RX7 9 6 2 false := ⟨_, _, _, rfl, by decide, (tm (i := 331) (by decide +kernel)), rfl, fun _ => Or.inr trivial⟩
theorem fl_RX7_15 : ba_fl RX7 15 6 3 false := ⟨_, _, _, rfl, by decide, (tm (i := 333) (by decide +kernel)), rfl, fun _ => Or.inr trivial⟩
theorem lk_RX7_18 : Cond.methodLink RX7 18 Lib.Math.max.name ∈ lw_tbl := (tm (i := 323) (by decide +kernel))
theorem fl_RX7_24 : ba_fl RX7 24 6 0 true := ⟨_, _, _, rfl, by decide, (tm (i := 329) (by decide +kernel)), rfl, fun _ => Or.inr trivial⟩
theorem ca_RX7_27 : Cond.classLink RX7 27 RX10 ∈ lw_tbl := (tm (i := 326) (by decide +kernel))
theorem lk_RX0_32 : Cond.methodLink RX0 32 yX0_who ∈ lw_tbl := (tm (i := 347) (by decide +kernel))
theorem mt_Ga_who : ba_mt yX0_who cX0_who 3 (some (.object "BallAndName$Player")) 1 := ⟨(tm (i := 350) (by decide +kernel)), (tm (i := 44) (by decide +kernel)), by decide +kernel, by decide +kernel, by decide +kernel⟩
theorem vt_Ga_who : ba_vt yX0_who := ⟨(tm (i := 348) (by decide +kernel)), (tm (i := 349) (by decide +kernel))⟩
theorem lk_RX0_36 : Cond.methodLink RX0 36 yX2_become ∈ lw_tbl := (tm (i := 351) (by decide +kernel))
theorem mt_Pl_become : ba_mt yX2_become cX2_become 6 none 5 := ⟨(tm (i := 354) (by decide +kernel)), (tm (i := 45) (by decide +kernel)), by decide +kernel, by decide +kernel, by decide +kernel⟩
theorem vt_Pl_become : ba_vt yX2_become := ⟨(tm (i := 352) (by decide +kernel)), (tm (i := 353) (by decide +kernel))⟩
theorem fl_RX0_40 : ba_fl RX0 40 2 0 true := ⟨_, _, _, rfl, by decide, (tm (i := 145) (by decide +kernel)), rfl, fun _ => Or.inr trivial⟩
theorem lk_RX0_44 : Cond.methodLink RX0 44 yX10_tellCall ∈ lw_tbl := (tm (i := 355) (by decide +kernel))
theorem mt_To_tellCall : ba_mt yX10_tellCall cX10_tellCall 4 none 3 := ⟨(tm (i := 358) (by decide +kernel)), (tm (i := 46) (by decide +kernel)), by decide +kernel, by decide +kernel, by decide +kernel⟩
theorem vt_To_tellCall : ba_vt yX10_tellCall := ⟨(tm (i := 356) (by decide +kernel)), (tm (i := 357) (by decide +kernel))⟩
theorem fl_RX0_50 : ba_fl RX0 50 9 3 false := ⟨_, _, _, rfl, by decide, (tm (i := 129) (by decide +kernel)), rfl, fun _ => Or.inr trivial⟩
theorem fl_RX0_56 : ba_fl RX0 56 2 1 false := ⟨_, _, _, rfl, by decide, (tm (i := 152) (by decide +kernel)), rfl, fun _ => Or.inr trivial⟩
theorem fl_RX0_53 : ba_fl RX0 53 9 0 false := ⟨_, _, _, rfl, by decide, (tm (i := 119) (by decide +kernel)), rfl, fun _ => Or.inr trivial⟩
theorem lo_RX11_1 : Cond.methodLink RX11 1 Lib.objectInit ∈ lw_tbl := (tm (i := 60) (by decide +kernel))
theorem nw_RX11_7 : ba_nw RX11 7 8 := ⟨_, _, _, rfl, (tm (i := 63) (by decide +kernel)), (tm (i := 64) (by decide +kernel)), (tm (i := 41) (by decide +kernel))⟩
theorem lk_RX11_9 : Cond.methodLinkNest RX11 9 yX9_init "BallAndName" ∈ lw_tbl := (tm (i := 65) (by decide +kernel))
theorem mt_Te_init : ba_mt yX9_init cX9_init 1 none 0 := ⟨(tm (i := 67) (by decide +kernel)), (tm (i := 41) (by decide +kernel)), by decide +kernel, by decide +kernel, by decide +kernel⟩
theorem iv_Te_init : Cond.instanceMethod yX9_init ∈ lw_tbl ∧ yX9_init.name = "<init>" := ⟨(tm (i := 66) (by decide +kernel)), rfl⟩
theorem fl_RX11_10 : ba_fl RX11 10 10 0 true := ⟨_, _, _, rfl, by decide, (tm (i := 363) (by decide +kernel)), rfl, fun _ => Or.inr trivial⟩
theorem nw_RX11_16 : ba_nw RX11 16 3 := ⟨_, _, _, rfl, (tm (i := 79) (by decide +kernel)), (tm (i := 80) (by decide +kernel)), (tm (i := 42) (by decide +kernel))⟩
theorem lk_RX11_18 : Cond.methodLinkNest RX11 18 yX3_init "BallAndName" ∈ lw_tbl := (tm (i := 81) (by decide +kernel))
theorem mt_Re_init : ba_mt yX3_init cX3_init 1 none 0 := ⟨(tm (i := 83) (by decide +kernel)), (tm (i := 42) (by decide +kernel)), by decide +kernel, by decide +kernel, by decide +kernel⟩
theorem iv_Re_init : Cond.instanceMethod yX3_init ∈ lw_tbl ∧ yX3_init.name = "<init>" := ⟨(tm (i := 82) (by decide +kernel)), rfl⟩
theorem fl_RX11_19 : ba_fl RX11 19 10 1 true := ⟨_, _, _, rfl, by decide, (tm (i := 364) (by decide +kernel)), rfl, fun _ => Or.inr trivial⟩
theorem nw_RX11_23 : ba_nw RX11 23 4 := ⟨_, _, _, rfl, (tm (i := 92) (by decide +kernel)), (tm (i := 93) (by decide +kernel)), (tm (i := 43) (by decide +kernel))⟩
theorem lk_RX11_25 : Cond.methodLinkNest RX11 25 yX4_init "BallAndName" ∈ lw_tbl := (tm (i := 94) (by decide +kernel))
theorem mt_Ro_init : ba_mt yX4_init cX4_init 1 none 0 := ⟨(tm (i := 96) (by decide +kernel)), (tm (i := 43) (by decide +kernel)), by decide +kernel, by decide +kernel, by decide +kernel⟩
theorem iv_Ro_init : Cond.instanceMethod yX4_init ∈ lw_tbl ∧ yX4_init.name = "<init>" := ⟨(tm (i := 95) (by decide +kernel)), rfl⟩
theorem fl_RX11_26 : ba_fl RX11 26 10 2 true := ⟨_, _, _, rfl, by decide, (tm (i := 365) (by decide +kernel)), rfl, fun _ => Or.inr trivial⟩
theorem fl_RX11_30 : ba_fl RX11 30 4 0 true := ⟨_, _, _, rfl, by decide, (tm (i := 207) (by decide +kernel)), rfl, fun _ => Or.inr trivial⟩
theorem fl_RX11_34 : ba_fl RX11 34 10 3 true := ⟨_, _, _, rfl, by decide, (tm (i := 366) (by decide +kernel)), rfl, fun _ => Or.inr trivial⟩
theorem nw_RX11_35 : ba_nw RX11 35 0 := ⟨_, _, _, rfl, (tm (i := 233) (by decide +kernel)), (tm (i := 99) (by decide +kernel)), (tm (i := 44) (by decide +kernel))⟩
theorem lk_RX11_37 : Cond.methodLink RX11 37 yX0_init ∈ lw_tbl := (tm (i := 234) (by decide +kernel))
theorem fl_RX11_38 : ba_fl RX11 38 10 4 true := ⟨_, _, _, rfl, by decide, (tm (i := 367) (by decide +kernel)), rfl, fun _ => Or.inr trivial⟩
theorem nw_RX11_41 : ba_nw RX11 41 5 := ⟨_, _, _, rfl, (tm (i := 235) (by decide +kernel)), (tm (i := 236) (by decide +kernel)), (tm (i := 47) (by decide +kernel))⟩
theorem lk_RX11_43 : Cond.methodLinkNest RX11 43 yX6_init "BallAndName" ∈ lw_tbl := (tm (i := 237) (by decide +kernel))
theorem mt_Sc_init : ba_mt yX6_init cX6_init 1 none 0 := ⟨(tm (i := 239) (by decide +kernel)), (tm (i := 47) (by decide +kernel)), by decide +kernel, by decide +kernel, by decide +kernel⟩
theorem iv_Sc_init : Cond.instanceMethod yX6_init ∈ lw_tbl ∧ yX6_init.name = "<init>" := ⟨(tm (i := 238) (by decide +kernel)), rfl⟩
theorem fl_RX11_44 : ba_fl RX11 44 10 5 true := ⟨_, _, _, rfl, by decide, (tm (i := 368) (by decide +kernel)), rfl, fun _ => Or.inr trivial⟩
theorem nw_RX11_48 : ba_nw RX11 48 1 := ⟨_, _, _, rfl, (tm (i := 262) (by decide +kernel)), (tm (i := 263) (by decide +kernel)), (tm (i := 48) (by decide +kernel))⟩
theorem lk_RX11_50 : Cond.methodLinkNest RX11 50 yX1_init "BallAndName" ∈ lw_tbl := (tm (i := 264) (by decide +kernel))
theorem mt_Mr_init : ba_mt yX1_init cX1_init 1 none 0 := ⟨(tm (i := 266) (by decide +kernel)), (tm (i := 48) (by decide +kernel)), by decide +kernel, by decide +kernel, by decide +kernel⟩
theorem iv_Mr_init : Cond.instanceMethod yX1_init ∈ lw_tbl ∧ yX1_init.name = "<init>" := ⟨(tm (i := 265) (by decide +kernel)), rfl⟩
theorem fl_RX11_51 : ba_fl RX11 51 10 6 true := ⟨_, _, _, rfl, by decide, (tm (i := 369) (by decide +kernel)), rfl, fun _ => Or.inr trivial⟩
theorem nw_RX11_55 : ba_nw RX11 55 7 := ⟨_, _, _, rfl, (tm (i := 297) (by decide +kernel)), (tm (i := 298) (by decide +kernel)), (tm (i := 49) (by decide +kernel))⟩
theorem lk_RX11_57 : Cond.methodLinkNest RX11 57 yX8_init "BallAndName" ∈ lw_tbl := (tm (i := 299) (by decide +kernel))
theorem mt_Si_init : ba_mt yX8_init cX8_init 1 none 0 := ⟨(tm (i := 301) (by decide +kernel)), (tm (i := 49) (by decide +kernel)), by decide +kernel, by decide +kernel, by decide +kernel⟩
theorem iv_Si_init : Cond.instanceMethod yX8_init ∈ lw_tbl ∧ yX8_init.name = "<init>" := ⟨(tm (i := 300) (by decide +kernel)), rfl⟩
theorem fl_RX11_58 : ba_fl RX11 58 10 7 true := ⟨_, _, _, rfl, by decide, (tm (i := 370) (by decide +kernel)), rfl, fun _ => Or.inr trivial⟩
theorem nw_RX11_62 : ba_nw RX11 62 6 := ⟨_, _, _, rfl, (tm (i := 317) (by decide +kernel)), (tm (i := 318) (by decide +kernel)), (tm (i := 50) (by decide +kernel))⟩
theorem lk_RX11_64 : Cond.methodLink RX11 64 yX7_init ∈ lw_tbl := (tm (i := 319) (by decide +kernel))
theorem mt_Sh_init : ba_mt yX7_init cX7_init 3 none 1 := ⟨(tm (i := 321) (by decide +kernel)), (tm (i := 50) (by decide +kernel)), by decide +kernel, by decide +kernel, by decide +kernel⟩
theorem iv_Sh_init : Cond.instanceMethod yX7_init ∈ lw_tbl ∧ yX7_init.name = "<init>" := ⟨(tm (i := 320) (by decide +kernel)), rfl⟩
theorem fl_RX11_67 : ba_fl RX11 67 10 8 true := ⟨_, _, _, rfl, by decide, (tm (i := 371) (by decide +kernel)), rfl, fun _ => Or.inr trivial⟩
theorem fl_RX11_71 : ba_fl RX11 71 10 9 true := ⟨_, _, _, rfl, by decide, (tm (i := 372) (by decide +kernel)), rfl, fun _ => Or.inr trivial⟩
theorem lk_RX11_74 : Cond.methodLink RX11 74 yX0_addPlayer ∈ lw_tbl := (tm (i := 343) (by decide +kernel))
theorem mt_Ga_addPlayer : ba_mt yX0_addPlayer cX0_addPlayer 7 none 5 := ⟨(tm (i := 346) (by decide +kernel)), (tm (i := 44) (by decide +kernel)), by decide +kernel, by decide +kernel, by decide +kernel⟩
theorem vt_Ga_addPlayer : ba_vt yX0_addPlayer := ⟨(tm (i := 344) (by decide +kernel)), (tm (i := 345) (by decide +kernel))⟩
theorem lk_RX11_78 : Cond.methodLink RX11 78 yX0_tellUntoldCalls ∈ lw_tbl := (tm (i := 359) (by decide +kernel))
theorem mt_Ga_tellUntoldCalls : ba_mt yX0_tellUntoldCalls cX0_tellUntoldCalls 4 none 0 := ⟨(tm (i := 362) (by decide +kernel)), (tm (i := 44) (by decide +kernel)), by decide +kernel, by decide +kernel, by decide +kernel⟩
theorem vt_Ga_tellUntoldCalls : ba_vt yX0_tellUntoldCalls := ⟨(tm (i := 360) (by decide +kernel)), (tm (i := 361) (by decide +kernel))⟩
theorem lk_RX9_19 : Cond.methodLink RX9 19 yX5_put ∈ lw_tbl := (tm (i := 409) (by decide +kernel))
theorem mt_Rw_put : ba_mt yX5_put cX5_put 3 none 3 := ⟨(tm (i := 411) (by decide +kernel)), (tm (i := 53) (by decide +kernel)), by decide +kernel, by decide +kernel, by decide +kernel⟩
theorem sv_Rw_put : Cond.static yX5_put ∈ lw_tbl := (tm (i := 410) (by decide +kernel))
theorem lk_RX11_81 : Cond.methodLink RX11 81 yX11_within ∈ lw_tbl := (tm (i := 398) (by decide +kernel))
theorem mt_Ba_within : ba_mt yX11_within cX11_within 3 (some .boolean) 3 := ⟨(tm (i := 400) (by decide +kernel)), (tm (i := 40) (by decide +kernel)), by decide +kernel, by decide +kernel, by decide +kernel⟩
theorem sv_Ba_within : Cond.static yX11_within ∈ lw_tbl := (tm (i := 399) (by decide +kernel))
theorem lk_RX11_85 : Cond.methodLink RX11 85 yX9_hasRoomFor ∈ lw_tbl := (tm (i := 401) (by decide +kernel))
theorem mt_Te_hasRoomFor : ba_mt yX9_hasRoomFor cX9_hasRoomFor 2 (some .boolean) 1 := ⟨(tm (i := 404) (by decide +kernel)), (tm (i := 41) (by decide +kernel)), by decide +kernel, by decide +kernel, by decide +kernel⟩
theorem vt_Te_hasRoomFor : ba_vt yX9_hasRoomFor := ⟨(tm (i := 402) (by decide +kernel)), (tm (i := 403) (by decide +kernel))⟩
theorem lk_RX11_89 : Cond.methodLink RX11 89 yX9_append ∈ lw_tbl := (tm (i := 405) (by decide +kernel))
theorem mt_Te_append : ba_mt yX9_append cX9_append 5 (some .int) 2 := ⟨(tm (i := 408) (by decide +kernel)), (tm (i := 41) (by decide +kernel)), by decide +kernel, by decide +kernel, by decide +kernel⟩
theorem vt_Te_append : ba_vt yX9_append := ⟨(tm (i := 406) (by decide +kernel)), (tm (i := 407) (by decide +kernel))⟩
theorem lk_RX11_93 : Cond.methodLink RX11 93 yX9_empty ∈ lw_tbl := (tm (i := 416) (by decide +kernel))
theorem mt_Te_empty : ba_mt yX9_empty cX9_empty 2 (some .int) 0 := ⟨(tm (i := 419) (by decide +kernel)), (tm (i := 41) (by decide +kernel)), by decide +kernel, by decide +kernel, by decide +kernel⟩
theorem vt_Te_empty : ba_vt yX9_empty := ⟨(tm (i := 417) (by decide +kernel)), (tm (i := 418) (by decide +kernel))⟩
theorem lk_RX9_25 : Cond.methodLink RX9 25 yX5_at ∈ lw_tbl := (tm (i := 444) (by decide +kernel))
theorem mt_Rw_at : ba_mt yX5_at cX5_at 2 (some .int) 2 := ⟨(tm (i := 446) (by decide +kernel)), (tm (i := 53) (by decide +kernel)), by decide +kernel, by decide +kernel, by decide +kernel⟩
theorem sv_Rw_at : Cond.static yX5_at ∈ lw_tbl := (tm (i := 445) (by decide +kernel))
theorem lk_RX9_29 : Cond.methodLink RX9 29 yX9_byteAt ∈ lw_tbl := (tm (i := 440) (by decide +kernel))
theorem mt_Te_byteAt : ba_mt yX9_byteAt cX9_byteAt 2 (some .int) 1 := ⟨(tm (i := 443) (by decide +kernel)), (tm (i := 41) (by decide +kernel)), by decide +kernel, by decide +kernel, by decide +kernel⟩
theorem vt_Te_byteAt : ba_vt yX9_byteAt := ⟨(tm (i := 441) (by decide +kernel)), (tm (i := 442) (by decide +kernel))⟩
theorem lk_RX9_33 : Cond.methodLinkNest RX9 33 yX11_within "BallAndName" ∈ lw_tbl := (tm (i := 447) (by decide +kernel))
theorem lk_RX3_45 : Cond.methodLink RX3 45 yX5_put ∈ lw_tbl := (tm (i := 449) (by decide +kernel))
theorem lk_RX3_33 : Cond.methodLink RX3 33 yX9_byteAt ∈ lw_tbl := (tm (i := 448) (by decide +kernel))
theorem lk_RX3_41 : Cond.methodLink RX3 41 yX9_hasFigureAt ∈ lw_tbl := (tm (i := 436) (by decide +kernel))
theorem mt_Te_hasFigureAt : ba_mt yX9_hasFigureAt cX9_hasFigureAt 2 (some .boolean) 1 := ⟨(tm (i := 439) (by decide +kernel)), (tm (i := 41) (by decide +kernel)), by decide +kernel, by decide +kernel, by decide +kernel⟩
theorem vt_Te_hasFigureAt : ba_vt yX9_hasFigureAt := ⟨(tm (i := 437) (by decide +kernel)), (tm (i := 438) (by decide +kernel))⟩
theorem lk_RX3_107 : Cond.methodLink RX3 107 yX5_at ∈ lw_tbl := (tm (i := 462) (by decide +kernel))
theorem lk_RX3_67 : Cond.methodLink RX3 67 yX3_number ∈ lw_tbl := (tm (i := 458) (by decide +kernel))
theorem mt_Re_number : ba_mt yX3_number cX3_number 2 (some .int) 1 := ⟨(tm (i := 461) (by decide +kernel)), (tm (i := 42) (by decide +kernel)), by decide +kernel, by decide +kernel, by decide +kernel⟩
theorem vt_Re_number : ba_vt yX3_number := ⟨(tm (i := 460) (by decide +kernel)), (tm (i := 3) (by decide +kernel))⟩
theorem lk_RX3_70 : Cond.methodLinkNest RX3 70 yX11_within "BallAndName" ∈ lw_tbl := (tm (i := 463) (by decide +kernel))
theorem fl_RX3_74 : ba_fl RX3 74 0 3 false := ⟨_, _, _, rfl, by decide, (tm (i := 189) (by decide +kernel)), rfl, fun _ => Or.inr trivial⟩
theorem fl_RX3_77 : ba_fl RX3 77 0 2 false := ⟨_, _, _, rfl, by decide, (tm (i := 185) (by decide +kernel)), rfl, fun _ => Or.inr trivial⟩
theorem lk_RX3_78 : Cond.methodLink RX3 78 yX0_addPlayer ∈ lw_tbl := (tm (i := 468) (by decide +kernel))
theorem lk_RX3_82 : Cond.methodLink RX3 82 yX0_has ∈ lw_tbl := (tm (i := 473) (by decide +kernel))
theorem mt_Ga_has : ba_mt yX0_has cX0_has 2 (some .boolean) 1 := ⟨(tm (i := 476) (by decide +kernel)), (tm (i := 44) (by decide +kernel)), by decide +kernel, by decide +kernel, by decide +kernel⟩
theorem vt_Ga_has : ba_vt yX0_has := ⟨(tm (i := 474) (by decide +kernel)), (tm (i := 475) (by decide +kernel))⟩
theorem lk_RX3_85 : Cond.methodLink RX3 85 yX0_who ∈ lw_tbl := (tm (i := 477) (by decide +kernel))
theorem fl_RX3_89 : ba_fl RX3 89 2 0 true := ⟨_, _, _, rfl, by decide, (tm (i := 147) (by decide +kernel)), rfl, fun _ => Or.inr trivial⟩
theorem lk_RX3_95 : Cond.methodLink RX3 95 yX10_tellCall ∈ lw_tbl := (tm (i := 478) (by decide +kernel))
theorem fl_RX3_101 : ba_fl RX3 101 9 3 false := ⟨_, _, _, rfl, by decide, (tm (i := 131) (by decide +kernel)), rfl, fun _ => Or.inr trivial⟩
theorem fl_RX3_104 : ba_fl RX3 104 0 4 false := ⟨_, _, _, rfl, by decide, (tm (i := 193) (by decide +kernel)), rfl, fun _ => Or.inr trivial⟩
theorem lk_RX3_58 : Cond.methodLink RX3 58 yX3_takeCall ∈ lw_tbl := (tm (i := 469) (by decide +kernel))
theorem mt_Re_takeCall : ba_mt yX3_takeCall cX3_takeCall 2 (some .boolean) 1 := ⟨(tm (i := 472) (by decide +kernel)), (tm (i := 42) (by decide +kernel)), by decide +kernel, by decide +kernel, by decide +kernel⟩
theorem vt_Re_takeCall : ba_vt yX3_takeCall := ⟨(tm (i := 471) (by decide +kernel)), (tm (i := 5) (by decide +kernel))⟩
theorem lk_RX3_64 : Cond.methodLink RX3 64 yX3_takeSlide ∈ lw_tbl := (tm (i := 483) (by decide +kernel))
theorem mt_Re_takeSlide : ba_mt yX3_takeSlide cX3_takeSlide 2 (some .boolean) 1 := ⟨(tm (i := 486) (by decide +kernel)), (tm (i := 42) (by decide +kernel)), by decide +kernel, by decide +kernel, by decide +kernel⟩
theorem vt_Re_takeSlide : ba_vt yX3_takeSlide := ⟨(tm (i := 485) (by decide +kernel)), (tm (i := 7) (by decide +kernel))⟩
theorem lk_RX3_61 : Cond.methodLink RX3 61 yX3_takeLetters ∈ lw_tbl := (tm (i := 479) (by decide +kernel))
theorem mt_Re_takeLetters : ba_mt yX3_takeLetters cX3_takeLetters 2 (some .boolean) 1 := ⟨(tm (i := 482) (by decide +kernel)), (tm (i := 42) (by decide +kernel)), by decide +kernel, by decide +kernel, by decide +kernel⟩
theorem vt_Re_takeLetters : ba_vt yX3_takeLetters := ⟨(tm (i := 481) (by decide +kernel)), (tm (i := 6) (by decide +kernel))⟩
theorem lk_RX3_51 : Cond.methodLink RX3 51 yX3_takeGround ∈ lw_tbl := (tm (i := 454) (by decide +kernel))
theorem mt_Re_takeGround : ba_mt yX3_takeGround cX3_takeGround 2 (some .boolean) 1 := ⟨(tm (i := 457) (by decide +kernel)), (tm (i := 42) (by decide +kernel)), by decide +kernel, by decide +kernel, by decide +kernel⟩
theorem vt_Re_takeGround : ba_vt yX3_takeGround := ⟨(tm (i := 456) (by decide +kernel)), (tm (i := 2) (by decide +kernel))⟩
theorem lk_RX3_55 : Cond.methodLink RX3 55 yX3_takePlayer ∈ lw_tbl := (tm (i := 464) (by decide +kernel))
theorem mt_Re_takePlayer : ba_mt yX3_takePlayer cX3_takePlayer 2 (some .boolean) 1 := ⟨(tm (i := 467) (by decide +kernel)), (tm (i := 42) (by decide +kernel)), by decide +kernel, by decide +kernel, by decide +kernel⟩
theorem vt_Re_takePlayer : ba_vt yX3_takePlayer := ⟨(tm (i := 466) (by decide +kernel)), (tm (i := 4) (by decide +kernel))⟩
theorem fl_RX3_24 : ba_fl RX3 24 8 1 false := ⟨_, _, _, rfl, by decide, (tm (i := 71) (by decide +kernel)), rfl, fun _ => Or.inr trivial⟩
theorem lk_RX3_29 : Cond.methodLink RX3 29 yX3_readNumbers ∈ lw_tbl := (tm (i := 432) (by decide +kernel))
theorem mt_Re_readNumbers : ba_mt yX3_readNumbers cX3_readNumbers 7 (some .int) 2 := ⟨(tm (i := 435) (by decide +kernel)), (tm (i := 42) (by decide +kernel)), by decide +kernel, by decide +kernel, by decide +kernel⟩
theorem vt_Re_readNumbers : ba_vt yX3_readNumbers := ⟨(tm (i := 434) (by decide +kernel)), (tm (i := 0) (by decide +kernel))⟩
theorem lk_RX3_37 : Cond.methodLink RX3 37 yX3_takeItem ∈ lw_tbl := (tm (i := 450) (by decide +kernel))
theorem mt_Re_takeItem : ba_mt yX3_takeItem cX3_takeItem 3 (some .boolean) 2 := ⟨(tm (i := 453) (by decide +kernel)), (tm (i := 42) (by decide +kernel)), by decide +kernel, by decide +kernel, by decide +kernel⟩
theorem vt_Re_takeItem : ba_vt yX3_takeItem := ⟨(tm (i := 452) (by decide +kernel)), (tm (i := 1) (by decide +kernel))⟩
theorem lk_RX3_19 : Cond.methodLink RX3 19 yX0_empty ∈ lw_tbl := (tm (i := 428) (by decide +kernel))
theorem mt_Ga_empty : ba_mt yX0_empty cX0_empty 1 none 0 := ⟨(tm (i := 431) (by decide +kernel)), (tm (i := 44) (by decide +kernel)), by decide +kernel, by decide +kernel, by decide +kernel⟩
theorem vt_Ga_empty : ba_vt yX0_empty := ⟨(tm (i := 429) (by decide +kernel)), (tm (i := 430) (by decide +kernel))⟩
theorem lk_RX11_97 : Cond.methodLink RX11 97 yX3_read ∈ lw_tbl := (tm (i := 424) (by decide +kernel))
theorem mt_Re_read : ba_mt yX3_read cX3_read 5 (some .int) 2 := ⟨(tm (i := 427) (by decide +kernel)), (tm (i := 42) (by decide +kernel)), by decide +kernel, by decide +kernel, by decide +kernel⟩
theorem vt_Re_read : ba_vt yX3_read := ⟨(tm (i := 425) (by decide +kernel)), (tm (i := 426) (by decide +kernel))⟩
theorem lk_RX0_59 : Cond.methodLink RX0 59 yX0_onGround ∈ lw_tbl := (tm (i := 495) (by decide +kernel))
theorem mt_Ga_onGround : ba_mt yX0_onGround cX0_onGround 2 (some .boolean) 1 := ⟨(tm (i := 498) (by decide +kernel)), (tm (i := 44) (by decide +kernel)), by decide +kernel, by decide +kernel, by decide +kernel⟩
theorem vt_Ga_onGround : ba_vt yX0_onGround := ⟨(tm (i := 496) (by decide +kernel)), (tm (i := 497) (by decide +kernel))⟩
theorem fl_RX0_63 : ba_fl RX0 63 9 1 false := ⟨_, _, _, rfl, by decide, (tm (i := 124) (by decide +kernel)), rfl, fun _ => Or.inr trivial⟩
theorem lk_RX10_24 : Cond.methodLink RX10 24 yX10_tellCall ∈ lw_tbl := (tm (i := 512) (by decide +kernel))
theorem lk_RX2_32 : Cond.methodLink RX2 32 yX2_become ∈ lw_tbl := (tm (i := 507) (by decide +kernel))
theorem lk_RX2_36 : Cond.methodLink RX2 36 yX10_copyFrom ∈ lw_tbl := (tm (i := 508) (by decide +kernel))
theorem mt_To_copyFrom : ba_mt yX10_copyFrom cX10_copyFrom 2 none 1 := ⟨(tm (i := 511) (by decide +kernel)), (tm (i := 46) (by decide +kernel)), by decide +kernel, by decide +kernel, by decide +kernel⟩
theorem vt_To_copyFrom : ba_vt yX10_copyFrom := ⟨(tm (i := 509) (by decide +kernel)), (tm (i := 510) (by decide +kernel))⟩
theorem lk_RX0_66 : Cond.methodLink RX0 66 yX2_copyFrom ∈ lw_tbl := (tm (i := 503) (by decide +kernel))
theorem mt_Pl_copyFrom : ba_mt yX2_copyFrom cX2_copyFrom 2 none 1 := ⟨(tm (i := 506) (by decide +kernel)), (tm (i := 45) (by decide +kernel)), by decide +kernel, by decide +kernel, by decide +kernel⟩
theorem vt_Pl_copyFrom : ba_vt yX2_copyFrom := ⟨(tm (i := 504) (by decide +kernel)), (tm (i := 505) (by decide +kernel))⟩
theorem lk_RX11_101 : Cond.methodLink RX11 101 yX0_canBePlayed ∈ lw_tbl := (tm (i := 491) (by decide +kernel))
theorem mt_Ga_canBePlayed : ba_mt yX0_canBePlayed cX0_canBePlayed 2 (some .boolean) 0 := ⟨(tm (i := 494) (by decide +kernel)), (tm (i := 44) (by decide +kernel)), by decide +kernel, by decide +kernel, by decide +kernel⟩
theorem vt_Ga_canBePlayed : ba_vt yX0_canBePlayed := ⟨(tm (i := 492) (by decide +kernel)), (tm (i := 493) (by decide +kernel))⟩
theorem lk_RX11_105 : Cond.methodLink RX11 105 yX0_copyFrom ∈ lw_tbl := (tm (i := 499) (by decide +kernel))
theorem mt_Ga_copyFrom : ba_mt yX0_copyFrom cX0_copyFrom 3 none 1 := ⟨(tm (i := 502) (by decide +kernel)), (tm (i := 44) (by decide +kernel)), by decide +kernel, by decide +kernel, by decide +kernel⟩
theorem vt_Ga_copyFrom : ba_vt yX0_copyFrom := ⟨(tm (i := 500) (by decide +kernel)), (tm (i := 501) (by decide +kernel))⟩
theorem lk_RX11_109 : Cond.methodLink RX11 109 yX8_empty ∈ lw_tbl := (tm (i := 513) (by decide +kernel))
theorem mt_Si_empty : ba_mt yX8_empty cX8_empty 2 (some .int) 0 := ⟨(tm (i := 516) (by decide +kernel)), (tm (i := 49) (by decide +kernel)), by decide +kernel, by decide +kernel, by decide +kernel⟩
theorem vt_Si_empty : ba_vt yX8_empty := ⟨(tm (i := 514) (by decide +kernel)), (tm (i := 515) (by decide +kernel))⟩
theorem lk_RX11_110 : Cond.methodLink RX11 110 yX7_empty ∈ lw_tbl := (tm (i := 517) (by decide +kernel))
theorem mt_Sh_empty : ba_mt yX7_empty cX7_empty 1 none 0 := ⟨(tm (i := 520) (by decide +kernel)), (tm (i := 50) (by decide +kernel)), by decide +kernel, by decide +kernel, by decide +kernel⟩
theorem vt_Sh_empty : ba_vt yX7_empty := ⟨(tm (i := 518) (by decide +kernel)), (tm (i := 519) (by decide +kernel))⟩
theorem fl_RX11_112 : ba_fl RX11 112 0 2 false := ⟨_, _, _, rfl, by decide, (tm (i := 184) (by decide +kernel)), rfl, fun _ => Or.inr trivial⟩
theorem lk_RX11_116 : Cond.methodLink RX11 116 yX0_has ∈ lw_tbl := (tm (i := 525) (by decide +kernel))
theorem lk_RX11_119 : Cond.methodLink RX11 119 yX0_who ∈ lw_tbl := (tm (i := 526) (by decide +kernel))
theorem fl_RX11_123 : ba_fl RX11 123 2 1 false := ⟨_, _, _, rfl, by decide, (tm (i := 151) (by decide +kernel)), rfl, fun _ => Or.inr trivial⟩
theorem fl_RX11_128 : ba_fl RX11 128 2 2 false := ⟨_, _, _, rfl, by decide, (tm (i := 155) (by decide +kernel)), rfl, fun _ => Or.inr trivial⟩
theorem fl_RX11_131 : ba_fl RX11 131 2 3 false := ⟨_, _, _, rfl, by decide, (tm (i := 157) (by decide +kernel)), rfl, fun _ => Or.inr trivial⟩
theorem fl_RX11_134 : ba_fl RX11 134 2 4 false := ⟨_, _, _, rfl, by decide, (tm (i := 160) (by decide +kernel)), rfl, fun _ => Or.inr trivial⟩
theorem fl_RX11_137 : ba_fl RX11 137 2 5 false := ⟨_, _, _, rfl, by decide, (tm (i := 164) (by decide +kernel)), rfl, fun _ => Or.inr trivial⟩
theorem fl_RX11_140 : ba_fl RX11 140 2 0 true := ⟨_, _, _, rfl, by decide, (tm (i := 146) (by decide +kernel)), rfl, fun _ => Or.inr trivial⟩
theorem fl_RX11_144 : ba_fl RX11 144 9 3 false := ⟨_, _, _, rfl, by decide, (tm (i := 130) (by decide +kernel)), rfl, fun _ => Or.inr trivial⟩
theorem fl_RX4_79 : ba_fl RX4 79 2 1 false := ⟨_, _, _, rfl, by decide, (tm (i := 150) (by decide +kernel)), rfl, fun _ => Or.inr trivial⟩
theorem lk_RX4_112 : Cond.methodLink RX4 112 Lib.Math.abs.name ∈ lw_tbl := (tm (i := 544) (by decide +kernel))
theorem fl_RX4_88 : ba_fl RX4 88 2 2 false := ⟨_, _, _, rfl, by decide, (tm (i := 154) (by decide +kernel)), rfl, fun _ => Or.inr trivial⟩
theorem lk_RX4_63 : Cond.methodLink RX4 63 Lib.Math.max.name ∈ lw_tbl := (tm (i := 547) (by decide +kernel))
theorem lk_RX4_118 : Cond.methodLink RX4 118 Lib.Math.min.name ∈ lw_tbl := (tm (i := 555) (by decide +kernel))
theorem lk_RX4_95 : Cond.methodLink RX4 95 yX5_put ∈ lw_tbl := (tm (i := 558) (by decide +kernel))
theorem lk_RX4_91 : Cond.methodLink RX4 91 yX4_toward ∈ lw_tbl := (tm (i := 552) (by decide +kernel))
theorem mt_Ro_toward : ba_mt yX4_toward cX4_toward 3 (some .int) 3 := ⟨(tm (i := 554) (by decide +kernel)), (tm (i := 43) (by decide +kernel)), by decide +kernel, by decide +kernel, by decide +kernel⟩
theorem sv_Ro_toward : Cond.static yX4_toward ∈ lw_tbl := (tm (i := 553) (by decide +kernel))
theorem fl_RX4_85 : ba_fl RX4 85 0 4 false := ⟨_, _, _, rfl, by decide, (tm (i := 192) (by decide +kernel)), rfl, fun _ => Or.inr trivial⟩
theorem lk_RX4_38 : Cond.methodLink RX4 38 yX0_who ∈ lw_tbl := (tm (i := 535) (by decide +kernel))
theorem fl_RX4_82 : ba_fl RX4 82 0 3 false := ⟨_, _, _, rfl, by decide, (tm (i := 188) (by decide +kernel)), rfl, fun _ => Or.inr trivial⟩
theorem fl_RX4_69 : ba_fl RX4 69 0 2 false := ⟨_, _, _, rfl, by decide, (tm (i := 183) (by decide +kernel)), rfl, fun _ => Or.inr trivial⟩
theorem fl_RX4_72 : ba_fl RX4 72 2 5 false := ⟨_, _, _, rfl, by decide, (tm (i := 163) (by decide +kernel)), rfl, fun _ => Or.inr trivial⟩
theorem lk_RX4_75 : Cond.methodLink RX4 75 yX4_suppose ∈ lw_tbl := (tm (i := 548) (by decide +kernel))
theorem mt_Ro_suppose : ba_mt yX4_suppose cX4_suppose 9 none 2 := ⟨(tm (i := 551) (by decide +kernel)), (tm (i := 43) (by decide +kernel)), by decide +kernel, by decide +kernel, by decide +kernel⟩
theorem vt_Ro_suppose : ba_vt yX4_suppose := ⟨(tm (i := 549) (by decide +kernel)), (tm (i := 550) (by decide +kernel))⟩
theorem lk_RX4_59 : Cond.methodLink RX4 59 yX4_beatsToBall ∈ lw_tbl := (tm (i := 540) (by decide +kernel))
theorem mt_Ro_beatsToBall : ba_mt yX4_beatsToBall cX4_beatsToBall 3 (some .int) 1 := ⟨(tm (i := 543) (by decide +kernel)), (tm (i := 43) (by decide +kernel)), by decide +kernel, by decide +kernel, by decide +kernel⟩
theorem vt_Ro_beatsToBall : ba_vt yX4_beatsToBall := ⟨(tm (i := 542) (by decide +kernel)), (tm (i := 8) (by decide +kernel))⟩
theorem fl_RX4_42 : ba_fl RX4 42 2 0 true := ⟨_, _, _, rfl, by decide, (tm (i := 143) (by decide +kernel)), rfl, fun _ => Or.inr trivial⟩
theorem fl_RX4_48 : ba_fl RX4 48 9 0 false := ⟨_, _, _, rfl, by decide, (tm (i := 118) (by decide +kernel)), rfl, fun _ => Or.inr trivial⟩
theorem fl_RX4_51 : ba_fl RX4 51 9 1 false := ⟨_, _, _, rfl, by decide, (tm (i := 122) (by decide +kernel)), rfl, fun _ => Or.inr trivial⟩
theorem fl_RX4_52 : ba_fl RX4 52 9 2 false := ⟨_, _, _, rfl, by decide, (tm (i := 126) (by decide +kernel)), rfl, fun _ => Or.inr trivial⟩
theorem lk_RX4_55 : Cond.methodLink RX4 55 yX4_playCall ∈ lw_tbl := (tm (i := 536) (by decide +kernel))
theorem mt_Ro_playCall : ba_mt yX4_playCall cX4_playCall 5 none 3 := ⟨(tm (i := 539) (by decide +kernel)), (tm (i := 43) (by decide +kernel)), by decide +kernel, by decide +kernel, by decide +kernel⟩
theorem vt_Ro_playCall : ba_vt yX4_playCall := ⟨(tm (i := 537) (by decide +kernel)), (tm (i := 538) (by decide +kernel))⟩
theorem fl_RX11_149 : ba_fl RX11 149 9 0 false := ⟨_, _, _, rfl, by decide, (tm (i := 120) (by decide +kernel)), rfl, fun _ => Or.inr trivial⟩
theorem fl_RX11_152 : ba_fl RX11 152 9 1 false := ⟨_, _, _, rfl, by decide, (tm (i := 123) (by decide +kernel)), rfl, fun _ => Or.inr trivial⟩
theorem fl_RX11_155 : ba_fl RX11 155 9 2 false := ⟨_, _, _, rfl, by decide, (tm (i := 127) (by decide +kernel)), rfl, fun _ => Or.inr trivial⟩
theorem lk_RX11_158 : Cond.methodLink RX11 158 yX4_playAsTold ∈ lw_tbl := (tm (i := 531) (by decide +kernel))
theorem mt_Ro_playAsTold : ba_mt yX4_playAsTold cX4_playAsTold 3 none 1 := ⟨(tm (i := 534) (by decide +kernel)), (tm (i := 43) (by decide +kernel)), by decide +kernel, by decide +kernel, by decide +kernel⟩
theorem vt_Ro_playAsTold : ba_vt yX4_playAsTold := ⟨(tm (i := 532) (by decide +kernel)), (tm (i := 533) (by decide +kernel))⟩
theorem fl_RX11_161 : ba_fl RX11 161 4 6 false := ⟨_, _, _, rfl, by decide, (tm (i := 217) (by decide +kernel)), rfl, fun _ => Or.inr trivial⟩
theorem lk_RX4_101 : Cond.methodLink RX4 101 yX5_at ∈ lw_tbl := (tm (i := 567) (by decide +kernel))
theorem lk_RX11_164 : Cond.methodLink RX11 164 yX4_standOf ∈ lw_tbl := (tm (i := 563) (by decide +kernel))
theorem mt_Ro_standOf : ba_mt yX4_standOf cX4_standOf 2 (some .int) 1 := ⟨(tm (i := 566) (by decide +kernel)), (tm (i := 43) (by decide +kernel)), by decide +kernel, by decide +kernel, by decide +kernel⟩
theorem vt_Ro_standOf : ba_vt yX4_standOf := ⟨(tm (i := 564) (by decide +kernel)), (tm (i := 565) (by decide +kernel))⟩
theorem fl_RX4_109 : ba_fl RX4 109 2 3 false := ⟨_, _, _, rfl, by decide, (tm (i := 158) (by decide +kernel)), rfl, fun _ => Or.inr trivial⟩
theorem fl_RX4_115 : ba_fl RX4 115 2 4 false := ⟨_, _, _, rfl, by decide, (tm (i := 161) (by decide +kernel)), rfl, fun _ => Or.inr trivial⟩
theorem lk_RX4_121 : Cond.methodLink RX4 121 yX4_hiderOf ∈ lw_tbl := (tm (i := 580) (by decide +kernel))
theorem mt_Ro_hiderOf : ba_mt yX4_hiderOf cX4_hiderOf 8 (some .int) 1 := ⟨(tm (i := 583) (by decide +kernel)), (tm (i := 43) (by decide +kernel)), by decide +kernel, by decide +kernel, by decide +kernel⟩
theorem vt_Ro_hiderOf : ba_vt yX4_hiderOf := ⟨(tm (i := 581) (by decide +kernel)), (tm (i := 582) (by decide +kernel))⟩
theorem lk_RX11_168 : Cond.methodLink RX11 168 yX11_canBeHit ∈ lw_tbl := (tm (i := 572) (by decide +kernel))
theorem mt_Ba_canBeHit : ba_mt yX11_canBeHit cX11_canBeHit 3 (some .boolean) 2 := ⟨(tm (i := 575) (by decide +kernel)), (tm (i := 40) (by decide +kernel)), by decide +kernel, by decide +kernel, by decide +kernel⟩
theorem vt_Ba_canBeHit : ba_vt yX11_canBeHit := ⟨(tm (i := 574) (by decide +kernel)), (tm (i := 9) (by decide +kernel))⟩
theorem lk_RX11_172 : Cond.methodLink RX11 172 yX4_chanceOf ∈ lw_tbl := (tm (i := 576) (by decide +kernel))
theorem mt_Ro_chanceOf : ba_mt yX4_chanceOf cX4_chanceOf 6 (some .int) 1 := ⟨(tm (i := 579) (by decide +kernel)), (tm (i := 43) (by decide +kernel)), by decide +kernel, by decide +kernel, by decide +kernel⟩
theorem vt_Ro_chanceOf : ba_vt yX4_chanceOf := ⟨(tm (i := 577) (by decide +kernel)), (tm (i := 578) (by decide +kernel))⟩
theorem lk_RX4_105 : Cond.methodLink RX4 105 yX4_chanceOf ∈ lw_tbl := (tm (i := 592) (by decide +kernel))
theorem lk_RX11_175 : Cond.methodLink RX11 175 yX4_target ∈ lw_tbl := (tm (i := 588) (by decide +kernel))
theorem mt_Ro_target : ba_mt yX4_target cX4_target 5 (some .int) 0 := ⟨(tm (i := 591) (by decide +kernel)), (tm (i := 43) (by decide +kernel)), by decide +kernel, by decide +kernel, by decide +kernel⟩
theorem vt_Ro_target : ba_vt yX4_target := ⟨(tm (i := 589) (by decide +kernel)), (tm (i := 590) (by decide +kernel))⟩
theorem lk_RX11_178 : Cond.methodLink RX11 178 yX4_hiderOf ∈ lw_tbl := (tm (i := 597) (by decide +kernel))
theorem lk_RX6_46 : Cond.methodLink RX6 46 yX4_playCall ∈ lw_tbl := (tm (i := 610) (by decide +kernel))
theorem lk_RX6_50 : Cond.methodLink RX6 50 yX4_target ∈ lw_tbl := (tm (i := 611) (by decide +kernel))
theorem lk_RX6_54 : Cond.methodLink RX6 54 yX4_chanceOf ∈ lw_tbl := (tm (i := 612) (by decide +kernel))
theorem lk_RX6_42 : Cond.methodLink RX6 42 yX6_tryCall ∈ lw_tbl := (tm (i := 606) (by decide +kernel))
theorem mt_Sc_tryCall : ba_mt yX6_tryCall cX6_tryCall 10 none 5 := ⟨(tm (i := 609) (by decide +kernel)), (tm (i := 47) (by decide +kernel)), by decide +kernel, by decide +kernel, by decide +kernel⟩
theorem vt_Sc_tryCall : ba_vt yX6_tryCall := ⟨(tm (i := 608) (by decide +kernel)), (tm (i := 10) (by decide +kernel))⟩
theorem fl_RX6_28 : ba_fl RX6 28 4 0 true := ⟨_, _, _, rfl, by decide, (tm (i := 208) (by decide +kernel)), rfl, fun _ => Or.inr trivial⟩
theorem fl_RX6_39 : ba_fl RX6 39 0 3 false := ⟨_, _, _, rfl, by decide, (tm (i := 187) (by decide +kernel)), rfl, fun _ => Or.inr trivial⟩
theorem fl_RX6_34 : ba_fl RX6 34 0 2 false := ⟨_, _, _, rfl, by decide, (tm (i := 181) (by decide +kernel)), rfl, fun _ => Or.inr trivial⟩
theorem lk_RX11_181 : Cond.methodLink RX11 181 yX6_search ∈ lw_tbl := (tm (i := 602) (by decide +kernel))
theorem mt_Sc_search : ba_mt yX6_search cX6_search 6 none 2 := ⟨(tm (i := 605) (by decide +kernel)), (tm (i := 47) (by decide +kernel)), by decide +kernel, by decide +kernel, by decide +kernel⟩
theorem vt_Sc_search : ba_vt yX6_search := ⟨(tm (i := 603) (by decide +kernel)), (tm (i := 604) (by decide +kernel))⟩
theorem fl_RX11_185 : ba_fl RX11 185 5 0 false := ⟨_, _, _, rfl, by decide, (tm (i := 242) (by decide +kernel)), rfl, fun _ => Or.inr trivial⟩
theorem fl_RX11_189 : ba_fl RX11 189 5 1 false := ⟨_, _, _, rfl, by decide, (tm (i := 244) (by decide +kernel)), rfl, fun _ => Or.inr trivial⟩
theorem fl_RX11_190 : ba_fl RX11 190 5 2 false := ⟨_, _, _, rfl, by decide, (tm (i := 246) (by decide +kernel)), rfl, fun _ => Or.inr trivial⟩
theorem fl_RX11_191 : ba_fl RX11 191 5 3 false := ⟨_, _, _, rfl, by decide, (tm (i := 248) (by decide +kernel)), rfl, fun _ => Or.inr trivial⟩
theorem fl_RX11_192 : ba_fl RX11 192 5 4 false := ⟨_, _, _, rfl, by decide, (tm (i := 250) (by decide +kernel)), rfl, fun _ => Or.inr trivial⟩
theorem lk_RX11_195 : Cond.methodLink RX11 195 yX4_suppose ∈ lw_tbl := (tm (i := 617) (by decide +kernel))
theorem fl_RX1_45 : ba_fl RX1 45 4 0 true := ⟨_, _, _, rfl, by decide, (tm (i := 209) (by decide +kernel)), rfl, fun _ => Or.inr trivial⟩
theorem fl_RX1_51 : ba_fl RX1 51 0 2 false := ⟨_, _, _, rfl, by decide, (tm (i := 182) (by decide +kernel)), rfl, fun _ => Or.inr trivial⟩
theorem lk_RX1_56 : Cond.methodLink RX1 56 yX4_playAsTold ∈ lw_tbl := (tm (i := 627) (by decide +kernel))
theorem lk_RX1_60 : Cond.methodLink RX1 60 yX4_target ∈ lw_tbl := (tm (i := 628) (by decide +kernel))
theorem fl_RX1_64 : ba_fl RX1 64 4 4 false := ⟨_, _, _, rfl, by decide, (tm (i := 214) (by decide +kernel)), rfl, fun _ => Or.inr trivial⟩
theorem lk_RX1_67 : Cond.methodLink RX1 67 yX5_put ∈ lw_tbl := (tm (i := 629) (by decide +kernel))
theorem lk_RX1_71 : Cond.methodLink RX1 71 yX4_chanceOf ∈ lw_tbl := (tm (i := 630) (by decide +kernel))
theorem lk_RX1_120 : Cond.methodLink RX1 120 yX0_who ∈ lw_tbl := (tm (i := 641) (by decide +kernel))
theorem fl_RX1_124 : ba_fl RX1 124 2 0 true := ⟨_, _, _, rfl, by decide, (tm (i := 148) (by decide +kernel)), rfl, fun _ => Or.inr trivial⟩
theorem fl_RX1_130 : ba_fl RX1 130 9 3 false := ⟨_, _, _, rfl, by decide, (tm (i := 132) (by decide +kernel)), rfl, fun _ => Or.inr trivial⟩
theorem lk_RX1_108 : Cond.methodLink RX1 108 yX1_oneLetterOf ∈ lw_tbl := (tm (i := 642) (by decide +kernel))
theorem mt_Mr_oneLetterOf : ba_mt yX1_oneLetterOf cX1_oneLetterOf 1 (some .int) 1 := ⟨(tm (i := 644) (by decide +kernel)), (tm (i := 48) (by decide +kernel)), by decide +kernel, by decide +kernel, by decide +kernel⟩
theorem sv_Mr_oneLetterOf : Cond.static yX1_oneLetterOf ∈ lw_tbl := (tm (i := 643) (by decide +kernel))
theorem lk_RX1_105 : Cond.methodLink RX1 105 yX1_lettersOf_ ∈ lw_tbl := (tm (i := 662) (by decide +kernel))
theorem mt_Mr_lettersOf2 : ba_mt yX1_lettersOf_ cX1_lettersOf_ 2 (some .int) 2 := ⟨(tm (i := 664) (by decide +kernel)), (tm (i := 48) (by decide +kernel)), by decide +kernel, by decide +kernel, by decide +kernel⟩
theorem sv_Mr_lettersOf2 : Cond.static yX1_lettersOf_ ∈ lw_tbl := (tm (i := 663) (by decide +kernel))
theorem lk_RX1_87 : Cond.methodLink RX1 87 yX5_addLong ∈ lw_tbl := (tm (i := 646) (by decide +kernel))
theorem mt_Rw_addLong : ba_mt yX5_addLong cX5_addLong 4 none 3 := ⟨(tm (i := 648) (by decide +kernel)), (tm (i := 53) (by decide +kernel)), by decide +kernel, by decide +kernel, by decide +kernel⟩
theorem sv_Rw_addLong : Cond.static yX5_addLong ∈ lw_tbl := (tm (i := 647) (by decide +kernel))
theorem lk_RX1_39 : Cond.methodLink RX1 39 yX5_longAt ∈ lw_tbl := (tm (i := 653) (by decide +kernel))
theorem mt_Rw_longAt : ba_mt yX5_longAt cX5_longAt 2 (some .long) 2 := ⟨(tm (i := 655) (by decide +kernel)), (tm (i := 53) (by decide +kernel)), by decide +kernel, by decide +kernel, by decide +kernel⟩
theorem sv_Rw_longAt : Cond.static yX5_longAt ∈ lw_tbl := (tm (i := 654) (by decide +kernel))
theorem cl_RX1_95 : Cond.constantLong RX1 95 (10) ∈ lw_tbl := (tm (i := 656) (by decide +kernel))
theorem lk_RX1_97 : Cond.methodLink RX1 97 yX5_at ∈ lw_tbl := (tm (i := 657) (by decide +kernel))
theorem lk_RX1_101 : Cond.methodLink RX1 101 yX1_giveLetter ∈ lw_tbl := (tm (i := 658) (by decide +kernel))
theorem mt_Mr_giveLetter : ba_mt yX1_giveLetter cX1_giveLetter 5 none 3 := ⟨(tm (i := 661) (by decide +kernel)), (tm (i := 48) (by decide +kernel)), by decide +kernel, by decide +kernel, by decide +kernel⟩
theorem vt_Mr_giveLetter : ba_vt yX1_giveLetter := ⟨(tm (i := 660) (by decide +kernel)), (tm (i := 12) (by decide +kernel))⟩
theorem lk_RX1_91 : Cond.methodLink RX1 91 yX1_shareOut ∈ lw_tbl := (tm (i := 649) (by decide +kernel))
theorem mt_Mr_shareOut : ba_mt yX1_shareOut cX1_shareOut 8 none 2 := ⟨(tm (i := 652) (by decide +kernel)), (tm (i := 48) (by decide +kernel)), by decide +kernel, by decide +kernel, by decide +kernel⟩
theorem vt_Mr_shareOut : ba_vt yX1_shareOut := ⟨(tm (i := 651) (by decide +kernel)), (tm (i := 11) (by decide +kernel))⟩
theorem lk_RX1_75 : Cond.methodLink RX1 75 yJ7_fill_d0a16 ∈ lw_tbl := (tm (i := 635) (by decide +kernel))
theorem mt_Ar_fill : ba_mt yJ7_fill_d0a16 cJ7_fill_d0a16 5 none 2 := ⟨(tm (i := 637) (by decide +kernel)), (tm (i := 54) (by decide +kernel)), by decide +kernel, by decide +kernel, by decide +kernel⟩
theorem sv_Ar_fill : Cond.static yJ7_fill_d0a16 ∈ lw_tbl := (tm (i := 636) (by decide +kernel))
theorem lk_RX1_81 : Cond.methodLink RX1 81 yX1_lettersOf ∈ lw_tbl := (tm (i := 638) (by decide +kernel))
theorem mt_Mr_lettersOf : ba_mt yX1_lettersOf cX1_lettersOf 3 (some .int) 1 := ⟨(tm (i := 640) (by decide +kernel)), (tm (i := 48) (by decide +kernel)), by decide +kernel, by decide +kernel, by decide +kernel⟩
theorem sv_Mr_lettersOf : Cond.static yX1_lettersOf ∈ lw_tbl := (tm (i := 639) (by decide +kernel))
theorem cl_RX1_85 : Cond.constantLong RX1 85 (10000000000000000) ∈ lw_tbl := (tm (i := 645) (by decide +kernel))
theorem cl_RX11_266 : Cond.constantLong RX11 266 (5) ∈ lw_tbl := (tm (i := 674) (by decide +kernel))
theorem cl_RX11_264 : Cond.constantLong RX11 264 (2) ∈ lw_tbl := (tm (i := 673) (by decide +kernel))
theorem cl_RX11_262 : Cond.constantLong RX11 262 (10000000000000000) ∈ lw_tbl := (tm (i := 672) (by decide +kernel))
theorem cl_RX11_199 : Cond.constantLong RX11 199 (-1) ∈ lw_tbl := (tm (i := 622) (by decide +kernel))
theorem lk_RX11_201 : Cond.methodLink RX11 201 yX1_prepareThrows ∈ lw_tbl := (tm (i := 623) (by decide +kernel))
theorem mt_Mr_prepareThrows : ba_mt yX1_prepareThrows cX1_prepareThrows 4 none 1 := ⟨(tm (i := 626) (by decide +kernel)), (tm (i := 48) (by decide +kernel)), by decide +kernel, by decide +kernel, by decide +kernel⟩
theorem vt_Mr_prepareThrows : ba_vt yX1_prepareThrows := ⟨(tm (i := 624) (by decide +kernel)), (tm (i := 625) (by decide +kernel))⟩
theorem lk_RX11_205 : Cond.methodLink RX11 205 yX1_weigh ∈ lw_tbl := (tm (i := 631) (by decide +kernel))
theorem mt_Mr_weigh : ba_mt yX1_weigh cX1_weigh 6 none 2 := ⟨(tm (i := 634) (by decide +kernel)), (tm (i := 48) (by decide +kernel)), by decide +kernel, by decide +kernel, by decide +kernel⟩
theorem vt_Mr_weigh : ba_vt yX1_weigh := ⟨(tm (i := 632) (by decide +kernel)), (tm (i := 633) (by decide +kernel))⟩
theorem lk_RX11_209 : Cond.methodLink RX11 209 yX1_outWeight ∈ lw_tbl := (tm (i := 665) (by decide +kernel))
theorem mt_Mr_outWeight : ba_mt yX1_outWeight cX1_outWeight 2 (some .long) 1 := ⟨(tm (i := 668) (by decide +kernel)), (tm (i := 48) (by decide +kernel)), by decide +kernel, by decide +kernel, by decide +kernel⟩
theorem vt_Mr_outWeight : ba_vt yX1_outWeight := ⟨(tm (i := 666) (by decide +kernel)), (tm (i := 667) (by decide +kernel))⟩
theorem lk_RX11_213 : Cond.methodLink RX11 213 yX11_inLowestTerms ∈ lw_tbl := (tm (i := 669) (by decide +kernel))
theorem mt_Ba_inLowestTerms : ba_mt yX11_inLowestTerms cX11_inLowestTerms 8 (some .long) 2 := ⟨(tm (i := 671) (by decide +kernel)), (tm (i := 40) (by decide +kernel)), by decide +kernel, by decide +kernel, by decide +kernel⟩
theorem sv_Ba_inLowestTerms : Cond.static yX11_inLowestTerms ∈ lw_tbl := (tm (i := 670) (by decide +kernel))
theorem fl_RX11_217 : ba_fl RX11 217 1 5 false := ⟨_, _, _, rfl, by decide, (tm (i := 274) (by decide +kernel)), rfl, fun _ => Or.inr trivial⟩
theorem lk_RX7_37 : Cond.methodLink RX7 37 yX7_copyOf ∈ lw_tbl := (tm (i := 689) (by decide +kernel))
theorem mt_Sh_copyOf : ba_mt yX7_copyOf cX7_copyOf 3 (some (.object "BallAndName$Told")) 1 := ⟨(tm (i := 692) (by decide +kernel)), (tm (i := 50) (by decide +kernel)), by decide +kernel, by decide +kernel, by decide +kernel⟩
theorem vt_Sh_copyOf : ba_vt yX7_copyOf := ⟨(tm (i := 691) (by decide +kernel)), (tm (i := 13) (by decide +kernel))⟩
theorem lk_RX7_41 : Cond.methodLink RX7 41 yX0_who ∈ lw_tbl := (tm (i := 693) (by decide +kernel))
theorem fl_RX7_47 : ba_fl RX7 47 2 0 true := ⟨_, _, _, rfl, by decide, (tm (i := 144) (by decide +kernel)), rfl, fun _ => Or.inr trivial⟩
theorem lk_RX7_53 : Cond.methodLink RX7 53 yX10_copyFrom ∈ lw_tbl := (tm (i := 694) (by decide +kernel))
theorem lk_RX7_34 : Cond.methodLink RX7 34 Lib.Math.min.name ∈ lw_tbl := (tm (i := 688) (by decide +kernel))
theorem lk_RX11_221 : Cond.methodLink RX11 221 yX0_onGround ∈ lw_tbl := (tm (i := 683) (by decide +kernel))
theorem lk_RX11_224 : Cond.methodLink RX11 224 yX7_putNewest ∈ lw_tbl := (tm (i := 684) (by decide +kernel))
theorem mt_Sh_putNewest : ba_mt yX7_putNewest cX7_putNewest 4 none 1 := ⟨(tm (i := 687) (by decide +kernel)), (tm (i := 50) (by decide +kernel)), by decide +kernel, by decide +kernel, by decide +kernel⟩
theorem vt_Sh_putNewest : ba_vt yX7_putNewest := ⟨(tm (i := 685) (by decide +kernel)), (tm (i := 686) (by decide +kernel))⟩
theorem lk_RX11_227 : Cond.methodLink RX11 227 yX10_tellCall ∈ lw_tbl := (tm (i := 695) (by decide +kernel))
theorem fl_RX11_231 : ba_fl RX11 231 6 2 false := ⟨_, _, _, rfl, by decide, (tm (i := 332) (by decide +kernel)), rfl, fun _ => Or.inr trivial⟩
theorem lk_RX11_232 : Cond.methodLink RX11 232 yX7_takeNewest ∈ lw_tbl := (tm (i := 704) (by decide +kernel))
theorem mt_Sh_takeNewest : ba_mt yX7_takeNewest cX7_takeNewest 4 none 1 := ⟨(tm (i := 707) (by decide +kernel)), (tm (i := 50) (by decide +kernel)), by decide +kernel, by decide +kernel, by decide +kernel⟩
theorem vt_Sh_takeNewest : ba_vt yX7_takeNewest := ⟨(tm (i := 705) (by decide +kernel)), (tm (i := 706) (by decide +kernel))⟩
theorem lk_RX8_25 : Cond.methodLink RX8 25 yX5_put ∈ lw_tbl := (tm (i := 716) (by decide +kernel))
theorem fl_RX11_235 : ba_fl RX11 235 7 3 false := ⟨_, _, _, rfl, by decide, (tm (i := 307) (by decide +kernel)), rfl, fun _ => Or.inr trivial⟩
theorem lk_RX11_236 : Cond.methodLink RX11 236 yX8_add ∈ lw_tbl := (tm (i := 712) (by decide +kernel))
theorem mt_Si_add : ba_mt yX8_add cX8_add 4 (some .int) 3 := ⟨(tm (i := 715) (by decide +kernel)), (tm (i := 49) (by decide +kernel)), by decide +kernel, by decide +kernel, by decide +kernel⟩
theorem vt_Si_add : ba_vt yX8_add := ⟨(tm (i := 713) (by decide +kernel)), (tm (i := 714) (by decide +kernel))⟩
theorem lk_RX8_35 : Cond.methodLink RX8 35 yX5_at ∈ lw_tbl := (tm (i := 733) (by decide +kernel))
theorem lk_RX8_39 : Cond.methodLink RX8 39 yX4_playAsTold ∈ lw_tbl := (tm (i := 734) (by decide +kernel))
theorem lk_RX8_45 : Cond.methodLink RX8 45 yX4_suppose ∈ lw_tbl := (tm (i := 735) (by decide +kernel))
theorem lk_RX8_49 : Cond.methodLink RX8 49 yX4_standOf ∈ lw_tbl := (tm (i := 736) (by decide +kernel))
theorem lk_RX8_31 : Cond.methodLink RX8 31 yX8_allAreSo ∈ lw_tbl := (tm (i := 729) (by decide +kernel))
theorem mt_Si_allAreSo : ba_mt yX8_allAreSo cX8_allAreSo 5 (some .boolean) 3 := ⟨(tm (i := 732) (by decide +kernel)), (tm (i := 49) (by decide +kernel)), by decide +kernel, by decide +kernel, by decide +kernel⟩
theorem vt_Si_allAreSo : ba_vt yX8_allAreSo := ⟨(tm (i := 731) (by decide +kernel)), (tm (i := 14) (by decide +kernel))⟩
theorem lk_RX11_240 : Cond.methodLink RX11 240 yX8_kindsOf ∈ lw_tbl := (tm (i := 725) (by decide +kernel))
theorem mt_Si_kindsOf : ba_mt yX8_kindsOf cX8_kindsOf 5 (some .int) 2 := ⟨(tm (i := 728) (by decide +kernel)), (tm (i := 49) (by decide +kernel)), by decide +kernel, by decide +kernel, by decide +kernel⟩
theorem vt_Si_kindsOf : ba_vt yX8_kindsOf := ⟨(tm (i := 726) (by decide +kernel)), (tm (i := 727) (by decide +kernel))⟩
theorem cl_RX1_114 : Cond.constantLong RX1 114 (7919) ∈ lw_tbl := (tm (i := 748) (by decide +kernel))
theorem cl_RX1_116 : Cond.constantLong RX1 116 (6151) ∈ lw_tbl := (tm (i := 749) (by decide +kernel))
theorem cl_RX1_118 : Cond.constantLong RX1 118 (65521) ∈ lw_tbl := (tm (i := 750) (by decide +kernel))
theorem lk_RX1_111 : Cond.methodLink RX1 111 yX1_draw ∈ lw_tbl := (tm (i := 745) (by decide +kernel))
theorem mt_Mr_draw : ba_mt yX1_draw cX1_draw 4 (some .int) 2 := ⟨(tm (i := 747) (by decide +kernel)), (tm (i := 48) (by decide +kernel)), by decide +kernel, by decide +kernel, by decide +kernel⟩
theorem sv_Mr_draw : Cond.static yX1_draw ∈ lw_tbl := (tm (i := 746) (by decide +kernel))
theorem lk_RX11_244 : Cond.methodLink RX11 244 yX1_playAfternoon ∈ lw_tbl := (tm (i := 741) (by decide +kernel))
theorem mt_Mr_playAfternoon : ba_mt yX1_playAfternoon cX1_playAfternoon 7 none 2 := ⟨(tm (i := 744) (by decide +kernel)), (tm (i := 48) (by decide +kernel)), by decide +kernel, by decide +kernel, by decide +kernel⟩
theorem vt_Mr_playAfternoon : ba_vt yX1_playAfternoon := ⟨(tm (i := 742) (by decide +kernel)), (tm (i := 743) (by decide +kernel))⟩
theorem fl_RX11_250 : ba_fl RX11 250 1 7 false := ⟨_, _, _, rfl, by decide, (tm (i := 278) (by decide +kernel)), rfl, fun _ => Or.inr trivial⟩
theorem fl_RX11_247 : ba_fl RX11 247 1 6 false := ⟨_, _, _, rfl, by decide, (tm (i := 276) (by decide +kernel)), rfl, fun _ => Or.inr trivial⟩
theorem fl_RX11_253 : ba_fl RX11 253 0 3 false := ⟨_, _, _, rfl, by decide, (tm (i := 190) (by decide +kernel)), rfl, fun _ => Or.inr trivial⟩
theorem fl_RX11_256 : ba_fl RX11 256 0 4 false := ⟨_, _, _, rfl, by decide, (tm (i := 194) (by decide +kernel)), rfl, fun _ => Or.inr trivial⟩
theorem fl_RX11_259 : ba_fl RX11 259 8 1 false := ⟨_, _, _, rfl, by decide, (tm (i := 72) (by decide +kernel)), rfl, fun _ => Or.inr trivial⟩
theorem fl_RX12_7 : ba_fl RX12 7 11 3 true := ⟨_, _, _, rfl, by decide, (tm (i := 777) (by decide +kernel)), rfl, fun _ => Or.inr trivial⟩
theorem fl_RX12_43 : ba_fl RX12 43 11 20 true := ⟨_, _, _, rfl, by decide, (tm (i := 794) (by decide +kernel)), rfl, fun _ => Or.inr trivial⟩
theorem cl_RX12_82 : Cond.constantLong RX12 82 (10) ∈ lw_tbl := (tm (i := 773) (by decide +kernel))
theorem fl_RX12_75 : ba_fl RX12 75 11 2 false := ⟨_, _, _, rfl, by decide, (tm (i := 776) (by decide +kernel)), rfl, fun _ => Or.inr trivial⟩
theorem fl_RX12_13 : ba_fl RX12 13 11 4 true := ⟨_, _, _, rfl, by decide, (tm (i := 778) (by decide +kernel)), rfl, fun _ => Or.inr trivial⟩
theorem lo_RX12_1 : Cond.methodLink RX12 1 Lib.objectInit ∈ lw_tbl := (tm (i := 768) (by decide +kernel))
theorem fl_RX12_16 : ba_fl RX12 16 11 5 true := ⟨_, _, _, rfl, by decide, (tm (i := 779) (by decide +kernel)), rfl, fun _ => Or.inr trivial⟩
theorem fl_RX12_19 : ba_fl RX12 19 11 8 true := ⟨_, _, _, rfl, by decide, (tm (i := 782) (by decide +kernel)), rfl, fun _ => Or.inr trivial⟩
theorem fl_RX12_22 : ba_fl RX12 22 11 12 true := ⟨_, _, _, rfl, by decide, (tm (i := 786) (by decide +kernel)), rfl, fun _ => Or.inr trivial⟩
theorem fl_RX12_25 : ba_fl RX12 25 11 13 true := ⟨_, _, _, rfl, by decide, (tm (i := 787) (by decide +kernel)), rfl, fun _ => Or.inr trivial⟩
theorem fl_RX12_28 : ba_fl RX12 28 11 14 true := ⟨_, _, _, rfl, by decide, (tm (i := 788) (by decide +kernel)), rfl, fun _ => Or.inr trivial⟩
theorem fl_RX12_31 : ba_fl RX12 31 11 15 true := ⟨_, _, _, rfl, by decide, (tm (i := 789) (by decide +kernel)), rfl, fun _ => Or.inr trivial⟩
theorem fl_RX12_34 : ba_fl RX12 34 11 16 true := ⟨_, _, _, rfl, by decide, (tm (i := 790) (by decide +kernel)), rfl, fun _ => Or.inr trivial⟩
theorem fl_RX12_37 : ba_fl RX12 37 11 17 true := ⟨_, _, _, rfl, by decide, (tm (i := 791) (by decide +kernel)), rfl, fun _ => Or.inr trivial⟩
theorem fl_RX12_40 : ba_fl RX12 40 11 19 true := ⟨_, _, _, rfl, by decide, (tm (i := 793) (by decide +kernel)), rfl, fun _ => Or.inr trivial⟩
theorem fl_RX12_47 : ba_fl RX12 47 11 21 true := ⟨_, _, _, rfl, by decide, (tm (i := 795) (by decide +kernel)), rfl, fun _ => Or.inr trivial⟩
theorem fl_RX12_50 : ba_fl RX12 50 11 22 true := ⟨_, _, _, rfl, by decide, (tm (i := 796) (by decide +kernel)), rfl, fun _ => Or.inr trivial⟩
theorem fl_RX12_53 : ba_fl RX12 53 11 23 true := ⟨_, _, _, rfl, by decide, (tm (i := 797) (by decide +kernel)), rfl, fun _ => Or.inr trivial⟩
theorem fl_RX12_56 : ba_fl RX12 56 11 25 true := ⟨_, _, _, rfl, by decide, (tm (i := 799) (by decide +kernel)), rfl, fun _ => Or.inr trivial⟩
theorem fl_RX12_59 : ba_fl RX12 59 11 27 true := ⟨_, _, _, rfl, by decide, (tm (i := 801) (by decide +kernel)), rfl, fun _ => Or.inr trivial⟩
theorem fl_RX12_62 : ba_fl RX12 62 11 28 true := ⟨_, _, _, rfl, by decide, (tm (i := 802) (by decide +kernel)), rfl, fun _ => Or.inr trivial⟩
theorem fl_RX12_65 : ba_fl RX12 65 11 30 true := ⟨_, _, _, rfl, by decide, (tm (i := 804) (by decide +kernel)), rfl, fun _ => Or.inr trivial⟩
theorem fl_RX12_68 : ba_fl RX12 68 11 0 false := ⟨_, _, _, rfl, by decide, (tm (i := 774) (by decide +kernel)), rfl, fun _ => Or.inr trivial⟩
theorem fl_RX12_72 : ba_fl RX12 72 11 1 false := ⟨_, _, _, rfl, by decide, (tm (i := 775) (by decide +kernel)), rfl, fun _ => Or.inr trivial⟩
theorem lk_RX12_78 : Cond.methodLink RX12 78 yX12_lays ∈ lw_tbl := (tm (i := 769) (by decide +kernel))
theorem mt_Mo_lays : ba_mt yX12_lays cX12_lays 7 none 6 := ⟨(tm (i := 772) (by decide +kernel)), (tm (i := 52) (by decide +kernel)), by decide +kernel, by decide +kernel, by decide +kernel⟩
theorem vt_Mo_lays : ba_vt yX12_lays := ⟨(tm (i := 771) (by decide +kernel)), (tm (i := 15) (by decide +kernel))⟩
theorem lk_RX12_84 : Cond.methodLink RX12 84 yX12_in ∈ lw_tbl := (tm (i := 872) (by decide +kernel))
theorem mt_Mo_in : ba_mt yX12_in cX12_in 3 (some .boolean) 3 := ⟨(tm (i := 874) (by decide +kernel)), (tm (i := 52) (by decide +kernel)), by decide +kernel, by decide +kernel, by decide +kernel⟩
theorem sv_Mo_in : Cond.static yX12_in ∈ lw_tbl := (tm (i := 873) (by decide +kernel))
theorem fl_RX12_88 : ba_fl RX12 88 11 6 false := ⟨_, _, _, rfl, by decide, (tm (i := 780) (by decide +kernel)), rfl, fun _ => Or.inr trivial⟩
theorem cl_RX12_91 : Cond.constantLong RX12 91 (255) ∈ lw_tbl := (tm (i := 875) (by decide +kernel))
theorem fl_RX12_93 : ba_fl RX12 93 11 7 false := ⟨_, _, _, rfl, by decide, (tm (i := 781) (by decide +kernel)), rfl, fun _ => Or.inr trivial⟩
theorem lk_RX12_96 : Cond.methodLink RX12 96 yX12_byteAt ∈ lw_tbl := (tm (i := 888) (by decide +kernel))
theorem mt_Mo_byteAt : ba_mt yX12_byteAt cX12_byteAt 2 (some .int) 1 := ⟨(tm (i := 891) (by decide +kernel)), (tm (i := 52) (by decide +kernel)), by decide +kernel, by decide +kernel, by decide +kernel⟩
theorem vt_Mo_byteAt : ba_vt yX12_byteAt := ⟨(tm (i := 890) (by decide +kernel)), (tm (i := 17) (by decide +kernel))⟩
theorem lk_RX12_100 : Cond.methodLink RX12 100 yX12_isFigure ∈ lw_tbl := (tm (i := 900) (by decide +kernel))
theorem mt_Mo_isFigure : ba_mt yX12_isFigure cX12_isFigure 1 (some .boolean) 1 := ⟨(tm (i := 902) (by decide +kernel)), (tm (i := 52) (by decide +kernel)), by decide +kernel, by decide +kernel, by decide +kernel⟩
theorem sv_Mo_isFigure : Cond.static yX12_isFigure ∈ lw_tbl := (tm (i := 901) (by decide +kernel))
theorem lk_RX12_104 : Cond.methodLink RX12 104 yX12_readNumbers ∈ lw_tbl := (tm (i := 896) (by decide +kernel))
theorem mt_Mo_readNumbers : ba_mt yX12_readNumbers cX12_readNumbers 3 (some .boolean) 1 := ⟨(tm (i := 899) (by decide +kernel)), (tm (i := 52) (by decide +kernel)), by decide +kernel, by decide +kernel, by decide +kernel⟩
theorem vt_Mo_readNumbers : ba_vt yX12_readNumbers := ⟨(tm (i := 898) (by decide +kernel)), (tm (i := 19) (by decide +kernel))⟩
theorem fl_RX12_107 : ba_fl RX12 107 11 9 false := ⟨_, _, _, rfl, by decide, (tm (i := 783) (by decide +kernel)), rfl, fun _ => Or.inr trivial⟩
theorem fl_RX12_110 : ba_fl RX12 110 11 10 false := ⟨_, _, _, rfl, by decide, (tm (i := 784) (by decide +kernel)), rfl, fun _ => Or.inr trivial⟩
theorem fl_RX12_113 : ba_fl RX12 113 11 11 false := ⟨_, _, _, rfl, by decide, (tm (i := 785) (by decide +kernel)), rfl, fun _ => Or.inr trivial⟩
theorem lk_RX12_123 : Cond.methodLink RX12 123 yX12_readCalled ∈ lw_tbl := (tm (i := 907) (by decide +kernel))
theorem mt_Mo_readCalled : ba_mt yX12_readCalled cX12_readCalled 1 (some .boolean) 0 := ⟨(tm (i := 910) (by decide +kernel)), (tm (i := 52) (by decide +kernel)), by decide +kernel, by decide +kernel, by decide +kernel⟩
theorem vt_Mo_readCalled : ba_vt yX12_readCalled := ⟨(tm (i := 909) (by decide +kernel)), (tm (i := 21) (by decide +kernel))⟩
theorem lk_RX12_129 : Cond.methodLink RX12 129 yX12_readSlide ∈ lw_tbl := (tm (i := 915) (by decide +kernel))
theorem mt_Mo_readSlide : ba_mt yX12_readSlide cX12_readSlide 1 (some .boolean) 0 := ⟨(tm (i := 918) (by decide +kernel)), (tm (i := 52) (by decide +kernel)), by decide +kernel, by decide +kernel, by decide +kernel⟩
theorem vt_Mo_readSlide : ba_vt yX12_readSlide := ⟨(tm (i := 917) (by decide +kernel)), (tm (i := 23) (by decide +kernel))⟩
theorem lk_RX12_126 : Cond.methodLink RX12 126 yX12_readLettersOf ∈ lw_tbl := (tm (i := 911) (by decide +kernel))
theorem mt_Mo_readLettersOf : ba_mt yX12_readLettersOf cX12_readLettersOf 1 (some .boolean) 0 := ⟨(tm (i := 914) (by decide +kernel)), (tm (i := 52) (by decide +kernel)), by decide +kernel, by decide +kernel, by decide +kernel⟩
theorem vt_Mo_readLettersOf : ba_vt yX12_readLettersOf := ⟨(tm (i := 913) (by decide +kernel)), (tm (i := 22) (by decide +kernel))⟩
theorem lk_RX12_116 : Cond.methodLink RX12 116 yX12_readGround ∈ lw_tbl := (tm (i := 892) (by decide +kernel))
theorem mt_Mo_readGround : ba_mt yX12_readGround cX12_readGround 1 (some .boolean) 0 := ⟨(tm (i := 895) (by decide +kernel)), (tm (i := 52) (by decide +kernel)), by decide +kernel, by decide +kernel, by decide +kernel⟩
theorem vt_Mo_readGround : ba_vt yX12_readGround := ⟨(tm (i := 894) (by decide +kernel)), (tm (i := 18) (by decide +kernel))⟩
theorem lk_RX12_120 : Cond.methodLink RX12 120 yX12_readPlayer ∈ lw_tbl := (tm (i := 903) (by decide +kernel))
theorem mt_Mo_readPlayer : ba_mt yX12_readPlayer cX12_readPlayer 2 (some .boolean) 0 := ⟨(tm (i := 906) (by decide +kernel)), (tm (i := 52) (by decide +kernel)), by decide +kernel, by decide +kernel, by decide +kernel⟩
theorem vt_Mo_readPlayer : ba_vt yX12_readPlayer := ⟨(tm (i := 905) (by decide +kernel)), (tm (i := 20) (by decide +kernel))⟩
theorem lk_RX12_131 : Cond.methodLink RX12 131 yX12_readItem ∈ lw_tbl := (tm (i := 884) (by decide +kernel))
theorem mt_Mo_readItem : ba_mt yX12_readItem cX12_readItem 2 (some .boolean) 0 := ⟨(tm (i := 887) (by decide +kernel)), (tm (i := 52) (by decide +kernel)), by decide +kernel, by decide +kernel, by decide +kernel⟩
theorem vt_Mo_readItem : ba_vt yX12_readItem := ⟨(tm (i := 886) (by decide +kernel)), (tm (i := 16) (by decide +kernel))⟩
theorem fl_RX12_141 : ba_fl RX12 141 11 26 false := ⟨_, _, _, rfl, by decide, (tm (i := 800) (by decide +kernel)), rfl, fun _ => Or.inr trivial⟩
theorem fl_RX12_144 : ba_fl RX12 144 11 24 false := ⟨_, _, _, rfl, by decide, (tm (i := 798) (by decide +kernel)), rfl, fun _ => Or.inr trivial⟩
theorem fl_RX12_147 : ba_fl RX12 147 11 29 false := ⟨_, _, _, rfl, by decide, (tm (i := 803) (by decide +kernel)), rfl, fun _ => Or.inr trivial⟩
theorem lk_RX12_134 : Cond.methodLink RX12 134 yX12_fault ∈ lw_tbl := (tm (i := 923) (by decide +kernel))
theorem mt_Mo_fault : ba_mt yX12_fault cX12_fault 2 (some .int) 0 := ⟨(tm (i := 883) (by decide +kernel)), (tm (i := 52) (by decide +kernel)), by decide +kernel, by decide +kernel, by decide +kernel⟩
theorem vt_Mo_fault : ba_vt yX12_fault := ⟨(tm (i := 881) (by decide +kernel)), (tm (i := 882) (by decide +kernel))⟩
theorem lk_RX12_138 : Cond.methodLink RX12 138 yX12_calls ∈ lw_tbl := (tm (i := 924) (by decide +kernel))
theorem mt_Mo_calls : ba_mt yX12_calls cX12_calls 2 none 0 := ⟨(tm (i := 927) (by decide +kernel)), (tm (i := 52) (by decide +kernel)), by decide +kernel, by decide +kernel, by decide +kernel⟩
theorem vt_Mo_calls : ba_vt yX12_calls := ⟨(tm (i := 926) (by decide +kernel)), (tm (i := 24) (by decide +kernel))⟩
theorem lk_RX12_150 : Cond.methodLink RX12 150 yX12_isPlayer ∈ lw_tbl := (tm (i := 932) (by decide +kernel))
theorem mt_Mo_isPlayer : ba_mt yX12_isPlayer cX12_isPlayer 2 (some .boolean) 1 := ⟨(tm (i := 935) (by decide +kernel)), (tm (i := 52) (by decide +kernel)), by decide +kernel, by decide +kernel, by decide +kernel⟩
theorem vt_Mo_isPlayer : ba_vt yX12_isPlayer := ⟨(tm (i := 934) (by decide +kernel)), (tm (i := 25) (by decide +kernel))⟩
theorem lk_RX12_153 : Cond.methodLink RX12 153 yX12_size ∈ lw_tbl := (tm (i := 944) (by decide +kernel))
theorem mt_Mo_size : ba_mt yX12_size cX12_size 1 (some .int) 1 := ⟨(tm (i := 946) (by decide +kernel)), (tm (i := 52) (by decide +kernel)), by decide +kernel, by decide +kernel, by decide +kernel⟩
theorem sv_Mo_size : Cond.static yX12_size ∈ lw_tbl := (tm (i := 945) (by decide +kernel))
theorem lk_RX12_156 : Cond.methodLink RX12 156 yX12_beatsOf ∈ lw_tbl := (tm (i := 940) (by decide +kernel))
theorem mt_Mo_beatsOf : ba_mt yX12_beatsOf cX12_beatsOf 6 (some .int) 3 := ⟨(tm (i := 943) (by decide +kernel)), (tm (i := 52) (by decide +kernel)), by decide +kernel, by decide +kernel, by decide +kernel⟩
theorem vt_Mo_beatsOf : ba_vt yX12_beatsOf := ⟨(tm (i := 942) (by decide +kernel)), (tm (i := 26) (by decide +kernel))⟩
theorem lk_RX12_160 : Cond.methodLink RX12 160 yX12_hides ∈ lw_tbl := (tm (i := 967) (by decide +kernel))
theorem mt_Mo_hides : ba_mt yX12_hides cX12_hides 7 (some .int) 3 := ⟨(tm (i := 970) (by decide +kernel)), (tm (i := 52) (by decide +kernel)), by decide +kernel, by decide +kernel, by decide +kernel⟩
theorem vt_Mo_hides : ba_vt yX12_hides := ⟨(tm (i := 969) (by decide +kernel)), (tm (i := 31) (by decide +kernel))⟩
theorem fl_RX12_167 : ba_fl RX12 167 11 18 false := ⟨_, _, _, rfl, by decide, (tm (i := 792) (by decide +kernel)), rfl, fun _ => Or.inr trivial⟩
theorem lk_RX12_170 : Cond.methodLink RX12 170 yX12_aims ∈ lw_tbl := (tm (i := 963) (by decide +kernel))
theorem mt_Mo_aims : ba_mt yX12_aims cX12_aims 9 none 3 := ⟨(tm (i := 966) (by decide +kernel)), (tm (i := 52) (by decide +kernel)), by decide +kernel, by decide +kernel, by decide +kernel⟩
theorem vt_Mo_aims : ba_vt yX12_aims := ⟨(tm (i := 965) (by decide +kernel)), (tm (i := 30) (by decide +kernel))⟩
theorem lk_RX12_163 : Cond.methodLink RX12 163 yX12_standsOf ∈ lw_tbl := (tm (i := 959) (by decide +kernel))
theorem mt_Mo_standsOf : ba_mt yX12_standsOf cX12_standsOf 10 (some .int) 4 := ⟨(tm (i := 962) (by decide +kernel)), (tm (i := 52) (by decide +kernel)), by decide +kernel, by decide +kernel, by decide +kernel⟩
theorem vt_Mo_standsOf : ba_vt yX12_standsOf := ⟨(tm (i := 961) (by decide +kernel)), (tm (i := 29) (by decide +kernel))⟩
theorem lk_RX12_174 : Cond.methodLink RX12 174 yX12_goBy ∈ lw_tbl := (tm (i := 955) (by decide +kernel))
theorem mt_Mo_goBy : ba_mt yX12_goBy cX12_goBy 6 none 3 := ⟨(tm (i := 958) (by decide +kernel)), (tm (i := 52) (by decide +kernel)), by decide +kernel, by decide +kernel, by decide +kernel⟩
theorem vt_Mo_goBy : ba_vt yX12_goBy := ⟨(tm (i := 957) (by decide +kernel)), (tm (i := 28) (by decide +kernel))⟩
theorem lk_RX12_177 : Cond.methodLink RX12 177 yX12_go ∈ lw_tbl := (tm (i := 951) (by decide +kernel))
theorem mt_Mo_go : ba_mt yX12_go cX12_go 2 none 1 := ⟨(tm (i := 954) (by decide +kernel)), (tm (i := 52) (by decide +kernel)), by decide +kernel, by decide +kernel, by decide +kernel⟩
theorem vt_Mo_go : ba_vt yX12_go := ⟨(tm (i := 953) (by decide +kernel)), (tm (i := 27) (by decide +kernel))⟩
theorem lk_RX12_181 : Cond.methodLink RX12 181 yX12_areApart ∈ lw_tbl := (tm (i := 975) (by decide +kernel))
theorem mt_Mo_areApart : ba_mt yX12_areApart cX12_areApart 3 (some .boolean) 2 := ⟨(tm (i := 978) (by decide +kernel)), (tm (i := 52) (by decide +kernel)), by decide +kernel, by decide +kernel, by decide +kernel⟩
theorem vt_Mo_areApart : ba_vt yX12_areApart := ⟨(tm (i := 977) (by decide +kernel)), (tm (i := 32) (by decide +kernel))⟩
theorem lk_RX12_185 : Cond.methodLink RX12 185 yX12_left ∈ lw_tbl := (tm (i := 1004) (by decide +kernel))
theorem mt_Mo_left : ba_mt yX12_left cX12_left 4 (some .int) 1 := ⟨(tm (i := 1007) (by decide +kernel)), (tm (i := 52) (by decide +kernel)), by decide +kernel, by decide +kernel, by decide +kernel⟩
theorem vt_Mo_left : ba_vt yX12_left := ⟨(tm (i := 1006) (by decide +kernel)), (tm (i := 34) (by decide +kernel))⟩
theorem lk_RX12_188 : Cond.methodLink RX12 188 yX12_then ∈ lw_tbl := (tm (i := 1008) (by decide +kernel))
theorem mt_Mo_then : ba_mt yX12_then cX12_then 5 (some .long) 3 := ⟨(tm (i := 1011) (by decide +kernel)), (tm (i := 52) (by decide +kernel)), by decide +kernel, by decide +kernel, by decide +kernel⟩
theorem vt_Mo_then : ba_vt yX12_then := ⟨(tm (i := 1010) (by decide +kernel)), (tm (i := 35) (by decide +kernel))⟩
theorem lk_RX12_192 : Cond.methodLink RX12 192 yX12_codeOf ∈ lw_tbl := (tm (i := 1016) (by decide +kernel))
theorem mt_Mo_codeOf : ba_mt yX12_codeOf cX12_codeOf 3 (some .int) 0 := ⟨(tm (i := 1019) (by decide +kernel)), (tm (i := 52) (by decide +kernel)), by decide +kernel, by decide +kernel, by decide +kernel⟩
theorem vt_Mo_codeOf : ba_vt yX12_codeOf := ⟨(tm (i := 1018) (by decide +kernel)), (tm (i := 37) (by decide +kernel))⟩
theorem cl_RX12_195 : Cond.constantLong RX12 195 (-1) ∈ lw_tbl := (tm (i := 999) (by decide +kernel))
theorem lk_RX12_197 : Cond.methodLink RX12 197 yX12_findParts ∈ lw_tbl := (tm (i := 1000) (by decide +kernel))
theorem mt_Mo_findParts : ba_mt yX12_findParts cX12_findParts 6 none 1 := ⟨(tm (i := 1003) (by decide +kernel)), (tm (i := 52) (by decide +kernel)), by decide +kernel, by decide +kernel, by decide +kernel⟩
theorem vt_Mo_findParts : ba_vt yX12_findParts := ⟨(tm (i := 1002) (by decide +kernel)), (tm (i := 33) (by decide +kernel))⟩
theorem lk_RX12_200 : Cond.methodLink RX12 200 yX12_part ∈ lw_tbl := (tm (i := 1012) (by decide +kernel))
theorem mt_Mo_part : ba_mt yX12_part cX12_part 14 (some .long) 2 := ⟨(tm (i := 1015) (by decide +kernel)), (tm (i := 52) (by decide +kernel)), by decide +kernel, by decide +kernel, by decide +kernel⟩
theorem vt_Mo_part : ba_vt yX12_part := ⟨(tm (i := 1014) (by decide +kernel)), (tm (i := 36) (by decide +kernel))⟩
theorem lk_RX12_204 : Cond.methodLink RX12 204 yX12_knows ∈ lw_tbl := (tm (i := 1028) (by decide +kernel))
theorem mt_Mo_knows : ba_mt yX12_knows cX12_knows 3 none 1 := ⟨(tm (i := 1031) (by decide +kernel)), (tm (i := 52) (by decide +kernel)), by decide +kernel, by decide +kernel, by decide +kernel⟩
theorem vt_Mo_knows : ba_vt yX12_knows := ⟨(tm (i := 1030) (by decide +kernel)), (tm (i := 38) (by decide +kernel))⟩
theorem cl_RX12_207 : Cond.constantLong RX12 207 (7919) ∈ lw_tbl := (tm (i := 1056) (by decide +kernel))
theorem cl_RX12_209 : Cond.constantLong RX12 209 (6151) ∈ lw_tbl := (tm (i := 1057) (by decide +kernel))
theorem cl_RX12_211 : Cond.constantLong RX12 211 (65521) ∈ lw_tbl := (tm (i := 1058) (by decide +kernel))
theorem cl_RL_13 : Cond.constantLong RL 13 (4294967295) ∈ lw_tbl := (tm (i := 1071) (by decide +kernel))
theorem lk_RL_15 : Cond.methodLink RL 15 yX11_write ∈ lw_tbl := (tm (i := 394) (by decide +kernel))
theorem mt_Ba_write : ba_mt yX11_write cX11_write 4 (some .int) 2 := ⟨(tm (i := 397) (by decide +kernel)), (tm (i := 40) (by decide +kernel)), by decide +kernel, by decide +kernel, by decide +kernel⟩
theorem vt_Ba_write : ba_vt yX11_write := ⟨(tm (i := 395) (by decide +kernel)), (tm (i := 396) (by decide +kernel))⟩
theorem lk_RL_19 : Cond.methodLink RL 19 yX12_write ∈ lw_tbl := (tm (i := 868) (by decide +kernel))
theorem mt_Mo_write : ba_mt yX12_write cX12_write 5 (some .int) 2 := ⟨(tm (i := 871) (by decide +kernel)), (tm (i := 52) (by decide +kernel)), by decide +kernel, by decide +kernel, by decide +kernel⟩
theorem vt_Mo_write : ba_vt yX12_write := ⟨(tm (i := 869) (by decide +kernel)), (tm (i := 870) (by decide +kernel))⟩
theorem lk_RL_20 : Cond.methodLink RL 20 yX11_wipe ∈ lw_tbl := (tm (i := 412) (by decide +kernel))
theorem mt_Ba_wipe : ba_mt yX11_wipe cX11_wipe 1 (some .int) 0 := ⟨(tm (i := 415) (by decide +kernel)), (tm (i := 40) (by decide +kernel)), by decide +kernel, by decide +kernel, by decide +kernel⟩
theorem vt_Ba_wipe : ba_vt yX11_wipe := ⟨(tm (i := 413) (by decide +kernel)), (tm (i := 414) (by decide +kernel))⟩
theorem lk_RL_24 : Cond.methodLink RL 24 yX12_wipe ∈ lw_tbl := (tm (i := 876) (by decide +kernel))
theorem mt_Mo_wipe : ba_mt yX12_wipe cX12_wipe 2 (some .int) 0 := ⟨(tm (i := 879) (by decide +kernel)), (tm (i := 52) (by decide +kernel)), by decide +kernel, by decide +kernel, by decide +kernel⟩
theorem vt_Mo_wipe : ba_vt yX12_wipe := ⟨(tm (i := 877) (by decide +kernel)), (tm (i := 878) (by decide +kernel))⟩
theorem lk_RL_25 : Cond.methodLink RL 25 yX11_fault ∈ lw_tbl := (tm (i := 420) (by decide +kernel))
theorem mt_Ba_fault : ba_mt yX11_fault cX11_fault 1 (some .int) 0 := ⟨(tm (i := 423) (by decide +kernel)), (tm (i := 40) (by decide +kernel)), by decide +kernel, by decide +kernel, by decide +kernel⟩
theorem vt_Ba_fault : ba_vt yX11_fault := ⟨(tm (i := 421) (by decide +kernel)), (tm (i := 422) (by decide +kernel))⟩
theorem lk_RL_28 : Cond.methodLink RL 28 yX12_fault ∈ lw_tbl := (tm (i := 880) (by decide +kernel))
theorem lk_RL_29 : Cond.methodLink RL 29 yX11_lay ∈ lw_tbl := (tm (i := 487) (by decide +kernel))
theorem mt_Ba_lay : ba_mt yX11_lay cX11_lay 1 (some .int) 0 := ⟨(tm (i := 490) (by decide +kernel)), (tm (i := 40) (by decide +kernel)), by decide +kernel, by decide +kernel, by decide +kernel⟩
theorem vt_Ba_lay : ba_vt yX11_lay := ⟨(tm (i := 488) (by decide +kernel)), (tm (i := 489) (by decide +kernel))⟩
theorem lk_RL_32 : Cond.methodLink RL 32 yX12_lay ∈ lw_tbl := (tm (i := 919) (by decide +kernel))
theorem mt_Mo_lay : ba_mt yX12_lay cX12_lay 2 (some .int) 0 := ⟨(tm (i := 922) (by decide +kernel)), (tm (i := 52) (by decide +kernel)), by decide +kernel, by decide +kernel, by decide +kernel⟩
theorem vt_Mo_lay : ba_vt yX12_lay := ⟨(tm (i := 920) (by decide +kernel)), (tm (i := 921) (by decide +kernel))⟩
theorem lk_RL_33 : Cond.methodLink RL 33 yX11_player ∈ lw_tbl := (tm (i := 521) (by decide +kernel))
theorem mt_Ba_player : ba_mt yX11_player cX11_player 4 (some .int) 2 := ⟨(tm (i := 524) (by decide +kernel)), (tm (i := 40) (by decide +kernel)), by decide +kernel, by decide +kernel, by decide +kernel⟩
theorem vt_Ba_player : ba_vt yX11_player := ⟨(tm (i := 522) (by decide +kernel)), (tm (i := 523) (by decide +kernel))⟩
theorem lk_RL_37 : Cond.methodLink RL 37 yX12_player ∈ lw_tbl := (tm (i := 928) (by decide +kernel))
theorem mt_Mo_player : ba_mt yX12_player cX12_player 3 (some .int) 2 := ⟨(tm (i := 931) (by decide +kernel)), (tm (i := 52) (by decide +kernel)), by decide +kernel, by decide +kernel, by decide +kernel⟩
theorem vt_Mo_player : ba_vt yX12_player := ⟨(tm (i := 929) (by decide +kernel)), (tm (i := 930) (by decide +kernel))⟩
theorem lk_RL_38 : Cond.methodLink RL 38 yX11_called ∈ lw_tbl := (tm (i := 527) (by decide +kernel))
theorem mt_Ba_called : ba_mt yX11_called cX11_called 4 (some .int) 2 := ⟨(tm (i := 530) (by decide +kernel)), (tm (i := 40) (by decide +kernel)), by decide +kernel, by decide +kernel, by decide +kernel⟩
theorem vt_Ba_called : ba_vt yX11_called := ⟨(tm (i := 528) (by decide +kernel)), (tm (i := 529) (by decide +kernel))⟩
theorem lk_RL_41 : Cond.methodLink RL 41 yX12_called ∈ lw_tbl := (tm (i := 936) (by decide +kernel))
theorem mt_Mo_called : ba_mt yX12_called cX12_called 3 (some .int) 2 := ⟨(tm (i := 939) (by decide +kernel)), (tm (i := 52) (by decide +kernel)), by decide +kernel, by decide +kernel, by decide +kernel⟩
theorem vt_Mo_called : ba_vt yX12_called := ⟨(tm (i := 937) (by decide +kernel)), (tm (i := 938) (by decide +kernel))⟩
theorem lk_RL_42 : Cond.methodLink RL 42 yX11_stands ∈ lw_tbl := (tm (i := 559) (by decide +kernel))
theorem mt_Ba_stands : ba_mt yX11_stands cX11_stands 3 (some .int) 2 := ⟨(tm (i := 562) (by decide +kernel)), (tm (i := 40) (by decide +kernel)), by decide +kernel, by decide +kernel, by decide +kernel⟩
theorem vt_Ba_stands : ba_vt yX11_stands := ⟨(tm (i := 560) (by decide +kernel)), (tm (i := 561) (by decide +kernel))⟩
theorem lk_RL_45 : Cond.methodLink RL 45 yX12_stands ∈ lw_tbl := (tm (i := 947) (by decide +kernel))
theorem mt_Mo_stands : ba_mt yX12_stands cX12_stands 3 (some .int) 2 := ⟨(tm (i := 950) (by decide +kernel)), (tm (i := 52) (by decide +kernel)), by decide +kernel, by decide +kernel, by decide +kernel⟩
theorem vt_Mo_stands : ba_vt yX12_stands := ⟨(tm (i := 948) (by decide +kernel)), (tm (i := 949) (by decide +kernel))⟩
theorem lk_RL_46 : Cond.methodLink RL 46 yX11_chance ∈ lw_tbl := (tm (i := 568) (by decide +kernel))
theorem mt_Ba_chance : ba_mt yX11_chance cX11_chance 3 (some .int) 2 := ⟨(tm (i := 571) (by decide +kernel)), (tm (i := 40) (by decide +kernel)), by decide +kernel, by decide +kernel, by decide +kernel⟩
theorem vt_Ba_chance : ba_vt yX11_chance := ⟨(tm (i := 569) (by decide +kernel)), (tm (i := 570) (by decide +kernel))⟩
theorem lk_RL_49 : Cond.methodLink RL 49 yX12_chance ∈ lw_tbl := (tm (i := 971) (by decide +kernel))
theorem mt_Mo_chance : ba_mt yX12_chance cX12_chance 3 (some .int) 2 := ⟨(tm (i := 974) (by decide +kernel)), (tm (i := 52) (by decide +kernel)), by decide +kernel, by decide +kernel, by decide +kernel⟩
theorem vt_Mo_chance : ba_vt yX12_chance := ⟨(tm (i := 972) (by decide +kernel)), (tm (i := 973) (by decide +kernel))⟩
theorem lk_RL_50 : Cond.methodLink RL 50 yX11_thrown ∈ lw_tbl := (tm (i := 584) (by decide +kernel))
theorem mt_Ba_thrown : ba_mt yX11_thrown cX11_thrown 4 (some .int) 2 := ⟨(tm (i := 587) (by decide +kernel)), (tm (i := 40) (by decide +kernel)), by decide +kernel, by decide +kernel, by decide +kernel⟩
theorem vt_Ba_thrown : ba_vt yX11_thrown := ⟨(tm (i := 585) (by decide +kernel)), (tm (i := 586) (by decide +kernel))⟩
theorem lk_RL_53 : Cond.methodLink RL 53 yX12_thrown ∈ lw_tbl := (tm (i := 979) (by decide +kernel))
theorem mt_Mo_thrown : ba_mt yX12_thrown cX12_thrown 3 (some .int) 2 := ⟨(tm (i := 982) (by decide +kernel)), (tm (i := 52) (by decide +kernel)), by decide +kernel, by decide +kernel, by decide +kernel⟩
theorem vt_Mo_thrown : ba_vt yX12_thrown := ⟨(tm (i := 980) (by decide +kernel)), (tm (i := 981) (by decide +kernel))⟩
theorem lk_RL_54 : Cond.methodLink RL 54 yX11_hidden ∈ lw_tbl := (tm (i := 593) (by decide +kernel))
theorem mt_Ba_hidden : ba_mt yX11_hidden cX11_hidden 3 (some .int) 2 := ⟨(tm (i := 596) (by decide +kernel)), (tm (i := 40) (by decide +kernel)), by decide +kernel, by decide +kernel, by decide +kernel⟩
theorem vt_Ba_hidden : ba_vt yX11_hidden := ⟨(tm (i := 594) (by decide +kernel)), (tm (i := 595) (by decide +kernel))⟩
theorem lk_RL_57 : Cond.methodLink RL 57 yX12_hidden ∈ lw_tbl := (tm (i := 983) (by decide +kernel))
theorem mt_Mo_hidden : ba_mt yX12_hidden cX12_hidden 3 (some .int) 2 := ⟨(tm (i := 986) (by decide +kernel)), (tm (i := 52) (by decide +kernel)), by decide +kernel, by decide +kernel, by decide +kernel⟩
theorem vt_Mo_hidden : ba_vt yX12_hidden := ⟨(tm (i := 984) (by decide +kernel)), (tm (i := 985) (by decide +kernel))⟩
theorem lk_RL_58 : Cond.methodLink RL 58 yX11_safe ∈ lw_tbl := (tm (i := 598) (by decide +kernel))
theorem mt_Ba_safe : ba_mt yX11_safe cX11_safe 3 (some .int) 2 := ⟨(tm (i := 601) (by decide +kernel)), (tm (i := 40) (by decide +kernel)), by decide +kernel, by decide +kernel, by decide +kernel⟩
theorem vt_Ba_safe : ba_vt yX11_safe := ⟨(tm (i := 599) (by decide +kernel)), (tm (i := 600) (by decide +kernel))⟩
theorem lk_RL_61 : Cond.methodLink RL 61 yX12_safe ∈ lw_tbl := (tm (i := 987) (by decide +kernel))
theorem mt_Mo_safe : ba_mt yX12_safe cX12_safe 6 (some .int) 2 := ⟨(tm (i := 990) (by decide +kernel)), (tm (i := 52) (by decide +kernel)), by decide +kernel, by decide +kernel, by decide +kernel⟩
theorem vt_Mo_safe : ba_vt yX12_safe := ⟨(tm (i := 988) (by decide +kernel)), (tm (i := 989) (by decide +kernel))⟩
theorem lk_RL_62 : Cond.methodLink RL 62 yX11_run ∈ lw_tbl := (tm (i := 613) (by decide +kernel))
theorem mt_Ba_run : ba_mt yX11_run cX11_run 8 (some .int) 3 := ⟨(tm (i := 616) (by decide +kernel)), (tm (i := 40) (by decide +kernel)), by decide +kernel, by decide +kernel, by decide +kernel⟩
theorem vt_Ba_run : ba_vt yX11_run := ⟨(tm (i := 614) (by decide +kernel)), (tm (i := 615) (by decide +kernel))⟩
theorem lk_RL_66 : Cond.methodLink RL 66 yX12_run ∈ lw_tbl := (tm (i := 991) (by decide +kernel))
theorem mt_Mo_run : ba_mt yX12_run cX12_run 10 (some .int) 3 := ⟨(tm (i := 994) (by decide +kernel)), (tm (i := 52) (by decide +kernel)), by decide +kernel, by decide +kernel, by decide +kernel⟩
theorem vt_Mo_run : ba_vt yX12_run := ⟨(tm (i := 992) (by decide +kernel)), (tm (i := 993) (by decide +kernel))⟩
theorem lk_RL_67 : Cond.methodLink RL 67 yX11_first ∈ lw_tbl := (tm (i := 618) (by decide +kernel))
theorem mt_Ba_first : ba_mt yX11_first cX11_first 4 (some .long) 3 := ⟨(tm (i := 621) (by decide +kernel)), (tm (i := 40) (by decide +kernel)), by decide +kernel, by decide +kernel, by decide +kernel⟩
theorem vt_Ba_first : ba_vt yX11_first := ⟨(tm (i := 619) (by decide +kernel)), (tm (i := 620) (by decide +kernel))⟩
theorem lk_RL_71 : Cond.methodLink RL 71 yX12_first ∈ lw_tbl := (tm (i := 995) (by decide +kernel))
theorem mt_Mo_first : ba_mt yX12_first cX12_first 4 (some .long) 3 := ⟨(tm (i := 998) (by decide +kernel)), (tm (i := 52) (by decide +kernel)), by decide +kernel, by decide +kernel, by decide +kernel⟩
theorem vt_Mo_first : ba_vt yX12_first := ⟨(tm (i := 996) (by decide +kernel)), (tm (i := 997) (by decide +kernel))⟩
theorem lk_RL_72 : Cond.methodLink RL 72 yX11_rounds ∈ lw_tbl := (tm (i := 675) (by decide +kernel))
theorem mt_Ba_rounds : ba_mt yX11_rounds cX11_rounds 3 (some .long) 2 := ⟨(tm (i := 678) (by decide +kernel)), (tm (i := 40) (by decide +kernel)), by decide +kernel, by decide +kernel, by decide +kernel⟩
theorem vt_Ba_rounds : ba_vt yX11_rounds := ⟨(tm (i := 676) (by decide +kernel)), (tm (i := 677) (by decide +kernel))⟩
theorem lk_RL_76 : Cond.methodLink RL 76 yX12_rounds ∈ lw_tbl := (tm (i := 1020) (by decide +kernel))
theorem mt_Mo_rounds : ba_mt yX12_rounds cX12_rounds 3 (some .long) 2 := ⟨(tm (i := 1023) (by decide +kernel)), (tm (i := 52) (by decide +kernel)), by decide +kernel, by decide +kernel, by decide +kernel⟩
theorem vt_Mo_rounds : ba_vt yX12_rounds := ⟨(tm (i := 1021) (by decide +kernel)), (tm (i := 1022) (by decide +kernel))⟩
theorem lk_RL_77 : Cond.methodLink RL 77 yX11_call ∈ lw_tbl := (tm (i := 679) (by decide +kernel))
theorem mt_Ba_call : ba_mt yX11_call cX11_call 5 (some .int) 4 := ⟨(tm (i := 682) (by decide +kernel)), (tm (i := 40) (by decide +kernel)), by decide +kernel, by decide +kernel, by decide +kernel⟩
theorem vt_Ba_call : ba_vt yX11_call := ⟨(tm (i := 680) (by decide +kernel)), (tm (i := 681) (by decide +kernel))⟩
theorem lk_RL_81 : Cond.methodLink RL 81 yX12_call ∈ lw_tbl := (tm (i := 1024) (by decide +kernel))
theorem mt_Mo_call : ba_mt yX12_call cX12_call 5 (some .int) 4 := ⟨(tm (i := 1027) (by decide +kernel)), (tm (i := 52) (by decide +kernel)), by decide +kernel, by decide +kernel, by decide +kernel⟩
theorem vt_Mo_call : ba_vt yX12_call := ⟨(tm (i := 1025) (by decide +kernel)), (tm (i := 1026) (by decide +kernel))⟩
theorem lk_RL_82 : Cond.methodLink RL 82 yX11_letters ∈ lw_tbl := (tm (i := 696) (by decide +kernel))
theorem mt_Ba_letters : ba_mt yX11_letters cX11_letters 5 (some .int) 2 := ⟨(tm (i := 699) (by decide +kernel)), (tm (i := 40) (by decide +kernel)), by decide +kernel, by decide +kernel, by decide +kernel⟩
theorem vt_Ba_letters : ba_vt yX11_letters := ⟨(tm (i := 697) (by decide +kernel)), (tm (i := 698) (by decide +kernel))⟩
theorem lk_RL_85 : Cond.methodLink RL 85 yX12_letters ∈ lw_tbl := (tm (i := 1032) (by decide +kernel))
theorem mt_Mo_letters : ba_mt yX12_letters cX12_letters 4 (some .int) 2 := ⟨(tm (i := 1035) (by decide +kernel)), (tm (i := 52) (by decide +kernel)), by decide +kernel, by decide +kernel, by decide +kernel⟩
theorem vt_Mo_letters : ba_vt yX12_letters := ⟨(tm (i := 1033) (by decide +kernel)), (tm (i := 1034) (by decide +kernel))⟩
theorem lk_RL_86 : Cond.methodLink RL 86 yX11_undo ∈ lw_tbl := (tm (i := 700) (by decide +kernel))
theorem mt_Ba_undo : ba_mt yX11_undo cX11_undo 1 (some .int) 0 := ⟨(tm (i := 703) (by decide +kernel)), (tm (i := 40) (by decide +kernel)), by decide +kernel, by decide +kernel, by decide +kernel⟩
theorem vt_Ba_undo : ba_vt yX11_undo := ⟨(tm (i := 701) (by decide +kernel)), (tm (i := 702) (by decide +kernel))⟩
theorem lk_RL_89 : Cond.methodLink RL 89 yX12_undo ∈ lw_tbl := (tm (i := 1036) (by decide +kernel))
theorem mt_Mo_undo : ba_mt yX12_undo cX12_undo 3 (some .int) 0 := ⟨(tm (i := 1039) (by decide +kernel)), (tm (i := 52) (by decide +kernel)), by decide +kernel, by decide +kernel, by decide +kernel⟩
theorem vt_Mo_undo : ba_vt yX12_undo := ⟨(tm (i := 1037) (by decide +kernel)), (tm (i := 1038) (by decide +kernel))⟩
theorem lk_RL_90 : Cond.methodLink RL 90 yX11_seen ∈ lw_tbl := (tm (i := 708) (by decide +kernel))
theorem mt_Ba_seen : ba_mt yX11_seen cX11_seen 4 (some .int) 3 := ⟨(tm (i := 711) (by decide +kernel)), (tm (i := 40) (by decide +kernel)), by decide +kernel, by decide +kernel, by decide +kernel⟩
theorem vt_Ba_seen : ba_vt yX11_seen := ⟨(tm (i := 709) (by decide +kernel)), (tm (i := 710) (by decide +kernel))⟩
theorem lk_RL_93 : Cond.methodLink RL 93 yX12_seen ∈ lw_tbl := (tm (i := 1040) (by decide +kernel))
theorem mt_Mo_seen : ba_mt yX12_seen cX12_seen 4 (some .int) 3 := ⟨(tm (i := 1043) (by decide +kernel)), (tm (i := 52) (by decide +kernel)), by decide +kernel, by decide +kernel, by decide +kernel⟩
theorem vt_Mo_seen : ba_vt yX12_seen := ⟨(tm (i := 1041) (by decide +kernel)), (tm (i := 1042) (by decide +kernel))⟩
theorem lk_RL_94 : Cond.methodLink RL 94 yX11_forget ∈ lw_tbl := (tm (i := 717) (by decide +kernel))
theorem mt_Ba_forget : ba_mt yX11_forget cX11_forget 1 (some .int) 0 := ⟨(tm (i := 720) (by decide +kernel)), (tm (i := 40) (by decide +kernel)), by decide +kernel, by decide +kernel, by decide +kernel⟩
theorem vt_Ba_forget : ba_vt yX11_forget := ⟨(tm (i := 718) (by decide +kernel)), (tm (i := 719) (by decide +kernel))⟩
theorem lk_RL_97 : Cond.methodLink RL 97 yX12_forget ∈ lw_tbl := (tm (i := 1044) (by decide +kernel))
theorem mt_Mo_forget : ba_mt yX12_forget cX12_forget 2 (some .int) 0 := ⟨(tm (i := 1047) (by decide +kernel)), (tm (i := 52) (by decide +kernel)), by decide +kernel, by decide +kernel, by decide +kernel⟩
theorem vt_Mo_forget : ba_vt yX12_forget := ⟨(tm (i := 1045) (by decide +kernel)), (tm (i := 1046) (by decide +kernel))⟩
theorem lk_RL_98 : Cond.methodLink RL 98 yX11_kinds ∈ lw_tbl := (tm (i := 721) (by decide +kernel))
theorem mt_Ba_kinds : ba_mt yX11_kinds cX11_kinds 2 (some .int) 1 := ⟨(tm (i := 724) (by decide +kernel)), (tm (i := 40) (by decide +kernel)), by decide +kernel, by decide +kernel, by decide +kernel⟩
theorem vt_Ba_kinds : ba_vt yX11_kinds := ⟨(tm (i := 722) (by decide +kernel)), (tm (i := 723) (by decide +kernel))⟩
theorem lk_RL_102 : Cond.methodLink RL 102 yX12_kinds ∈ lw_tbl := (tm (i := 1048) (by decide +kernel))
theorem mt_Mo_kinds : ba_mt yX12_kinds cX12_kinds 8 (some .int) 1 := ⟨(tm (i := 1051) (by decide +kernel)), (tm (i := 52) (by decide +kernel)), by decide +kernel, by decide +kernel, by decide +kernel⟩
theorem vt_Mo_kinds : ba_vt yX12_kinds := ⟨(tm (i := 1049) (by decide +kernel)), (tm (i := 1050) (by decide +kernel))⟩
theorem lk_RL_103 : Cond.methodLink RL 103 yX11_afternoon ∈ lw_tbl := (tm (i := 737) (by decide +kernel))
theorem mt_Ba_afternoon : ba_mt yX11_afternoon cX11_afternoon 3 (some .int) 2 := ⟨(tm (i := 740) (by decide +kernel)), (tm (i := 40) (by decide +kernel)), by decide +kernel, by decide +kernel, by decide +kernel⟩
theorem vt_Ba_afternoon : ba_vt yX11_afternoon := ⟨(tm (i := 738) (by decide +kernel)), (tm (i := 739) (by decide +kernel))⟩
theorem lk_RL_106 : Cond.methodLink RL 106 yX12_afternoon ∈ lw_tbl := (tm (i := 1052) (by decide +kernel))
theorem mt_Mo_afternoon : ba_mt yX12_afternoon cX12_afternoon 8 (some .int) 2 := ⟨(tm (i := 1055) (by decide +kernel)), (tm (i := 52) (by decide +kernel)), by decide +kernel, by decide +kernel, by decide +kernel⟩
theorem vt_Mo_afternoon : ba_vt yX12_afternoon := ⟨(tm (i := 1053) (by decide +kernel)), (tm (i := 1054) (by decide +kernel))⟩
theorem lk_RL_107 : Cond.methodLink RL 107 yX11_keep ∈ lw_tbl := (tm (i := 751) (by decide +kernel))
theorem mt_Ba_keep : ba_mt yX11_keep cX11_keep 1 (some .int) 0 := ⟨(tm (i := 754) (by decide +kernel)), (tm (i := 40) (by decide +kernel)), by decide +kernel, by decide +kernel, by decide +kernel⟩
theorem vt_Ba_keep : ba_vt yX11_keep := ⟨(tm (i := 752) (by decide +kernel)), (tm (i := 753) (by decide +kernel))⟩
theorem lk_RL_110 : Cond.methodLink RL 110 yX12_keep ∈ lw_tbl := (tm (i := 1059) (by decide +kernel))
theorem mt_Mo_keep : ba_mt yX12_keep cX12_keep 2 (some .int) 0 := ⟨(tm (i := 1062) (by decide +kernel)), (tm (i := 52) (by decide +kernel)), by decide +kernel, by decide +kernel, by decide +kernel⟩
theorem vt_Mo_keep : ba_vt yX12_keep := ⟨(tm (i := 1060) (by decide +kernel)), (tm (i := 1061) (by decide +kernel))⟩
theorem lk_RL_111 : Cond.methodLink RL 111 yX11_back ∈ lw_tbl := (tm (i := 755) (by decide +kernel))
theorem mt_Ba_back : ba_mt yX11_back cX11_back 1 (some .int) 0 := ⟨(tm (i := 758) (by decide +kernel)), (tm (i := 40) (by decide +kernel)), by decide +kernel, by decide +kernel, by decide +kernel⟩
theorem vt_Ba_back : ba_vt yX11_back := ⟨(tm (i := 756) (by decide +kernel)), (tm (i := 757) (by decide +kernel))⟩
theorem lk_RL_114 : Cond.methodLink RL 114 yX12_back ∈ lw_tbl := (tm (i := 1063) (by decide +kernel))
theorem mt_Mo_back : ba_mt yX12_back cX12_back 2 (some .int) 0 := ⟨(tm (i := 1066) (by decide +kernel)), (tm (i := 52) (by decide +kernel)), by decide +kernel, by decide +kernel, by decide +kernel⟩
theorem vt_Mo_back : ba_vt yX12_back := ⟨(tm (i := 1064) (by decide +kernel)), (tm (i := 1065) (by decide +kernel))⟩
theorem lk_RL_115 : Cond.methodLink RL 115 yX11_count ∈ lw_tbl := (tm (i := 759) (by decide +kernel))
theorem mt_Ba_count : ba_mt yX11_count cX11_count 2 (some .int) 1 := ⟨(tm (i := 762) (by decide +kernel)), (tm (i := 40) (by decide +kernel)), by decide +kernel, by decide +kernel, by decide +kernel⟩
theorem vt_Ba_count : ba_vt yX11_count := ⟨(tm (i := 760) (by decide +kernel)), (tm (i := 761) (by decide +kernel))⟩
theorem lk_RL_118 : Cond.methodLink RL 118 yX12_count ∈ lw_tbl := (tm (i := 1067) (by decide +kernel))
theorem mt_Mo_count : ba_mt yX12_count cX12_count 2 (some .int) 1 := ⟨(tm (i := 1070) (by decide +kernel)), (tm (i := 52) (by decide +kernel)), by decide +kernel, by decide +kernel, by decide +kernel⟩
theorem vt_Mo_count : ba_vt yX12_count := ⟨(tm (i := 1068) (by decide +kernel)), (tm (i := 1069) (by decide +kernel))⟩
theorem nw_RL_7 : ba_nw RL 7 10 := ⟨_, _, _, rfl, (tm (i := 55) (by decide +kernel)), (tm (i := 56) (by decide +kernel)), (tm (i := 40) (by decide +kernel))⟩
theorem lk_RL_9 : Cond.methodLink RL 9 yX11_init ∈ lw_tbl := (tm (i := 57) (by decide +kernel))
theorem mt_Ba_init : ba_mt yX11_init cX11_init 1 none 0 := ⟨(tm (i := 59) (by decide +kernel)), (tm (i := 40) (by decide +kernel)), by decide +kernel, by decide +kernel, by decide +kernel⟩
theorem iv_Ba_init : Cond.instanceMethod yX11_init ∈ lw_tbl ∧ yX11_init.name = "<init>" := ⟨(tm (i := 58) (by decide +kernel)), rfl⟩
theorem nw_RL_10 : ba_nw RL 10 11 := ⟨_, _, _, rfl, (tm (i := 763) (by decide +kernel)), (tm (i := 764) (by decide +kernel)), (tm (i := 52) (by decide +kernel))⟩
theorem lk_RL_12 : Cond.methodLink RL 12 yX12_init ∈ lw_tbl := (tm (i := 765) (by decide +kernel))
theorem mt_Mo_init : ba_mt yX12_init cX12_init 2 none 0 := ⟨(tm (i := 767) (by decide +kernel)), (tm (i := 52) (by decide +kernel)), by decide +kernel, by decide +kernel, by decide +kernel⟩
theorem iv_Mo_init : Cond.instanceMethod yX12_init ∈ lw_tbl ∧ yX12_init.name = "<init>" := ⟨(tm (i := 766) (by decide +kernel)), rfl⟩
