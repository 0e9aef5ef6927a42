theorem ck_of {o t : Nat} (h : o < 122) (h2 : (SFk o).1 = t) : ck SF o t = true := by
  have h1 : SF.2.1 o = SFk o := sf_k o h
  simp [ck, kT, h1, h2, sf_n.1, h]
theorem kl_of {o l : Nat} (h : o < 122) (h2 : (SFk o).2 = l) : kL SF o = l := by
  have h1 : SF.2.1 o = SFk o := sf_k o h
  simp [kL, h1, h2]
theorem bd_of {β : Type} {o l i : Nat} (hl : kL SF o = l) (h : i < l) (h2 : l < 2 ^ 31) (r : Option β) : bD SF o (nI i) r = r := by
  unfold bD
  rw [if_neg]
  rw [hl, nI_clamp (by omega)]
  rintro (h3 | h3)
  · exact absurd h3 (nI_pos (by omega))
  · omega
theorem ld_of {β : Type} {o k t b : Nat} {f : Nat → Option β} (h : gR SF o k = some b) (h2 : ck SF b t = true) : ldR SF o k t f = f b := by
  unfold ldR
  rw [h]
  exact if_pos h2
theorem ck_0 : ck SF 0 10 = true := ck_of (by decide) rfl
theorem cK_0 {β : Type} (r : Option β) : cK SF 0 10 r = r := if_pos ck_0
theorem ck_1 : ck SF 1 8 = true := ck_of (by decide) rfl
theorem cK_1 {β : Type} (r : Option β) : cK SF 1 8 r = r := if_pos ck_1
theorem ck_2 : ck SF 2 20 = true := ck_of (by decide) rfl
theorem cK_2 {β : Type} (r : Option β) : cK SF 2 20 r = r := if_pos ck_2
theorem kl_2 : kL SF 2 = 300 := kl_of (by decide) rfl
theorem bd_2 {β : Type} {i : Nat} (h : i < 300) (r : Option β) : bD SF 2 (nI i) r = r := bd_of kl_2 h (by decide) r
theorem ck_3 : ck SF 3 3 = true := ck_of (by decide) rfl
theorem cK_3 {β : Type} (r : Option β) : cK SF 3 3 r = r := if_pos ck_3
theorem ck_4 : ck SF 4 20 = true := ck_of (by decide) rfl
theorem cK_4 {β : Type} (r : Option β) : cK SF 4 20 r = r := if_pos ck_4
theorem kl_4 : kL SF 4 = 5 := kl_of (by decide) rfl
theorem bd_4 {β : Type} {i : Nat} (h : i < 5) (r : Option β) : bD SF 4 (nI i) r = r := bd_of kl_4 h (by decide) r
theorem ck_5 : ck SF 5 4 = true := ck_of (by decide) rfl
theorem cK_5 {β : Type} (r : Option β) : cK SF 5 4 r = r := if_pos ck_5
theorem ck_6 : ck SF 6 0 = true := ck_of (by decide) rfl
theorem cK_6 {β : Type} (r : Option β) : cK SF 6 0 r = r := if_pos ck_6
theorem ck_7 : ck SF 7 22 = true := ck_of (by decide) rfl
theorem cK_7 {β : Type} (r : Option β) : cK SF 7 22 r = r := if_pos ck_7
theorem kl_7 : kL SF 7 = 5 := kl_of (by decide) rfl
theorem bd_7 {β : Type} {i : Nat} (h : i < 5) (r : Option β) : bD SF 7 (nI i) r = r := bd_of kl_7 h (by decide) r
theorem ck_8 : ck SF 8 2 = true := ck_of (by decide) rfl
theorem cK_8 {β : Type} (r : Option β) : cK SF 8 2 r = r := if_pos ck_8
theorem ck_25 : ck SF 25 2 = true := ck_of (by decide) rfl
theorem cK_25 {β : Type} (r : Option β) : cK SF 25 2 r = r := if_pos ck_25
theorem ck_20 : ck SF 20 20 = true := ck_of (by decide) rfl
theorem cK_20 {β : Type} (r : Option β) : cK SF 20 20 r = r := if_pos ck_20
theorem kl_20 : kL SF 20 = 5 := kl_of (by decide) rfl
theorem bd_20 {β : Type} {i : Nat} (h : i < 5) (r : Option β) : bD SF 20 (nI i) r = r := bd_of kl_20 h (by decide) r
theorem ck_21 : ck SF 21 20 = true := ck_of (by decide) rfl
theorem cK_21 {β : Type} (r : Option β) : cK SF 21 20 r = r := if_pos ck_21
theorem kl_21 : kL SF 21 = 5 := kl_of (by decide) rfl
theorem bd_21 {β : Type} {i : Nat} (h : i < 5) (r : Option β) : bD SF 21 (nI i) r = r := bd_of kl_21 h (by decide) r
theorem ck_22 : ck SF 22 20 = true := ck_of (by decide) rfl
theorem cK_22 {β : Type} (r : Option β) : cK SF 22 20 r = r := if_pos ck_22
theorem kl_22 : kL SF 22 = 5 := kl_of (by decide) rfl
theorem bd_22 {β : Type} {i : Nat} (h : i < 5) (r : Option β) : bD SF 22 (nI i) r = r := bd_of kl_22 h (by decide) r
theorem ck_23 : ck SF 23 0 = true := ck_of (by decide) rfl
theorem cK_23 {β : Type} (r : Option β) : cK SF 23 0 r = r := if_pos ck_23
theorem ck_24 : ck SF 24 22 = true := ck_of (by decide) rfl
theorem cK_24 {β : Type} (r : Option β) : cK SF 24 22 r = r := if_pos ck_24
theorem kl_24 : kL SF 24 = 5 := kl_of (by decide) rfl
theorem bd_24 {β : Type} {i : Nat} (h : i < 5) (r : Option β) : bD SF 24 (nI i) r = r := bd_of kl_24 h (by decide) r
theorem ck_37 : ck SF 37 5 = true := ck_of (by decide) rfl
theorem cK_37 {β : Type} (r : Option β) : cK SF 37 5 r = r := if_pos ck_37
theorem ck_38 : ck SF 38 1 = true := ck_of (by decide) rfl
theorem cK_38 {β : Type} (r : Option β) : cK SF 38 1 r = r := if_pos ck_38
theorem ck_39 : ck SF 39 20 = true := ck_of (by decide) rfl
theorem cK_39 {β : Type} (r : Option β) : cK SF 39 20 r = r := if_pos ck_39
theorem kl_39 : kL SF 39 = 5 := kl_of (by decide) rfl
theorem bd_39 {β : Type} {i : Nat} (h : i < 5) (r : Option β) : bD SF 39 (nI i) r = r := bd_of kl_39 h (by decide) r
theorem ck_40 : ck SF 40 20 = true := ck_of (by decide) rfl
theorem cK_40 {β : Type} (r : Option β) : cK SF 40 20 r = r := if_pos ck_40
theorem kl_40 : kL SF 40 = 5 := kl_of (by decide) rfl
theorem bd_40 {β : Type} {i : Nat} (h : i < 5) (r : Option β) : bD SF 40 (nI i) r = r := bd_of kl_40 h (by decide) r
theorem ck_41 : ck SF 41 20 = true := ck_of (by decide) rfl
theorem cK_41 {β : Type} (r : Option β) : cK SF 41 20 r = r := if_pos ck_41
theorem kl_41 : kL SF 41 = 5 := kl_of (by decide) rfl
theorem bd_41 {β : Type} {i : Nat} (h : i < 5) (r : Option β) : bD SF 41 (nI i) r = r := bd_of kl_41 h (by decide) r
theorem ck_42 : ck SF 42 21 = true := ck_of (by decide) rfl
theorem cK_42 {β : Type} (r : Option β) : cK SF 42 21 r = r := if_pos ck_42
theorem kl_42 : kL SF 42 = 5120 := kl_of (by decide) rfl
theorem bd_42 {β : Type} {i : Nat} (h : i < 5120) (r : Option β) : bD SF 42 (nI i) r = r := bd_of kl_42 h (by decide) r
theorem ck_43 : ck SF 43 21 = true := ck_of (by decide) rfl
theorem cK_43 {β : Type} (r : Option β) : cK SF 43 21 r = r := if_pos ck_43
theorem kl_43 : kL SF 43 = 5 := kl_of (by decide) rfl
theorem bd_43 {β : Type} {i : Nat} (h : i < 5) (r : Option β) : bD SF 43 (nI i) r = r := bd_of kl_43 h (by decide) r
theorem ck_44 : ck SF 44 7 = true := ck_of (by decide) rfl
theorem cK_44 {β : Type} (r : Option β) : cK SF 44 7 r = r := if_pos ck_44
theorem ck_45 : ck SF 45 20 = true := ck_of (by decide) rfl
theorem cK_45 {β : Type} (r : Option β) : cK SF 45 20 r = r := if_pos ck_45
theorem kl_45 : kL SF 45 = 8 := kl_of (by decide) rfl
theorem bd_45 {β : Type} {i : Nat} (h : i < 8) (r : Option β) : bD SF 45 (nI i) r = r := bd_of kl_45 h (by decide) r
theorem ck_46 : ck SF 46 20 = true := ck_of (by decide) rfl
theorem cK_46 {β : Type} (r : Option β) : cK SF 46 20 r = r := if_pos ck_46
theorem kl_46 : kL SF 46 = 8 := kl_of (by decide) rfl
theorem bd_46 {β : Type} {i : Nat} (h : i < 8) (r : Option β) : bD SF 46 (nI i) r = r := bd_of kl_46 h (by decide) r
theorem ck_47 : ck SF 47 20 = true := ck_of (by decide) rfl
theorem cK_47 {β : Type} (r : Option β) : cK SF 47 20 r = r := if_pos ck_47
theorem kl_47 : kL SF 47 = 8 := kl_of (by decide) rfl
theorem bd_47 {β : Type} {i : Nat} (h : i < 8) (r : Option β) : bD SF 47 (nI i) r = r := bd_of kl_47 h (by decide) r
theorem ck_48 : ck SF 48 6 = true := ck_of (by decide) rfl
theorem cK_48 {β : Type} (r : Option β) : cK SF 48 6 r = r := if_pos ck_48
theorem ck_49 : ck SF 49 23 = true := ck_of (by decide) rfl
theorem cK_49 {β : Type} (r : Option β) : cK SF 49 23 r = r := if_pos ck_49
theorem kl_49 : kL SF 49 = 40 := kl_of (by decide) rfl
theorem bd_49 {β : Type} {i : Nat} (h : i < 40) (r : Option β) : bD SF 49 (nI i) r = r := bd_of kl_49 h (by decide) r
theorem ck_90 : ck SF 90 6 = true := ck_of (by decide) rfl
theorem cK_90 {β : Type} (r : Option β) : cK SF 90 6 r = r := if_pos ck_90
theorem ck_91 : ck SF 91 23 = true := ck_of (by decide) rfl
theorem cK_91 {β : Type} (r : Option β) : cK SF 91 23 r = r := if_pos ck_91
theorem kl_91 : kL SF 91 = 10 := kl_of (by decide) rfl
theorem bd_91 {β : Type} {i : Nat} (h : i < 10) (r : Option β) : bD SF 91 (nI i) r = r := bd_of kl_91 h (by decide) r
theorem ck_102 : ck SF 102 11 = true := ck_of (by decide) rfl
theorem cK_102 {β : Type} (r : Option β) : cK SF 102 11 r = r := if_pos ck_102
theorem ck_103 : ck SF 103 20 = true := ck_of (by decide) rfl
theorem cK_103 {β : Type} (r : Option β) : cK SF 103 20 r = r := if_pos ck_103
theorem kl_103 : kL SF 103 = 25 := kl_of (by decide) rfl
theorem bd_103 {β : Type} {i : Nat} (h : i < 25) (r : Option β) : bD SF 103 (nI i) r = r := bd_of kl_103 h (by decide) r
theorem ck_104 : ck SF 104 20 = true := ck_of (by decide) rfl
theorem cK_104 {β : Type} (r : Option β) : cK SF 104 20 r = r := if_pos ck_104
theorem kl_104 : kL SF 104 = 20 := kl_of (by decide) rfl
theorem bd_104 {β : Type} {i : Nat} (h : i < 20) (r : Option β) : bD SF 104 (nI i) r = r := bd_of kl_104 h (by decide) r
theorem ck_105 : ck SF 105 20 = true := ck_of (by decide) rfl
theorem cK_105 {β : Type} (r : Option β) : cK SF 105 20 r = r := if_pos ck_105
theorem kl_105 : kL SF 105 = 300 := kl_of (by decide) rfl
theorem bd_105 {β : Type} {i : Nat} (h : i < 300) (r : Option β) : bD SF 105 (nI i) r = r := bd_of kl_105 h (by decide) r
theorem ck_106 : ck SF 106 20 = true := ck_of (by decide) rfl
theorem cK_106 {β : Type} (r : Option β) : cK SF 106 20 r = r := if_pos ck_106
theorem kl_106 : kL SF 106 = 5 := kl_of (by decide) rfl
theorem bd_106 {β : Type} {i : Nat} (h : i < 5) (r : Option β) : bD SF 106 (nI i) r = r := bd_of kl_106 h (by decide) r
theorem ck_107 : ck SF 107 20 = true := ck_of (by decide) rfl
theorem cK_107 {β : Type} (r : Option β) : cK SF 107 20 r = r := if_pos ck_107
theorem kl_107 : kL SF 107 = 25 := kl_of (by decide) rfl
theorem bd_107 {β : Type} {i : Nat} (h : i < 25) (r : Option β) : bD SF 107 (nI i) r = r := bd_of kl_107 h (by decide) r
theorem ck_108 : ck SF 108 20 = true := ck_of (by decide) rfl
theorem cK_108 {β : Type} (r : Option β) : cK SF 108 20 r = r := if_pos ck_108
theorem kl_108 : kL SF 108 = 15 := kl_of (by decide) rfl
theorem bd_108 {β : Type} {i : Nat} (h : i < 15) (r : Option β) : bD SF 108 (nI i) r = r := bd_of kl_108 h (by decide) r
theorem ck_109 : ck SF 109 20 = true := ck_of (by decide) rfl
theorem cK_109 {β : Type} (r : Option β) : cK SF 109 20 r = r := if_pos ck_109
theorem kl_109 : kL SF 109 = 5 := kl_of (by decide) rfl
theorem bd_109 {β : Type} {i : Nat} (h : i < 5) (r : Option β) : bD SF 109 (nI i) r = r := bd_of kl_109 h (by decide) r
theorem ck_110 : ck SF 110 20 = true := ck_of (by decide) rfl
theorem cK_110 {β : Type} (r : Option β) : cK SF 110 20 r = r := if_pos ck_110
theorem kl_110 : kL SF 110 = 5 := kl_of (by decide) rfl
theorem bd_110 {β : Type} {i : Nat} (h : i < 5) (r : Option β) : bD SF 110 (nI i) r = r := bd_of kl_110 h (by decide) r
theorem ck_111 : ck SF 111 20 = true := ck_of (by decide) rfl
theorem cK_111 {β : Type} (r : Option β) : cK SF 111 20 r = r := if_pos ck_111
theorem kl_111 : kL SF 111 = 5 := kl_of (by decide) rfl
theorem bd_111 {β : Type} {i : Nat} (h : i < 5) (r : Option β) : bD SF 111 (nI i) r = r := bd_of kl_111 h (by decide) r
theorem ck_112 : ck SF 112 20 = true := ck_of (by decide) rfl
theorem cK_112 {β : Type} (r : Option β) : cK SF 112 20 r = r := if_pos ck_112
theorem kl_112 : kL SF 112 = 5 := kl_of (by decide) rfl
theorem bd_112 {β : Type} {i : Nat} (h : i < 5) (r : Option β) : bD SF 112 (nI i) r = r := bd_of kl_112 h (by decide) r
theorem ck_113 : ck SF 113 20 = true := ck_of (by decide) rfl
theorem cK_113 {β : Type} (r : Option β) : cK SF 113 20 r = r := if_pos ck_113
theorem kl_113 : kL SF 113 = 4 := kl_of (by decide) rfl
theorem bd_113 {β : Type} {i : Nat} (h : i < 4) (r : Option β) : bD SF 113 (nI i) r = r := bd_of kl_113 h (by decide) r
theorem ck_114 : ck SF 114 21 = true := ck_of (by decide) rfl
theorem cK_114 {β : Type} (r : Option β) : cK SF 114 21 r = r := if_pos ck_114
theorem kl_114 : kL SF 114 = 18 := kl_of (by decide) rfl
theorem bd_114 {β : Type} {i : Nat} (h : i < 18) (r : Option β) : bD SF 114 (nI i) r = r := bd_of kl_114 h (by decide) r
theorem ck_115 : ck SF 115 21 = true := ck_of (by decide) rfl
theorem cK_115 {β : Type} (r : Option β) : cK SF 115 21 r = r := if_pos ck_115
theorem kl_115 : kL SF 115 = 5120 := kl_of (by decide) rfl
theorem bd_115 {β : Type} {i : Nat} (h : i < 5120) (r : Option β) : bD SF 115 (nI i) r = r := bd_of kl_115 h (by decide) r
theorem ck_116 : ck SF 116 20 = true := ck_of (by decide) rfl
theorem cK_116 {β : Type} (r : Option β) : cK SF 116 20 r = r := if_pos ck_116
theorem kl_116 : kL SF 116 = 5 := kl_of (by decide) rfl
theorem bd_116 {β : Type} {i : Nat} (h : i < 5) (r : Option β) : bD SF 116 (nI i) r = r := bd_of kl_116 h (by decide) r
theorem ck_117 : ck SF 117 20 = true := ck_of (by decide) rfl
theorem cK_117 {β : Type} (r : Option β) : cK SF 117 20 r = r := if_pos ck_117
theorem kl_117 : kL SF 117 = 5 := kl_of (by decide) rfl
theorem bd_117 {β : Type} {i : Nat} (h : i < 5) (r : Option β) : bD SF 117 (nI i) r = r := bd_of kl_117 h (by decide) r
theorem ck_118 : ck SF 118 20 = true := ck_of (by decide) rfl
theorem cK_118 {β : Type} (r : Option β) : cK SF 118 20 r = r := if_pos ck_118
theorem kl_118 : kL SF 118 = 40 := kl_of (by decide) rfl
theorem bd_118 {β : Type} {i : Nat} (h : i < 40) (r : Option β) : bD SF 118 (nI i) r = r := bd_of kl_118 h (by decide) r
theorem ck_119 : ck SF 119 20 = true := ck_of (by decide) rfl
theorem cK_119 {β : Type} (r : Option β) : cK SF 119 20 r = r := if_pos ck_119
theorem kl_119 : kL SF 119 = 24 := kl_of (by decide) rfl
theorem bd_119 {β : Type} {i : Nat} (h : i < 24) (r : Option β) : bD SF 119 (nI i) r = r := bd_of kl_119 h (by decide) r
theorem ck_120 : ck SF 120 20 = true := ck_of (by decide) rfl
theorem cK_120 {β : Type} (r : Option β) : cK SF 120 20 r = r := if_pos ck_120
theorem kl_120 : kL SF 120 = 5 := kl_of (by decide) rfl
theorem bd_120 {β : Type} {i : Nat} (h : i < 5) (r : Option β) : bD SF 120 (nI i) r = r := bd_of kl_120 h (by decide) r
theorem ck_121 : ck SF 121 20 = true := ck_of (by decide) rfl
theorem cK_121 {β : Type} (r : Option β) : cK SF 121 20 r = r := if_pos ck_121
theorem kl_121 : kL SF 121 = 40 := kl_of (by decide) rfl
theorem bd_121 {β : Type} {i : Nat} (h : i < 40) (r : Option β) : bD SF 121 (nI i) r = r := bd_of kl_121 h (by decide) r
theorem gr_0_0 : gR SF 0 0 = some 1 := sf_r 0 (by decide) 0 (by decide)
theorem ld_0_0 {β : Type} (f : Nat → Option β) : ldR SF 0 0 8 f = f 1 := ld_of gr_0_0 ck_1
theorem gr_0_1 : gR SF 0 1 = some 3 := sf_r 0 (by decide) 1 (by decide)
theorem ld_0_1 {β : Type} (f : Nat → Option β) : ldR SF 0 1 3 f = f 3 := ld_of gr_0_1 ck_3
theorem gr_0_2 : gR SF 0 2 = some 5 := sf_r 0 (by decide) 2 (by decide)
theorem ld_0_2 {β : Type} (f : Nat → Option β) : ldR SF 0 2 4 f = f 5 := ld_of gr_0_2 ck_5
theorem gr_0_3 : gR SF 0 3 = some 6 := sf_r 0 (by decide) 3 (by decide)
theorem ld_0_3 {β : Type} (f : Nat → Option β) : ldR SF 0 3 0 f = f 6 := ld_of gr_0_3 ck_6
theorem gr_0_4 : gR SF 0 4 = some 23 := sf_r 0 (by decide) 4 (by decide)
theorem ld_0_4 {β : Type} (f : Nat → Option β) : ldR SF 0 4 0 f = f 23 := ld_of gr_0_4 ck_23
theorem gr_0_5 : gR SF 0 5 = some 37 := sf_r 0 (by decide) 5 (by decide)
theorem ld_0_5 {β : Type} (f : Nat → Option β) : ldR SF 0 5 5 f = f 37 := ld_of gr_0_5 ck_37
theorem gr_0_6 : gR SF 0 6 = some 38 := sf_r 0 (by decide) 6 (by decide)
theorem ld_0_6 {β : Type} (f : Nat → Option β) : ldR SF 0 6 1 f = f 38 := ld_of gr_0_6 ck_38
theorem gr_0_7 : gR SF 0 7 = some 44 := sf_r 0 (by decide) 7 (by decide)
theorem ld_0_7 {β : Type} (f : Nat → Option β) : ldR SF 0 7 7 f = f 44 := ld_of gr_0_7 ck_44
theorem gr_0_8 : gR SF 0 8 = some 48 := sf_r 0 (by decide) 8 (by decide)
theorem ld_0_8 {β : Type} (f : Nat → Option β) : ldR SF 0 8 6 f = f 48 := ld_of gr_0_8 ck_48
theorem gr_0_9 : gR SF 0 9 = some 90 := sf_r 0 (by decide) 9 (by decide)
theorem ld_0_9 {β : Type} (f : Nat → Option β) : ldR SF 0 9 6 f = f 90 := ld_of gr_0_9 ck_90
theorem gr_1_0 : gR SF 1 0 = some 2 := sf_r 1 (by decide) 0 (by decide)
theorem ld_1_0 {β : Type} (f : Nat → Option β) : ldR SF 1 0 20 f = f 2 := ld_of gr_1_0 ck_2
theorem gr_3_0 : gR SF 3 0 = some 4 := sf_r 3 (by decide) 0 (by decide)
theorem ld_3_0 {β : Type} (f : Nat → Option β) : ldR SF 3 0 20 f = f 4 := ld_of gr_3_0 ck_4
theorem gr_5_0 : gR SF 5 0 = some 6 := sf_r 5 (by decide) 0 (by decide)
theorem ld_5_0 {β : Type} (f : Nat → Option β) : ldR SF 5 0 0 f = f 6 := ld_of gr_5_0 ck_6
theorem gr_5_1 : gR SF 5 1 = some 20 := sf_r 5 (by decide) 1 (by decide)
theorem ld_5_1 {β : Type} (f : Nat → Option β) : ldR SF 5 1 20 f = f 20 := ld_of gr_5_1 ck_20
theorem gr_5_2 : gR SF 5 2 = some 21 := sf_r 5 (by decide) 2 (by decide)
theorem ld_5_2 {β : Type} (f : Nat → Option β) : ldR SF 5 2 20 f = f 21 := ld_of gr_5_2 ck_21
theorem gr_5_3 : gR SF 5 3 = some 22 := sf_r 5 (by decide) 3 (by decide)
theorem ld_5_3 {β : Type} (f : Nat → Option β) : ldR SF 5 3 20 f = f 22 := ld_of gr_5_3 ck_22
theorem gr_6_0 : gR SF 6 0 = some 7 := sf_r 6 (by decide) 0 (by decide)
theorem ld_6_0 {β : Type} (f : Nat → Option β) : ldR SF 6 0 22 f = f 7 := ld_of gr_6_0 ck_7
theorem gr_6_1 : gR SF 6 1 = some 8 := sf_r 6 (by decide) 1 (by decide)
theorem ld_6_1 {β : Type} (f : Nat → Option β) : ldR SF 6 1 2 f = f 8 := ld_of gr_6_1 ck_8
theorem gr_23_0 : gR SF 23 0 = some 24 := sf_r 23 (by decide) 0 (by decide)
theorem ld_23_0 {β : Type} (f : Nat → Option β) : ldR SF 23 0 22 f = f 24 := ld_of gr_23_0 ck_24
theorem gr_23_1 : gR SF 23 1 = some 25 := sf_r 23 (by decide) 1 (by decide)
theorem ld_23_1 {β : Type} (f : Nat → Option β) : ldR SF 23 1 2 f = f 25 := ld_of gr_23_1 ck_25
theorem gr_38_0 : gR SF 38 0 = some 39 := sf_r 38 (by decide) 0 (by decide)
theorem ld_38_0 {β : Type} (f : Nat → Option β) : ldR SF 38 0 20 f = f 39 := ld_of gr_38_0 ck_39
theorem gr_38_1 : gR SF 38 1 = some 40 := sf_r 38 (by decide) 1 (by decide)
theorem ld_38_1 {β : Type} (f : Nat → Option β) : ldR SF 38 1 20 f = f 40 := ld_of gr_38_1 ck_40
theorem gr_38_2 : gR SF 38 2 = some 41 := sf_r 38 (by decide) 2 (by decide)
theorem ld_38_2 {β : Type} (f : Nat → Option β) : ldR SF 38 2 20 f = f 41 := ld_of gr_38_2 ck_41
theorem gr_38_3 : gR SF 38 3 = some 42 := sf_r 38 (by decide) 3 (by decide)
theorem ld_38_3 {β : Type} (f : Nat → Option β) : ldR SF 38 3 21 f = f 42 := ld_of gr_38_3 ck_42
theorem gr_38_4 : gR SF 38 4 = some 43 := sf_r 38 (by decide) 4 (by decide)
theorem ld_38_4 {β : Type} (f : Nat → Option β) : ldR SF 38 4 21 f = f 43 := ld_of gr_38_4 ck_43
theorem gr_44_0 : gR SF 44 0 = some 45 := sf_r 44 (by decide) 0 (by decide)
theorem ld_44_0 {β : Type} (f : Nat → Option β) : ldR SF 44 0 20 f = f 45 := ld_of gr_44_0 ck_45
theorem gr_44_1 : gR SF 44 1 = some 46 := sf_r 44 (by decide) 1 (by decide)
theorem ld_44_1 {β : Type} (f : Nat → Option β) : ldR SF 44 1 20 f = f 46 := ld_of gr_44_1 ck_46
theorem gr_44_2 : gR SF 44 2 = some 47 := sf_r 44 (by decide) 2 (by decide)
theorem ld_44_2 {β : Type} (f : Nat → Option β) : ldR SF 44 2 20 f = f 47 := ld_of gr_44_2 ck_47
theorem gr_48_1 : gR SF 48 1 = some 49 := sf_r 48 (by decide) 1 (by decide)
theorem ld_48_1 {β : Type} (f : Nat → Option β) : ldR SF 48 1 23 f = f 49 := ld_of gr_48_1 ck_49
theorem gr_90_1 : gR SF 90 1 = some 91 := sf_r 90 (by decide) 1 (by decide)
theorem ld_90_1 {β : Type} (f : Nat → Option β) : ldR SF 90 1 23 f = f 91 := ld_of gr_90_1 ck_91
theorem gr_102_3 : gR SF 102 3 = some 103 := sf_r 102 (by decide) 3 (by decide)
theorem ld_102_3 {β : Type} (f : Nat → Option β) : ldR SF 102 3 20 f = f 103 := ld_of gr_102_3 ck_103
theorem gr_102_4 : gR SF 102 4 = some 104 := sf_r 102 (by decide) 4 (by decide)
theorem ld_102_4 {β : Type} (f : Nat → Option β) : ldR SF 102 4 20 f = f 104 := ld_of gr_102_4 ck_104
theorem gr_102_5 : gR SF 102 5 = some 105 := sf_r 102 (by decide) 5 (by decide)
theorem ld_102_5 {β : Type} (f : Nat → Option β) : ldR SF 102 5 20 f = f 105 := ld_of gr_102_5 ck_105
theorem gr_102_8 : gR SF 102 8 = some 106 := sf_r 102 (by decide) 8 (by decide)
theorem ld_102_8 {β : Type} (f : Nat → Option β) : ldR SF 102 8 20 f = f 106 := ld_of gr_102_8 ck_106
theorem gr_102_12 : gR SF 102 12 = some 107 := sf_r 102 (by decide) 12 (by decide)
theorem ld_102_12 {β : Type} (f : Nat → Option β) : ldR SF 102 12 20 f = f 107 := ld_of gr_102_12 ck_107
theorem gr_102_13 : gR SF 102 13 = some 108 := sf_r 102 (by decide) 13 (by decide)
theorem ld_102_13 {β : Type} (f : Nat → Option β) : ldR SF 102 13 20 f = f 108 := ld_of gr_102_13 ck_108
theorem gr_102_14 : gR SF 102 14 = some 109 := sf_r 102 (by decide) 14 (by decide)
theorem ld_102_14 {β : Type} (f : Nat → Option β) : ldR SF 102 14 20 f = f 109 := ld_of gr_102_14 ck_109
theorem gr_102_15 : gR SF 102 15 = some 110 := sf_r 102 (by decide) 15 (by decide)
theorem ld_102_15 {β : Type} (f : Nat → Option β) : ldR SF 102 15 20 f = f 110 := ld_of gr_102_15 ck_110
theorem gr_102_16 : gR SF 102 16 = some 111 := sf_r 102 (by decide) 16 (by decide)
theorem ld_102_16 {β : Type} (f : Nat → Option β) : ldR SF 102 16 20 f = f 111 := ld_of gr_102_16 ck_111
theorem gr_102_17 : gR SF 102 17 = some 112 := sf_r 102 (by decide) 17 (by decide)
theorem ld_102_17 {β : Type} (f : Nat → Option β) : ldR SF 102 17 20 f = f 112 := ld_of gr_102_17 ck_112
theorem gr_102_19 : gR SF 102 19 = some 113 := sf_r 102 (by decide) 19 (by decide)
theorem ld_102_19 {β : Type} (f : Nat → Option β) : ldR SF 102 19 20 f = f 113 := ld_of gr_102_19 ck_113
theorem gr_102_20 : gR SF 102 20 = some 114 := sf_r 102 (by decide) 20 (by decide)
theorem ld_102_20 {β : Type} (f : Nat → Option β) : ldR SF 102 20 21 f = f 114 := ld_of gr_102_20 ck_114
theorem gr_102_21 : gR SF 102 21 = some 115 := sf_r 102 (by decide) 21 (by decide)
theorem ld_102_21 {β : Type} (f : Nat → Option β) : ldR SF 102 21 21 f = f 115 := ld_of gr_102_21 ck_115
theorem gr_102_22 : gR SF 102 22 = some 116 := sf_r 102 (by decide) 22 (by decide)
theorem ld_102_22 {β : Type} (f : Nat → Option β) : ldR SF 102 22 20 f = f 116 := ld_of gr_102_22 ck_116
theorem gr_102_23 : gR SF 102 23 = some 117 := sf_r 102 (by decide) 23 (by decide)
theorem ld_102_23 {β : Type} (f : Nat → Option β) : ldR SF 102 23 20 f = f 117 := ld_of gr_102_23 ck_117
theorem gr_102_25 : gR SF 102 25 = some 118 := sf_r 102 (by decide) 25 (by decide)
theorem ld_102_25 {β : Type} (f : Nat → Option β) : ldR SF 102 25 20 f = f 118 := ld_of gr_102_25 ck_118
theorem gr_102_27 : gR SF 102 27 = some 119 := sf_r 102 (by decide) 27 (by decide)
theorem ld_102_27 {β : Type} (f : Nat → Option β) : ldR SF 102 27 20 f = f 119 := ld_of gr_102_27 ck_119
theorem gr_102_28 : gR SF 102 28 = some 120 := sf_r 102 (by decide) 28 (by decide)
theorem ld_102_28 {β : Type} (f : Nat → Option β) : ldR SF 102 28 20 f = f 120 := ld_of gr_102_28 ck_120
theorem gr_102_30 : gR SF 102 30 = some 121 := sf_r 102 (by decide) 30 (by decide)
theorem ld_102_30 {β : Type} (f : Nat → Option β) : ldR SF 102 30 20 f = f 121 := ld_of gr_102_30 ck_121
theorem ck_pl {i : Nat} (h : i < 5) : ck SF (10 + 2 * i) 2 = true := by
  match i, h with
  | 0, _ => exact ck_of (by decide) rfl
  | 1, _ => exact ck_of (by decide) rfl
  | 2, _ => exact ck_of (by decide) rfl
  | 3, _ => exact ck_of (by decide) rfl
  | 4, _ => exact ck_of (by decide) rfl
theorem ck_to {i : Nat} (h : i < 5) : ck SF (11 + 2 * i) 9 = true := by
  match i, h with
  | 0, _ => exact ck_of (by decide) rfl
  | 1, _ => exact ck_of (by decide) rfl
  | 2, _ => exact ck_of (by decide) rfl
  | 3, _ => exact ck_of (by decide) rfl
  | 4, _ => exact ck_of (by decide) rfl
theorem gr_pl {i : Nat} (h : i < 5) : gR SF 7 i = some (10 + 2 * i) := by
  match i, h with
  | 0, _ => exact sf_r 7 (by decide) 0 (by decide)
  | 1, _ => exact sf_r 7 (by decide) 1 (by decide)
  | 2, _ => exact sf_r 7 (by decide) 2 (by decide)
  | 3, _ => exact sf_r 7 (by decide) 3 (by decide)
  | 4, _ => exact sf_r 7 (by decide) 4 (by decide)
theorem gr_to {i : Nat} (h : i < 5) : gR SF (10 + 2 * i) 0 = some (11 + 2 * i) := by
  match i, h with
  | 0, _ => exact sf_r 10 (by decide) 0 (by decide)
  | 1, _ => exact sf_r 12 (by decide) 0 (by decide)
  | 2, _ => exact sf_r 14 (by decide) 0 (by decide)
  | 3, _ => exact sf_r 16 (by decide) 0 (by decide)
  | 4, _ => exact sf_r 18 (by decide) 0 (by decide)
theorem ck_dp {i : Nat} (h : i < 5) : ck SF (27 + 2 * i) 2 = true := by
  match i, h with
  | 0, _ => exact ck_of (by decide) rfl
  | 1, _ => exact ck_of (by decide) rfl
  | 2, _ => exact ck_of (by decide) rfl
  | 3, _ => exact ck_of (by decide) rfl
  | 4, _ => exact ck_of (by decide) rfl
theorem ck_dt {i : Nat} (h : i < 5) : ck SF (28 + 2 * i) 9 = true := by
  match i, h with
  | 0, _ => exact ck_of (by decide) rfl
  | 1, _ => exact ck_of (by decide) rfl
  | 2, _ => exact ck_of (by decide) rfl
  | 3, _ => exact ck_of (by decide) rfl
  | 4, _ => exact ck_of (by decide) rfl
theorem gr_dp {i : Nat} (h : i < 5) : gR SF 24 i = some (27 + 2 * i) := by
  match i, h with
  | 0, _ => exact sf_r 24 (by decide) 0 (by decide)
  | 1, _ => exact sf_r 24 (by decide) 1 (by decide)
  | 2, _ => exact sf_r 24 (by decide) 2 (by decide)
  | 3, _ => exact sf_r 24 (by decide) 3 (by decide)
  | 4, _ => exact sf_r 24 (by decide) 4 (by decide)
theorem gr_dt {i : Nat} (h : i < 5) : gR SF (27 + 2 * i) 0 = some (28 + 2 * i) := by
  match i, h with
  | 0, _ => exact sf_r 27 (by decide) 0 (by decide)
  | 1, _ => exact sf_r 29 (by decide) 0 (by decide)
  | 2, _ => exact sf_r 31 (by decide) 0 (by decide)
  | 3, _ => exact sf_r 33 (by decide) 0 (by decide)
  | 4, _ => exact sf_r 35 (by decide) 0 (by decide)
theorem ck_all : (∀ i, i < 40 → ck SF (50 + i) 9 = true) ∧ ∀ i, i < 10 → ck SF (92 + i) 9 = true := by
  have h1 : ∀ i, i < 40 → (SFk (50 + i)).1 = 9 := by decide +kernel
  have h2 : ∀ i, i < 10 → (SFk (92 + i)).1 = 9 := by decide +kernel
  exact ⟨fun i h => ck_of (by omega) (h1 i h), fun i h => ck_of (by omega) (h2 i h)⟩
theorem ck_un {i : Nat} (h : i < 40) : ck SF (50 + i) 9 = true := ck_all.1 i h
theorem ck_ke {i : Nat} (h : i < 10) : ck SF (92 + i) 9 = true := ck_all.2 i h
theorem gr_un {i : Nat} (h : i < 40) : gR SF 49 i = some (50 + i) := by
  rw [sf_r 49 (by decide) i (by simpa [SFl] using h)]
  simp [SFl, List.getD_eq_getElem?_getD, h]
theorem gr_ke {i : Nat} (h : i < 10) : gR SF 91 i = some (92 + i) := by
  rw [sf_r 91 (by decide) i (by simpa [SFl] using h)]
  simp [SFl, List.getD_eq_getElem?_getD, h]
theorem cK_pl {β : Type} {i : Nat} (h : i < 5) (r : Option β) : cK SF (10 + 2 * i) 2 r = r := if_pos (ck_pl h)
theorem cK_to {β : Type} {i : Nat} (h : i < 5) (r : Option β) : cK SF (11 + 2 * i) 9 r = r := if_pos (ck_to h)
theorem cK_dp {β : Type} {i : Nat} (h : i < 5) (r : Option β) : cK SF (27 + 2 * i) 2 r = r := if_pos (ck_dp h)
theorem cK_dt {β : Type} {i : Nat} (h : i < 5) (r : Option β) : cK SF (28 + 2 * i) 9 r = r := if_pos (ck_dt h)
theorem cK_un {β : Type} {i : Nat} (h : i < 40) (r : Option β) : cK SF (50 + i) 9 r = r := if_pos (ck_un h)
theorem cK_ke {β : Type} {i : Nat} (h : i < 10) (r : Option β) : cK SF (92 + i) 9 r = r := if_pos (ck_ke h)
theorem ld_pl {β : Type} {i : Nat} (h : i < 5) (f : Nat → Option β) : ldR SF 7 i 2 f = f (10 + 2 * i) := ld_of (gr_pl h) (ck_pl h)
theorem ld_to {β : Type} {i : Nat} (h : i < 5) (f : Nat → Option β) : ldR SF (10 + 2 * i) 0 9 f = f (11 + 2 * i) := ld_of (gr_to h) (ck_to h)
theorem ld_dp {β : Type} {i : Nat} (h : i < 5) (f : Nat → Option β) : ldR SF 24 i 2 f = f (27 + 2 * i) := ld_of (gr_dp h) (ck_dp h)
theorem ld_dt {β : Type} {i : Nat} (h : i < 5) (f : Nat → Option β) : ldR SF (27 + 2 * i) 0 9 f = f (28 + 2 * i) := ld_of (gr_dt h) (ck_dt h)
theorem ld_un {β : Type} {i : Nat} (h : i < 40) (f : Nat → Option β) : ldR SF 49 i 9 f = f (50 + i) := ld_of (gr_un h) (ck_un h)
theorem ld_ke {β : Type} {i : Nat} (h : i < 10) (f : Nat → Option β) : ldR SF 91 i 9 f = f (92 + i) := ld_of (gr_ke h) (ck_ke h)
