section AWR
variable {ρ : Type} {Y : ba_Y ρ} {pc : Nat} {L : List (Option ba_A)} {st : List ba_A} {S : ba_S} {m : ba_M} {o : Option ρ}
theorem a_iconst {n : Int} {v : Int32} (hd : decode (yC Y) pc = .ok (.iconst n, 1)) (hv : Int32.ofInt n = v) (k : AW Y (pc + 1) L (aI v :: st) S m o) : AW Y pc L (st) S m o :=
  k.step fun p l e R s mid args below meth c H0 D G base b cells slots Q H locs ls X hW hS hL kk => lv_iconst X.1 X.2.1 hd hv (kk ls hL)
theorem a_bipush {n : Int} {v : Int32} (hd : decode (yC Y) pc = .ok (.bipush n, 2)) (hv : (Int8.ofInt n).toInt32 = v) (k : AW Y (pc + 2) L (aI v :: st) S m o) : AW Y pc L (st) S m o :=
  k.step fun p l e R s mid args below meth c H0 D G base b cells slots Q H locs ls X hW hS hL kk => lv_bipush X.1 X.2.1 hd hv (kk ls hL)
theorem a_sipush {n : Int} {v : Int32} (hd : decode (yC Y) pc = .ok (.sipush n, 3)) (hv : (Int16.ofInt n).toInt32 = v) (k : AW Y (pc + 3) L (aI v :: st) S m o) : AW Y pc L (st) S m o :=
  k.step fun p l e R s mid args below meth c H0 D G base b cells slots Q H locs ls X hW hS hL kk => lv_sipush X.1 X.2.1 hd hv (kk ls hL)
theorem a_lconst {n : Fin 2} {v : Int64} (hd : decode (yC Y) pc = .ok (.lconst n, 1)) (hv : Int64.ofNat (n : Nat) = v) (k : AW Y (pc + 1) L (aJ v :: st) S m o) : AW Y pc L (st) S m o :=
  k.step fun p l e R s mid args below meth c H0 D G base b cells slots Q H locs ls X hW hS hL kk => lv_lconst X.1 X.2.1 hd hv (kk ls hL)
theorem a_aconst_null  (hd : decode (yC Y) pc = .ok (.aconst_null, 1))  (k : AW Y (pc + 1) L (aR none :: st) S m o) : AW Y pc L (st) S m o :=
  k.step fun p l e R s mid args below meth c H0 D G base b cells slots Q H locs ls X hW hS hL kk => lv_null X.1 X.2.1 hd  (kk ls hL)
theorem a_iload_n {n : Fin 4} {x : Int32} (hd : decode (yC Y) pc = .ok (.iload_n n, 1)) (hl : Lg L n = some (aI x)) (k : AW Y (pc + 1) L (aI x :: st) S m o) : AW Y pc L (st) S m o :=
  k.step fun p l e R s mid args below meth c H0 D G base b cells slots Q H locs ls X hW hS hL kk => lv_iload_n X.1 X.2.1 hd rfl (hL.get hl) (kk ls hL)
theorem a_iload {i : Nat} {x : Int32} (hd : decode (yC Y) pc = .ok (.iload i, 2)) (hl : Lg L i = some (aI x)) (k : AW Y (pc + 2) L (aI x :: st) S m o) : AW Y pc L (st) S m o :=
  k.step fun p l e R s mid args below meth c H0 D G base b cells slots Q H locs ls X hW hS hL kk => lv_iload X.1 X.2.1 hd (hL.get hl) (kk ls hL)
theorem a_lload_n {n : Fin 4} {x : Int64} (hd : decode (yC Y) pc = .ok (.lload_n n, 1)) (hl : Lg L n = some (aJ x)) (k : AW Y (pc + 1) L (aJ x :: st) S m o) : AW Y pc L (st) S m o :=
  k.step fun p l e R s mid args below meth c H0 D G base b cells slots Q H locs ls X hW hS hL kk => lv_lload_n X.1 X.2.1 hd rfl (hL.get hl) (kk ls hL)
theorem a_lload {i : Nat} {x : Int64} (hd : decode (yC Y) pc = .ok (.lload i, 2)) (hl : Lg L i = some (aJ x)) (k : AW Y (pc + 2) L (aJ x :: st) S m o) : AW Y pc L (st) S m o :=
  k.step fun p l e R s mid args below meth c H0 D G base b cells slots Q H locs ls X hW hS hL kk => lv_lload X.1 X.2.1 hd (hL.get hl) (kk ls hL)
theorem a_iadd {x y : Int32} (hd : decode (yC Y) pc = .ok (.iadd, 1))  (k : AW Y (pc + 1) L (aI (x + y) :: st) S m o) : AW Y pc L (aI y :: aI x :: st) S m o :=
  k.step fun p l e R s mid args below meth c H0 D G base b cells slots Q H locs ls X hW hS hL kk => lv_iadd X.1 X.2.1 hd  (kk ls hL)
theorem a_isub {x y : Int32} (hd : decode (yC Y) pc = .ok (.isub, 1))  (k : AW Y (pc + 1) L (aI (x - y) :: st) S m o) : AW Y pc L (aI y :: aI x :: st) S m o :=
  k.step fun p l e R s mid args below meth c H0 D G base b cells slots Q H locs ls X hW hS hL kk => lv_isub X.1 X.2.1 hd  (kk ls hL)
theorem a_imul {x y : Int32} (hd : decode (yC Y) pc = .ok (.imul, 1))  (k : AW Y (pc + 1) L (aI (x * y) :: st) S m o) : AW Y pc L (aI y :: aI x :: st) S m o :=
  k.step fun p l e R s mid args below meth c H0 D G base b cells slots Q H locs ls X hW hS hL kk => lv_imul X.1 X.2.1 hd  (kk ls hL)
theorem a_iand {x y : Int32} (hd : decode (yC Y) pc = .ok (.iand, 1))  (k : AW Y (pc + 1) L (aI (x &&& y) :: st) S m o) : AW Y pc L (aI y :: aI x :: st) S m o :=
  k.step fun p l e R s mid args below meth c H0 D G base b cells slots Q H locs ls X hW hS hL kk => lv_iand X.1 X.2.1 hd  (kk ls hL)
theorem a_ior {x y : Int32} (hd : decode (yC Y) pc = .ok (.ior, 1))  (k : AW Y (pc + 1) L (aI (x ||| y) :: st) S m o) : AW Y pc L (aI y :: aI x :: st) S m o :=
  k.step fun p l e R s mid args below meth c H0 D G base b cells slots Q H locs ls X hW hS hL kk => lv_ior X.1 X.2.1 hd  (kk ls hL)
theorem a_ixor {x y : Int32} (hd : decode (yC Y) pc = .ok (.ixor, 1))  (k : AW Y (pc + 1) L (aI (x ^^^ y) :: st) S m o) : AW Y pc L (aI y :: aI x :: st) S m o :=
  k.step fun p l e R s mid args below meth c H0 D G base b cells slots Q H locs ls X hW hS hL kk => lv_ixor X.1 X.2.1 hd  (kk ls hL)
theorem a_ishl {x y : Int32} (hd : decode (yC Y) pc = .ok (.ishl, 1))  (k : AW Y (pc + 1) L (aI (x <<< (y &&& 31)) :: st) S m o) : AW Y pc L (aI y :: aI x :: st) S m o :=
  k.step fun p l e R s mid args below meth c H0 D G base b cells slots Q H locs ls X hW hS hL kk => lv_ishl X.1 X.2.1 hd  (kk ls hL)
theorem a_ishr {x y : Int32} (hd : decode (yC Y) pc = .ok (.ishr, 1))  (k : AW Y (pc + 1) L (aI (x >>> (y &&& 31)) :: st) S m o) : AW Y pc L (aI y :: aI x :: st) S m o :=
  k.step fun p l e R s mid args below meth c H0 D G base b cells slots Q H locs ls X hW hS hL kk => lv_ishr X.1 X.2.1 hd  (kk ls hL)
theorem a_ineg {x : Int32} (hd : decode (yC Y) pc = .ok (.ineg, 1))  (k : AW Y (pc + 1) L (aI (-x) :: st) S m o) : AW Y pc L (aI x :: st) S m o :=
  k.step fun p l e R s mid args below meth c H0 D G base b cells slots Q H locs ls X hW hS hL kk => lv_ineg X.1 X.2.1 hd  (kk ls hL)
theorem a_ladd {x y : Int64} (hd : decode (yC Y) pc = .ok (.ladd, 1))  (k : AW Y (pc + 1) L (aJ (x + y) :: st) S m o) : AW Y pc L (aJ y :: aJ x :: st) S m o :=
  k.step fun p l e R s mid args below meth c H0 D G base b cells slots Q H locs ls X hW hS hL kk => lv_ladd X.1 X.2.1 hd  (kk ls hL)
theorem a_lsub {x y : Int64} (hd : decode (yC Y) pc = .ok (.lsub, 1))  (k : AW Y (pc + 1) L (aJ (x - y) :: st) S m o) : AW Y pc L (aJ y :: aJ x :: st) S m o :=
  k.step fun p l e R s mid args below meth c H0 D G base b cells slots Q H locs ls X hW hS hL kk => lv_lsub X.1 X.2.1 hd  (kk ls hL)
theorem a_lmul {x y : Int64} (hd : decode (yC Y) pc = .ok (.lmul, 1))  (k : AW Y (pc + 1) L (aJ (x * y) :: st) S m o) : AW Y pc L (aJ y :: aJ x :: st) S m o :=
  k.step fun p l e R s mid args below meth c H0 D G base b cells slots Q H locs ls X hW hS hL kk => lv_lmul X.1 X.2.1 hd  (kk ls hL)
theorem a_land {x y : Int64} (hd : decode (yC Y) pc = .ok (.land, 1))  (k : AW Y (pc + 1) L (aJ (x &&& y) :: st) S m o) : AW Y pc L (aJ y :: aJ x :: st) S m o :=
  k.step fun p l e R s mid args below meth c H0 D G base b cells slots Q H locs ls X hW hS hL kk => lv_land X.1 X.2.1 hd  (kk ls hL)
theorem a_lor {x y : Int64} (hd : decode (yC Y) pc = .ok (.lor, 1))  (k : AW Y (pc + 1) L (aJ (x ||| y) :: st) S m o) : AW Y pc L (aJ y :: aJ x :: st) S m o :=
  k.step fun p l e R s mid args below meth c H0 D G base b cells slots Q H locs ls X hW hS hL kk => lv_lor X.1 X.2.1 hd  (kk ls hL)
theorem a_lshl {x : Int64} {y : Int32} (hd : decode (yC Y) pc = .ok (.lshl, 1))  (k : AW Y (pc + 1) L (aJ (x <<< (y.toInt64 &&& 63)) :: st) S m o) : AW Y pc L (aI y :: aJ x :: st) S m o :=
  k.step fun p l e R s mid args below meth c H0 D G base b cells slots Q H locs ls X hW hS hL kk => lv_lshl X.1 X.2.1 hd rfl (kk ls hL)
theorem a_lshr {x : Int64} {y : Int32} (hd : decode (yC Y) pc = .ok (.lshr, 1))  (k : AW Y (pc + 1) L (aJ (x >>> (y.toInt64 &&& 63)) :: st) S m o) : AW Y pc L (aI y :: aJ x :: st) S m o :=
  k.step fun p l e R s mid args below meth c H0 D G base b cells slots Q H locs ls X hW hS hL kk => lv_lshr X.1 X.2.1 hd rfl (kk ls hL)
theorem a_lushr {x : Int64} {y : Int32} (hd : decode (yC Y) pc = .ok (.lushr, 1))  (k : AW Y (pc + 1) L (aJ (x.toUInt64 >>> (y.toInt64.toUInt64 &&& Int64.toUInt64 63)).toInt64 :: st) S m o) : AW Y pc L (aI y :: aJ x :: st) S m o :=
  k.step fun p l e R s mid args below meth c H0 D G base b cells slots Q H locs ls X hW hS hL kk => lv_lushr X.1 X.2.1 hd rfl (kk ls hL)
theorem a_i2l {x : Int32} (hd : decode (yC Y) pc = .ok (.i2l, 1))  (k : AW Y (pc + 1) L (aJ x.toInt64 :: st) S m o) : AW Y pc L (aI x :: st) S m o :=
  k.step fun p l e R s mid args below meth c H0 D G base b cells slots Q H locs ls X hW hS hL kk => lv_i2l X.1 X.2.1 hd rfl (kk ls hL)
theorem a_l2i {x : Int64} (hd : decode (yC Y) pc = .ok (.l2i, 1))  (k : AW Y (pc + 1) L (aI x.toInt32 :: st) S m o) : AW Y pc L (aJ x :: st) S m o :=
  k.step fun p l e R s mid args below meth c H0 D G base b cells slots Q H locs ls X hW hS hL kk => lv_l2i X.1 X.2.1 hd rfl (kk ls hL)
theorem a_lcmp {x y : Int64} (hd : decode (yC Y) pc = .ok (.lcmp, 1))  (k : AW Y (pc + 1) L (aI (lg_cmp x y) :: st) S m o) : AW Y pc L (aJ y :: aJ x :: st) S m o :=
  k.step fun p l e R s mid args below meth c H0 D G base b cells slots Q H locs ls X hW hS hL kk => W.lcmp X.1 X.2.1 hd  (kk ls hL)
theorem a_dup {v : ba_A} (hd : decode (yC Y) pc = .ok (.dup, 1)) (hv : a2 v = false) (k : AW Y (pc + 1) L (v :: v :: st) S m o) : AW Y pc L (v :: st) S m o :=
  k.step fun p l e R s mid args below meth c H0 D G base b cells slots Q H locs ls X hW hS hL kk => lv_dup X.1 X.2.1 hd (cv_a2 base b hv) (kk ls hL)
theorem a_pop {v : ba_A} (hd : decode (yC Y) pc = .ok (.pop, 1)) (hv : a2 v = false) (k : AW Y (pc + 1) L (st) S m o) : AW Y pc L (v :: st) S m o :=
  k.step fun p l e R s mid args below meth c H0 D G base b cells slots Q H locs ls X hW hS hL kk => lv_pop X.1 X.2.1 hd (cv_a2 base b hv) (kk ls hL)
theorem a_dup2 {v w : ba_A} (hd : decode (yC Y) pc = .ok (.dup2, 1)) (hv : a2 v = false) (hw : a2 w = false) (k : AW Y (pc + 1) L (v :: w :: v :: w :: st) S m o) : AW Y pc L (v :: w :: st) S m o :=
  k.step fun p l e R s mid args below meth c H0 D G base b cells slots Q H locs ls X hW hS hL kk => lv_dup2_11 X.1 X.2.1 hd (cv_a2 base b hv) (cv_a2 base b hw) (kk ls hL)
theorem a_dup2J {x : Int64} (hd : decode (yC Y) pc = .ok (.dup2, 1))  (k : AW Y (pc + 1) L (aJ x :: aJ x :: st) S m o) : AW Y pc L (aJ x :: st) S m o :=
  k.step fun p l e R s mid args below meth c H0 D G base b cells slots Q H locs ls X hW hS hL kk => lv_dup2_2 X.1 X.2.1 hd rfl (kk ls hL)
theorem a_goto {off : Int} {tgt : Nat} (hd : decode (yC Y) pc = .ok (.goto off, 3)) (ht : (pc : Int) + off = (tgt : Int)) (k : AW Y tgt L (st) S m o) : AW Y pc L (st) S m o :=
  k.step fun p l e R s mid args below meth c H0 D G base b cells slots Q H locs ls X hW hS hL kk => lv_goto X.1 X.2.1 hd ht (kk ls hL)
theorem a_istore_n {n : Fin 4} {x : Int32} (hd : decode (yC Y) pc = .ok (.istore_n n, 1)) (hn : decide ((n : Nat) < yN Y) = true) (hl : Ln L n = true) (k : AW Y (pc + 1) (Ls L n (some (aI x))) st S m o) : AW Y pc L (aI x :: st) S m o :=
  k.step fun p l e R s mid args below meth c H0 D G base b cells slots Q H locs ls X hW hS hL kk => lv_istore_n X.1 X.2.1 hd rfl hL (of_decide_eq_true hn) rfl (fun ls' h => kk ls' (LH.s1 (base := base) (b := b) hl rfl h))
theorem a_istore {n : Nat} {x : Int32} (hd : decode (yC Y) pc = .ok (.istore n, 2)) (hn : decide ((n : Nat) < yN Y) = true) (hl : Ln L n = true) (k : AW Y (pc + 2) (Ls L n (some (aI x))) st S m o) : AW Y pc L (aI x :: st) S m o :=
  k.step fun p l e R s mid args below meth c H0 D G base b cells slots Q H locs ls X hW hS hL kk => lv_istore X.1 X.2.1 hd  hL (of_decide_eq_true hn) rfl (fun ls' h => kk ls' (LH.s1 (base := base) (b := b) hl rfl h))
theorem a_lstore_n {n : Fin 4} {x : Int64} (hd : decode (yC Y) pc = .ok (.lstore_n n, 1)) (hn : decide ((n : Nat) + 1 < yN Y) = true) (hl : Ln L n = true) (k : AW Y (pc + 1) (Ls (Ls L (n + 1) none) n (some (aJ x))) st S m o) : AW Y pc L (aJ x :: st) S m o :=
  k.step fun p l e R s mid args below meth c H0 D G base b cells slots Q H locs ls X hW hS hL kk => lv_lstore_n X.1 X.2.1 hd rfl hL (of_decide_eq_true hn) rfl (fun ls' h => kk ls' (LH.s2 (base := base) (b := b) hl rfl h))
theorem a_lstore {n : Nat} {x : Int64} (hd : decode (yC Y) pc = .ok (.lstore n, 2)) (hn : decide ((n : Nat) + 1 < yN Y) = true) (hl : Ln L n = true) (k : AW Y (pc + 2) (Ls (Ls L (n + 1) none) n (some (aJ x))) st S m o) : AW Y pc L (aJ x :: st) S m o :=
  k.step fun p l e R s mid args below meth c H0 D G base b cells slots Q H locs ls X hW hS hL kk => lv_lstore X.1 X.2.1 hd  hL (of_decide_eq_true hn) rfl (fun ls' h => kk ls' (LH.s2 (base := base) (b := b) hl rfl h))
theorem a_astore_n' {n : Fin 4} {x : Nat} (hd : decode (yC Y) pc = .ok (.astore_n n, 1)) (hn : decide ((n : Nat) < yN Y) = true) (hl : Ln L n = true) (k : AW Y (pc + 1) (Ls L n (some (aR (some x)))) st S m o) : AW Y pc L (aR (some x) :: st) S m o :=
  k.step fun p l e R s mid args below meth c H0 D G base b cells slots Q H locs ls X hW hS hL kk => lv_astore_n X.1 X.2.1 hd rfl hL (of_decide_eq_true hn) rfl (fun ls' h => kk ls' (LH.s1 (base := base) (b := b) hl rfl h))
theorem a_astore' {n : Nat} {x : Nat} (hd : decode (yC Y) pc = .ok (.astore n, 2)) (hn : decide ((n : Nat) < yN Y) = true) (hl : Ln L n = true) (k : AW Y (pc + 2) (Ls L n (some (aR (some x)))) st S m o) : AW Y pc L (aR (some x) :: st) S m o :=
  k.step fun p l e R s mid args below meth c H0 D G base b cells slots Q H locs ls X hW hS hL kk => lv_astore X.1 X.2.1 hd  hL (of_decide_eq_true hn) rfl (fun ls' h => kk ls' (LH.s1 (base := base) (b := b) hl rfl h))
theorem a_astore_nN {n : Fin 4} (hd : decode (yC Y) pc = .ok (.astore_n n, 1)) (hn : decide ((n : Nat) < yN Y) = true) (hl : Ln L n = true) (k : AW Y (pc + 1) (Ls L n (some (aR none))) st S m o) : AW Y pc L (aR none :: st) S m o :=
  k.step fun p l e R s mid args below meth c H0 D G base b cells slots Q H locs ls X hW hS hL kk => lv_astore_nN X.1 X.2.1 hd rfl hL (of_decide_eq_true hn) rfl (fun ls' h => kk ls' (LH.s1 (base := base) (b := b) hl rfl h))
theorem a_astoreN {n : Nat} (hd : decode (yC Y) pc = .ok (.astore n, 2)) (hn : decide ((n : Nat) < yN Y) = true) (hl : Ln L n = true) (k : AW Y (pc + 2) (Ls L n (some (aR none))) st S m o) : AW Y pc L (aR none :: st) S m o :=
  k.step fun p l e R s mid args below meth c H0 D G base b cells slots Q H locs ls X hW hS hL kk => lv_astoreN X.1 X.2.1 hd  hL (of_decide_eq_true hn) rfl (fun ls' h => kk ls' (LH.s1 (base := base) (b := b) hl rfl h))
theorem a_astore_n {n : Fin 4} {r : Option Nat} (hd : decode (yC Y) pc = .ok (.astore_n n, 1)) (hn : decide ((n : Nat) < yN Y) = true) (hl : Ln L n = true) (k : AW Y (pc + 1) (Ls L n (some (aR r))) st S m o) : AW Y pc L (aR r :: st) S m o := by
  cases r with
  | none => exact a_astore_nN hd hn hl k
  | some x => exact a_astore_n' hd hn hl k
theorem a_astore {n : Nat} {r : Option Nat} (hd : decode (yC Y) pc = .ok (.astore n, 2)) (hn : decide ((n : Nat) < yN Y) = true) (hl : Ln L n = true) (k : AW Y (pc + 2) (Ls L n (some (aR r))) st S m o) : AW Y pc L (aR r :: st) S m o := by
  cases r with
  | none => exact a_astoreN hd hn hl k
  | some x => exact a_astore' hd hn hl k
theorem a_aload_n1 {n : Fin 4} {x : Nat} (hd : decode (yC Y) pc = .ok (.aload_n n, 1)) (hl : Lg L n = some (aR (some x))) (k : AW Y (pc + 1) L (aR (some x) :: st) S m o) : AW Y pc L (st) S m o :=
  k.step fun p l e R s mid args below meth c H0 D G base b cells slots Q H locs ls X hW hS hL kk => lv_aload_n X.1 X.2.1 hd rfl (hL.get hl) (kk ls hL)
theorem a_aload_nN {n : Fin 4} (hd : decode (yC Y) pc = .ok (.aload_n n, 1)) (hl : Lg L n = some (aR none)) (k : AW Y (pc + 1) L (aR none :: st) S m o) : AW Y pc L (st) S m o :=
  k.step fun p l e R s mid args below meth c H0 D G base b cells slots Q H locs ls X hW hS hL kk => lv_aload_nN X.1 X.2.1 hd rfl (hL.get hl) (kk ls hL)
theorem a_aload_nX {n : Fin 4} (hd : decode (yC Y) pc = .ok (.aload_n n, 1)) (hl : Lg L n = some aX) (k : AW Y (pc + 1) L (aX :: st) S m o) : AW Y pc L (st) S m o :=
  k.step fun p l e R s mid args below meth c H0 D G base b cells slots Q H locs ls X hW hS hL kk => lv_aload_n X.1 X.2.1 hd rfl (hL.get hl) (kk ls hL)
theorem a_aload1 {i : Nat} {x : Nat} (hd : decode (yC Y) pc = .ok (.aload i, 2)) (hl : Lg L i = some (aR (some x))) (k : AW Y (pc + 2) L (aR (some x) :: st) S m o) : AW Y pc L (st) S m o :=
  k.step fun p l e R s mid args below meth c H0 D G base b cells slots Q H locs ls X hW hS hL kk => lv_aload X.1 X.2.1 hd (hL.get hl) (kk ls hL)
theorem a_aloadN {i : Nat} (hd : decode (yC Y) pc = .ok (.aload i, 2)) (hl : Lg L i = some (aR none)) (k : AW Y (pc + 2) L (aR none :: st) S m o) : AW Y pc L (st) S m o :=
  k.step fun p l e R s mid args below meth c H0 D G base b cells slots Q H locs ls X hW hS hL kk => lv_aloadN X.1 X.2.1 hd (hL.get hl) (kk ls hL)
theorem a_aload_n {n : Fin 4} {r : Option Nat} (hd : decode (yC Y) pc = .ok (.aload_n n, 1)) (hl : Lg L n = some (aR r)) (k : AW Y (pc + 1) L (aR r :: st) S m o) : AW Y pc L st S m o := by
  cases r with
  | none => exact a_aload_nN hd hl k
  | some x => exact a_aload_n1 hd hl k
theorem a_aload {i : Nat} {r : Option Nat} (hd : decode (yC Y) pc = .ok (.aload i, 2)) (hl : Lg L i = some (aR r)) (k : AW Y (pc + 2) L (aR r :: st) S m o) : AW Y pc L st S m o := by
  cases r with
  | none => exact a_aloadN hd hl k
  | some x => exact a_aload1 hd hl k
theorem a_iinc {i : Nat} {n : Int} {x v : Int32} (hd : decode (yC Y) pc = .ok (.iinc i n, 3)) (hl : Lg L i = some (aI x)) (hv : Int32.ofInt n = v) (hn : decide (i < yN Y) = true) (hL2 : Ln L i = true) (k : AW Y (pc + 3) (Ls L i (some (aI (x + v)))) st S m o) : AW Y pc L st S m o :=
  k.step fun p l e R s mid args below meth c H0 D G base b cells slots Q H locs ls X hW hS hL kk => by
    obtain ⟨j, hj⟩ := List.getElem?_of_mem (LH.in (base := base) (b := b) hl)
    exact lv_iinc (v := x + v) X.1 X.2.1 hd hL hj (by rw [hv]) (of_decide_eq_true hn) rfl (fun ls' h => kk ls' (LH.s1 (base := base) (b := b) hL2 rfl h))
theorem a_idiv {x y : Int32} (hd : decode (yC Y) pc = .ok (.idiv, 1)) (k : AW Y (pc + 1) L (aI (x / y) :: st) S m o) : AW Y pc L (aI y :: aI x :: st) S m (if y = 0 then none else o) :=
  AW.if (fun _ => AW.none) fun hz => k.step fun p l e R s mid args below meth c H0 D G base b cells slots Q H locs ls X hW hS hL kk => lv_idiv X.1 X.2.1 hd hz (kk ls hL)
theorem a_irem {x y : Int32} (hd : decode (yC Y) pc = .ok (.irem, 1)) (k : AW Y (pc + 1) L (aI (x - x / y * y) :: st) S m o) : AW Y pc L (aI y :: aI x :: st) S m (if y = 0 then none else o) :=
  AW.if (fun _ => AW.none) fun hz => k.step fun p l e R s mid args below meth c H0 D G base b cells slots Q H locs ls X hW hS hL kk => lv_irem X.1 X.2.1 hd hz (kk ls hL)
theorem a_ldiv {x y : Int64} (hd : decode (yC Y) pc = .ok (.ldiv, 1)) (k : AW Y (pc + 1) L (aJ (x / y) :: st) S m o) : AW Y pc L (aJ y :: aJ x :: st) S m (if y = 0 then none else o) :=
  AW.if (fun _ => AW.none) fun hz => k.step fun p l e R s mid args below meth c H0 D G base b cells slots Q H locs ls X hW hS hL kk => lv_ldiv X.1 X.2.1 hd hz (kk ls hL)
theorem a_lrem {x y : Int64} (hd : decode (yC Y) pc = .ok (.lrem, 1)) (k : AW Y (pc + 1) L (aJ (x - x / y * y) :: st) S m o) : AW Y pc L (aJ y :: aJ x :: st) S m (if y = 0 then none else o) :=
  AW.if (fun _ => AW.none) fun hz => k.step fun p l e R s mid args below meth c H0 D G base b cells slots Q H locs ls X hW hS hL kk => lv_lrem X.1 X.2.1 hd hz (kk ls hL)
theorem a_ilt {x y : Int32} {off : Int} {tgt : Nat} {o1 o2 : Option ρ} (hd : decode (yC Y) pc = .ok (.if_icmp .lt off, 3)) (ht : (pc : Int) + off = (tgt : Int)) (k1 : x < y → AW Y tgt L st S m o1) (k2 : ¬ (x < y) → AW Y (pc + 3) L st S m o2) : AW Y pc L (aI y :: aI x :: st) S m (if x < y then o1 else o2) :=
  AW.if (fun h => (k1 h).step fun p l e R s mid args below meth c H0 D G base b cells slots Q H locs ls X hW hS hL kk => lv_icmp_lt X.1 X.2.1 hd ht (fun _ => kk ls hL) (fun h' => absurd h h')) (fun h => (k2 h).step fun p l e R s mid args below meth c H0 D G base b cells slots Q H locs ls X hW hS hL kk => lv_icmp_lt X.1 X.2.1 hd ht (fun h' => absurd h' h) (fun _ => kk ls hL))
theorem a_ile {x y : Int32} {off : Int} {tgt : Nat} {o1 o2 : Option ρ} (hd : decode (yC Y) pc = .ok (.if_icmp .le off, 3)) (ht : (pc : Int) + off = (tgt : Int)) (k1 : x ≤ y → AW Y tgt L st S m o1) (k2 : ¬ (x ≤ y) → AW Y (pc + 3) L st S m o2) : AW Y pc L (aI y :: aI x :: st) S m (if x ≤ y then o1 else o2) :=
  AW.if (fun h => (k1 h).step fun p l e R s mid args below meth c H0 D G base b cells slots Q H locs ls X hW hS hL kk => lv_icmp_le X.1 X.2.1 hd ht (fun _ => kk ls hL) (fun h' => absurd h h')) (fun h => (k2 h).step fun p l e R s mid args below meth c H0 D G base b cells slots Q H locs ls X hW hS hL kk => lv_icmp_le X.1 X.2.1 hd ht (fun h' => absurd h' h) (fun _ => kk ls hL))
theorem a_igt {x y : Int32} {off : Int} {tgt : Nat} {o1 o2 : Option ρ} (hd : decode (yC Y) pc = .ok (.if_icmp .gt off, 3)) (ht : (pc : Int) + off = (tgt : Int)) (k1 : y < x → AW Y tgt L st S m o1) (k2 : ¬ (y < x) → AW Y (pc + 3) L st S m o2) : AW Y pc L (aI y :: aI x :: st) S m (if y < x then o1 else o2) :=
  AW.if (fun h => (k1 h).step fun p l e R s mid args below meth c H0 D G base b cells slots Q H locs ls X hW hS hL kk => lv_icmp_gt X.1 X.2.1 hd ht (fun _ => kk ls hL) (fun h' => absurd h h')) (fun h => (k2 h).step fun p l e R s mid args below meth c H0 D G base b cells slots Q H locs ls X hW hS hL kk => lv_icmp_gt X.1 X.2.1 hd ht (fun h' => absurd h' h) (fun _ => kk ls hL))
theorem a_ige {x y : Int32} {off : Int} {tgt : Nat} {o1 o2 : Option ρ} (hd : decode (yC Y) pc = .ok (.if_icmp .ge off, 3)) (ht : (pc : Int) + off = (tgt : Int)) (k1 : y ≤ x → AW Y tgt L st S m o1) (k2 : ¬ (y ≤ x) → AW Y (pc + 3) L st S m o2) : AW Y pc L (aI y :: aI x :: st) S m (if y ≤ x then o1 else o2) :=
  AW.if (fun h => (k1 h).step fun p l e R s mid args below meth c H0 D G base b cells slots Q H locs ls X hW hS hL kk => lv_icmp_ge X.1 X.2.1 hd ht (fun _ => kk ls hL) (fun h' => absurd h h')) (fun h => (k2 h).step fun p l e R s mid args below meth c H0 D G base b cells slots Q H locs ls X hW hS hL kk => lv_icmp_ge X.1 X.2.1 hd ht (fun h' => absurd h' h) (fun _ => kk ls hL))
theorem a_ieq {x y : Int32} {off : Int} {tgt : Nat} {o1 o2 : Option ρ} (hd : decode (yC Y) pc = .ok (.if_icmp .eq off, 3)) (ht : (pc : Int) + off = (tgt : Int)) (k1 : x = y → AW Y tgt L st S m o1) (k2 : ¬ (x = y) → AW Y (pc + 3) L st S m o2) : AW Y pc L (aI y :: aI x :: st) S m (if x = y then o1 else o2) :=
  AW.if (fun h => (k1 h).step fun p l e R s mid args below meth c H0 D G base b cells slots Q H locs ls X hW hS hL kk => lv_icmp_eq X.1 X.2.1 hd ht (fun _ => kk ls hL) (fun h' => absurd h h')) (fun h => (k2 h).step fun p l e R s mid args below meth c H0 D G base b cells slots Q H locs ls X hW hS hL kk => lv_icmp_eq X.1 X.2.1 hd ht (fun h' => absurd h' h) (fun _ => kk ls hL))
theorem a_zlt {x : Int32} {off : Int} {tgt : Nat} {o1 o2 : Option ρ} (hd : decode (yC Y) pc = .ok (.ifCond .lt off, 3)) (ht : (pc : Int) + off = (tgt : Int)) (k1 : x < 0 → AW Y tgt L st S m o1) (k2 : ¬ (x < 0) → AW Y (pc + 3) L st S m o2) : AW Y pc L (aI x :: st) S m (if x < 0 then o1 else o2) :=
  AW.if (fun h => (k1 h).step fun p l e R s mid args below meth c H0 D G base b cells slots Q H locs ls X hW hS hL kk => lv_if_lt X.1 X.2.1 hd ht (fun _ => kk ls hL) (fun h' => absurd h h')) (fun h => (k2 h).step fun p l e R s mid args below meth c H0 D G base b cells slots Q H locs ls X hW hS hL kk => lv_if_lt X.1 X.2.1 hd ht (fun h' => absurd h' h) (fun _ => kk ls hL))
theorem a_zle {x : Int32} {off : Int} {tgt : Nat} {o1 o2 : Option ρ} (hd : decode (yC Y) pc = .ok (.ifCond .le off, 3)) (ht : (pc : Int) + off = (tgt : Int)) (k1 : x ≤ 0 → AW Y tgt L st S m o1) (k2 : ¬ (x ≤ 0) → AW Y (pc + 3) L st S m o2) : AW Y pc L (aI x :: st) S m (if x ≤ 0 then o1 else o2) :=
  AW.if (fun h => (k1 h).step fun p l e R s mid args below meth c H0 D G base b cells slots Q H locs ls X hW hS hL kk => lv_if_le X.1 X.2.1 hd ht (fun _ => kk ls hL) (fun h' => absurd h h')) (fun h => (k2 h).step fun p l e R s mid args below meth c H0 D G base b cells slots Q H locs ls X hW hS hL kk => lv_if_le X.1 X.2.1 hd ht (fun h' => absurd h' h) (fun _ => kk ls hL))
theorem a_zgt {x : Int32} {off : Int} {tgt : Nat} {o1 o2 : Option ρ} (hd : decode (yC Y) pc = .ok (.ifCond .gt off, 3)) (ht : (pc : Int) + off = (tgt : Int)) (k1 : 0 < x → AW Y tgt L st S m o1) (k2 : ¬ (0 < x) → AW Y (pc + 3) L st S m o2) : AW Y pc L (aI x :: st) S m (if 0 < x then o1 else o2) :=
  AW.if (fun h => (k1 h).step fun p l e R s mid args below meth c H0 D G base b cells slots Q H locs ls X hW hS hL kk => lv_if_gt X.1 X.2.1 hd ht (fun _ => kk ls hL) (fun h' => absurd h h')) (fun h => (k2 h).step fun p l e R s mid args below meth c H0 D G base b cells slots Q H locs ls X hW hS hL kk => lv_if_gt X.1 X.2.1 hd ht (fun h' => absurd h' h) (fun _ => kk ls hL))
theorem a_zge {x : Int32} {off : Int} {tgt : Nat} {o1 o2 : Option ρ} (hd : decode (yC Y) pc = .ok (.ifCond .ge off, 3)) (ht : (pc : Int) + off = (tgt : Int)) (k1 : 0 ≤ x → AW Y tgt L st S m o1) (k2 : ¬ (0 ≤ x) → AW Y (pc + 3) L st S m o2) : AW Y pc L (aI x :: st) S m (if 0 ≤ x then o1 else o2) :=
  AW.if (fun h => (k1 h).step fun p l e R s mid args below meth c H0 D G base b cells slots Q H locs ls X hW hS hL kk => lv_if_ge X.1 X.2.1 hd ht (fun _ => kk ls hL) (fun h' => absurd h h')) (fun h => (k2 h).step fun p l e R s mid args below meth c H0 D G base b cells slots Q H locs ls X hW hS hL kk => lv_if_ge X.1 X.2.1 hd ht (fun h' => absurd h' h) (fun _ => kk ls hL))
theorem a_zeq {x : Int32} {off : Int} {tgt : Nat} {o1 o2 : Option ρ} (hd : decode (yC Y) pc = .ok (.ifCond .eq off, 3)) (ht : (pc : Int) + off = (tgt : Int)) (k1 : x = 0 → AW Y tgt L st S m o1) (k2 : ¬ (x = 0) → AW Y (pc + 3) L st S m o2) : AW Y pc L (aI x :: st) S m (if x = 0 then o1 else o2) :=
  AW.if (fun h => (k1 h).step fun p l e R s mid args below meth c H0 D G base b cells slots Q H locs ls X hW hS hL kk => lv_if_eq X.1 X.2.1 hd ht (fun _ => kk ls hL) (fun h' => absurd h h')) (fun h => (k2 h).step fun p l e R s mid args below meth c H0 D G base b cells slots Q H locs ls X hW hS hL kk => lv_if_eq X.1 X.2.1 hd ht (fun h' => absurd h' h) (fun _ => kk ls hL))
theorem a_ine {x y : Int32} {off : Int} {tgt : Nat} {o1 o2 : Option ρ} (hd : decode (yC Y) pc = .ok (.if_icmp .ne off, 3)) (ht : (pc : Int) + off = (tgt : Int)) (k1 : ¬ (x = y) → AW Y tgt L st S m o1) (k2 : x = y → AW Y (pc + 3) L st S m o2) : AW Y pc L (aI y :: aI x :: st) S m (if x = y then o2 else o1) :=
  AW.if (fun h => (k2 h).step fun p l e R s mid args below meth c H0 D G base b cells slots Q H locs ls X hW hS hL kk => lv_icmp_ne X.1 X.2.1 hd ht (fun h' => absurd h h') (fun _ => kk ls hL)) (fun h => (k1 h).step fun p l e R s mid args below meth c H0 D G base b cells slots Q H locs ls X hW hS hL kk => lv_icmp_ne X.1 X.2.1 hd ht (fun _ => kk ls hL) (fun h' => absurd h' h))
theorem a_zne {x : Int32} {off : Int} {tgt : Nat} {o1 o2 : Option ρ} (hd : decode (yC Y) pc = .ok (.ifCond .ne off, 3)) (ht : (pc : Int) + off = (tgt : Int)) (k1 : ¬ (x = 0) → AW Y tgt L st S m o1) (k2 : x = 0 → AW Y (pc + 3) L st S m o2) : AW Y pc L (aI x :: st) S m (if x = 0 then o2 else o1) :=
  AW.if (fun h => (k2 h).step fun p l e R s mid args below meth c H0 D G base b cells slots Q H locs ls X hW hS hL kk => lv_if_ne X.1 X.2.1 hd ht (fun h' => absurd h h') (fun _ => kk ls hL)) (fun h => (k1 h).step fun p l e R s mid args below meth c H0 D G base b cells slots Q H locs ls X hW hS hL kk => lv_if_ne X.1 X.2.1 hd ht (fun _ => kk ls hL) (fun h' => absurd h' h))
theorem a_beq {z : Bool} {off : Int} {tgt : Nat} {o1 o2 : Option ρ} (hd : decode (yC Y) pc = .ok (.ifCond .eq off, 3)) (ht : (pc : Int) + off = (tgt : Int)) (k1 : z = false → AW Y tgt L st S m o2) (k2 : z = true → AW Y (pc + 3) L st S m o1) : AW Y pc L (aI (b2i z) :: st) S m (if z = true then o1 else o2) :=
  AW.if (fun h => (k2 h).step fun p l e R s mid args below meth c H0 D G base b cells slots Q H locs ls X hW hS hL kk => lv_if_eq X.1 X.2.1 hd ht (fun h' => absurd h' (by rw [h]; decide)) (fun _ => kk ls hL)) (fun h => (k1 (by simpa using h)).step fun p l e R s mid args below meth c H0 D G base b cells slots Q H locs ls X hW hS hL kk => lv_if_eq X.1 X.2.1 hd ht (fun _ => kk ls hL) (fun h' => absurd (by rw [show z = false by simpa using h]; decide) h'))
theorem a_bne {z : Bool} {off : Int} {tgt : Nat} {o1 o2 : Option ρ} (hd : decode (yC Y) pc = .ok (.ifCond .ne off, 3)) (ht : (pc : Int) + off = (tgt : Int)) (k1 : z = true → AW Y tgt L st S m o1) (k2 : z = false → AW Y (pc + 3) L st S m o2) : AW Y pc L (aI (b2i z) :: st) S m (if z = true then o1 else o2) :=
  AW.if (fun h => (k1 h).step fun p l e R s mid args below meth c H0 D G base b cells slots Q H locs ls X hW hS hL kk => lv_if_ne X.1 X.2.1 hd ht (fun _ => kk ls hL) (fun h' => absurd h' (by rw [h]; decide))) (fun h => (k2 (by simpa using h)).step fun p l e R s mid args below meth c H0 D G base b cells slots Q H locs ls X hW hS hL kk => lv_if_ne X.1 X.2.1 hd ht (fun h' => absurd (by rw [show z = false by simpa using h]; decide) h') (fun _ => kk ls hL))
def oN {α β : Type} (x : Option α) (n : β) (f : α → β) : β := match x with
  | none => n
  | some a => f a
theorem a_ifnull {x : Option Nat} {off : Int} {tgt : Nat} {o1 : Option ρ} {o2 : Nat → Option ρ} (hd : decode (yC Y) pc = .ok (.ifnull off, 3)) (ht : (pc : Int) + off = (tgt : Int)) (k1 : x = none → AW Y tgt L st S m o1) (k2 : ∀ a, x = some a → AW Y (pc + 3) L st S m (o2 a)) : AW Y pc L (aR x :: st) S m (oN x o1 o2) := by
  cases x with
  | none => exact (k1 rfl).step fun p l e R s mid args below meth c H0 D G base b cells slots Q H locs ls X hW hS hL kk => lv_ifnullN X.1 X.2.1 hd ht (kk ls hL)
  | some a => exact (k2 a rfl).step fun p l e R s mid args below meth c H0 D G base b cells slots Q H locs ls X hW hS hL kk => lv_ifnull X.1 X.2.1 hd (kk ls hL)
theorem a_ifnonnull {x : Option Nat} {off : Int} {tgt : Nat} {o1 : Option ρ} {o2 : Nat → Option ρ} (hd : decode (yC Y) pc = .ok (.ifnonnull off, 3)) (ht : (pc : Int) + off = (tgt : Int)) (k1 : x = none → AW Y (pc + 3) L st S m o1) (k2 : ∀ a, x = some a → AW Y tgt L st S m (o2 a)) : AW Y pc L (aR x :: st) S m (oN x o1 o2) := by
  cases x with
  | none => exact (k1 rfl).step fun p l e R s mid args below meth c H0 D G base b cells slots Q H locs ls X hW hS hL kk => lv_ifnonnullN X.1 X.2.1 hd (kk ls hL)
  | some a => exact (k2 a rfl).step fun p l e R s mid args below meth c H0 D G base b cells slots Q H locs ls X hW hS hL kk => lv_ifnonnull X.1 X.2.1 hd ht (kk ls hL)
theorem a_tabIn {dflt lo hi : Int} {offs : Array Int} {len : Nat} {x : Int32} {off : Int} {tgt : Nat} (hd : decode (yC Y) pc = .ok (.tableswitch dflt lo hi offs, len)) (h1 : ¬ x.toInt < lo) (h2 : ¬ hi < x.toInt) (ho : offs[(x.toInt - lo).toNat]? = some off) (ht : (pc : Int) + off = (tgt : Int)) (k : AW Y tgt L st S m o) : AW Y pc L (aI x :: st) S m o :=
  k.step fun p l e R s mid args below meth c H0 D G base b cells slots Q H locs ls X hW hS hL kk => lv_tableIn X.1 X.2.1 hd h1 h2 ho ht (kk ls hL)
theorem a_tabOut {dflt lo hi : Int} {offs : Array Int} {len : Nat} {x : Int32} {tgt : Nat} (hd : decode (yC Y) pc = .ok (.tableswitch dflt lo hi offs, len)) (h : x.toInt < lo ∨ hi < x.toInt) (ht : (pc : Int) + dflt = (tgt : Int)) (k : AW Y tgt L st S m o) : AW Y pc L (aI x :: st) S m o :=
  k.step fun p l e R s mid args below meth c H0 D G base b cells slots Q H locs ls X hW hS hL kk => lv_tableOut X.1 X.2.1 hd h ht (kk ls hL)
theorem a_look {dflt : Int} {ps : Array (Int × Int)} {len : Nat} {x : Int32} {off : Int} {tgt : Nat} (hd : decode (yC Y) pc = .ok (.lookupswitch dflt ps, len)) (hp : (ps.toList.zip (ps.toList.drop 1)).all (fun (a, next) => a.1 < next.1) = true) (ho : Op.lookupswitch.offset ps.toList dflt x.toInt = off) (ht : (pc : Int) + off = (tgt : Int)) (k : AW Y tgt L st S m o) : AW Y pc L (aI x :: st) S m o :=
  k.step fun p l e R s mid args below meth c H0 D G base b cells slots Q H locs ls X hW hS hL kk => lv_lookup X.1 X.2.1 hd hp ho ht (kk ls hL)
end AWR
