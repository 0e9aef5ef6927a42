/-! rows for calls by what they answer; blocks and loops -/
abbrev mI (cc : ByteArray) (own : String) (nL F Lc : Nat) (S : ba_S) : ba_Y (Int32 × ba_M) := (cc, own, nL, .ireturn, F, Lc, false, none, fun q => (some (aI q.1), S, q.2))
abbrev mZ (cc : ByteArray) (own : String) (nL F Lc : Nat) (S : ba_S) : ba_Y (Bool × ba_M) := (cc, own, nL, .ireturn, F, Lc, false, none, fun q => (some (aI (b2i q.1)), S, q.2))
abbrev mJ (cc : ByteArray) (own : String) (nL F Lc : Nat) (S : ba_S) : ba_Y (Int64 × ba_M) := (cc, own, nL, .lreturn, F, Lc, false, none, fun q => (some (aJ q.1), S, q.2))
abbrev mR (cc : ByteArray) (own : String) (nL F Lc : Nat) (S : ba_S) : ba_Y (Nat × ba_M) := (cc, own, nL, .areturn, F, Lc, false, none, fun q => (some (aR (some q.1)), S, q.2))
abbrev mN (cc : ByteArray) (own : String) (nL F Lc : Nat) (S : ba_S) : ba_Y (Option Nat × ba_M) := (cc, own, nL, .areturn, F, Lc, false, none, fun q => (some (aR q.1), S, q.2))
abbrev mV (cc : ByteArray) (own : String) (nL F Lc : Nat) (S : ba_S) : ba_Y ba_M := (cc, own, nL, .return_, F, Lc, false, none, fun q => (none, S, q))
abbrev mC (cc : ByteArray) (own : String) (nL F Lc : Nat) : ba_Y (ba_S × ba_M) := (cc, own, nL, .return_, F, Lc, true, none, fun q => (none, q.1, q.2))
def sB {β : Type} (S : ba_S) (m : ba_M) (f : ba_S → ba_M → β) : β := f S m
def fx {F : Type} (bot : F) (b : F → F) : Nat → F
  | 0 => bot
  | n + 1 => b (fx bot b n)
def FU : Nat := 10000
def jmax (x y : Int32) : Int32 := if x < y then y else x
def jmin (x y : Int32) : Int32 := if y < x then y else x
def jabs (x : Int32) : Int32 := if 0 ≤ x then x else 0 - x
theorem Lw_end {L : List (Option ba_A)} : Lw L [] := by cases L <;> exact trivial
theorem Lw_no {a : Option ba_A} {L L' : List (Option ba_A)} (h : Lw L L') : Lw (a :: L) (none :: L') := h
theorem Lw_so {a : Option ba_A} {v : ba_A} {L L' : List (Option ba_A)} (e : a = some v) (h : Lw L L') : Lw (a :: L) (some v :: L') := ⟨e, h⟩
section AWK
variable {ρ : Type} {Y : ba_Y ρ} {pc ix : Nat} {L : List (Option ba_A)} {st rest : List ba_A} {S : ba_S} {m : ba_M} {y : MethodName} {ret : Option FieldType} {as : List ba_A} {cc : ByteArray} {own : String} {nL F Lc a t n : Nat} {host : String}
theorem AW.sB {S2 : ba_S} {m2 : ba_M} {f : ba_S → ba_M → Option ρ} (k : ∀ (S1 : ba_S) (m1 : ba_M), AW Y pc L st S1 m1 (f S1 m1)) : AW Y pc L st S2 m2 (sB S2 m2 f) := k S2 m2

theorem a_callV_I {f : Option (Int32 × ba_M)} {k : Int32 × ba_M → Option ρ} (hd : decode (yC Y) pc = .ok (.invokevirtual ix, 3)) (hl : Cond.methodLink (yO Y) ix y ∈ lw_tbl) (hm : ba_mt y cc nL ret n) (hv : ba_vt y) (ht : ∃ q : vw_C, vwCl[t]? = some q ∧ q.1 = y.cls) (hM : ∀ q, f = some q → MA (mI cc own nL F Lc S) y ret (aR (some a) :: as) S m q) (hs : st = as.reverse ++ aR (some a) :: rest) (hn : as.length = n) (hk : ck S a t = true) (hr : decide (F + 1 ≤ yF Y) = true ∧ decide (8 + (nL + 11) + Lc ≤ yL Y) = true ∧ decide ((rest.map ac).sum ≤ 8) = true) (kk : ∀ q : Int32 × ba_M, AW Y (pc + 3) L (aI q.1 :: rest) S q.2 (k q)) : AW Y pc L st S m (f.bind k) :=
  a_callV (Y' := (mI cc own nL F Lc S)) hd hl hm hv ht hn hk hr hs hM (fun q _ => kk q)
theorem a_callS_I {f : Option (Int32 × ba_M)} {k : Int32 × ba_M → Option ρ} (hd : decode (yC Y) pc = .ok (.invokestatic ix, 3)) (hl : Cond.methodLink (yO Y) ix y ∈ lw_tbl) (hm : ba_mt y cc nL ret n) (hv : Cond.static y ∈ lw_tbl) (hM : ∀ q, f = some q → MA (mI cc own nL F Lc S) y ret as S m q) (hs : st = as.reverse ++ rest) (hn : as.length = n) (hr : decide (F + 1 ≤ yF Y) = true ∧ decide (8 + (nL + 11) + Lc ≤ yL Y) = true ∧ decide ((rest.map ac).sum ≤ 8) = true) (kk : ∀ q : Int32 × ba_M, AW Y (pc + 3) L (aI q.1 :: rest) S q.2 (k q)) : AW Y pc L st S m (f.bind k) :=
  a_callS (Y' := (mI cc own nL F Lc S)) hd hl hm hv hn hr hs hM (fun q _ => kk q)
theorem a_callSN_I {f : Option (Int32 × ba_M)} {k : Int32 × ba_M → Option ρ} (hd : decode (yC Y) pc = .ok (.invokestatic ix, 3)) (hl : Cond.methodLinkNest (yO Y) ix y host ∈ lw_tbl) (hm : ba_mt y cc nL ret n) (hv : Cond.static y ∈ lw_tbl) (hM : ∀ q, f = some q → MA (mI cc own nL F Lc S) y ret as S m q) (hs : st = as.reverse ++ rest) (hn : as.length = n) (hr : decide (F + 1 ≤ yF Y) = true ∧ decide (8 + (nL + 11) + Lc ≤ yL Y) = true ∧ decide ((rest.map ac).sum ≤ 8) = true) (kk : ∀ q : Int32 × ba_M, AW Y (pc + 3) L (aI q.1 :: rest) S q.2 (k q)) : AW Y pc L st S m (f.bind k) :=
  a_callSN (Y' := (mI cc own nL F Lc S)) hd hl hm hv hn hr hs hM (fun q _ => kk q)
theorem a_callV_Z {f : Option (Bool × ba_M)} {k : Bool × ba_M → Option ρ} (hd : decode (yC Y) pc = .ok (.invokevirtual ix, 3)) (hl : Cond.methodLink (yO Y) ix y ∈ lw_tbl) (hm : ba_mt y cc nL ret n) (hv : ba_vt y) (ht : ∃ q : vw_C, vwCl[t]? = some q ∧ q.1 = y.cls) (hM : ∀ q, f = some q → MA (mZ cc own nL F Lc S) y ret (aR (some a) :: as) S m q) (hs : st = as.reverse ++ aR (some a) :: rest) (hn : as.length = n) (hk : ck S a t = true) (hr : decide (F + 1 ≤ yF Y) = true ∧ decide (8 + (nL + 11) + Lc ≤ yL Y) = true ∧ decide ((rest.map ac).sum ≤ 8) = true) (kk : ∀ q : Bool × ba_M, AW Y (pc + 3) L (aI (b2i q.1) :: rest) S q.2 (k q)) : AW Y pc L st S m (f.bind k) :=
  a_callV (Y' := (mZ cc own nL F Lc S)) hd hl hm hv ht hn hk hr hs hM (fun q _ => kk q)
theorem a_callS_Z {f : Option (Bool × ba_M)} {k : Bool × ba_M → Option ρ} (hd : decode (yC Y) pc = .ok (.invokestatic ix, 3)) (hl : Cond.methodLink (yO Y) ix y ∈ lw_tbl) (hm : ba_mt y cc nL ret n) (hv : Cond.static y ∈ lw_tbl) (hM : ∀ q, f = some q → MA (mZ cc own nL F Lc S) y ret as S m q) (hs : st = as.reverse ++ rest) (hn : as.length = n) (hr : decide (F + 1 ≤ yF Y) = true ∧ decide (8 + (nL + 11) + Lc ≤ yL Y) = true ∧ decide ((rest.map ac).sum ≤ 8) = true) (kk : ∀ q : Bool × ba_M, AW Y (pc + 3) L (aI (b2i q.1) :: rest) S q.2 (k q)) : AW Y pc L st S m (f.bind k) :=
  a_callS (Y' := (mZ cc own nL F Lc S)) hd hl hm hv hn hr hs hM (fun q _ => kk q)
theorem a_callSN_Z {f : Option (Bool × ba_M)} {k : Bool × ba_M → Option ρ} (hd : decode (yC Y) pc = .ok (.invokestatic ix, 3)) (hl : Cond.methodLinkNest (yO Y) ix y host ∈ lw_tbl) (hm : ba_mt y cc nL ret n) (hv : Cond.static y ∈ lw_tbl) (hM : ∀ q, f = some q → MA (mZ cc own nL F Lc S) y ret as S m q) (hs : st = as.reverse ++ rest) (hn : as.length = n) (hr : decide (F + 1 ≤ yF Y) = true ∧ decide (8 + (nL + 11) + Lc ≤ yL Y) = true ∧ decide ((rest.map ac).sum ≤ 8) = true) (kk : ∀ q : Bool × ba_M, AW Y (pc + 3) L (aI (b2i q.1) :: rest) S q.2 (k q)) : AW Y pc L st S m (f.bind k) :=
  a_callSN (Y' := (mZ cc own nL F Lc S)) hd hl hm hv hn hr hs hM (fun q _ => kk q)
theorem a_callV_J {f : Option (Int64 × ba_M)} {k : Int64 × ba_M → Option ρ} (hd : decode (yC Y) pc = .ok (.invokevirtual ix, 3)) (hl : Cond.methodLink (yO Y) ix y ∈ lw_tbl) (hm : ba_mt y cc nL ret n) (hv : ba_vt y) (ht : ∃ q : vw_C, vwCl[t]? = some q ∧ q.1 = y.cls) (hM : ∀ q, f = some q → MA (mJ cc own nL F Lc S) y ret (aR (some a) :: as) S m q) (hs : st = as.reverse ++ aR (some a) :: rest) (hn : as.length = n) (hk : ck S a t = true) (hr : decide (F + 1 ≤ yF Y) = true ∧ decide (8 + (nL + 11) + Lc ≤ yL Y) = true ∧ decide ((rest.map ac).sum ≤ 8) = true) (kk : ∀ q : Int64 × ba_M, AW Y (pc + 3) L (aJ q.1 :: rest) S q.2 (k q)) : AW Y pc L st S m (f.bind k) :=
  a_callV (Y' := (mJ cc own nL F Lc S)) hd hl hm hv ht hn hk hr hs hM (fun q _ => kk q)
theorem a_callS_J {f : Option (Int64 × ba_M)} {k : Int64 × ba_M → Option ρ} (hd : decode (yC Y) pc = .ok (.invokestatic ix, 3)) (hl : Cond.methodLink (yO Y) ix y ∈ lw_tbl) (hm : ba_mt y cc nL ret n) (hv : Cond.static y ∈ lw_tbl) (hM : ∀ q, f = some q → MA (mJ cc own nL F Lc S) y ret as S m q) (hs : st = as.reverse ++ rest) (hn : as.length = n) (hr : decide (F + 1 ≤ yF Y) = true ∧ decide (8 + (nL + 11) + Lc ≤ yL Y) = true ∧ decide ((rest.map ac).sum ≤ 8) = true) (kk : ∀ q : Int64 × ba_M, AW Y (pc + 3) L (aJ q.1 :: rest) S q.2 (k q)) : AW Y pc L st S m (f.bind k) :=
  a_callS (Y' := (mJ cc own nL F Lc S)) hd hl hm hv hn hr hs hM (fun q _ => kk q)
theorem a_callSN_J {f : Option (Int64 × ba_M)} {k : Int64 × ba_M → Option ρ} (hd : decode (yC Y) pc = .ok (.invokestatic ix, 3)) (hl : Cond.methodLinkNest (yO Y) ix y host ∈ lw_tbl) (hm : ba_mt y cc nL ret n) (hv : Cond.static y ∈ lw_tbl) (hM : ∀ q, f = some q → MA (mJ cc own nL F Lc S) y ret as S m q) (hs : st = as.reverse ++ rest) (hn : as.length = n) (hr : decide (F + 1 ≤ yF Y) = true ∧ decide (8 + (nL + 11) + Lc ≤ yL Y) = true ∧ decide ((rest.map ac).sum ≤ 8) = true) (kk : ∀ q : Int64 × ba_M, AW Y (pc + 3) L (aJ q.1 :: rest) S q.2 (k q)) : AW Y pc L st S m (f.bind k) :=
  a_callSN (Y' := (mJ cc own nL F Lc S)) hd hl hm hv hn hr hs hM (fun q _ => kk q)
theorem a_callV_R {f : Option (Nat × ba_M)} {k : Nat × ba_M → Option ρ} (hd : decode (yC Y) pc = .ok (.invokevirtual ix, 3)) (hl : Cond.methodLink (yO Y) ix y ∈ lw_tbl) (hm : ba_mt y cc nL ret n) (hv : ba_vt y) (ht : ∃ q : vw_C, vwCl[t]? = some q ∧ q.1 = y.cls) (hM : ∀ q, f = some q → MA (mR cc own nL F Lc S) y ret (aR (some a) :: as) S m q) (hs : st = as.reverse ++ aR (some a) :: rest) (hn : as.length = n) (hk : ck S a t = true) (hr : decide (F + 1 ≤ yF Y) = true ∧ decide (8 + (nL + 11) + Lc ≤ yL Y) = true ∧ decide ((rest.map ac).sum ≤ 8) = true) (kk : ∀ q : Nat × ba_M, AW Y (pc + 3) L (aR (some q.1) :: rest) S q.2 (k q)) : AW Y pc L st S m (f.bind k) :=
  a_callV (Y' := (mR cc own nL F Lc S)) hd hl hm hv ht hn hk hr hs hM (fun q _ => kk q)
theorem a_callS_R {f : Option (Nat × ba_M)} {k : Nat × ba_M → Option ρ} (hd : decode (yC Y) pc = .ok (.invokestatic ix, 3)) (hl : Cond.methodLink (yO Y) ix y ∈ lw_tbl) (hm : ba_mt y cc nL ret n) (hv : Cond.static y ∈ lw_tbl) (hM : ∀ q, f = some q → MA (mR cc own nL F Lc S) y ret as S m q) (hs : st = as.reverse ++ rest) (hn : as.length = n) (hr : decide (F + 1 ≤ yF Y) = true ∧ decide (8 + (nL + 11) + Lc ≤ yL Y) = true ∧ decide ((rest.map ac).sum ≤ 8) = true) (kk : ∀ q : Nat × ba_M, AW Y (pc + 3) L (aR (some q.1) :: rest) S q.2 (k q)) : AW Y pc L st S m (f.bind k) :=
  a_callS (Y' := (mR cc own nL F Lc S)) hd hl hm hv hn hr hs hM (fun q _ => kk q)
theorem a_callSN_R {f : Option (Nat × ba_M)} {k : Nat × ba_M → Option ρ} (hd : decode (yC Y) pc = .ok (.invokestatic ix, 3)) (hl : Cond.methodLinkNest (yO Y) ix y host ∈ lw_tbl) (hm : ba_mt y cc nL ret n) (hv : Cond.static y ∈ lw_tbl) (hM : ∀ q, f = some q → MA (mR cc own nL F Lc S) y ret as S m q) (hs : st = as.reverse ++ rest) (hn : as.length = n) (hr : decide (F + 1 ≤ yF Y) = true ∧ decide (8 + (nL + 11) + Lc ≤ yL Y) = true ∧ decide ((rest.map ac).sum ≤ 8) = true) (kk : ∀ q : Nat × ba_M, AW Y (pc + 3) L (aR (some q.1) :: rest) S q.2 (k q)) : AW Y pc L st S m (f.bind k) :=
  a_callSN (Y' := (mR cc own nL F Lc S)) hd hl hm hv hn hr hs hM (fun q _ => kk q)
theorem a_callV_N {f : Option (Option Nat × ba_M)} {k : Option Nat × ba_M → Option ρ} (hd : decode (yC Y) pc = .ok (.invokevirtual ix, 3)) (hl : Cond.methodLink (yO Y) ix y ∈ lw_tbl) (hm : ba_mt y cc nL ret n) (hv : ba_vt y) (ht : ∃ q : vw_C, vwCl[t]? = some q ∧ q.1 = y.cls) (hM : ∀ q, f = some q → MA (mN cc own nL F Lc S) y ret (aR (some a) :: as) S m q) (hs : st = as.reverse ++ aR (some a) :: rest) (hn : as.length = n) (hk : ck S a t = true) (hr : decide (F + 1 ≤ yF Y) = true ∧ decide (8 + (nL + 11) + Lc ≤ yL Y) = true ∧ decide ((rest.map ac).sum ≤ 8) = true) (kk : ∀ q : Option Nat × ba_M, AW Y (pc + 3) L (aR q.1 :: rest) S q.2 (k q)) : AW Y pc L st S m (f.bind k) :=
  a_callV (Y' := (mN cc own nL F Lc S)) hd hl hm hv ht hn hk hr hs hM (fun q _ => kk q)
theorem a_callS_N {f : Option (Option Nat × ba_M)} {k : Option Nat × ba_M → Option ρ} (hd : decode (yC Y) pc = .ok (.invokestatic ix, 3)) (hl : Cond.methodLink (yO Y) ix y ∈ lw_tbl) (hm : ba_mt y cc nL ret n) (hv : Cond.static y ∈ lw_tbl) (hM : ∀ q, f = some q → MA (mN cc own nL F Lc S) y ret as S m q) (hs : st = as.reverse ++ rest) (hn : as.length = n) (hr : decide (F + 1 ≤ yF Y) = true ∧ decide (8 + (nL + 11) + Lc ≤ yL Y) = true ∧ decide ((rest.map ac).sum ≤ 8) = true) (kk : ∀ q : Option Nat × ba_M, AW Y (pc + 3) L (aR q.1 :: rest) S q.2 (k q)) : AW Y pc L st S m (f.bind k) :=
  a_callS (Y' := (mN cc own nL F Lc S)) hd hl hm hv hn hr hs hM (fun q _ => kk q)
theorem a_callSN_N {f : Option (Option Nat × ba_M)} {k : Option Nat × ba_M → Option ρ} (hd : decode (yC Y) pc = .ok (.invokestatic ix, 3)) (hl : Cond.methodLinkNest (yO Y) ix y host ∈ lw_tbl) (hm : ba_mt y cc nL ret n) (hv : Cond.static y ∈ lw_tbl) (hM : ∀ q, f = some q → MA (mN cc own nL F Lc S) y ret as S m q) (hs : st = as.reverse ++ rest) (hn : as.length = n) (hr : decide (F + 1 ≤ yF Y) = true ∧ decide (8 + (nL + 11) + Lc ≤ yL Y) = true ∧ decide ((rest.map ac).sum ≤ 8) = true) (kk : ∀ q : Option Nat × ba_M, AW Y (pc + 3) L (aR q.1 :: rest) S q.2 (k q)) : AW Y pc L st S m (f.bind k) :=
  a_callSN (Y' := (mN cc own nL F Lc S)) hd hl hm hv hn hr hs hM (fun q _ => kk q)
theorem a_callV_V {f : Option (ba_M)} {k : ba_M → Option ρ} (hd : decode (yC Y) pc = .ok (.invokevirtual ix, 3)) (hl : Cond.methodLink (yO Y) ix y ∈ lw_tbl) (hm : ba_mt y cc nL ret n) (hv : ba_vt y) (ht : ∃ q : vw_C, vwCl[t]? = some q ∧ q.1 = y.cls) (hM : ∀ q, f = some q → MA (mV cc own nL F Lc S) y ret (aR (some a) :: as) S m q) (hs : st = as.reverse ++ aR (some a) :: rest) (hn : as.length = n) (hk : ck S a t = true) (hr : decide (F + 1 ≤ yF Y) = true ∧ decide (8 + (nL + 11) + Lc ≤ yL Y) = true ∧ decide ((rest.map ac).sum ≤ 8) = true) (kk : ∀ q : ba_M, AW Y (pc + 3) L (rest) S q (k q)) : AW Y pc L st S m (f.bind k) :=
  a_callV (Y' := (mV cc own nL F Lc S)) hd hl hm hv ht hn hk hr hs hM (fun q _ => kk q)
theorem a_callS_V {f : Option (ba_M)} {k : ba_M → Option ρ} (hd : decode (yC Y) pc = .ok (.invokestatic ix, 3)) (hl : Cond.methodLink (yO Y) ix y ∈ lw_tbl) (hm : ba_mt y cc nL ret n) (hv : Cond.static y ∈ lw_tbl) (hM : ∀ q, f = some q → MA (mV cc own nL F Lc S) y ret as S m q) (hs : st = as.reverse ++ rest) (hn : as.length = n) (hr : decide (F + 1 ≤ yF Y) = true ∧ decide (8 + (nL + 11) + Lc ≤ yL Y) = true ∧ decide ((rest.map ac).sum ≤ 8) = true) (kk : ∀ q : ba_M, AW Y (pc + 3) L (rest) S q (k q)) : AW Y pc L st S m (f.bind k) :=
  a_callS (Y' := (mV cc own nL F Lc S)) hd hl hm hv hn hr hs hM (fun q _ => kk q)
theorem a_callSN_V {f : Option (ba_M)} {k : ba_M → Option ρ} (hd : decode (yC Y) pc = .ok (.invokestatic ix, 3)) (hl : Cond.methodLinkNest (yO Y) ix y host ∈ lw_tbl) (hm : ba_mt y cc nL ret n) (hv : Cond.static y ∈ lw_tbl) (hM : ∀ q, f = some q → MA (mV cc own nL F Lc S) y ret as S m q) (hs : st = as.reverse ++ rest) (hn : as.length = n) (hr : decide (F + 1 ≤ yF Y) = true ∧ decide (8 + (nL + 11) + Lc ≤ yL Y) = true ∧ decide ((rest.map ac).sum ≤ 8) = true) (kk : ∀ q : ba_M, AW Y (pc + 3) L (rest) S q (k q)) : AW Y pc L st S m (f.bind k) :=
  a_callSN (Y' := (mV cc own nL F Lc S)) hd hl hm hv hn hr hs hM (fun q _ => kk q)
theorem a_callI_C {f : Option (ba_S × ba_M)} {k : ba_S × ba_M → Option ρ} (hd : decode (yC Y) pc = .ok (.invokespecial ix, 3)) (hl : Cond.methodLink (yO Y) ix y ∈ lw_tbl) (hm : ba_mt y cc nL none n) (hv : Cond.instanceMethod y ∈ lw_tbl ∧ y.name = "<init>") (hM : ∀ q, f = some q → MA (mC cc own nL F Lc) y none (aR (some a) :: as) S m q) (hs : st = as.reverse ++ aR (some a) :: rest) (hn : as.length = n) (hr : decide (F + 1 ≤ yF Y) = true ∧ decide (8 + (nL + 11) + Lc ≤ yL Y) = true ∧ decide ((rest.map ac).sum ≤ 8) = true) (kk : ∀ q : ba_S × ba_M, AW Y (pc + 3) L (rest) q.1 q.2 (k q)) : AW Y pc L st S m (f.bind k) :=
  a_callI (Y' := (mC cc own nL F Lc)) hd hl hm hv hn hr hs hM (fun q _ => kk q)
theorem a_callIN_C {f : Option (ba_S × ba_M)} {k : ba_S × ba_M → Option ρ} (hd : decode (yC Y) pc = .ok (.invokespecial ix, 3)) (hl : Cond.methodLinkNest (yO Y) ix y host ∈ lw_tbl) (hm : ba_mt y cc nL none n) (hv : Cond.instanceMethod y ∈ lw_tbl ∧ y.name = "<init>") (hM : ∀ q, f = some q → MA (mC cc own nL F Lc) y none (aR (some a) :: as) S m q) (hs : st = as.reverse ++ aR (some a) :: rest) (hn : as.length = n) (hr : decide (F + 1 ≤ yF Y) = true ∧ decide (8 + (nL + 11) + Lc ≤ yL Y) = true ∧ decide ((rest.map ac).sum ≤ 8) = true) (kk : ∀ q : ba_S × ba_M, AW Y (pc + 3) L (rest) q.1 q.2 (k q)) : AW Y pc L st S m (f.bind k) :=
  a_callIN (Y' := (mC cc own nL F Lc)) hd hl hm hv hn hr hs hM (fun q _ => kk q)
theorem iM_max : Cond.static Lib.Math.max.name ∈ lw_tbl ∧ Cond.initialized "java/lang/Math" ∈ lw_tbl ∧ Cond.code Lib.Math.max.name Lib.Math.max.code 2 (some .int) ∈ lw_tbl := ⟨by decide +kernel, by decide +kernel, by decide +kernel⟩
theorem a_max {x y : Int32} {o : Option ρ} (hd : decode (yC Y) pc = .ok (.invokestatic ix, 3)) (hl : Cond.methodLink (yO Y) ix Lib.Math.max.name ∈ lw_tbl) (hF : decide (1 ≤ yF Y) = true) (hLc : decide (21 ≤ yL Y) = true) (hst : decide ((st.map ac).sum ≤ 8) = true) (k : AW Y (pc + 3) L (aI (jmax x y) :: st) S m o) : AW Y pc L (aI y :: aI x :: st) S m o := by
  intro q hq
  obtain ⟨⟨h1, h1'⟩, h2⟩ := k q hq
  refine ⟨⟨h1, h1'⟩, ?_⟩
  intro p l e R s mid args below meth c H0 D G base b n0 s0 Q X E H locs ls hW hS hL hn hs
  have f1 := X.F
  have f2 := of_decide_eq_true hF
  have f3 := of_decide_eq_true hLc
  have f4 := of_decide_eq_true hst
  have c1 := E.1
  have c2 := E.2.1
  exact va_mmax X.1 X.2.1 (by rw [X.2.2.1]; exact hL.1.symm) X.own (X.ts _ hl rfl) (X.ts _ iM_max.1 rfl) (X.ts _ iM_max.2.1 rfl) (X.ts _ iM_max.2.2 rfl) (Nat.le_trans f2 f1.1) (by rw [cv_sum]; omega) (by omega) (by omega) hd (h2 p l e R s mid args below meth c H0 D G base b n0 s0 Q X E H locs ls hW hS hL hn hs)
theorem iM_min : Cond.static Lib.Math.min.name ∈ lw_tbl ∧ Cond.initialized "java/lang/Math" ∈ lw_tbl ∧ Cond.code Lib.Math.min.name Lib.Math.min.code 2 (some .int) ∈ lw_tbl := ⟨by decide +kernel, by decide +kernel, by decide +kernel⟩
theorem a_min {x y : Int32} {o : Option ρ} (hd : decode (yC Y) pc = .ok (.invokestatic ix, 3)) (hl : Cond.methodLink (yO Y) ix Lib.Math.min.name ∈ lw_tbl) (hF : decide (1 ≤ yF Y) = true) (hLc : decide (21 ≤ yL Y) = true) (hst : decide ((st.map ac).sum ≤ 8) = true) (k : AW Y (pc + 3) L (aI (jmin x y) :: st) S m o) : AW Y pc L (aI y :: aI x :: st) S m o := by
  intro q hq
  obtain ⟨⟨h1, h1'⟩, h2⟩ := k q hq
  refine ⟨⟨h1, h1'⟩, ?_⟩
  intro p l e R s mid args below meth c H0 D G base b n0 s0 Q X E H locs ls hW hS hL hn hs
  have f1 := X.F
  have f2 := of_decide_eq_true hF
  have f3 := of_decide_eq_true hLc
  have f4 := of_decide_eq_true hst
  have c1 := E.1
  have c2 := E.2.1
  exact va_mmin X.1 X.2.1 (by rw [X.2.2.1]; exact hL.1.symm) X.own (X.ts _ hl rfl) (X.ts _ iM_min.1 rfl) (X.ts _ iM_min.2.1 rfl) (X.ts _ iM_min.2.2 rfl) (Nat.le_trans f2 f1.1) (by rw [cv_sum]; omega) (by omega) (by omega) hd (h2 p l e R s mid args below meth c H0 D G base b n0 s0 Q X E H locs ls hW hS hL hn hs)
theorem iM_abs : Cond.static Lib.Math.abs.name ∈ lw_tbl ∧ Cond.initialized "java/lang/Math" ∈ lw_tbl ∧ Cond.code Lib.Math.abs.name Lib.Math.abs.code 1 (some .int) ∈ lw_tbl := ⟨by decide +kernel, by decide +kernel, by decide +kernel⟩
theorem a_abs {x : Int32} {o : Option ρ} (hd : decode (yC Y) pc = .ok (.invokestatic ix, 3)) (hl : Cond.methodLink (yO Y) ix Lib.Math.abs.name ∈ lw_tbl) (hF : decide (1 ≤ yF Y) = true) (hLc : decide (21 ≤ yL Y) = true) (hst : decide ((st.map ac).sum ≤ 8) = true) (k : AW Y (pc + 3) L (aI (jabs x) :: st) S m o) : AW Y pc L (aI x :: st) S m o := by
  intro q hq
  obtain ⟨⟨h1, h1'⟩, h2⟩ := k q hq
  refine ⟨⟨h1, h1'⟩, ?_⟩
  intro p l e R s mid args below meth c H0 D G base b n0 s0 Q X E H locs ls hW hS hL hn hs
  have f1 := X.F
  have f2 := of_decide_eq_true hF
  have f3 := of_decide_eq_true hLc
  have f4 := of_decide_eq_true hst
  have c1 := E.1
  have c2 := E.2.1
  exact va_mabs X.1 X.2.1 (by rw [X.2.2.1]; exact hL.1.symm) X.own (X.ts _ hl rfl) (X.ts _ iM_abs.1 rfl) (X.ts _ iM_abs.2.1 rfl) (X.ts _ iM_abs.2.2 rfl) (Nat.le_trans f2 f1.1) (by rw [cv_sum]; omega) (by omega) (by omega) hd (h2 p l e R s mid args below meth c H0 D G base b n0 s0 Q X E H locs ls hW hS hL hn hs)
end AWK
