/-! the world: the cells of the objects 0, 1, .. at base, base + 1, .. -/
abbrev ba_G : Type := ClassId × ClassId × ClassId × ClassId
def fY : Nat → Nat → FieldType
  | 0 => tyX0 | 1 => tyX1 | 2 => tyX2 | 3 => tyX3 | 4 => tyX4 | 5 => tyX6 | 6 => tyX7 | 7 => tyX8 | 8 => tyX9 | 9 => tyX10 | 10 => tyX11 | _ => tyX12
def fc : FieldType → Nat
  | .long => 1
  | .object _ => 2
  | .array _ => 2
  | _ => 0
def nF (t : Nat) : Nat := ((vwCl[t]?).map (fun q => q.2.2)).getD 0
def RPl : String := "BallAndName$Player"
def RTo : String := "BallAndName$Told"
def tyl (G : ba_G) : List (ClassId × FieldType) := [(G.1, .int), (G.2.1, .long), (G.2.2.1, .object RX2), (G.2.2.2, .object RX10)]
def fV (base : Nat) (S : ba_S) (m : ba_M) (o : Nat) : Nat → Nat → Value
  | 0, k => .int (gI m o k)
  | 1, k => .long (gL m o k)
  | _, k => va_rf ((gR S o k).map (base + ·))
def oF (base : Nat) (S : ba_S) (m : ba_M) (o t : Nat) : List Value := (List.range (nF t)).map fun k => fV base S m o (fc (fY t k)) k
def cE (base : Nat) (G : ba_G) (S : ba_S) (m : ba_M) (o : Nat) : va_E :=
  if kT S o = 20 then .inl (G.1, kL S o, .inl (fun j => gI m o j))
  else if kT S o = 21 then .inl (G.2.1, kL S o, .inr (.inl (fun j => gL m o j)))
  else if kT S o = 22 then .inl (G.2.2.1, kL S o, .inr (.inr (.inr (.inr (fun j => (gR S o j).map (base + ·))))))
  else if kT S o = 23 then .inl (G.2.2.2, kL S o, .inr (.inr (.inr (.inr (fun j => (gR S o j).map (base + ·))))))
  else .inr (kT S o, oF base S m o (kT S o))
def wls (base : Nat) (G : ba_G) (S : ba_S) (m : ba_M) : va_W := (List.range (nN S)).map fun o => (base + o, cE base G S m o)
def Wd (D : va_G) (G : ba_G) (base : Nat) (S : ba_S) (m : ba_M) (H : Heap) : Prop := va_P D vwCl (wls base G S m) H ∧ H.size = base + nN S
theorem wls_at {base : Nat} {G : ba_G} {S : ba_S} {m : ba_M} {o : Nat} (h : o < nN S) : (wls base G S m)[o]? = some (base + o, cE base G S m o) := by
  simp [wls, List.getElem?_map, List.getElem?_range h]
theorem wls_len {base : Nat} {G : ba_G} {S : ba_S} {m : ba_M} : (wls base G S m).length = nN S := by simp [wls]
theorem wls_D {base : Nat} {G : ba_G} {S : ba_S} {m : ba_M} : va_D (fun a => base ≤ a) (wls base G S m) := by
  have key : ∀ (k : Nat) (q : Nat × va_E), (wls base G S m)[k]? = some q → q.1 = base + k := by
    intro k q h
    have hk : k < nN S := by
      have := (List.getElem?_eq_some_iff.mp h).1
      rwa [wls_len] at this
    rw [wls_at hk] at h
    cases h
    rfl
  refine ⟨fun i j p q hi hj h => ?_, fun k q h => ?_⟩
  · rw [key i p hi, key j q hj] at h
    omega
  · rw [key k q h]
    exact Nat.le_add_right _ _
theorem wls_set {base : Nat} {G : ba_G} {S S' : ba_S} {m m' : ba_M} {o : Nat} {e : va_E} (hn : nN S' = nN S) (he : o < nN S → cE base G S' m' o = e) (hc : ∀ a, a ≠ o → cE base G S' m' a = cE base G S m a) : (wls base G S m).set o (base + o, e) = wls base G S' m' := by
  apply List.ext_getElem?
  intro k
  by_cases hk : k < nN S
  · rw [wls_at (S := S') (by rw [hn]; exact hk)]
    by_cases hko : k = o
    · subst hko
      rw [List.getElem?_set_self (by rw [wls_len]; exact hk), he hk]
    · rw [List.getElem?_set_ne (Ne.symm hko), wls_at hk, hc k hko]
  · rw [List.getElem?_eq_none (by rw [List.length_set, wls_len]; omega), List.getElem?_eq_none (by rw [wls_len, hn]; omega)]
/-- what a cell is, by its kind -/
theorem cE_i {base : Nat} {G : ba_G} {S : ba_S} {m : ba_M} {o : Nat} (h : kT S o = 20) : cE base G S m o = .inl (G.1, kL S o, .inl (fun j => gI m o j)) := by simp [cE, h]
theorem cE_l {base : Nat} {G : ba_G} {S : ba_S} {m : ba_M} {o : Nat} (h : kT S o = 21) : cE base G S m o = .inl (G.2.1, kL S o, .inr (.inl (fun j => gL m o j))) := by simp [cE, h]
theorem cE_p {base : Nat} {G : ba_G} {S : ba_S} {m : ba_M} {o : Nat} (h : kT S o = 22) : cE base G S m o = .inl (G.2.2.1, kL S o, .inr (.inr (.inr (.inr (fun j => (gR S o j).map (base + ·)))))) := by simp [cE, h]
theorem cE_t {base : Nat} {G : ba_G} {S : ba_S} {m : ba_M} {o : Nat} (h : kT S o = 23) : cE base G S m o = .inl (G.2.2.2, kL S o, .inr (.inr (.inr (.inr (fun j => (gR S o j).map (base + ·)))))) := by simp [cE, h]
theorem cE_o {base : Nat} {G : ba_G} {S : ba_S} {m : ba_M} {o t : Nat} (h : kT S o = t) (ht : t < 12) : cE base G S m o = .inr (t, oF base S m o t) := by
  subst h
  unfold cE
  rw [if_neg (by omega), if_neg (by omega), if_neg (by omega), if_neg (by omega)]
theorem oF_at {base : Nat} {S : ba_S} {m : ba_M} {o t k : Nat} (h : k < nF t) : (oF base S m o t)[k]? = some (fV base S m o (fc (fY t k)) k) := by
  simp [oF, List.getElem?_map, List.getElem?_range h]
theorem oF_len {base : Nat} {S : ba_S} {m : ba_M} {o t : Nat} : (oF base S m o t).length = nF t := by simp [oF]
theorem oF_set {base : Nat} {S S' : ba_S} {m m' : ba_M} {o t k : Nat} {v : Value} (hv : k < nF t → fV base S' m' o (fc (fY t k)) k = v) (hc : ∀ j, j ≠ k → fV base S' m' o (fc (fY t j)) j = fV base S m o (fc (fY t j)) j) : (oF base S m o t).set k v = oF base S' m' o t := by
  apply List.ext_getElem?
  intro j
  by_cases hj : j < nF t
  · rw [oF_at (S := S') hj]
    by_cases h : j = k
    · subst h
      rw [List.getElem?_set_self (by rw [oF_len]; exact hj), hv hj]
    · rw [List.getElem?_set_ne (Ne.symm h), oF_at hj, hc j h]
  · rw [List.getElem?_eq_none (by rw [List.length_set, oF_len]; omega), List.getElem?_eq_none (by rw [oF_len]; omega)]
theorem fV_of {base : Nat} {S S' : ba_S} {m m' : ba_M} {o k c : Nat} (h1 : gI m' o k = gI m o k) (h2 : gL m' o k = gL m o k) (h3 : gR S' o k = gR S o k) : fV base S' m' o c k = fV base S m o c k := by
  match c with
  | 0 => simp [fV, h1]
  | 1 => simp [fV, h2]
  | c + 2 => simp [fV, h3]
theorem oF_of {base : Nat} {S S' : ba_S} {m m' : ba_M} {o t : Nat} (h1 : ∀ k, gI m' o k = gI m o k) (h2 : ∀ k, gL m' o k = gL m o k) (h3 : ∀ k, gR S' o k = gR S o k) : oF base S' m' o t = oF base S m o t := by
  unfold oF
  exact List.map_congr_left fun k _ => fV_of (h1 k) (h2 k) (h3 k)
theorem cE_of {base : Nat} {G : ba_G} {S S' : ba_S} {m m' : ba_M} {o : Nat} (h0 : S'.2.1 o = S.2.1 o) (h1 : ∀ k, gI m' o k = gI m o k) (h2 : ∀ k, gL m' o k = gL m o k) (h3 : ∀ k, gR S' o k = gR S o k) : cE base G S' m' o = cE base G S m o := by
  have e1 : kT S' o = kT S o := by simp [kT, h0]
  have e2 : kL S' o = kL S o := by simp [kL, h0]
  unfold cE
  simp only [e1, e2, h1, h2, h3, oF_of h1 h2 h3]
theorem gI_s (m : ba_M) (o k : Nat) (x : Int32) : gI (wI m o k x) o k = x := by simp [gI, wI]
theorem gI_n (m : ba_M) (o k a j : Nat) (x : Int32) (h : ¬ (a = o ∧ j = k)) : gI (wI m o k x) a j = gI m a j := by simp only [gI, wI]; rw [if_neg h]
theorem gI_wI (m : ba_M) (o k a j : Nat) (x : Int32) : gI (wI m o k x) a j = if a = o ∧ j = k then x else gI m a j := rfl
theorem gL_wL (m : ba_M) (o k a j : Nat) (x : Int64) : gL (wL m o k x) a j = if a = o ∧ j = k then x else gL m a j := rfl
theorem gL_wI (m : ba_M) (o k a j : Nat) (x : Int32) : gL (wI m o k x) a j = gL m a j := rfl
theorem gI_wL (m : ba_M) (o k a j : Nat) (x : Int64) : gI (wL m o k x) a j = gI m a j := rfl
/-! the judgement -/
abbrev ba_Y (ρ : Type) : Type := ByteArray × String × Nat × Instr × Nat × Nat × Bool × Option (Nat × (Nat → Int32)) × (ρ → Option ba_A × ba_S × ba_M)
abbrev yC {ρ : Type} (Y : ba_Y ρ) : ByteArray := Y.1
abbrev yO {ρ : Type} (Y : ba_Y ρ) : String := Y.2.1
abbrev yN {ρ : Type} (Y : ba_Y ρ) : Nat := Y.2.2.1
abbrev yR {ρ : Type} (Y : ba_Y ρ) : Instr := Y.2.2.2.1
abbrev yF {ρ : Type} (Y : ba_Y ρ) : Nat := Y.2.2.2.2.1
abbrev yL {ρ : Type} (Y : ba_Y ρ) : Nat := Y.2.2.2.2.2.1
abbrev yI {ρ : Type} (Y : ba_Y ρ) : Bool := Y.2.2.2.2.2.2.1
abbrev yX {ρ : Type} (Y : ba_Y ρ) : Option (Nat × (Nat → Int32)) := Y.2.2.2.2.2.2.2.1
abbrev yE {ρ : Type} (Y : ba_Y ρ) : ρ → Option ba_A × ba_S × ba_M := Y.2.2.2.2.2.2.2.2
/-- what is not carried by the words: calls into a nest mate, and the classes of the two arrays of references -/
def ba_nest : Cond → Bool
  | .methodLinkNest .. => true
  | _ => false
def TB (U : State) : Prop := (∀ w ∈ lw_tbl, ba_nest w = true → w.before #[] U = true) ∧ va_AO RX2 U ∧ va_AO RX10 U
theorem TB.warm {s U : State} (hW : s.WarmedH U.vm) (h : TB s) : TB U := by
  refine ⟨fun w hw hn => ?_, h.2.1.moved hW.alike, h.2.2.moved hW.alike⟩
  have h1 := h.1 w hw hn
  cases w <;> first | (simp [ba_nest] at hn; done) | exact va_Nw.warmM hW h1
theorem TB.same {u U : State} (hv : u.vm = U.vm) (h : TB u) : TB U := by
  refine ⟨fun w hw hn => ?_, va_AO.moved (by rw [hv]; exact Vm.Alike.refl _) h.2.1, va_AO.moved (by rw [hv]; exact Vm.Alike.refl _) h.2.2⟩
  have h1 := h.1 w hw hn
  cases w <;> first | (simp [ba_nest] at hn; done) | exact va_Nw.same rfl hv h1
def CX {ρ : Type} (Y : ba_Y ρ) (p : Program) (R : Room) (s : State) (mid : MethodId) (args : Array Value) (meth : Method) (c : Code) (H0 : Heap) (D : va_G) (G : ba_G) (base b : Nat) : Prop :=
  p.tables.exec = Jvm.exec ∧ c.code = yC Y ∧ c.maxLocals = yN Y ∧ s.vm.findClass (yO Y) = some mid.cls ∧ (∀ w ∈ lw_tbl, goodWord w = true → w.before args s = true) ∧ yF Y ≤ R.frames ∧ yL Y ≤ R.locals ∧ (va_K D vwCl (tyl G) s ∧ TB s) ∧ base ≤ H0.size ∧ (yI Y = true → meth.name = "<init>") ∧ ∀ L xs, yX Y = some (L, xs) → va_X b L xs s H0 ∧ b < H0.size ∧ b < base
def EN {ρ : Type} (Y : ba_Y ρ) (q : ρ) (p : Program) (l : Launch) (e : Env) (R : Room) (s : State) (mid : MethodId) (args : Array Value) (below : List Frame) (meth : Method) (c : Code) (H0 : Heap) (D : va_G) (G : ba_G) (base b n0 s0 : Nat) (Q : State → Prop) : Prop :=
  nN (yE Y q).2.1 - n0 ≤ R.cells ∧ nS (yE Y q).2.1 - s0 ≤ R.slots ∧ ∀ (H1 : Heap) (locs1 : List Loc) (ls1 : Array Slot) (pc1 : Nat), Wd D G base (yE Y q).2.1 (yE Y q).2.2 H1 → va_S (fun a => base ≤ a) H0 H1 locs1 → decode (yC Y) pc1 = .ok (yR Y, 1) →
    W p l e R s mid args below meth c H1 locs1 (nN (yE Y q).2.1 - n0) (nS (yE Y q).2.1 - s0) Q (F0 mid pc1 ls1 ((yE Y q).1.toList.map (cv base b)))
def AW {ρ : Type} (Y : ba_Y ρ) (pc : Nat) (L : List (Option ba_A)) (st : List ba_A) (S : ba_S) (m : ba_M) (o : Option ρ) : Prop :=
  ∀ q, o = some q → (nN S ≤ nN (yE Y q).2.1 ∧ nS S ≤ nS (yE Y q).2.1) ∧
    ∀ (p : Program) (l : Launch) (e : Env) (R : Room) (s : State) (mid : MethodId) (args : Array Value) (below : List Frame) (meth : Method) (c : Code) (H0 : Heap) (D : va_G) (G : ba_G) (base b n0 s0 : Nat) (Q : State → Prop),
      CX Y p R s mid args meth c H0 D G base b → EN Y q p l e R s mid args below meth c H0 D G base b n0 s0 Q → ∀ (H : Heap) (locs : List Loc) (ls : Array Slot), Wd D G base S m H → va_S (fun a => base ≤ a) H0 H locs → LH base b (yN Y) ls L → n0 ≤ nN S → s0 ≤ nS S →
        W p l e R s mid args below meth c H locs (nN S - n0) (nS S - s0) Q (F0 mid pc ls (st.map (cv base b)))
section AWS
variable {ρ : Type} {Y : ba_Y ρ} {pc : Nat} {L : List (Option ba_A)} {st : List ba_A} {S : ba_S} {m : ba_M} {o : Option ρ}
theorem AW.none : AW Y pc L st S m (none : Option ρ) := fun _ h => by cases h
/-- one instruction that leaves the memory as it is -/
theorem AW.step {pc' : Nat} {L' : List (Option ba_A)} {st' : List ba_A} (k : AW Y pc' L' st' S m o)
    (h : ∀ (p : Program) (l : Launch) (e : Env) (R : Room) (s : State) (mid : MethodId) (args : Array Value) (below : List Frame) (meth : Method) (c : Code) (H0 : Heap) (D : va_G) (G : ba_G) (base b cells slots : Nat) (Q : State → Prop) (H : Heap) (locs : List Loc) (ls : Array Slot),
      CX Y p R s mid args meth c H0 D G base b → Wd D G base S m H → va_S (fun a => base ≤ a) H0 H locs → LH base b (yN Y) ls L →
      (∀ ls', LH base b (yN Y) ls' L' → W p l e R s mid args below meth c H locs cells slots Q (F0 mid pc' ls' (st'.map (cv base b)))) → W p l e R s mid args below meth c H locs cells slots Q (F0 mid pc ls (st.map (cv base b)))) : AW Y pc L st S m o := by
  intro q hq
  obtain ⟨h1, h2⟩ := k q hq
  refine ⟨h1, ?_⟩
  intro p l e R s mid args below meth c H0 D G base b n0 s0 Q X E H locs ls hW hS hL hn hs
  exact h p l e R s mid args below meth c H0 D G base b _ _ Q H locs ls X hW hS hL (fun ls' hL' => h2 p l e R s mid args below meth c H0 D G base b n0 s0 Q X E H locs ls' hW hS hL' hn hs)
theorem AW.weak {L' : List (Option ba_A)} (hw : Lw L L') (k : AW Y pc L' st S m o) : AW Y pc L st S m o :=
  k.step fun p l e R s mid args below meth c H0 D G base b cells slots Q H locs ls X hW hS hL kk => kk ls (hL.weak hw)
theorem AW.if {c : Prop} [Decidable c] {o1 o2 : Option ρ} (h1 : c → AW Y pc L st S m o1) (h2 : ¬ c → AW Y pc L st S m o2) : AW Y pc L st S m (if c then o1 else o2) := by
  by_cases h : c
  · rw [if_pos h]; exact h1 h
  · rw [if_neg h]; exact h2 h
theorem AW.ret {q : ρ} {v : Option ba_A} (hd : decode (yC Y) pc = .ok (yR Y, 1)) (he : yE Y q = (v, S, m)) (hs : v.toList = st) : AW Y pc L st S m (some q) := by
  intro q' hq
  cases hq
  rw [he]
  refine ⟨⟨Nat.le_refl _, Nat.le_refl _⟩, ?_⟩
  intro p l e R s mid args below meth c H0 D G base b n0 s0 Q X E H locs ls hW hS hL hn hs'
  have := E.2.2 H locs ls pc (by rw [he]; exact hW) hS hd
  rw [he] at this
  dsimp only at this
  rw [hs] at this
  exact this
end AWS
