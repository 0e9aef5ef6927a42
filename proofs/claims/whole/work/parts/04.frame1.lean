/-! THE FRAME: a method as a function over a small memory. The class's and the reference's objects have numbers 0, 1, .. in the order in which they are made;
    'ba_S' is what never changes once they are made (references, kinds, how many, how many slots), 'ba_M' what their whole numbers are (int and long fields and elements). -/
abbrev ba_M : Type := (Nat → Nat → Int32) × (Nat → Nat → Int64)
abbrev ba_S : Type := (Nat → Nat → Option Nat) × (Nat → Nat × Nat) × Nat × Nat
def gI (m : ba_M) (o k : Nat) : Int32 := m.1 o k
def gL (m : ba_M) (o k : Nat) : Int64 := m.2 o k
def wI (m : ba_M) (o k : Nat) (x : Int32) : ba_M := (fun a b => if a = o ∧ b = k then x else m.1 a b, m.2)
def wL (m : ba_M) (o k : Nat) (x : Int64) : ba_M := (m.1, fun a b => if a = o ∧ b = k then x else m.2 a b)
def gR (S : ba_S) (o k : Nat) : Option Nat := S.1 o k
def kT (S : ba_S) (o : Nat) : Nat := (S.2.1 o).1
def kL (S : ba_S) (o : Nat) : Nat := (S.2.1 o).2
def nN (S : ba_S) : Nat := S.2.2.1
def nS (S : ba_S) : Nat := S.2.2.2
def ck (S : ba_S) (o t : Nat) : Bool := decide (o < nN S) && (kT S o == t)
theorem ck_i {S : ba_S} {o t : Nat} (h : ck S o t = true) : o < nN S ∧ kT S o = t := by
  simpa [ck] using h
/-! abstract values: an int, a long, a reference (an object's number, or null), the law's script -/
abbrev ba_A : Type := Int32 ⊕ Int64 ⊕ Option Nat ⊕ Unit
abbrev aI (x : Int32) : ba_A := .inl x
abbrev aJ (x : Int64) : ba_A := .inr (.inl x)
abbrev aR (r : Option Nat) : ba_A := .inr (.inr (.inl r))
abbrev aX : ba_A := .inr (.inr (.inr ()))
def b2i : Bool → Int32
  | true => 1
  | false => 0
def cv (base b : Nat) : ba_A → Value
  | .inl x => .int x
  | .inr (.inl x) => .long x
  | .inr (.inr (.inl none)) => .null
  | .inr (.inr (.inl (some a))) => .ref (base + a)
  | .inr (.inr (.inr ())) => .ref b
def a2 : ba_A → Bool
  | .inr (.inl _) => true
  | _ => false
def ac : ba_A → Nat
  | .inr (.inl _) => 2
  | _ => 1
theorem cv_ac (base b : Nat) (v : ba_A) : (cv base b v).category = ac v := by
  rcases v with x | x | (_ | a) | x <;> rfl
theorem cv_a2 (base b : Nat) {v : ba_A} (h : a2 v = false) : (cv base b v).category = 1 := by
  rcases v with x | x | (_ | a) | x <;> first | rfl | cases h
theorem cv_sum (base b : Nat) (st : List ba_A) : ((st.map (cv base b)).map fun v => v.category).sum = (st.map ac).sum := by
  induction st with
  | nil => rfl
  | cons v l ih => simp only [List.map_cons, List.sum_cons, ih, cv_ac]
theorem cv_R (base b : Nat) (r : Option Nat) : cv base b (aR r) = va_rf (r.map (base + ·)) := by cases r <;> rfl
/-! locals -/
def Lg : List (Option ba_A) → Nat → Option ba_A
  | [], _ => none
  | a :: _, 0 => a
  | _ :: l, n + 1 => Lg l n
def Ls : List (Option ba_A) → Nat → Option ba_A → List (Option ba_A)
  | [], _, _ => []
  | _ :: l, 0, v => v :: l
  | a :: l, n + 1, v => a :: Ls l n v
def Ln : List (Option ba_A) → Nat → Bool
  | _, 0 => true
  | L, i + 1 => match Lg L i with
    | some v => !a2 v
    | none => true
theorem Lg_s (L : List (Option ba_A)) (i j : Nat) (w : Option ba_A) {v : ba_A} (h : Lg (Ls L i w) j = some v) : (j = i ∧ w = some v) ∨ (j ≠ i ∧ Lg L j = some v) := by
  induction L generalizing i j with
  | nil => simp [Ls, Lg] at h
  | cons a l ih =>
    cases i with
    | zero =>
      cases j with
      | zero => exact Or.inl ⟨rfl, by simpa [Ls, Lg] using h⟩
      | succ j => exact Or.inr ⟨by omega, by simpa [Ls, Lg] using h⟩
    | succ i =>
      cases j with
      | zero => exact Or.inr ⟨by omega, by simpa [Ls, Lg] using h⟩
      | succ j =>
        rcases ih i j (by simpa [Ls, Lg] using h) with ⟨h1, h2⟩ | ⟨h1, h2⟩
        · exact Or.inl ⟨by omega, h2⟩
        · exact Or.inr ⟨by omega, by simpa [Lg] using h2⟩
def Le (base b : Nat) : Nat → List (Option ba_A) → List (Nat × Value)
  | _, [] => []
  | i, some v :: l => (i, cv base b v) :: Le base b (i + 1) l
  | i, none :: l => Le base b (i + 1) l
theorem Le_in {base b : Nat} {L : List (Option ba_A)} {i : Nat} {q : Nat × Value} : q ∈ Le base b i L ↔ ∃ j v, q.1 = i + j ∧ Lg L j = some v ∧ q.2 = cv base b v := by
  induction L generalizing i with
  | nil => simp [Le, Lg]
  | cons a l ih =>
    have tl : (∃ j v, q.1 = i + 1 + j ∧ Lg l j = some v ∧ q.2 = cv base b v) ↔ ∃ j v, q.1 = i + (j + 1) ∧ Lg (a :: l) (j + 1) = some v ∧ q.2 = cv base b v := by
      constructor
      · rintro ⟨j, v, h1, h2, h3⟩
        exact ⟨j, v, by omega, by simpa [Lg] using h2, h3⟩
      · rintro ⟨j, v, h1, h2, h3⟩
        exact ⟨j, v, by omega, by simpa [Lg] using h2, h3⟩
    cases a with
    | none =>
      simp only [Le, ih, tl]
      constructor
      · rintro ⟨j, v, h⟩
        exact ⟨j + 1, v, h⟩
      · rintro ⟨j, v, h1, h2, h3⟩
        cases j with
        | zero => simp [Lg] at h2
        | succ j => exact ⟨j, v, h1, h2, h3⟩
    | some w =>
      simp only [Le, List.mem_cons, ih, tl]
      constructor
      · rintro (h | ⟨j, v, h⟩)
        · exact ⟨0, w, by rw [h]; rfl, rfl, by rw [h]⟩
        · exact ⟨j + 1, v, h⟩
      · rintro ⟨j, v, h1, h2, h3⟩
        cases j with
        | zero =>
          simp only [Lg, Option.some.injEq] at h2
          subst h2
          exact Or.inl (Prod.ext (by simpa using h1) h3)
        | succ j => exact Or.inr ⟨j, v, h1, h2, h3⟩
def LH (base b nL : Nat) (ls : Array Slot) (L : List (Option ba_A)) : Prop := lv_has ls nL (Le base b 0 L)
theorem LH.in {base b : Nat} {L : List (Option ba_A)} {i : Nat} {v : ba_A} (hl : Lg L i = some v) : (i, cv base b v) ∈ Le base b 0 L := Le_in.mpr ⟨i, v, by simp, hl, rfl⟩
theorem LH.get {base b nL : Nat} {ls : Array Slot} {L : List (Option ba_A)} (h : LH base b nL ls L) {i : Nat} {v : ba_A} (hl : Lg L i = some v) : ls[i]? = some (.val (cv base b v)) := h.2.2 _ (LH.in hl)
theorem LH.mem {base b nL : Nat} {ls : Array Slot} {L : List (Option ba_A)} {lv : List (Nat × Value)} (h : lv_has ls nL lv) (hs : ∀ i v, Lg L i = some v → (i, cv base b v) ∈ lv) : LH base b nL ls L := by
  refine ⟨h.1, h.2.1, fun q hq => ?_⟩
  obtain ⟨j, v, h1, h2, h3⟩ := Le_in.mp hq
  have := hs j v h2
  rw [Nat.zero_add] at h1
  rw [← h1, ← h3] at this
  exact h.2.2 q this
theorem LH.s1 {base b nL i : Nat} {ls : Array Slot} {L : List (Option ba_A)} {v : ba_A} {lv : List (Nat × Value)} (hn : Ln L i = true)
    (hv : lv = (i, cv base b v) :: (Le base b 0 L).filter (fun q => !(q.1 == i) && !(q.1 + 1 == i && q.2.category == 2))) (h : lv_has ls nL lv) : LH base b nL ls (Ls L i (some v)) := by
  subst hv
  refine LH.mem h fun j w hw => ?_
  rcases Lg_s L i j _ hw with ⟨h1, h2⟩ | ⟨h1, h2⟩
  · cases h2
    rw [h1]
    exact List.mem_cons_self
  · refine List.mem_cons_of_mem _ (List.mem_filter.mpr ⟨LH.in h2, ?_⟩)
    have e1 : (j == i) = false := by simpa using h1
    rw [e1]
    by_cases hj : j + 1 = i
    · subst hj
      have : a2 w = false := by simpa [Ln, h2] using hn
      simp [cv_a2 base b this]
    · have e2 : (j + 1 == i) = false := by simpa using hj
      simp [e2]
theorem LH.s2 {base b nL i : Nat} {ls : Array Slot} {L : List (Option ba_A)} {v : ba_A} {lv : List (Nat × Value)} (hn : Ln L i = true)
    (hv : lv = (i, cv base b v) :: (Le base b 0 L).filter (fun q => !(q.1 == i) && (!(q.1 == i + 1) && !(q.1 + 1 == i && q.2.category == 2)))) (h : lv_has ls nL lv) : LH base b nL ls (Ls (Ls L (i + 1) none) i (some v)) := by
  subst hv
  refine LH.mem h fun j w hw => ?_
  rcases Lg_s _ i j _ hw with ⟨h1, h2⟩ | ⟨h1, h2⟩
  · cases h2
    rw [h1]
    exact List.mem_cons_self
  · rcases Lg_s L (i + 1) j _ h2 with ⟨h3, h4⟩ | ⟨h3, h4⟩
    · cases h4
    · refine List.mem_cons_of_mem _ (List.mem_filter.mpr ⟨LH.in h4, ?_⟩)
      have e1 : (j == i) = false := by simpa using h1
      have e3 : (j == i + 1) = false := by simpa using h3
      rw [e1, e3]
      by_cases hj : j + 1 = i
      · subst hj
        have : a2 w = false := by simpa [Ln, h4] using hn
        simp [cv_a2 base b this]
      · have e2 : (j + 1 == i) = false := by simpa using hj
        simp [e2]
/-- fewer known locals -/
def Lw : List (Option ba_A) → List (Option ba_A) → Prop
  | _, [] => True
  | [], _ :: _ => False
  | _ :: L, none :: L' => Lw L L'
  | a :: L, some v :: L' => a = some v ∧ Lw L L'
theorem Lw_g {L L' : List (Option ba_A)} (h : Lw L L') {i : Nat} {v : ba_A} (hv : Lg L' i = some v) : Lg L i = some v := by
  induction L' generalizing L i with
  | nil => simp [Lg] at hv
  | cons a l ih =>
    cases L with
    | nil => exact h.elim
    | cons x L =>
      cases a with
      | none =>
        cases i with
        | zero => simp [Lg] at hv
        | succ i => exact ih (L := L) h hv
      | some w =>
        obtain ⟨h1, h2⟩ : x = some w ∧ Lw L l := h
        cases i with
        | zero => simpa [Lg, h1] using hv
        | succ i => exact ih (L := L) h2 hv
theorem LH.weak {base b nL : Nat} {ls : Array Slot} {L L' : List (Option ba_A)} (h : LH base b nL ls L) (hw : Lw L L') : LH base b nL ls L' := LH.mem h fun _ _ hv => LH.in (Lw_g hw hv)
/-- a method's first locals -/
def La : List ba_A → List (Option ba_A)
  | [] => []
  | v :: l => if a2 v then some v :: none :: La l else some v :: La l
theorem La_in (base b : Nat) (as : List ba_A) : ∀ (n i : Nat) (v : ba_A), Lg (La as) i = some v → (n + i, cv base b v) ∈ lv_args n (as.map (cv base b)) := by
  induction as with
  | nil => intro n i v h; simp [La, Lg] at h
  | cons a l ih =>
    intro n i v h
    simp only [List.map_cons, lv_args, List.mem_cons]
    by_cases ha : a2 a = true
    · have hc : (cv base b a).category = 2 := by rcases a with x | x | x | x <;> first | rfl | cases ha
      simp only [La, ha, if_true] at h
      match i, h with
      | 0, h => simp only [Lg, Option.some.injEq] at h; subst h; exact Or.inl rfl
      | 1, h => simp [Lg] at h
      | i + 2, h =>
        right
        have := ih (n + 2) i v (by simpa [Lg] using h)
        rw [if_pos hc]
        rw [show n + (i + 2) = n + 2 + i by omega]
        exact this
    · have ha : a2 a = false := by simpa using ha
      have hc : ¬ (cv base b a).category = 2 := by rw [cv_a2 base b ha]; decide
      simp only [La, ha] at h
      match i, h with
      | 0, h => simp [Lg] at h; subst h; exact Or.inl rfl
      | i + 1, h =>
        right
        have := ih (n + 1) i v (by simpa [Lg] using h)
        rw [if_neg hc]
        rw [show n + (i + 1) = n + 1 + i by omega]
        exact this
theorem Lg_app (l : List (Option ba_A)) (n : Nat) : ∀ (i : Nat) (v : ba_A), Lg (l ++ List.replicate n none) i = some v → Lg l i = some v := by
  induction l with
  | nil =>
    intro i v h
    exfalso
    induction n generalizing i with
    | zero => simp [Lg] at h
    | succ n ih => cases i with
      | zero => simp [List.replicate_succ, Lg] at h
      | succ i => exact ih i (by simpa [List.replicate_succ, Lg] using h)
  | cons a l ih =>
    intro i v h
    cases i with
    | zero => simpa [Lg] using h
    | succ i => exact ih i v (by simpa [Lg] using h)
