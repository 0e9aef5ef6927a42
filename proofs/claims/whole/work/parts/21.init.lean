/-! what the two constructors leave: the objects' numbers, and what they hold -/
def ctB : Option (ba_S × ba_M) := f_Ba_init (pS S0 10 0 (nF 10)) (nN S0) (pM (nN S0) m0)
def ctM : Option (ba_S × ba_M) := match ctB with
  | some q => f_Mo_init (pS q.1 11 0 (nF 11)) (nN q.1) (pM (nN q.1) q.2)
  | none => none
/-- the kinds and lengths -/
def SFk : Nat → Nat × Nat
  | 0 => (10, 0) | 1 => (8, 0) | 2 => (20, 300) | 3 => (3, 0) | 4 => (20, 5) | 5 => (4, 0) | 6 => (0, 0) | 7 => (22, 5)
  | 20 => (20, 5) | 21 => (20, 5) | 22 => (20, 5) | 23 => (0, 0) | 24 => (22, 5)
  | 37 => (5, 0) | 38 => (1, 0) | 39 => (20, 5) | 40 => (20, 5) | 41 => (20, 5) | 42 => (21, 5120) | 43 => (21, 5)
  | 44 => (7, 0) | 45 => (20, 8) | 46 => (20, 8) | 47 => (20, 8) | 48 => (6, 0) | 49 => (23, 40) | 90 => (6, 0) | 91 => (23, 10)
  | 102 => (11, 0) | 103 => (20, 25) | 104 => (20, 20) | 105 => (20, 300) | 106 => (20, 5) | 107 => (20, 25) | 108 => (20, 15) | 109 => (20, 5)
  | 110 => (20, 5) | 111 => (20, 5) | 112 => (20, 5) | 113 => (20, 4) | 114 => (21, 18) | 115 => (21, 5120) | 116 => (20, 5) | 117 => (20, 5)
  | 118 => (20, 40) | 119 => (20, 24) | 120 => (20, 5) | 121 => (20, 40)
  | o => if 8 ≤ o ∧ o < 20 ∨ 25 ≤ o ∧ o < 37 then (if o % 2 = (if o < 20 then 0 else 1) then (2, 0) else (9, 0)) else (9, 0)
def SFl : Nat → List (Option Nat)
  | 0 => [some 1, some 3, some 5, some 6, some 23, some 37, some 38, some 44, some 48, some 90]
  | 1 => [some 2] | 3 => [some 4] | 5 => [some 6, some 20, some 21, some 22] | 6 => [some 7, some 8] | 7 => [some 10, some 12, some 14, some 16, some 18]
  | 23 => [some 24, some 25] | 24 => [some 27, some 29, some 31, some 33, some 35]
  | 38 => [some 39, some 40, some 41, some 42, some 43] | 44 => [some 45, some 46, some 47] | 48 => [none, some 49] | 90 => [none, some 91]
  | 49 => (List.range 40).map (fun i => some (50 + i)) | 91 => (List.range 10).map (fun i => some (92 + i))
  | 102 => [none, none, none, some 103, some 104, some 105, none, none, some 106, none, none, none, some 107, some 108, some 109, some 110, some 111, some 112, none, some 113, some 114, some 115, some 116, some 117, none, some 118, none, some 119, some 120, none, some 121]
  | o => if 8 ≤ o ∧ o < 20 ∧ o % 2 = 0 ∨ 25 ≤ o ∧ o < 37 ∧ o % 2 = 1 then [some (o + 1)] else []
/-- whole numbers at the start: (object, place, number) -/
def SFi : List (Nat × Nat × Int32) :=
  [(1, 1, 0), (6, 2, 3), (6, 3, 30), (6, 4, 1), (10, 1, 10), (10, 2, 2), (10, 3, 5), (10, 4, 5), (10, 5, 0), (12, 1, 14), (12, 2, 2), (12, 3, 5), (12, 4, 3), (12, 5, 0), (14, 1, 20), (14, 2, 3), (14, 3, 4), (14, 4, 6), (14, 5, 0),
   (11, 0, 1), (11, 1, 14), (11, 2, 1), (11, 3, 0), (13, 0, 2), (13, 1, 20), (13, 2, 1), (13, 3, 0), (15, 0, 0), (15, 1, 10), (15, 2, 1), (15, 3, 0), (44, 3, 0), (48, 0, 8), (48, 2, 0), (48, 3, 0), (90, 0, 2), (90, 2, 0), (90, 3, 0),
   (102, 0, 30), (102, 1, 1), (102, 2, 3), (102, 6, 0), (102, 24, 0), (102, 26, 0), (102, 29, 0),
   (103, 0, 10), (103, 1, 2), (103, 2, 5), (103, 3, 5), (103, 4, 0), (103, 5, 14), (103, 6, 2), (103, 7, 5), (103, 8, 3), (103, 9, 0), (103, 10, 20), (103, 11, 3), (103, 12, 4), (103, 13, 6), (103, 14, 0),
   (104, 0, 1), (104, 1, 2), (104, 2, 0), (104, 5, 14), (104, 6, 20), (104, 7, 10), (104, 10, 1), (104, 11, 1), (104, 12, 1), (104, 15, 0), (104, 16, 0), (104, 17, 0)]
def ctQ : ba_S × ba_M := ctM.getD (S0, m0)
/-- the shape of all that is made, and the numbers at the start -/
def SF : ba_S := ctQ.1
def mF : ba_M := ctQ.2
theorem ct_some : ctM.isSome = true := by decide +kernel
theorem ctB_some : (ctB.map fun q => nN q.1) = some 102 := by decide +kernel
theorem sf_n : nN SF = 122 ∧ nS SF ≤ 20000 := by decide +kernel
theorem sf_k : ∀ o, o < 122 → SF.2.1 o = SFk o := by decide +kernel
theorem sf_r : ∀ o, o < 122 → ∀ k, k < (SFl o).length → gR SF o k = (SFl o).getD k none := by decide +kernel
theorem mf_i : SFi.all (fun q => decide (gI mF q.1 q.2.1 = q.2.2)) = true := by decide +kernel
theorem mf_p : ∀ k, k < 18 → gL mF 114 k = Int64.ofNat (10 ^ k) := by decide +kernel
