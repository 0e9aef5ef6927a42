section
-- ===== PART A: goes FIRST, ahead of the names: the tables' words, and 'selects' of the private methods out of them =====
/-- a private method of a class that the tables say can be made, by its rows of tables_1 -/
def lw_okq (q : MethodName × Nat) : Prop := (q.1.cls ≠ "java/lang/invoke/MethodHandle" ∧ q.1.cls ≠ "java/lang/invoke/VarHandle") ∧ Cond.instantiable q.1.cls q.2 ∈ tables_1 ∧ Cond.privateMethod q.1 ∈ tables_1 ∧ Cond.instanceMethod q.1 ∈ tables_1
theorem lw_p0 : lw_okq (⟨"BallAndName$Reader", "readNumbers", "(LBallAndName$Text;I)I"⟩, 2) := ⟨⟨by decide +kernel, by decide +kernel⟩, List.mem_of_getElem? (i := 41) (by decide +kernel), List.mem_of_getElem? (i := 394) (by decide +kernel), List.mem_of_getElem? (i := 395) (by decide +kernel)⟩
theorem lw_p1 : lw_okq (⟨"BallAndName$Reader", "takeItem", "(ILBallAndName$Game;)Z"⟩, 2) := ⟨⟨by decide +kernel, by decide +kernel⟩, List.mem_of_getElem? (i := 41) (by decide +kernel), List.mem_of_getElem? (i := 412) (by decide +kernel), List.mem_of_getElem? (i := 413) (by decide +kernel)⟩
theorem lw_p2 : lw_okq (⟨"BallAndName$Reader", "takeGround", "(LBallAndName$Game;)Z"⟩, 2) := ⟨⟨by decide +kernel, by decide +kernel⟩, List.mem_of_getElem? (i := 41) (by decide +kernel), List.mem_of_getElem? (i := 416) (by decide +kernel), List.mem_of_getElem? (i := 417) (by decide +kernel)⟩
theorem lw_p3 : lw_okq (⟨"BallAndName$Reader", "number", "(I)I"⟩, 2) := ⟨⟨by decide +kernel, by decide +kernel⟩, List.mem_of_getElem? (i := 41) (by decide +kernel), List.mem_of_getElem? (i := 420) (by decide +kernel), List.mem_of_getElem? (i := 421) (by decide +kernel)⟩
theorem lw_p4 : lw_okq (⟨"BallAndName$Reader", "takePlayer", "(LBallAndName$Game;)Z"⟩, 2) := ⟨⟨by decide +kernel, by decide +kernel⟩, List.mem_of_getElem? (i := 41) (by decide +kernel), List.mem_of_getElem? (i := 426) (by decide +kernel), List.mem_of_getElem? (i := 427) (by decide +kernel)⟩
theorem lw_p5 : lw_okq (⟨"BallAndName$Reader", "takeCall", "(LBallAndName$Game;)Z"⟩, 2) := ⟨⟨by decide +kernel, by decide +kernel⟩, List.mem_of_getElem? (i := 41) (by decide +kernel), List.mem_of_getElem? (i := 431) (by decide +kernel), List.mem_of_getElem? (i := 432) (by decide +kernel)⟩
theorem lw_p6 : lw_okq (⟨"BallAndName$Reader", "takeLetters", "(LBallAndName$Game;)Z"⟩, 2) := ⟨⟨by decide +kernel, by decide +kernel⟩, List.mem_of_getElem? (i := 41) (by decide +kernel), List.mem_of_getElem? (i := 441) (by decide +kernel), List.mem_of_getElem? (i := 442) (by decide +kernel)⟩
theorem lw_p7 : lw_okq (⟨"BallAndName$Reader", "takeSlide", "(LBallAndName$Game;)Z"⟩, 2) := ⟨⟨by decide +kernel, by decide +kernel⟩, List.mem_of_getElem? (i := 41) (by decide +kernel), List.mem_of_getElem? (i := 445) (by decide +kernel), List.mem_of_getElem? (i := 446) (by decide +kernel)⟩
theorem lw_p8 : lw_okq (⟨"BallAndName$Round", "beatsToBall", "(LBallAndName$Player;)I"⟩, 7) := ⟨⟨by decide +kernel, by decide +kernel⟩, List.mem_of_getElem? (i := 54) (by decide +kernel), List.mem_of_getElem? (i := 502) (by decide +kernel), List.mem_of_getElem? (i := 503) (by decide +kernel)⟩
theorem lw_p9 : lw_okq (⟨"BallAndName", "canBeHit", "(II)Z"⟩, 10) := ⟨⟨by decide +kernel, by decide +kernel⟩, List.mem_of_getElem? (i := 17) (by decide +kernel), List.mem_of_getElem? (i := 534) (by decide +kernel), List.mem_of_getElem? (i := 535) (by decide +kernel)⟩
theorem lw_p10 : lw_okq (⟨"BallAndName$SafeCall", "tryCall", "(LBallAndName$Round;IIII)V"⟩, 5) := ⟨⟨by decide +kernel, by decide +kernel⟩, List.mem_of_getElem? (i := 197) (by decide +kernel), List.mem_of_getElem? (i := 568) (by decide +kernel), List.mem_of_getElem? (i := 569) (by decide +kernel)⟩
theorem lw_p11 : lw_okq (⟨"BallAndName$ManyRounds", "shareOut", "(II)V"⟩, 8) := ⟨⟨by decide +kernel, by decide +kernel⟩, List.mem_of_getElem? (i := 224) (by decide +kernel), List.mem_of_getElem? (i := 611) (by decide +kernel), List.mem_of_getElem? (i := 612) (by decide +kernel)⟩
theorem lw_p12 : lw_okq (⟨"BallAndName$ManyRounds", "giveLetter", "(IIJ)V"⟩, 8) := ⟨⟨by decide +kernel, by decide +kernel⟩, List.mem_of_getElem? (i := 224) (by decide +kernel), List.mem_of_getElem? (i := 620) (by decide +kernel), List.mem_of_getElem? (i := 621) (by decide +kernel)⟩
theorem lw_p13 : lw_okq (⟨"BallAndName$Shelf", "copyOf", "(I)LBallAndName$Told;"⟩, 4) := ⟨⟨by decide +kernel, by decide +kernel⟩, List.mem_of_getElem? (i := 279) (by decide +kernel), List.mem_of_getElem? (i := 651) (by decide +kernel), List.mem_of_getElem? (i := 652) (by decide +kernel)⟩
theorem lw_p14 : lw_okq (⟨"BallAndName$Sightings", "allAreSo", "(IILBallAndName$Round;)Z"⟩, 4) := ⟨⟨by decide +kernel, by decide +kernel⟩, List.mem_of_getElem? (i := 259) (by decide +kernel), List.mem_of_getElem? (i := 691) (by decide +kernel), List.mem_of_getElem? (i := 692) (by decide +kernel)⟩
theorem lw_p15 : lw_okq (⟨"BallAndNameModel", "lays", "(IIIIII)V"⟩, 31) := ⟨⟨by decide +kernel, by decide +kernel⟩, List.mem_of_getElem? (i := 725) (by decide +kernel), List.mem_of_getElem? (i := 731) (by decide +kernel), List.mem_of_getElem? (i := 732) (by decide +kernel)⟩
def lw_privs_1 : List (MethodName × Nat) := [(⟨"BallAndName$Reader", "readNumbers", "(LBallAndName$Text;I)I"⟩, 2), (⟨"BallAndName$Reader", "takeItem", "(ILBallAndName$Game;)Z"⟩, 2), (⟨"BallAndName$Reader", "takeGround", "(LBallAndName$Game;)Z"⟩, 2), (⟨"BallAndName$Reader", "number", "(I)I"⟩, 2), (⟨"BallAndName$Reader", "takePlayer", "(LBallAndName$Game;)Z"⟩, 2), (⟨"BallAndName$Reader", "takeCall", "(LBallAndName$Game;)Z"⟩, 2), (⟨"BallAndName$Reader", "takeLetters", "(LBallAndName$Game;)Z"⟩, 2), (⟨"BallAndName$Reader", "takeSlide", "(LBallAndName$Game;)Z"⟩, 2), (⟨"BallAndName$Round", "beatsToBall", "(LBallAndName$Player;)I"⟩, 7), (⟨"BallAndName", "canBeHit", "(II)Z"⟩, 10), (⟨"BallAndName$SafeCall", "tryCall", "(LBallAndName$Round;IIII)V"⟩, 5), (⟨"BallAndName$ManyRounds", "shareOut", "(II)V"⟩, 8), (⟨"BallAndName$ManyRounds", "giveLetter", "(IIJ)V"⟩, 8), (⟨"BallAndName$Shelf", "copyOf", "(I)LBallAndName$Told;"⟩, 4), (⟨"BallAndName$Sightings", "allAreSo", "(IILBallAndName$Round;)Z"⟩, 4), (⟨"BallAndNameModel", "lays", "(IIIIII)V"⟩, 31)]
theorem lw_r1 : ∀ q ∈ lw_privs_1, lw_okq q := List.forall_mem_cons.mpr ⟨lw_p0, List.forall_mem_cons.mpr ⟨lw_p1, List.forall_mem_cons.mpr ⟨lw_p2, List.forall_mem_cons.mpr ⟨lw_p3, List.forall_mem_cons.mpr ⟨lw_p4, List.forall_mem_cons.mpr ⟨lw_p5, List.forall_mem_cons.mpr ⟨lw_p6, List.forall_mem_cons.mpr ⟨lw_p7, List.forall_mem_cons.mpr ⟨lw_p8, List.forall_mem_cons.mpr ⟨lw_p9, List.forall_mem_cons.mpr ⟨lw_p10, List.forall_mem_cons.mpr ⟨lw_p11, List.forall_mem_cons.mpr ⟨lw_p12, List.forall_mem_cons.mpr ⟨lw_p13, List.forall_mem_cons.mpr ⟨lw_p14, List.forall_mem_cons.mpr ⟨lw_p15, fun _ h => absurd h List.not_mem_nil⟩⟩⟩⟩⟩⟩⟩⟩⟩⟩⟩⟩⟩⟩⟩⟩
theorem lw_p16 : lw_okq (⟨"BallAndNameModel", "readItem", "()Z"⟩, 31) := ⟨⟨by decide +kernel, by decide +kernel⟩, List.mem_of_getElem? (i := 725) (by decide +kernel), List.mem_of_getElem? (i := 846) (by decide +kernel), List.mem_of_getElem? (i := 847) (by decide +kernel)⟩
theorem lw_p17 : lw_okq (⟨"BallAndNameModel", "byteAt", "(I)I"⟩, 31) := ⟨⟨by decide +kernel, by decide +kernel⟩, List.mem_of_getElem? (i := 725) (by decide +kernel), List.mem_of_getElem? (i := 850) (by decide +kernel), List.mem_of_getElem? (i := 851) (by decide +kernel)⟩
theorem lw_p18 : lw_okq (⟨"BallAndNameModel", "readGround", "()Z"⟩, 31) := ⟨⟨by decide +kernel, by decide +kernel⟩, List.mem_of_getElem? (i := 725) (by decide +kernel), List.mem_of_getElem? (i := 854) (by decide +kernel), List.mem_of_getElem? (i := 855) (by decide +kernel)⟩
theorem lw_p19 : lw_okq (⟨"BallAndNameModel", "readNumbers", "(I)Z"⟩, 31) := ⟨⟨by decide +kernel, by decide +kernel⟩, List.mem_of_getElem? (i := 725) (by decide +kernel), List.mem_of_getElem? (i := 858) (by decide +kernel), List.mem_of_getElem? (i := 859) (by decide +kernel)⟩
theorem lw_p20 : lw_okq (⟨"BallAndNameModel", "readPlayer", "()Z"⟩, 31) := ⟨⟨by decide +kernel, by decide +kernel⟩, List.mem_of_getElem? (i := 725) (by decide +kernel), List.mem_of_getElem? (i := 865) (by decide +kernel), List.mem_of_getElem? (i := 866) (by decide +kernel)⟩
theorem lw_p21 : lw_okq (⟨"BallAndNameModel", "readCalled", "()Z"⟩, 31) := ⟨⟨by decide +kernel, by decide +kernel⟩, List.mem_of_getElem? (i := 725) (by decide +kernel), List.mem_of_getElem? (i := 869) (by decide +kernel), List.mem_of_getElem? (i := 870) (by decide +kernel)⟩
theorem lw_p22 : lw_okq (⟨"BallAndNameModel", "readLettersOf", "()Z"⟩, 31) := ⟨⟨by decide +kernel, by decide +kernel⟩, List.mem_of_getElem? (i := 725) (by decide +kernel), List.mem_of_getElem? (i := 873) (by decide +kernel), List.mem_of_getElem? (i := 874) (by decide +kernel)⟩
theorem lw_p23 : lw_okq (⟨"BallAndNameModel", "readSlide", "()Z"⟩, 31) := ⟨⟨by decide +kernel, by decide +kernel⟩, List.mem_of_getElem? (i := 725) (by decide +kernel), List.mem_of_getElem? (i := 877) (by decide +kernel), List.mem_of_getElem? (i := 878) (by decide +kernel)⟩
theorem lw_p24 : lw_okq (⟨"BallAndNameModel", "calls", "()V"⟩, 31) := ⟨⟨by decide +kernel, by decide +kernel⟩, List.mem_of_getElem? (i := 725) (by decide +kernel), List.mem_of_getElem? (i := 886) (by decide +kernel), List.mem_of_getElem? (i := 887) (by decide +kernel)⟩
theorem lw_p25 : lw_okq (⟨"BallAndNameModel", "isPlayer", "(I)Z"⟩, 31) := ⟨⟨by decide +kernel, by decide +kernel⟩, List.mem_of_getElem? (i := 725) (by decide +kernel), List.mem_of_getElem? (i := 894) (by decide +kernel), List.mem_of_getElem? (i := 895) (by decide +kernel)⟩
theorem lw_p26 : lw_okq (⟨"BallAndNameModel", "beatsOf", "(III)I"⟩, 31) := ⟨⟨by decide +kernel, by decide +kernel⟩, List.mem_of_getElem? (i := 725) (by decide +kernel), List.mem_of_getElem? (i := 902) (by decide +kernel), List.mem_of_getElem? (i := 903) (by decide +kernel)⟩
theorem lw_p27 : lw_okq (⟨"BallAndNameModel", "go", "(I)V"⟩, 31) := ⟨⟨by decide +kernel, by decide +kernel⟩, List.mem_of_getElem? (i := 725) (by decide +kernel), List.mem_of_getElem? (i := 913) (by decide +kernel), List.mem_of_getElem? (i := 914) (by decide +kernel)⟩
theorem lw_p28 : lw_okq (⟨"BallAndNameModel", "goBy", "(III)V"⟩, 31) := ⟨⟨by decide +kernel, by decide +kernel⟩, List.mem_of_getElem? (i := 725) (by decide +kernel), List.mem_of_getElem? (i := 917) (by decide +kernel), List.mem_of_getElem? (i := 918) (by decide +kernel)⟩
theorem lw_p29 : lw_okq (⟨"BallAndNameModel", "standsOf", "(IIII)I"⟩, 31) := ⟨⟨by decide +kernel, by decide +kernel⟩, List.mem_of_getElem? (i := 725) (by decide +kernel), List.mem_of_getElem? (i := 921) (by decide +kernel), List.mem_of_getElem? (i := 922) (by decide +kernel)⟩
theorem lw_p30 : lw_okq (⟨"BallAndNameModel", "aims", "(III)V"⟩, 31) := ⟨⟨by decide +kernel, by decide +kernel⟩, List.mem_of_getElem? (i := 725) (by decide +kernel), List.mem_of_getElem? (i := 925) (by decide +kernel), List.mem_of_getElem? (i := 926) (by decide +kernel)⟩
theorem lw_p31 : lw_okq (⟨"BallAndNameModel", "hides", "(III)I"⟩, 31) := ⟨⟨by decide +kernel, by decide +kernel⟩, List.mem_of_getElem? (i := 725) (by decide +kernel), List.mem_of_getElem? (i := 929) (by decide +kernel), List.mem_of_getElem? (i := 930) (by decide +kernel)⟩
def lw_privs_2 : List (MethodName × Nat) := [(⟨"BallAndNameModel", "readItem", "()Z"⟩, 31), (⟨"BallAndNameModel", "byteAt", "(I)I"⟩, 31), (⟨"BallAndNameModel", "readGround", "()Z"⟩, 31), (⟨"BallAndNameModel", "readNumbers", "(I)Z"⟩, 31), (⟨"BallAndNameModel", "readPlayer", "()Z"⟩, 31), (⟨"BallAndNameModel", "readCalled", "()Z"⟩, 31), (⟨"BallAndNameModel", "readLettersOf", "()Z"⟩, 31), (⟨"BallAndNameModel", "readSlide", "()Z"⟩, 31), (⟨"BallAndNameModel", "calls", "()V"⟩, 31), (⟨"BallAndNameModel", "isPlayer", "(I)Z"⟩, 31), (⟨"BallAndNameModel", "beatsOf", "(III)I"⟩, 31), (⟨"BallAndNameModel", "go", "(I)V"⟩, 31), (⟨"BallAndNameModel", "goBy", "(III)V"⟩, 31), (⟨"BallAndNameModel", "standsOf", "(IIII)I"⟩, 31), (⟨"BallAndNameModel", "aims", "(III)V"⟩, 31), (⟨"BallAndNameModel", "hides", "(III)I"⟩, 31)]
theorem lw_r2 : ∀ q ∈ lw_privs_2, lw_okq q := List.forall_mem_cons.mpr ⟨lw_p16, List.forall_mem_cons.mpr ⟨lw_p17, List.forall_mem_cons.mpr ⟨lw_p18, List.forall_mem_cons.mpr ⟨lw_p19, List.forall_mem_cons.mpr ⟨lw_p20, List.forall_mem_cons.mpr ⟨lw_p21, List.forall_mem_cons.mpr ⟨lw_p22, List.forall_mem_cons.mpr ⟨lw_p23, List.forall_mem_cons.mpr ⟨lw_p24, List.forall_mem_cons.mpr ⟨lw_p25, List.forall_mem_cons.mpr ⟨lw_p26, List.forall_mem_cons.mpr ⟨lw_p27, List.forall_mem_cons.mpr ⟨lw_p28, List.forall_mem_cons.mpr ⟨lw_p29, List.forall_mem_cons.mpr ⟨lw_p30, List.forall_mem_cons.mpr ⟨lw_p31, fun _ h => absurd h List.not_mem_nil⟩⟩⟩⟩⟩⟩⟩⟩⟩⟩⟩⟩⟩⟩⟩⟩
theorem lw_p32 : lw_okq (⟨"BallAndNameModel", "areApart", "(II)Z"⟩, 31) := ⟨⟨by decide +kernel, by decide +kernel⟩, List.mem_of_getElem? (i := 725) (by decide +kernel), List.mem_of_getElem? (i := 937) (by decide +kernel), List.mem_of_getElem? (i := 938) (by decide +kernel)⟩
theorem lw_p33 : lw_okq (⟨"BallAndNameModel", "findParts", "(I)V"⟩, 31) := ⟨⟨by decide +kernel, by decide +kernel⟩, List.mem_of_getElem? (i := 725) (by decide +kernel), List.mem_of_getElem? (i := 962) (by decide +kernel), List.mem_of_getElem? (i := 963) (by decide +kernel)⟩
theorem lw_p34 : lw_okq (⟨"BallAndNameModel", "left", "(I)I"⟩, 31) := ⟨⟨by decide +kernel, by decide +kernel⟩, List.mem_of_getElem? (i := 725) (by decide +kernel), List.mem_of_getElem? (i := 966) (by decide +kernel), List.mem_of_getElem? (i := 967) (by decide +kernel)⟩
theorem lw_p35 : lw_okq (⟨"BallAndNameModel", "then", "(III)J"⟩, 31) := ⟨⟨by decide +kernel, by decide +kernel⟩, List.mem_of_getElem? (i := 725) (by decide +kernel), List.mem_of_getElem? (i := 970) (by decide +kernel), List.mem_of_getElem? (i := 971) (by decide +kernel)⟩
theorem lw_p36 : lw_okq (⟨"BallAndNameModel", "part", "(II)J"⟩, 31) := ⟨⟨by decide +kernel, by decide +kernel⟩, List.mem_of_getElem? (i := 725) (by decide +kernel), List.mem_of_getElem? (i := 974) (by decide +kernel), List.mem_of_getElem? (i := 975) (by decide +kernel)⟩
theorem lw_p37 : lw_okq (⟨"BallAndNameModel", "codeOf", "()I"⟩, 31) := ⟨⟨by decide +kernel, by decide +kernel⟩, List.mem_of_getElem? (i := 725) (by decide +kernel), List.mem_of_getElem? (i := 978) (by decide +kernel), List.mem_of_getElem? (i := 979) (by decide +kernel)⟩
theorem lw_p38 : lw_okq (⟨"BallAndNameModel", "knows", "(I)V"⟩, 31) := ⟨⟨by decide +kernel, by decide +kernel⟩, List.mem_of_getElem? (i := 725) (by decide +kernel), List.mem_of_getElem? (i := 990) (by decide +kernel), List.mem_of_getElem? (i := 991) (by decide +kernel)⟩
def lw_privs_3 : List (MethodName × Nat) := [(⟨"BallAndNameModel", "areApart", "(II)Z"⟩, 31), (⟨"BallAndNameModel", "findParts", "(I)V"⟩, 31), (⟨"BallAndNameModel", "left", "(I)I"⟩, 31), (⟨"BallAndNameModel", "then", "(III)J"⟩, 31), (⟨"BallAndNameModel", "part", "(II)J"⟩, 31), (⟨"BallAndNameModel", "codeOf", "()I"⟩, 31), (⟨"BallAndNameModel", "knows", "(I)V"⟩, 31)]
theorem lw_r3 : ∀ q ∈ lw_privs_3, lw_okq q := List.forall_mem_cons.mpr ⟨lw_p32, List.forall_mem_cons.mpr ⟨lw_p33, List.forall_mem_cons.mpr ⟨lw_p34, List.forall_mem_cons.mpr ⟨lw_p35, List.forall_mem_cons.mpr ⟨lw_p36, List.forall_mem_cons.mpr ⟨lw_p37, List.forall_mem_cons.mpr ⟨lw_p38, fun _ h => absurd h List.not_mem_nil⟩⟩⟩⟩⟩⟩⟩
def lw_privs : List (MethodName × Nat) := lw_privs_1 ++ (lw_privs_2 ++ (lw_privs_3))
def lw_tbl : List Cond := k2_sels lw_privs ++ tables_1
theorem lw_privs_ok : ∀ q ∈ lw_privs, lw_okq q := by
  show ∀ q ∈ lw_privs_1 ++ (lw_privs_2 ++ (lw_privs_3)), lw_okq q
  exact List.forall_mem_append.mpr ⟨lw_r1, List.forall_mem_append.mpr ⟨lw_r2, lw_r3⟩⟩
end
section
def RX0 : String := "BallAndName$Game"
def TX0 : u_T := fun k => match k with
  | 0 => ("BallAndName$Game", "players", "[LBallAndName$Player;", true)
  | 1 => ("BallAndName$Game", "nobody", "LBallAndName$Player;", true)
  | 2 => ("BallAndName$Game", "count", "I", false)
  | 3 => ("BallAndName$Game", "lastCell", "I", false)
  | _ => ("BallAndName$Game", "slide", "I", false)
def tyX0 : Nat → FieldType := fun k => match k with
  | 0 => .array (.object "BallAndName$Player")
  | 1 => .object "BallAndName$Player"
  | 2 => .int
  | 3 => .int
  | _ => .int
abbrev wsX00 : List Cond := u_ws RX0 TX0 5
theorem nmX0 : ∀ a, a < 5 → ∀ b, b < 5 → a ≠ b → (TX0 a).2.1 ≠ (TX0 b).2.1 := by decide +kernel
theorem tyX0_ok : ∀ k, k < 5 → parseFieldDescriptor (TX0 k).2.2.1 = some (tyX0 k) := by decide +kernel
abbrev cX0_init : ByteArray := prog_2_method_1_code
def yX0_init : MethodName := ⟨RX0, "<init>", "()V"⟩
abbrev cX0_has : ByteArray := prog_2_method_2_code
def yX0_has : MethodName := ⟨RX0, "has", "(I)Z"⟩
abbrev cX0_onGround : ByteArray := prog_2_method_3_code
def yX0_onGround : MethodName := ⟨RX0, "onGround", "(I)Z"⟩
abbrev cX0_who : ByteArray := prog_2_method_4_code
def yX0_who : MethodName := ⟨RX0, "who", "(I)LBallAndName$Player;"⟩
abbrev cX0_empty : ByteArray := prog_2_method_5_code
def yX0_empty : MethodName := ⟨RX0, "empty", "()V"⟩
abbrev cX0_addPlayer : ByteArray := prog_2_method_6_code
def yX0_addPlayer : MethodName := ⟨RX0, "addPlayer", "(IIIII)V"⟩
abbrev cX0_tellUntoldCalls : ByteArray := prog_2_method_7_code
def yX0_tellUntoldCalls : MethodName := ⟨RX0, "tellUntoldCalls", "()V"⟩
abbrev cX0_canBePlayed : ByteArray := prog_2_method_8_code
def yX0_canBePlayed : MethodName := ⟨RX0, "canBePlayed", "()Z"⟩
abbrev cX0_copyFrom : ByteArray := prog_2_method_9_code
def yX0_copyFrom : MethodName := ⟨RX0, "copyFrom", "(LBallAndName$Game;)V"⟩
def RX1 : String := "BallAndName$ManyRounds"
def TX1 : u_T := fun k => match k with
  | 0 => ("BallAndName$ManyRounds", "callees", "[I", true)
  | 1 => ("BallAndName$ManyRounds", "targets", "[I", true)
  | 2 => ("BallAndName$ManyRounds", "chances", "[I", true)
  | 3 => ("BallAndName$ManyRounds", "weights", "[J", true)
  | 4 => ("BallAndName$ManyRounds", "outWeights", "[J", true)
  | 5 => ("BallAndName$ManyRounds", "playedWeight", "J", false)
  | 6 => ("BallAndName$ManyRounds", "afternoonOut", "I", false)
  | _ => ("BallAndName$ManyRounds", "afternoonRounds", "I", false)
def tyX1 : Nat → FieldType := fun k => match k with
  | 0 => .array .int
  | 1 => .array .int
  | 2 => .array .int
  | 3 => .array .long
  | 4 => .array .long
  | 5 => .long
  | 6 => .int
  | _ => .int
abbrev wsX10 : List Cond := u_ws RX1 TX1 8
theorem nmX1 : ∀ a, a < 8 → ∀ b, b < 8 → a ≠ b → (TX1 a).2.1 ≠ (TX1 b).2.1 := by decide +kernel
theorem tyX1_ok : ∀ k, k < 8 → parseFieldDescriptor (TX1 k).2.2.1 = some (tyX1 k) := by decide +kernel
abbrev cX1_init : ByteArray := prog_3_method_1_code
def yX1_init : MethodName := ⟨RX1, "<init>", "()V"⟩
abbrev cX1_outWeight : ByteArray := prog_3_method_2_code
def yX1_outWeight : MethodName := ⟨RX1, "outWeight", "(I)J"⟩
abbrev cX1_prepareThrows : ByteArray := prog_3_method_3_code
def yX1_prepareThrows : MethodName := ⟨RX1, "prepareThrows", "(LBallAndName$Round;)V"⟩
abbrev cX1_weigh : ByteArray := prog_3_method_4_code
def yX1_weigh : MethodName := ⟨RX1, "weigh", "(LBallAndName$Game;I)V"⟩
abbrev cX1_shareOut : ByteArray := prog_3_method_5_code
def yX1_shareOut : MethodName := ⟨RX1, "shareOut", "(II)V"⟩
abbrev cX1_giveLetter : ByteArray := prog_3_method_6_code
def yX1_giveLetter : MethodName := ⟨RX1, "giveLetter", "(IIJ)V"⟩
abbrev cX1_playAfternoon : ByteArray := prog_3_method_7_code
def yX1_playAfternoon : MethodName := ⟨RX1, "playAfternoon", "(LBallAndName$Game;I)V"⟩
abbrev cX1_draw : ByteArray := prog_3_method_8_code
def yX1_draw : MethodName := ⟨RX1, "draw", "(II)I"⟩
abbrev cX1_lettersOf : ByteArray := prog_3_method_9_code
def yX1_lettersOf : MethodName := ⟨RX1, "lettersOf", "(LBallAndName$Game;)I"⟩
abbrev cX1_lettersOf_ : ByteArray := prog_3_method_10_code
def yX1_lettersOf_ : MethodName := ⟨RX1, "lettersOf", "(II)I"⟩
abbrev cX1_oneLetterOf : ByteArray := prog_3_method_11_code
def yX1_oneLetterOf : MethodName := ⟨RX1, "oneLetterOf", "(I)I"⟩
def RX2 : String := "BallAndName$Player"
def TX2 : u_T := fun k => match k with
  | 0 => ("BallAndName$Player", "told", "LBallAndName$Told;", true)
  | 1 => ("BallAndName$Player", "start", "I", false)
  | 2 => ("BallAndName$Player", "pace", "I", false)
  | 3 => ("BallAndName$Player", "size", "I", false)
  | 4 => ("BallAndName$Player", "skill", "I", false)
  | _ => ("BallAndName$Player", "kind", "I", false)
def tyX2 : Nat → FieldType := fun k => match k with
  | 0 => .object "BallAndName$Told"
  | 1 => .int
  | 2 => .int
  | 3 => .int
  | 4 => .int
  | _ => .int
abbrev wsX20 : List Cond := u_ws RX2 TX2 6
theorem nmX2 : ∀ a, a < 6 → ∀ b, b < 6 → a ≠ b → (TX2 a).2.1 ≠ (TX2 b).2.1 := by decide +kernel
theorem tyX2_ok : ∀ k, k < 6 → parseFieldDescriptor (TX2 k).2.2.1 = some (tyX2 k) := by decide +kernel
abbrev cX2_init : ByteArray := prog_4_method_1_code
def yX2_init : MethodName := ⟨RX2, "<init>", "()V"⟩
abbrev cX2_become : ByteArray := prog_4_method_2_code
def yX2_become : MethodName := ⟨RX2, "become", "(IIIII)V"⟩
abbrev cX2_copyFrom : ByteArray := prog_4_method_3_code
def yX2_copyFrom : MethodName := ⟨RX2, "copyFrom", "(LBallAndName$Player;)V"⟩
def RX3 : String := "BallAndName$Reader"
def TX3 : u_T := fun k => match k with
  | 0 => ("BallAndName$Reader", "numbers", "[I", true)
  | _ => ("BallAndName$Reader", "count", "I", false)
def tyX3 : Nat → FieldType := fun k => match k with
  | 0 => .array .int
  | _ => .int
abbrev wsX30 : List Cond := u_ws RX3 TX3 2
theorem nmX3 : ∀ a, a < 2 → ∀ b, b < 2 → a ≠ b → (TX3 a).2.1 ≠ (TX3 b).2.1 := by decide +kernel
theorem tyX3_ok : ∀ k, k < 2 → parseFieldDescriptor (TX3 k).2.2.1 = some (tyX3 k) := by decide +kernel
abbrev cX3_init : ByteArray := prog_5_method_1_code
def yX3_init : MethodName := ⟨RX3, "<init>", "()V"⟩
abbrev cX3_read : ByteArray := prog_5_method_2_code
def yX3_read : MethodName := ⟨RX3, "read", "(LBallAndName$Text;LBallAndName$Game;)I"⟩
abbrev cX3_readNumbers : ByteArray := prog_5_method_3_code
def yX3_readNumbers : MethodName := ⟨RX3, "readNumbers", "(LBallAndName$Text;I)I"⟩
abbrev cX3_takeItem : ByteArray := prog_5_method_4_code
def yX3_takeItem : MethodName := ⟨RX3, "takeItem", "(ILBallAndName$Game;)Z"⟩
abbrev cX3_takeGround : ByteArray := prog_5_method_5_code
def yX3_takeGround : MethodName := ⟨RX3, "takeGround", "(LBallAndName$Game;)Z"⟩
abbrev cX3_takePlayer : ByteArray := prog_5_method_6_code
def yX3_takePlayer : MethodName := ⟨RX3, "takePlayer", "(LBallAndName$Game;)Z"⟩
abbrev cX3_takeCall : ByteArray := prog_5_method_7_code
def yX3_takeCall : MethodName := ⟨RX3, "takeCall", "(LBallAndName$Game;)Z"⟩
abbrev cX3_takeLetters : ByteArray := prog_5_method_8_code
def yX3_takeLetters : MethodName := ⟨RX3, "takeLetters", "(LBallAndName$Game;)Z"⟩
abbrev cX3_takeSlide : ByteArray := prog_5_method_9_code
def yX3_takeSlide : MethodName := ⟨RX3, "takeSlide", "(LBallAndName$Game;)Z"⟩
abbrev cX3_number : ByteArray := prog_5_method_10_code
def yX3_number : MethodName := ⟨RX3, "number", "(I)I"⟩
def RX4 : String := "BallAndName$Round"
def TX4 : u_T := fun k => match k with
  | 0 => ("BallAndName$Round", "game", "LBallAndName$Game;", true)
  | 1 => ("BallAndName$Round", "kinds", "[I", true)
  | 2 => ("BallAndName$Round", "stands", "[I", true)
  | 3 => ("BallAndName$Round", "throwCells", "[I", true)
  | 4 => ("BallAndName$Round", "callee", "I", false)
  | 5 => ("BallAndName$Round", "cell", "I", false)
  | _ => ("BallAndName$Round", "beats", "I", false)
def tyX4 : Nat → FieldType := fun k => match k with
  | 0 => .object "BallAndName$Game"
  | 1 => .array .int
  | 2 => .array .int
  | 3 => .array .int
  | 4 => .int
  | 5 => .int
  | _ => .int
abbrev wsX40 : List Cond := u_ws RX4 TX4 7
theorem nmX4 : ∀ a, a < 7 → ∀ b, b < 7 → a ≠ b → (TX4 a).2.1 ≠ (TX4 b).2.1 := by decide +kernel
theorem tyX4_ok : ∀ k, k < 7 → parseFieldDescriptor (TX4 k).2.2.1 = some (tyX4 k) := by decide +kernel
abbrev cX4_init : ByteArray := prog_6_method_1_code
def yX4_init : MethodName := ⟨RX4, "<init>", "()V"⟩
abbrev cX4_playAsTold : ByteArray := prog_6_method_2_code
def yX4_playAsTold : MethodName := ⟨RX4, "playAsTold", "(I)V"⟩
abbrev cX4_playCall : ByteArray := prog_6_method_3_code
def yX4_playCall : MethodName := ⟨RX4, "playCall", "(III)V"⟩
abbrev cX4_suppose : ByteArray := prog_6_method_4_code
def yX4_suppose : MethodName := ⟨RX4, "suppose", "(II)V"⟩
abbrev cX4_standOf : ByteArray := prog_6_method_5_code
def yX4_standOf : MethodName := ⟨RX4, "standOf", "(I)I"⟩
abbrev cX4_target : ByteArray := prog_6_method_6_code
def yX4_target : MethodName := ⟨RX4, "target", "()I"⟩
abbrev cX4_chanceOf : ByteArray := prog_6_method_7_code
def yX4_chanceOf : MethodName := ⟨RX4, "chanceOf", "(I)I"⟩
abbrev cX4_hiderOf : ByteArray := prog_6_method_8_code
def yX4_hiderOf : MethodName := ⟨RX4, "hiderOf", "(I)I"⟩
abbrev cX4_beatsToBall : ByteArray := prog_6_method_9_code
def yX4_beatsToBall : MethodName := ⟨RX4, "beatsToBall", "(LBallAndName$Player;)I"⟩
abbrev cX4_toward : ByteArray := prog_6_method_10_code
def yX4_toward : MethodName := ⟨RX4, "toward", "(III)I"⟩
def RX5 : String := "BallAndName$Rows"
def TX5 : u_T := fun k => match k with
  | _ => ("", "", "", false)
def tyX5 : Nat → FieldType := fun k => match k with
  | _ => .int
abbrev wsX50 : List Cond := u_ws RX5 TX5 0
theorem nmX5 : ∀ a, a < 0 → ∀ b, b < 0 → a ≠ b → (TX5 a).2.1 ≠ (TX5 b).2.1 := by decide +kernel
theorem tyX5_ok : ∀ k, k < 0 → parseFieldDescriptor (TX5 k).2.2.1 = some (tyX5 k) := by decide +kernel
abbrev cX5_at : ByteArray := prog_7_method_2_code
def yX5_at : MethodName := ⟨RX5, "at", "([II)I"⟩
abbrev cX5_put : ByteArray := prog_7_method_3_code
def yX5_put : MethodName := ⟨RX5, "put", "([III)V"⟩
abbrev cX5_longAt : ByteArray := prog_7_method_4_code
def yX5_longAt : MethodName := ⟨RX5, "longAt", "([JI)J"⟩
abbrev cX5_addLong : ByteArray := prog_7_method_5_code
def yX5_addLong : MethodName := ⟨RX5, "addLong", "([JIJ)V"⟩
def RX6 : String := "BallAndName$SafeCall"
def TX6 : u_T := fun k => match k with
  | 0 => ("BallAndName$SafeCall", "found", "Z", false)
  | 1 => ("BallAndName$SafeCall", "callee", "I", false)
  | 2 => ("BallAndName$SafeCall", "cell", "I", false)
  | 3 => ("BallAndName$SafeCall", "height", "I", false)
  | _ => ("BallAndName$SafeCall", "chance", "I", false)
def tyX6 : Nat → FieldType := fun k => match k with
  | 0 => .boolean
  | 1 => .int
  | 2 => .int
  | 3 => .int
  | _ => .int
abbrev wsX60 : List Cond := u_ws RX6 TX6 5
theorem nmX6 : ∀ a, a < 5 → ∀ b, b < 5 → a ≠ b → (TX6 a).2.1 ≠ (TX6 b).2.1 := by decide +kernel
theorem tyX6_ok : ∀ k, k < 5 → parseFieldDescriptor (TX6 k).2.2.1 = some (tyX6 k) := by decide +kernel
abbrev cX6_init : ByteArray := prog_8_method_1_code
def yX6_init : MethodName := ⟨RX6, "<init>", "()V"⟩
abbrev cX6_search : ByteArray := prog_8_method_2_code
def yX6_search : MethodName := ⟨RX6, "search", "(LBallAndName$Round;I)V"⟩
abbrev cX6_tryCall : ByteArray := prog_8_method_3_code
def yX6_tryCall : MethodName := ⟨RX6, "tryCall", "(LBallAndName$Round;IIII)V"⟩
def RX7 : String := "BallAndName$Shelf"
def TX7 : u_T := fun k => match k with
  | 0 => ("BallAndName$Shelf", "places", "I", true)
  | 1 => ("BallAndName$Shelf", "copies", "[LBallAndName$Told;", true)
  | 2 => ("BallAndName$Shelf", "size", "I", false)
  | _ => ("BallAndName$Shelf", "newest", "I", false)
def tyX7 : Nat → FieldType := fun k => match k with
  | 0 => .int
  | 1 => .array (.object "BallAndName$Told")
  | 2 => .int
  | _ => .int
abbrev wsX70 : List Cond := u_ws RX7 TX7 4
theorem nmX7 : ∀ a, a < 4 → ∀ b, b < 4 → a ≠ b → (TX7 a).2.1 ≠ (TX7 b).2.1 := by decide +kernel
theorem tyX7_ok : ∀ k, k < 4 → parseFieldDescriptor (TX7 k).2.2.1 = some (tyX7 k) := by decide +kernel
abbrev cX7_init : ByteArray := prog_9_method_1_code
def yX7_init : MethodName := ⟨RX7, "<init>", "(I)V"⟩
abbrev cX7_empty : ByteArray := prog_9_method_2_code
def yX7_empty : MethodName := ⟨RX7, "empty", "()V"⟩
abbrev cX7_putNewest : ByteArray := prog_9_method_3_code
def yX7_putNewest : MethodName := ⟨RX7, "putNewest", "(LBallAndName$Game;)V"⟩
abbrev cX7_takeNewest : ByteArray := prog_9_method_4_code
def yX7_takeNewest : MethodName := ⟨RX7, "takeNewest", "(LBallAndName$Game;)V"⟩
abbrev cX7_copyOf : ByteArray := prog_9_method_5_code
def yX7_copyOf : MethodName := ⟨RX7, "copyOf", "(I)LBallAndName$Told;"⟩
def RX8 : String := "BallAndName$Sightings"
def TX8 : u_T := fun k => match k with
  | 0 => ("BallAndName$Sightings", "callers", "[I", true)
  | 1 => ("BallAndName$Sightings", "runners", "[I", true)
  | 2 => ("BallAndName$Sightings", "cells", "[I", true)
  | _ => ("BallAndName$Sightings", "size", "I", false)
def tyX8 : Nat → FieldType := fun k => match k with
  | 0 => .array .int
  | 1 => .array .int
  | 2 => .array .int
  | _ => .int
abbrev wsX80 : List Cond := u_ws RX8 TX8 4
theorem nmX8 : ∀ a, a < 4 → ∀ b, b < 4 → a ≠ b → (TX8 a).2.1 ≠ (TX8 b).2.1 := by decide +kernel
theorem tyX8_ok : ∀ k, k < 4 → parseFieldDescriptor (TX8 k).2.2.1 = some (tyX8 k) := by decide +kernel
abbrev cX8_init : ByteArray := prog_10_method_1_code
def yX8_init : MethodName := ⟨RX8, "<init>", "()V"⟩
abbrev cX8_add : ByteArray := prog_10_method_2_code
def yX8_add : MethodName := ⟨RX8, "add", "(III)I"⟩
abbrev cX8_empty : ByteArray := prog_10_method_3_code
def yX8_empty : MethodName := ⟨RX8, "empty", "()I"⟩
abbrev cX8_kindsOf : ByteArray := prog_10_method_4_code
def yX8_kindsOf : MethodName := ⟨RX8, "kindsOf", "(ILBallAndName$Round;)I"⟩
abbrev cX8_allAreSo : ByteArray := prog_10_method_5_code
def yX8_allAreSo : MethodName := ⟨RX8, "allAreSo", "(IILBallAndName$Round;)Z"⟩
def RX9 : String := "BallAndName$Text"
def TX9 : u_T := fun k => match k with
  | 0 => ("BallAndName$Text", "bytes", "[I", true)
  | _ => ("BallAndName$Text", "length", "I", false)
def tyX9 : Nat → FieldType := fun k => match k with
  | 0 => .array .int
  | _ => .int
abbrev wsX90 : List Cond := u_ws RX9 TX9 2
theorem nmX9 : ∀ a, a < 2 → ∀ b, b < 2 → a ≠ b → (TX9 a).2.1 ≠ (TX9 b).2.1 := by decide +kernel
theorem tyX9_ok : ∀ k, k < 2 → parseFieldDescriptor (TX9 k).2.2.1 = some (tyX9 k) := by decide +kernel
abbrev cX9_init : ByteArray := prog_11_method_1_code
def yX9_init : MethodName := ⟨RX9, "<init>", "()V"⟩
abbrev cX9_hasRoomFor : ByteArray := prog_11_method_2_code
def yX9_hasRoomFor : MethodName := ⟨RX9, "hasRoomFor", "(I)Z"⟩
abbrev cX9_append : ByteArray := prog_11_method_3_code
def yX9_append : MethodName := ⟨RX9, "append", "(IJ)I"⟩
abbrev cX9_empty : ByteArray := prog_11_method_4_code
def yX9_empty : MethodName := ⟨RX9, "empty", "()I"⟩
abbrev cX9_byteAt : ByteArray := prog_11_method_5_code
def yX9_byteAt : MethodName := ⟨RX9, "byteAt", "(I)I"⟩
abbrev cX9_hasFigureAt : ByteArray := prog_11_method_6_code
def yX9_hasFigureAt : MethodName := ⟨RX9, "hasFigureAt", "(I)Z"⟩
def RX10 : String := "BallAndName$Told"
def TX10 : u_T := fun k => match k with
  | 0 => ("BallAndName$Told", "callee", "I", false)
  | 1 => ("BallAndName$Told", "cell", "I", false)
  | 2 => ("BallAndName$Told", "height", "I", false)
  | _ => ("BallAndName$Told", "letters", "I", false)
def tyX10 : Nat → FieldType := fun k => match k with
  | 0 => .int
  | 1 => .int
  | 2 => .int
  | _ => .int
abbrev wsX100 : List Cond := u_ws RX10 TX10 4
theorem nmX10 : ∀ a, a < 4 → ∀ b, b < 4 → a ≠ b → (TX10 a).2.1 ≠ (TX10 b).2.1 := by decide +kernel
theorem tyX10_ok : ∀ k, k < 4 → parseFieldDescriptor (TX10 k).2.2.1 = some (tyX10 k) := by decide +kernel
abbrev cX10_init : ByteArray := prog_12_method_1_code
def yX10_init : MethodName := ⟨RX10, "<init>", "()V"⟩
abbrev cX10_tellCall : ByteArray := prog_12_method_2_code
def yX10_tellCall : MethodName := ⟨RX10, "tellCall", "(III)V"⟩
abbrev cX10_copyFrom : ByteArray := prog_12_method_3_code
def yX10_copyFrom : MethodName := ⟨RX10, "copyFrom", "(LBallAndName$Told;)V"⟩
def RX11 : String := "BallAndName"
def TX11 : u_T := fun k => match k with
  | 0 => ("BallAndName", "text", "LBallAndName$Text;", true)
  | 1 => ("BallAndName", "reader", "LBallAndName$Reader;", true)
  | 2 => ("BallAndName", "round", "LBallAndName$Round;", true)
  | 3 => ("BallAndName", "game", "LBallAndName$Game;", true)
  | 4 => ("BallAndName", "draft", "LBallAndName$Game;", true)
  | 5 => ("BallAndName", "safeCall", "LBallAndName$SafeCall;", true)
  | 6 => ("BallAndName", "manyRounds", "LBallAndName$ManyRounds;", true)
  | 7 => ("BallAndName", "sightings", "LBallAndName$Sightings;", true)
  | 8 => ("BallAndName", "undone", "LBallAndName$Shelf;", true)
  | _ => ("BallAndName", "kept", "LBallAndName$Shelf;", true)
def tyX11 : Nat → FieldType := fun k => match k with
  | 0 => .object "BallAndName$Text"
  | 1 => .object "BallAndName$Reader"
  | 2 => .object "BallAndName$Round"
  | 3 => .object "BallAndName$Game"
  | 4 => .object "BallAndName$Game"
  | 5 => .object "BallAndName$SafeCall"
  | 6 => .object "BallAndName$ManyRounds"
  | 7 => .object "BallAndName$Sightings"
  | 8 => .object "BallAndName$Shelf"
  | _ => .object "BallAndName$Shelf"
abbrev wsX110 : List Cond := u_ws RX11 TX11 10
theorem nmX11 : ∀ a, a < 10 → ∀ b, b < 10 → a ≠ b → (TX11 a).2.1 ≠ (TX11 b).2.1 := by decide +kernel
theorem tyX11_ok : ∀ k, k < 10 → parseFieldDescriptor (TX11 k).2.2.1 = some (tyX11 k) := by decide +kernel
abbrev cX11_init : ByteArray := prog_1_method_1_code
def yX11_init : MethodName := ⟨RX11, "<init>", "()V"⟩
abbrev cX11_write : ByteArray := prog_1_method_2_code
def yX11_write : MethodName := ⟨RX11, "write", "(IJ)I"⟩
abbrev cX11_wipe : ByteArray := prog_1_method_3_code
def yX11_wipe : MethodName := ⟨RX11, "wipe", "()I"⟩
abbrev cX11_fault : ByteArray := prog_1_method_4_code
def yX11_fault : MethodName := ⟨RX11, "fault", "()I"⟩
abbrev cX11_lay : ByteArray := prog_1_method_5_code
def yX11_lay : MethodName := ⟨RX11, "lay", "()I"⟩
abbrev cX11_player : ByteArray := prog_1_method_6_code
def yX11_player : MethodName := ⟨RX11, "player", "(II)I"⟩
abbrev cX11_called : ByteArray := prog_1_method_7_code
def yX11_called : MethodName := ⟨RX11, "called", "(II)I"⟩
abbrev cX11_stands : ByteArray := prog_1_method_8_code
def yX11_stands : MethodName := ⟨RX11, "stands", "(II)I"⟩
abbrev cX11_chance : ByteArray := prog_1_method_9_code
def yX11_chance : MethodName := ⟨RX11, "chance", "(II)I"⟩
abbrev cX11_thrown : ByteArray := prog_1_method_10_code
def yX11_thrown : MethodName := ⟨RX11, "thrown", "(II)I"⟩
abbrev cX11_hidden : ByteArray := prog_1_method_11_code
def yX11_hidden : MethodName := ⟨RX11, "hidden", "(II)I"⟩
abbrev cX11_safe : ByteArray := prog_1_method_12_code
def yX11_safe : MethodName := ⟨RX11, "safe", "(II)I"⟩
abbrev cX11_run : ByteArray := prog_1_method_13_code
def yX11_run : MethodName := ⟨RX11, "run", "(III)I"⟩
abbrev cX11_first : ByteArray := prog_1_method_14_code
def yX11_first : MethodName := ⟨RX11, "first", "(III)J"⟩
abbrev cX11_rounds : ByteArray := prog_1_method_15_code
def yX11_rounds : MethodName := ⟨RX11, "rounds", "(II)J"⟩
abbrev cX11_call : ByteArray := prog_1_method_16_code
def yX11_call : MethodName := ⟨RX11, "call", "(IIII)I"⟩
abbrev cX11_letters : ByteArray := prog_1_method_17_code
def yX11_letters : MethodName := ⟨RX11, "letters", "(II)I"⟩
abbrev cX11_undo : ByteArray := prog_1_method_18_code
def yX11_undo : MethodName := ⟨RX11, "undo", "()I"⟩
abbrev cX11_seen : ByteArray := prog_1_method_19_code
def yX11_seen : MethodName := ⟨RX11, "seen", "(III)I"⟩
abbrev cX11_forget : ByteArray := prog_1_method_20_code
def yX11_forget : MethodName := ⟨RX11, "forget", "()I"⟩
abbrev cX11_kinds : ByteArray := prog_1_method_21_code
def yX11_kinds : MethodName := ⟨RX11, "kinds", "(I)I"⟩
abbrev cX11_afternoon : ByteArray := prog_1_method_22_code
def yX11_afternoon : MethodName := ⟨RX11, "afternoon", "(II)I"⟩
abbrev cX11_keep : ByteArray := prog_1_method_23_code
def yX11_keep : MethodName := ⟨RX11, "keep", "()I"⟩
abbrev cX11_back : ByteArray := prog_1_method_24_code
def yX11_back : MethodName := ⟨RX11, "back", "()I"⟩
abbrev cX11_count : ByteArray := prog_1_method_25_code
def yX11_count : MethodName := ⟨RX11, "count", "(I)I"⟩
abbrev cX11_canBeHit : ByteArray := prog_1_method_26_code
def yX11_canBeHit : MethodName := ⟨RX11, "canBeHit", "(II)Z"⟩
abbrev cX11_within : ByteArray := prog_1_method_27_code
def yX11_within : MethodName := ⟨RX11, "within", "(III)Z"⟩
abbrev cX11_inLowestTerms : ByteArray := prog_1_method_28_code
def yX11_inLowestTerms : MethodName := ⟨RX11, "inLowestTerms", "(JI)J"⟩
def RX12 : String := "BallAndNameModel"
def TX12 : u_T := fun k => match k with
  | 0 => ("BallAndNameModel", "last", "I", false)
  | 1 => ("BallAndNameModel", "slide", "I", false)
  | 2 => ("BallAndNameModel", "many", "I", false)
  | 3 => ("BallAndNameModel", "one", "[I", true)
  | 4 => ("BallAndNameModel", "game", "[I", true)
  | 5 => ("BallAndNameModel", "text", "[I", true)
  | 6 => ("BallAndNameModel", "length", "I", false)
  | 7 => ("BallAndNameModel", "at", "I", false)
  | 8 => ("BallAndNameModel", "told", "[I", true)
  | 9 => ("BallAndNameModel", "readLast", "I", false)
  | 10 => ("BallAndNameModel", "readSlide", "I", false)
  | 11 => ("BallAndNameModel", "readMany", "I", false)
  | 12 => ("BallAndNameModel", "readOne", "[I", true)
  | 13 => ("BallAndNameModel", "readCall", "[I", true)
  | 14 => ("BallAndNameModel", "readLetters", "[I", true)
  | 15 => ("BallAndNameModel", "stand", "[I", true)
  | 16 => ("BallAndNameModel", "odds", "[I", true)
  | 17 => ("BallAndNameModel", "before", "[I", true)
  | 18 => ("BallAndNameModel", "target", "I", false)
  | 19 => ("BallAndNameModel", "best", "[I", true)
  | 20 => ("BallAndNameModel", "pow", "[J", true)
  | 21 => ("BallAndNameModel", "parts", "[J", true)
  | 22 => ("BallAndNameModel", "aimed", "[I", true)
  | 23 => ("BallAndNameModel", "hit", "[I", true)
  | 24 => ("BallAndNameModel", "changes", "I", false)
  | 25 => ("BallAndNameModel", "change", "[I", true)
  | 26 => ("BallAndNameModel", "seens", "I", false)
  | 27 => ("BallAndNameModel", "sights", "[I", true)
  | 28 => ("BallAndNameModel", "has", "[I", true)
  | 29 => ("BallAndNameModel", "keeps", "I", false)
  | _ => ("BallAndNameModel", "kept", "[I", true)
def tyX12 : Nat → FieldType := fun k => match k with
  | 0 => .int
  | 1 => .int
  | 2 => .int
  | 3 => .array .int
  | 4 => .array .int
  | 5 => .array .int
  | 6 => .int
  | 7 => .int
  | 8 => .array .int
  | 9 => .int
  | 10 => .int
  | 11 => .int
  | 12 => .array .int
  | 13 => .array .int
  | 14 => .array .int
  | 15 => .array .int
  | 16 => .array .int
  | 17 => .array .int
  | 18 => .int
  | 19 => .array .int
  | 20 => .array .long
  | 21 => .array .long
  | 22 => .array .int
  | 23 => .array .int
  | 24 => .int
  | 25 => .array .int
  | 26 => .int
  | 27 => .array .int
  | 28 => .array .int
  | 29 => .int
  | _ => .array .int
abbrev wsX120 : List Cond := u_ws RX12 TX12 31
theorem nmX12 : ∀ a, a < 31 → ∀ b, b < 31 → a ≠ b → (TX12 a).2.1 ≠ (TX12 b).2.1 := by decide +kernel
theorem tyX12_ok : ∀ k, k < 31 → parseFieldDescriptor (TX12 k).2.2.1 = some (tyX12 k) := by decide +kernel
abbrev cX12_init : ByteArray := prog_14_method_1_code
def yX12_init : MethodName := ⟨RX12, "<init>", "()V"⟩
abbrev cX12_lays : ByteArray := prog_14_method_3_code
def yX12_lays : MethodName := ⟨RX12, "lays", "(IIIIII)V"⟩
abbrev cX12_in : ByteArray := prog_14_method_4_code
def yX12_in : MethodName := ⟨RX12, "in", "(III)Z"⟩
abbrev cX12_isPlayer : ByteArray := prog_14_method_5_code
def yX12_isPlayer : MethodName := ⟨RX12, "isPlayer", "(I)Z"⟩
abbrev cX12_size : ByteArray := prog_14_method_6_code
def yX12_size : MethodName := ⟨RX12, "size", "(I)I"⟩
abbrev cX12_write : ByteArray := prog_14_method_7_code
def yX12_write : MethodName := ⟨RX12, "write", "(IJ)I"⟩
abbrev cX12_wipe : ByteArray := prog_14_method_8_code
def yX12_wipe : MethodName := ⟨RX12, "wipe", "()I"⟩
abbrev cX12_byteAt : ByteArray := prog_14_method_9_code
def yX12_byteAt : MethodName := ⟨RX12, "byteAt", "(I)I"⟩
abbrev cX12_isFigure : ByteArray := prog_14_method_10_code
def yX12_isFigure : MethodName := ⟨RX12, "isFigure", "(I)Z"⟩
abbrev cX12_readNumbers : ByteArray := prog_14_method_11_code
def yX12_readNumbers : MethodName := ⟨RX12, "readNumbers", "(I)Z"⟩
abbrev cX12_readGround : ByteArray := prog_14_method_12_code
def yX12_readGround : MethodName := ⟨RX12, "readGround", "()Z"⟩
abbrev cX12_readSlide : ByteArray := prog_14_method_13_code
def yX12_readSlide : MethodName := ⟨RX12, "readSlide", "()Z"⟩
abbrev cX12_readPlayer : ByteArray := prog_14_method_14_code
def yX12_readPlayer : MethodName := ⟨RX12, "readPlayer", "()Z"⟩
abbrev cX12_readCalled : ByteArray := prog_14_method_15_code
def yX12_readCalled : MethodName := ⟨RX12, "readCalled", "()Z"⟩
abbrev cX12_readLettersOf : ByteArray := prog_14_method_16_code
def yX12_readLettersOf : MethodName := ⟨RX12, "readLettersOf", "()Z"⟩
abbrev cX12_readItem : ByteArray := prog_14_method_17_code
def yX12_readItem : MethodName := ⟨RX12, "readItem", "()Z"⟩
abbrev cX12_fault : ByteArray := prog_14_method_18_code
def yX12_fault : MethodName := ⟨RX12, "fault", "()I"⟩
abbrev cX12_calls : ByteArray := prog_14_method_19_code
def yX12_calls : MethodName := ⟨RX12, "calls", "()V"⟩
abbrev cX12_lay : ByteArray := prog_14_method_20_code
def yX12_lay : MethodName := ⟨RX12, "lay", "()I"⟩
abbrev cX12_player : ByteArray := prog_14_method_21_code
def yX12_player : MethodName := ⟨RX12, "player", "(II)I"⟩
abbrev cX12_beatsOf : ByteArray := prog_14_method_22_code
def yX12_beatsOf : MethodName := ⟨RX12, "beatsOf", "(III)I"⟩
abbrev cX12_called : ByteArray := prog_14_method_23_code
def yX12_called : MethodName := ⟨RX12, "called", "(II)I"⟩
abbrev cX12_standsOf : ByteArray := prog_14_method_24_code
def yX12_standsOf : MethodName := ⟨RX12, "standsOf", "(IIII)I"⟩
abbrev cX12_hides : ByteArray := prog_14_method_25_code
def yX12_hides : MethodName := ⟨RX12, "hides", "(III)I"⟩
abbrev cX12_aims : ByteArray := prog_14_method_26_code
def yX12_aims : MethodName := ⟨RX12, "aims", "(III)V"⟩
abbrev cX12_goBy : ByteArray := prog_14_method_27_code
def yX12_goBy : MethodName := ⟨RX12, "goBy", "(III)V"⟩
abbrev cX12_go : ByteArray := prog_14_method_28_code
def yX12_go : MethodName := ⟨RX12, "go", "(I)V"⟩
abbrev cX12_stands : ByteArray := prog_14_method_29_code
def yX12_stands : MethodName := ⟨RX12, "stands", "(II)I"⟩
abbrev cX12_areApart : ByteArray := prog_14_method_30_code
def yX12_areApart : MethodName := ⟨RX12, "areApart", "(II)Z"⟩
abbrev cX12_chance : ByteArray := prog_14_method_31_code
def yX12_chance : MethodName := ⟨RX12, "chance", "(II)I"⟩
abbrev cX12_thrown : ByteArray := prog_14_method_32_code
def yX12_thrown : MethodName := ⟨RX12, "thrown", "(II)I"⟩
abbrev cX12_hidden : ByteArray := prog_14_method_33_code
def yX12_hidden : MethodName := ⟨RX12, "hidden", "(II)I"⟩
abbrev cX12_safe : ByteArray := prog_14_method_34_code
def yX12_safe : MethodName := ⟨RX12, "safe", "(II)I"⟩
abbrev cX12_run : ByteArray := prog_14_method_35_code
def yX12_run : MethodName := ⟨RX12, "run", "(III)I"⟩
abbrev cX12_codeOf : ByteArray := prog_14_method_36_code
def yX12_codeOf : MethodName := ⟨RX12, "codeOf", "()I"⟩
abbrev cX12_left : ByteArray := prog_14_method_37_code
def yX12_left : MethodName := ⟨RX12, "left", "(I)I"⟩
abbrev cX12_then : ByteArray := prog_14_method_38_code
def yX12_then : MethodName := ⟨RX12, "then", "(III)J"⟩
abbrev cX12_findParts : ByteArray := prog_14_method_39_code
def yX12_findParts : MethodName := ⟨RX12, "findParts", "(I)V"⟩
abbrev cX12_part : ByteArray := prog_14_method_40_code
def yX12_part : MethodName := ⟨RX12, "part", "(II)J"⟩
abbrev cX12_first : ByteArray := prog_14_method_41_code
def yX12_first : MethodName := ⟨RX12, "first", "(III)J"⟩
abbrev cX12_rounds : ByteArray := prog_14_method_42_code
def yX12_rounds : MethodName := ⟨RX12, "rounds", "(II)J"⟩
abbrev cX12_knows : ByteArray := prog_14_method_43_code
def yX12_knows : MethodName := ⟨RX12, "knows", "(I)V"⟩
abbrev cX12_call : ByteArray := prog_14_method_44_code
def yX12_call : MethodName := ⟨RX12, "call", "(IIII)I"⟩
abbrev cX12_letters : ByteArray := prog_14_method_45_code
def yX12_letters : MethodName := ⟨RX12, "letters", "(II)I"⟩
abbrev cX12_undo : ByteArray := prog_14_method_46_code
def yX12_undo : MethodName := ⟨RX12, "undo", "()I"⟩
abbrev cX12_seen : ByteArray := prog_14_method_47_code
def yX12_seen : MethodName := ⟨RX12, "seen", "(III)I"⟩
abbrev cX12_forget : ByteArray := prog_14_method_48_code
def yX12_forget : MethodName := ⟨RX12, "forget", "()I"⟩
abbrev cX12_kinds : ByteArray := prog_14_method_49_code
def yX12_kinds : MethodName := ⟨RX12, "kinds", "(I)I"⟩
abbrev cX12_afternoon : ByteArray := prog_14_method_50_code
def yX12_afternoon : MethodName := ⟨RX12, "afternoon", "(II)I"⟩
abbrev cX12_keep : ByteArray := prog_14_method_51_code
def yX12_keep : MethodName := ⟨RX12, "keep", "()I"⟩
abbrev cX12_back : ByteArray := prog_14_method_52_code
def yX12_back : MethodName := ⟨RX12, "back", "()I"⟩
abbrev cX12_count : ByteArray := prog_14_method_53_code
def yX12_count : MethodName := ⟨RX12, "count", "(I)I"⟩
def RJ9 : String := "java/lang/Math"
abbrev cJ9_abs_0f7a4 : ByteArray := prog_15_method_59_code
def yJ9_abs_0f7a4 : MethodName := ⟨RJ9, "abs", "(I)I"⟩
abbrev cJ9_max_7cf53 : ByteArray := prog_15_method_65_code
def yJ9_max_7cf53 : MethodName := ⟨RJ9, "max", "(II)I"⟩
abbrev cJ9_min_7cf53 : ByteArray := prog_15_method_69_code
def yJ9_min_7cf53 : MethodName := ⟨RJ9, "min", "(II)I"⟩
def RJ7 : String := "java/util/Arrays"
abbrev cJ7_fill_d0a16 : ByteArray := prog_16_method_101_code
def yJ7_fill_d0a16 : MethodName := ⟨RJ7, "fill", "([JJ)V"⟩
def RL : String := "BallAndNameLaw"
abbrev cL_law : ByteArray := code
def yL_law : MethodName := ⟨RL, "law", "([I)Z"⟩
abbrev vwCl : List vw_C := [(RX0, TX0, 5), (RX1, TX1, 8), (RX2, TX2, 6), (RX3, TX3, 2), (RX4, TX4, 7), (RX6, TX6, 5), (RX7, TX7, 4), (RX8, TX8, 4), (RX9, TX9, 2), (RX10, TX10, 4), (RX11, TX11, 10), (RX12, TX12, 31)]
end
section
theorem dX0_init_0 : decode cX0_init 0 = .ok (.aload_n 0, 1) := by decide +kernel
theorem dX0_init_1 : decode cX0_init 1 = .ok (.invokespecial 3, 3) := by decide +kernel
theorem dX0_init_4 : decode cX0_init 4 = .ok (.aload_n 0, 1) := by decide +kernel
theorem dX0_init_5 : decode cX0_init 5 = .ok (.iconst 5, 1) := by decide +kernel
theorem dX0_init_6 : decode cX0_init 6 = .ok (.anewarray 9, 3) := by decide +kernel
theorem dX0_init_9 : decode cX0_init 9 = .ok (.putfield 11, 3) := by decide +kernel
theorem dX0_init_12 : decode cX0_init 12 = .ok (.aload_n 0, 1) := by decide +kernel
theorem dX0_init_13 : decode cX0_init 13 = .ok (.new 9, 3) := by decide +kernel
theorem dX0_init_16 : decode cX0_init 16 = .ok (.dup, 1) := by decide +kernel
theorem dX0_init_17 : decode cX0_init 17 = .ok (.invokespecial 17, 3) := by decide +kernel
theorem dX0_init_20 : decode cX0_init 20 = .ok (.putfield 18, 3) := by decide +kernel
theorem dX0_init_23 : decode cX0_init 23 = .ok (.aload_n 0, 1) := by decide +kernel
theorem dX0_init_24 : decode cX0_init 24 = .ok (.iconst 0, 1) := by decide +kernel
theorem dX0_init_25 : decode cX0_init 25 = .ok (.putfield 22, 3) := by decide +kernel
theorem dX0_init_28 : decode cX0_init 28 = .ok (.aload_n 0, 1) := by decide +kernel
theorem dX0_init_29 : decode cX0_init 29 = .ok (.bipush 30, 2) := by decide +kernel
theorem dX0_init_31 : decode cX0_init 31 = .ok (.putfield 26, 3) := by decide +kernel
theorem dX0_init_34 : decode cX0_init 34 = .ok (.aload_n 0, 1) := by decide +kernel
theorem dX0_init_35 : decode cX0_init 35 = .ok (.iconst 1, 1) := by decide +kernel
theorem dX0_init_36 : decode cX0_init 36 = .ok (.putfield 29, 3) := by decide +kernel
theorem dX0_init_39 : decode cX0_init 39 = .ok (.iconst 0, 1) := by decide +kernel
theorem dX0_init_40 : decode cX0_init 40 = .ok (.istore_n 1, 1) := by decide +kernel
theorem dX0_init_41 : decode cX0_init 41 = .ok (.iload_n 1, 1) := by decide +kernel
theorem dX0_init_42 : decode cX0_init 42 = .ok (.aload_n 0, 1) := by decide +kernel
theorem dX0_init_43 : decode cX0_init 43 = .ok (.getfield 11, 3) := by decide +kernel
theorem dX0_init_46 : decode cX0_init 46 = .ok (.arraylength, 1) := by decide +kernel
theorem dX0_init_47 : decode cX0_init 47 = .ok (.if_icmp .ge 22, 3) := by decide +kernel
theorem dX0_init_50 : decode cX0_init 50 = .ok (.aload_n 0, 1) := by decide +kernel
theorem dX0_init_51 : decode cX0_init 51 = .ok (.getfield 11, 3) := by decide +kernel
theorem dX0_init_54 : decode cX0_init 54 = .ok (.iload_n 1, 1) := by decide +kernel
theorem dX0_init_55 : decode cX0_init 55 = .ok (.new 9, 3) := by decide +kernel
theorem dX0_init_58 : decode cX0_init 58 = .ok (.dup, 1) := by decide +kernel
theorem dX0_init_59 : decode cX0_init 59 = .ok (.invokespecial 17, 3) := by decide +kernel
theorem dX0_init_62 : decode cX0_init 62 = .ok (.aastore, 1) := by decide +kernel
theorem dX0_init_63 : decode cX0_init 63 = .ok (.iinc 1 1, 3) := by decide +kernel
theorem dX0_init_66 : decode cX0_init 66 = .ok (.goto (-25), 3) := by decide +kernel
theorem dX0_init_69 : decode cX0_init 69 = .ok (.return_, 1) := by decide +kernel
theorem dX0_has_0 : decode cX0_has 0 = .ok (.iload_n 1, 1) := by decide +kernel
theorem dX0_has_1 : decode cX0_has 1 = .ok (.ifCond .lt 15, 3) := by decide +kernel
theorem dX0_has_4 : decode cX0_has 4 = .ok (.iload_n 1, 1) := by decide +kernel
theorem dX0_has_5 : decode cX0_has 5 = .ok (.aload_n 0, 1) := by decide +kernel
theorem dX0_has_6 : decode cX0_has 6 = .ok (.getfield 22, 3) := by decide +kernel
theorem dX0_has_9 : decode cX0_has 9 = .ok (.if_icmp .ge 7, 3) := by decide +kernel
theorem dX0_has_12 : decode cX0_has 12 = .ok (.iconst 1, 1) := by decide +kernel
theorem dX0_has_13 : decode cX0_has 13 = .ok (.goto 4, 3) := by decide +kernel
theorem dX0_has_16 : decode cX0_has 16 = .ok (.iconst 0, 1) := by decide +kernel
theorem dX0_has_17 : decode cX0_has 17 = .ok (.ireturn, 1) := by decide +kernel
theorem dX0_onGround_0 : decode cX0_onGround 0 = .ok (.iload_n 1, 1) := by decide +kernel
theorem dX0_onGround_1 : decode cX0_onGround 1 = .ok (.ifCond .lt 15, 3) := by decide +kernel
theorem dX0_onGround_4 : decode cX0_onGround 4 = .ok (.iload_n 1, 1) := by decide +kernel
theorem dX0_onGround_5 : decode cX0_onGround 5 = .ok (.aload_n 0, 1) := by decide +kernel
theorem dX0_onGround_6 : decode cX0_onGround 6 = .ok (.getfield 26, 3) := by decide +kernel
theorem dX0_onGround_9 : decode cX0_onGround 9 = .ok (.if_icmp .gt 7, 3) := by decide +kernel
theorem dX0_onGround_12 : decode cX0_onGround 12 = .ok (.iconst 1, 1) := by decide +kernel
theorem dX0_onGround_13 : decode cX0_onGround 13 = .ok (.goto 4, 3) := by decide +kernel
theorem dX0_onGround_16 : decode cX0_onGround 16 = .ok (.iconst 0, 1) := by decide +kernel
theorem dX0_onGround_17 : decode cX0_onGround 17 = .ok (.ireturn, 1) := by decide +kernel
theorem dX0_who_0 : decode cX0_who 0 = .ok (.iload_n 1, 1) := by decide +kernel
theorem dX0_who_1 : decode cX0_who 1 = .ok (.ifCond .lt 21, 3) := by decide +kernel
theorem dX0_who_4 : decode cX0_who 4 = .ok (.iload_n 1, 1) := by decide +kernel
theorem dX0_who_5 : decode cX0_who 5 = .ok (.aload_n 0, 1) := by decide +kernel
theorem dX0_who_6 : decode cX0_who 6 = .ok (.getfield 11, 3) := by decide +kernel
theorem dX0_who_9 : decode cX0_who 9 = .ok (.arraylength, 1) := by decide +kernel
theorem dX0_who_10 : decode cX0_who 10 = .ok (.if_icmp .ge 12, 3) := by decide +kernel
theorem dX0_who_13 : decode cX0_who 13 = .ok (.aload_n 0, 1) := by decide +kernel
theorem dX0_who_14 : decode cX0_who 14 = .ok (.getfield 11, 3) := by decide +kernel
theorem dX0_who_17 : decode cX0_who 17 = .ok (.iload_n 1, 1) := by decide +kernel
theorem dX0_who_18 : decode cX0_who 18 = .ok (.aaload, 1) := by decide +kernel
theorem dX0_who_19 : decode cX0_who 19 = .ok (.goto 4, 3) := by decide +kernel
theorem dX0_who_22 : decode cX0_who 22 = .ok (.aconst_null, 1) := by decide +kernel
theorem dX0_who_23 : decode cX0_who 23 = .ok (.astore_n 2, 1) := by decide +kernel
theorem dX0_who_24 : decode cX0_who 24 = .ok (.aload_n 2, 1) := by decide +kernel
theorem dX0_who_25 : decode cX0_who 25 = .ok (.ifnonnull 10, 3) := by decide +kernel
theorem dX0_who_28 : decode cX0_who 28 = .ok (.aload_n 0, 1) := by decide +kernel
theorem dX0_who_29 : decode cX0_who 29 = .ok (.getfield 18, 3) := by decide +kernel
theorem dX0_who_32 : decode cX0_who 32 = .ok (.goto 4, 3) := by decide +kernel
theorem dX0_who_35 : decode cX0_who 35 = .ok (.aload_n 2, 1) := by decide +kernel
theorem dX0_who_36 : decode cX0_who 36 = .ok (.areturn, 1) := by decide +kernel
theorem dX0_empty_0 : decode cX0_empty 0 = .ok (.aload_n 0, 1) := by decide +kernel
theorem dX0_empty_1 : decode cX0_empty 1 = .ok (.iconst 0, 1) := by decide +kernel
theorem dX0_empty_2 : decode cX0_empty 2 = .ok (.putfield 22, 3) := by decide +kernel
theorem dX0_empty_5 : decode cX0_empty 5 = .ok (.aload_n 0, 1) := by decide +kernel
theorem dX0_empty_6 : decode cX0_empty 6 = .ok (.bipush 30, 2) := by decide +kernel
theorem dX0_empty_8 : decode cX0_empty 8 = .ok (.putfield 26, 3) := by decide +kernel
theorem dX0_empty_11 : decode cX0_empty 11 = .ok (.aload_n 0, 1) := by decide +kernel
theorem dX0_empty_12 : decode cX0_empty 12 = .ok (.iconst 1, 1) := by decide +kernel
theorem dX0_empty_13 : decode cX0_empty 13 = .ok (.putfield 29, 3) := by decide +kernel
theorem dX0_empty_16 : decode cX0_empty 16 = .ok (.return_, 1) := by decide +kernel
theorem dX0_addPlayer_0 : decode cX0_addPlayer 0 = .ok (.aload_n 0, 1) := by decide +kernel
theorem dX0_addPlayer_1 : decode cX0_addPlayer 1 = .ok (.getfield 22, 3) := by decide +kernel
theorem dX0_addPlayer_4 : decode cX0_addPlayer 4 = .ok (.iconst 5, 1) := by decide +kernel
theorem dX0_addPlayer_5 : decode cX0_addPlayer 5 = .ok (.if_icmp .lt 4, 3) := by decide +kernel
theorem dX0_addPlayer_8 : decode cX0_addPlayer 8 = .ok (.return_, 1) := by decide +kernel
theorem dX0_addPlayer_9 : decode cX0_addPlayer 9 = .ok (.aload_n 0, 1) := by decide +kernel
theorem dX0_addPlayer_10 : decode cX0_addPlayer 10 = .ok (.aload_n 0, 1) := by decide +kernel
theorem dX0_addPlayer_11 : decode cX0_addPlayer 11 = .ok (.getfield 22, 3) := by decide +kernel
theorem dX0_addPlayer_14 : decode cX0_addPlayer 14 = .ok (.invokevirtual 32, 3) := by decide +kernel
theorem dX0_addPlayer_17 : decode cX0_addPlayer 17 = .ok (.astore 6, 2) := by decide +kernel
theorem dX0_addPlayer_19 : decode cX0_addPlayer 19 = .ok (.aload 6, 2) := by decide +kernel
theorem dX0_addPlayer_21 : decode cX0_addPlayer 21 = .ok (.iload_n 1, 1) := by decide +kernel
theorem dX0_addPlayer_22 : decode cX0_addPlayer 22 = .ok (.iload_n 2, 1) := by decide +kernel
theorem dX0_addPlayer_23 : decode cX0_addPlayer 23 = .ok (.iload_n 3, 1) := by decide +kernel
theorem dX0_addPlayer_24 : decode cX0_addPlayer 24 = .ok (.iload 4, 2) := by decide +kernel
theorem dX0_addPlayer_26 : decode cX0_addPlayer 26 = .ok (.iload 5, 2) := by decide +kernel
theorem dX0_addPlayer_28 : decode cX0_addPlayer 28 = .ok (.invokevirtual 36, 3) := by decide +kernel
theorem dX0_addPlayer_31 : decode cX0_addPlayer 31 = .ok (.aload 6, 2) := by decide +kernel
theorem dX0_addPlayer_33 : decode cX0_addPlayer 33 = .ok (.getfield 40, 3) := by decide +kernel
theorem dX0_addPlayer_36 : decode cX0_addPlayer 36 = .ok (.bipush (-4), 2) := by decide +kernel
theorem dX0_addPlayer_38 : decode cX0_addPlayer 38 = .ok (.iconst 0, 1) := by decide +kernel
theorem dX0_addPlayer_39 : decode cX0_addPlayer 39 = .ok (.iconst 1, 1) := by decide +kernel
theorem dX0_addPlayer_40 : decode cX0_addPlayer 40 = .ok (.invokevirtual 44, 3) := by decide +kernel
theorem dX0_addPlayer_43 : decode cX0_addPlayer 43 = .ok (.aload 6, 2) := by decide +kernel
theorem dX0_addPlayer_45 : decode cX0_addPlayer 45 = .ok (.getfield 40, 3) := by decide +kernel
theorem dX0_addPlayer_48 : decode cX0_addPlayer 48 = .ok (.iconst 0, 1) := by decide +kernel
theorem dX0_addPlayer_49 : decode cX0_addPlayer 49 = .ok (.putfield 50, 3) := by decide +kernel
theorem dX0_addPlayer_52 : decode cX0_addPlayer 52 = .ok (.aload_n 0, 1) := by decide +kernel
theorem dX0_addPlayer_53 : decode cX0_addPlayer 53 = .ok (.dup, 1) := by decide +kernel
theorem dX0_addPlayer_54 : decode cX0_addPlayer 54 = .ok (.getfield 22, 3) := by decide +kernel
theorem dX0_addPlayer_57 : decode cX0_addPlayer 57 = .ok (.iconst 1, 1) := by decide +kernel
theorem dX0_addPlayer_58 : decode cX0_addPlayer 58 = .ok (.iadd, 1) := by decide +kernel
theorem dX0_addPlayer_59 : decode cX0_addPlayer 59 = .ok (.putfield 22, 3) := by decide +kernel
theorem dX0_addPlayer_62 : decode cX0_addPlayer 62 = .ok (.return_, 1) := by decide +kernel
theorem dX0_tellUntoldCalls_0 : decode cX0_tellUntoldCalls 0 = .ok (.iconst 0, 1) := by decide +kernel
theorem dX0_tellUntoldCalls_1 : decode cX0_tellUntoldCalls 1 = .ok (.istore_n 1, 1) := by decide +kernel
theorem dX0_tellUntoldCalls_2 : decode cX0_tellUntoldCalls 2 = .ok (.iload_n 1, 1) := by decide +kernel
theorem dX0_tellUntoldCalls_3 : decode cX0_tellUntoldCalls 3 = .ok (.aload_n 0, 1) := by decide +kernel
theorem dX0_tellUntoldCalls_4 : decode cX0_tellUntoldCalls 4 = .ok (.getfield 22, 3) := by decide +kernel
theorem dX0_tellUntoldCalls_7 : decode cX0_tellUntoldCalls 7 = .ok (.if_icmp .ge 59, 3) := by decide +kernel
theorem dX0_tellUntoldCalls_10 : decode cX0_tellUntoldCalls 10 = .ok (.aload_n 0, 1) := by decide +kernel
theorem dX0_tellUntoldCalls_11 : decode cX0_tellUntoldCalls 11 = .ok (.iload_n 1, 1) := by decide +kernel
theorem dX0_tellUntoldCalls_12 : decode cX0_tellUntoldCalls 12 = .ok (.invokevirtual 32, 3) := by decide +kernel
theorem dX0_tellUntoldCalls_15 : decode cX0_tellUntoldCalls 15 = .ok (.getfield 40, 3) := by decide +kernel
theorem dX0_tellUntoldCalls_18 : decode cX0_tellUntoldCalls 18 = .ok (.astore_n 2, 1) := by decide +kernel
theorem dX0_tellUntoldCalls_19 : decode cX0_tellUntoldCalls 19 = .ok (.aload_n 2, 1) := by decide +kernel
theorem dX0_tellUntoldCalls_20 : decode cX0_tellUntoldCalls 20 = .ok (.getfield 53, 3) := by decide +kernel
theorem dX0_tellUntoldCalls_23 : decode cX0_tellUntoldCalls 23 = .ok (.bipush (-4), 2) := by decide +kernel
theorem dX0_tellUntoldCalls_25 : decode cX0_tellUntoldCalls 25 = .ok (.if_icmp .ne 35, 3) := by decide +kernel
theorem dX0_tellUntoldCalls_28 : decode cX0_tellUntoldCalls 28 = .ok (.iload_n 1, 1) := by decide +kernel
theorem dX0_tellUntoldCalls_29 : decode cX0_tellUntoldCalls 29 = .ok (.iconst 1, 1) := by decide +kernel
theorem dX0_tellUntoldCalls_30 : decode cX0_tellUntoldCalls 30 = .ok (.iadd, 1) := by decide +kernel
theorem dX0_tellUntoldCalls_31 : decode cX0_tellUntoldCalls 31 = .ok (.aload_n 0, 1) := by decide +kernel
theorem dX0_tellUntoldCalls_32 : decode cX0_tellUntoldCalls 32 = .ok (.getfield 22, 3) := by decide +kernel
theorem dX0_tellUntoldCalls_35 : decode cX0_tellUntoldCalls 35 = .ok (.if_icmp .ge 9, 3) := by decide +kernel
theorem dX0_tellUntoldCalls_38 : decode cX0_tellUntoldCalls 38 = .ok (.iload_n 1, 1) := by decide +kernel
theorem dX0_tellUntoldCalls_39 : decode cX0_tellUntoldCalls 39 = .ok (.iconst 1, 1) := by decide +kernel
theorem dX0_tellUntoldCalls_40 : decode cX0_tellUntoldCalls 40 = .ok (.iadd, 1) := by decide +kernel
theorem dX0_tellUntoldCalls_41 : decode cX0_tellUntoldCalls 41 = .ok (.goto 4, 3) := by decide +kernel
theorem dX0_tellUntoldCalls_44 : decode cX0_tellUntoldCalls 44 = .ok (.iconst 0, 1) := by decide +kernel
theorem dX0_tellUntoldCalls_45 : decode cX0_tellUntoldCalls 45 = .ok (.istore_n 3, 1) := by decide +kernel
theorem dX0_tellUntoldCalls_46 : decode cX0_tellUntoldCalls 46 = .ok (.aload_n 2, 1) := by decide +kernel
theorem dX0_tellUntoldCalls_47 : decode cX0_tellUntoldCalls 47 = .ok (.iload_n 3, 1) := by decide +kernel
theorem dX0_tellUntoldCalls_48 : decode cX0_tellUntoldCalls 48 = .ok (.aload_n 0, 1) := by decide +kernel
theorem dX0_tellUntoldCalls_49 : decode cX0_tellUntoldCalls 49 = .ok (.iload_n 3, 1) := by decide +kernel
theorem dX0_tellUntoldCalls_50 : decode cX0_tellUntoldCalls 50 = .ok (.invokevirtual 32, 3) := by decide +kernel
theorem dX0_tellUntoldCalls_53 : decode cX0_tellUntoldCalls 53 = .ok (.getfield 56, 3) := by decide +kernel
theorem dX0_tellUntoldCalls_56 : decode cX0_tellUntoldCalls 56 = .ok (.iconst 1, 1) := by decide +kernel
theorem dX0_tellUntoldCalls_57 : decode cX0_tellUntoldCalls 57 = .ok (.invokevirtual 44, 3) := by decide +kernel
theorem dX0_tellUntoldCalls_60 : decode cX0_tellUntoldCalls 60 = .ok (.iinc 1 1, 3) := by decide +kernel
theorem dX0_tellUntoldCalls_63 : decode cX0_tellUntoldCalls 63 = .ok (.goto (-61), 3) := by decide +kernel
theorem dX0_tellUntoldCalls_66 : decode cX0_tellUntoldCalls 66 = .ok (.return_, 1) := by decide +kernel
theorem dX0_canBePlayed_0 : decode cX0_canBePlayed 0 = .ok (.aload_n 0, 1) := by decide +kernel
theorem dX0_canBePlayed_1 : decode cX0_canBePlayed 1 = .ok (.getfield 22, 3) := by decide +kernel
theorem dX0_canBePlayed_4 : decode cX0_canBePlayed 4 = .ok (.iconst 2, 1) := by decide +kernel
theorem dX0_canBePlayed_5 : decode cX0_canBePlayed 5 = .ok (.if_icmp .ge 5, 3) := by decide +kernel
theorem dX0_canBePlayed_8 : decode cX0_canBePlayed 8 = .ok (.iconst 0, 1) := by decide +kernel
theorem dX0_canBePlayed_9 : decode cX0_canBePlayed 9 = .ok (.ireturn, 1) := by decide +kernel
theorem dX0_canBePlayed_10 : decode cX0_canBePlayed 10 = .ok (.iconst 0, 1) := by decide +kernel
theorem dX0_canBePlayed_11 : decode cX0_canBePlayed 11 = .ok (.istore_n 1, 1) := by decide +kernel
theorem dX0_canBePlayed_12 : decode cX0_canBePlayed 12 = .ok (.iload_n 1, 1) := by decide +kernel
theorem dX0_canBePlayed_13 : decode cX0_canBePlayed 13 = .ok (.aload_n 0, 1) := by decide +kernel
theorem dX0_canBePlayed_14 : decode cX0_canBePlayed 14 = .ok (.getfield 22, 3) := by decide +kernel
theorem dX0_canBePlayed_17 : decode cX0_canBePlayed 17 = .ok (.if_icmp .ge 44, 3) := by decide +kernel
theorem dX0_canBePlayed_20 : decode cX0_canBePlayed 20 = .ok (.aload_n 0, 1) := by decide +kernel
theorem dX0_canBePlayed_21 : decode cX0_canBePlayed 21 = .ok (.aload_n 0, 1) := by decide +kernel
theorem dX0_canBePlayed_22 : decode cX0_canBePlayed 22 = .ok (.iload_n 1, 1) := by decide +kernel
theorem dX0_canBePlayed_23 : decode cX0_canBePlayed 23 = .ok (.invokevirtual 32, 3) := by decide +kernel
theorem dX0_canBePlayed_26 : decode cX0_canBePlayed 26 = .ok (.getfield 56, 3) := by decide +kernel
theorem dX0_canBePlayed_29 : decode cX0_canBePlayed 29 = .ok (.invokevirtual 59, 3) := by decide +kernel
theorem dX0_canBePlayed_32 : decode cX0_canBePlayed 32 = .ok (.ifCond .eq 21, 3) := by decide +kernel
theorem dX0_canBePlayed_35 : decode cX0_canBePlayed 35 = .ok (.aload_n 0, 1) := by decide +kernel
theorem dX0_canBePlayed_36 : decode cX0_canBePlayed 36 = .ok (.aload_n 0, 1) := by decide +kernel
theorem dX0_canBePlayed_37 : decode cX0_canBePlayed 37 = .ok (.iload_n 1, 1) := by decide +kernel
theorem dX0_canBePlayed_38 : decode cX0_canBePlayed 38 = .ok (.invokevirtual 32, 3) := by decide +kernel
theorem dX0_canBePlayed_41 : decode cX0_canBePlayed 41 = .ok (.getfield 40, 3) := by decide +kernel
theorem dX0_canBePlayed_44 : decode cX0_canBePlayed 44 = .ok (.getfield 63, 3) := by decide +kernel
theorem dX0_canBePlayed_47 : decode cX0_canBePlayed 47 = .ok (.invokevirtual 59, 3) := by decide +kernel
theorem dX0_canBePlayed_50 : decode cX0_canBePlayed 50 = .ok (.ifCond .ne 5, 3) := by decide +kernel
theorem dX0_canBePlayed_53 : decode cX0_canBePlayed 53 = .ok (.iconst 0, 1) := by decide +kernel
theorem dX0_canBePlayed_54 : decode cX0_canBePlayed 54 = .ok (.ireturn, 1) := by decide +kernel
theorem dX0_canBePlayed_55 : decode cX0_canBePlayed 55 = .ok (.iinc 1 1, 3) := by decide +kernel
theorem dX0_canBePlayed_58 : decode cX0_canBePlayed 58 = .ok (.goto (-46), 3) := by decide +kernel
theorem dX0_canBePlayed_61 : decode cX0_canBePlayed 61 = .ok (.iconst 1, 1) := by decide +kernel
theorem dX0_canBePlayed_62 : decode cX0_canBePlayed 62 = .ok (.ireturn, 1) := by decide +kernel
theorem dX0_copyFrom_0 : decode cX0_copyFrom 0 = .ok (.aload_n 0, 1) := by decide +kernel
theorem dX0_copyFrom_1 : decode cX0_copyFrom 1 = .ok (.aload_n 1, 1) := by decide +kernel
theorem dX0_copyFrom_2 : decode cX0_copyFrom 2 = .ok (.getfield 22, 3) := by decide +kernel
theorem dX0_copyFrom_5 : decode cX0_copyFrom 5 = .ok (.putfield 22, 3) := by decide +kernel
theorem dX0_copyFrom_8 : decode cX0_copyFrom 8 = .ok (.aload_n 0, 1) := by decide +kernel
theorem dX0_copyFrom_9 : decode cX0_copyFrom 9 = .ok (.aload_n 1, 1) := by decide +kernel
theorem dX0_copyFrom_10 : decode cX0_copyFrom 10 = .ok (.getfield 26, 3) := by decide +kernel
theorem dX0_copyFrom_13 : decode cX0_copyFrom 13 = .ok (.putfield 26, 3) := by decide +kernel
theorem dX0_copyFrom_16 : decode cX0_copyFrom 16 = .ok (.aload_n 0, 1) := by decide +kernel
theorem dX0_copyFrom_17 : decode cX0_copyFrom 17 = .ok (.aload_n 1, 1) := by decide +kernel
theorem dX0_copyFrom_18 : decode cX0_copyFrom 18 = .ok (.getfield 29, 3) := by decide +kernel
theorem dX0_copyFrom_21 : decode cX0_copyFrom 21 = .ok (.putfield 29, 3) := by decide +kernel
theorem dX0_copyFrom_24 : decode cX0_copyFrom 24 = .ok (.iconst 0, 1) := by decide +kernel
theorem dX0_copyFrom_25 : decode cX0_copyFrom 25 = .ok (.istore_n 2, 1) := by decide +kernel
theorem dX0_copyFrom_26 : decode cX0_copyFrom 26 = .ok (.iload_n 2, 1) := by decide +kernel
theorem dX0_copyFrom_27 : decode cX0_copyFrom 27 = .ok (.iconst 5, 1) := by decide +kernel
theorem dX0_copyFrom_28 : decode cX0_copyFrom 28 = .ok (.if_icmp .ge 22, 3) := by decide +kernel
theorem dX0_copyFrom_31 : decode cX0_copyFrom 31 = .ok (.aload_n 0, 1) := by decide +kernel
theorem dX0_copyFrom_32 : decode cX0_copyFrom 32 = .ok (.iload_n 2, 1) := by decide +kernel
theorem dX0_copyFrom_33 : decode cX0_copyFrom 33 = .ok (.invokevirtual 32, 3) := by decide +kernel
theorem dX0_copyFrom_36 : decode cX0_copyFrom 36 = .ok (.aload_n 1, 1) := by decide +kernel
theorem dX0_copyFrom_37 : decode cX0_copyFrom 37 = .ok (.iload_n 2, 1) := by decide +kernel
theorem dX0_copyFrom_38 : decode cX0_copyFrom 38 = .ok (.invokevirtual 32, 3) := by decide +kernel
theorem dX0_copyFrom_41 : decode cX0_copyFrom 41 = .ok (.invokevirtual 66, 3) := by decide +kernel
theorem dX0_copyFrom_44 : decode cX0_copyFrom 44 = .ok (.iinc 2 1, 3) := by decide +kernel
theorem dX0_copyFrom_47 : decode cX0_copyFrom 47 = .ok (.goto (-21), 3) := by decide +kernel
theorem dX0_copyFrom_50 : decode cX0_copyFrom 50 = .ok (.return_, 1) := by decide +kernel
theorem dX1_init_0 : decode cX1_init 0 = .ok (.aload_n 0, 1) := by decide +kernel
theorem dX1_init_1 : decode cX1_init 1 = .ok (.invokespecial 5, 3) := by decide +kernel
theorem dX1_init_4 : decode cX1_init 4 = .ok (.aload_n 0, 1) := by decide +kernel
theorem dX1_init_5 : decode cX1_init 5 = .ok (.iconst 5, 1) := by decide +kernel
theorem dX1_init_6 : decode cX1_init 6 = .ok (.newarray .int, 2) := by decide +kernel
theorem dX1_init_8 : decode cX1_init 8 = .ok (.putfield 11, 3) := by decide +kernel
theorem dX1_init_11 : decode cX1_init 11 = .ok (.aload_n 0, 1) := by decide +kernel
theorem dX1_init_12 : decode cX1_init 12 = .ok (.iconst 5, 1) := by decide +kernel
theorem dX1_init_13 : decode cX1_init 13 = .ok (.newarray .int, 2) := by decide +kernel
theorem dX1_init_15 : decode cX1_init 15 = .ok (.putfield 15, 3) := by decide +kernel
theorem dX1_init_18 : decode cX1_init 18 = .ok (.aload_n 0, 1) := by decide +kernel
theorem dX1_init_19 : decode cX1_init 19 = .ok (.iconst 5, 1) := by decide +kernel
theorem dX1_init_20 : decode cX1_init 20 = .ok (.newarray .int, 2) := by decide +kernel
theorem dX1_init_22 : decode cX1_init 22 = .ok (.putfield 18, 3) := by decide +kernel
theorem dX1_init_25 : decode cX1_init 25 = .ok (.aload_n 0, 1) := by decide +kernel
theorem dX1_init_26 : decode cX1_init 26 = .ok (.sipush 5120, 3) := by decide +kernel
theorem dX1_init_29 : decode cX1_init 29 = .ok (.newarray .long, 2) := by decide +kernel
theorem dX1_init_31 : decode cX1_init 31 = .ok (.putfield 21, 3) := by decide +kernel
theorem dX1_init_34 : decode cX1_init 34 = .ok (.aload_n 0, 1) := by decide +kernel
theorem dX1_init_35 : decode cX1_init 35 = .ok (.iconst 5, 1) := by decide +kernel
theorem dX1_init_36 : decode cX1_init 36 = .ok (.newarray .long, 2) := by decide +kernel
theorem dX1_init_38 : decode cX1_init 38 = .ok (.putfield 25, 3) := by decide +kernel
theorem dX1_init_41 : decode cX1_init 41 = .ok (.aload_n 0, 1) := by decide +kernel
theorem dX1_init_42 : decode cX1_init 42 = .ok (.lconst 0, 1) := by decide +kernel
theorem dX1_init_43 : decode cX1_init 43 = .ok (.putfield 28, 3) := by decide +kernel
theorem dX1_init_46 : decode cX1_init 46 = .ok (.aload_n 0, 1) := by decide +kernel
theorem dX1_init_47 : decode cX1_init 47 = .ok (.iconst 0, 1) := by decide +kernel
theorem dX1_init_48 : decode cX1_init 48 = .ok (.putfield 32, 3) := by decide +kernel
theorem dX1_init_51 : decode cX1_init 51 = .ok (.aload_n 0, 1) := by decide +kernel
theorem dX1_init_52 : decode cX1_init 52 = .ok (.iconst 0, 1) := by decide +kernel
theorem dX1_init_53 : decode cX1_init 53 = .ok (.putfield 36, 3) := by decide +kernel
theorem dX1_init_56 : decode cX1_init 56 = .ok (.return_, 1) := by decide +kernel
theorem dX1_outWeight_0 : decode cX1_outWeight 0 = .ok (.aload_n 0, 1) := by decide +kernel
theorem dX1_outWeight_1 : decode cX1_outWeight 1 = .ok (.getfield 25, 3) := by decide +kernel
theorem dX1_outWeight_4 : decode cX1_outWeight 4 = .ok (.iload_n 1, 1) := by decide +kernel
theorem dX1_outWeight_5 : decode cX1_outWeight 5 = .ok (.invokestatic 39, 3) := by decide +kernel
theorem dX1_outWeight_8 : decode cX1_outWeight 8 = .ok (.lreturn, 1) := by decide +kernel
theorem dX1_prepareThrows_0 : decode cX1_prepareThrows 0 = .ok (.iconst 0, 1) := by decide +kernel
theorem dX1_prepareThrows_1 : decode cX1_prepareThrows 1 = .ok (.istore_n 2, 1) := by decide +kernel
theorem dX1_prepareThrows_2 : decode cX1_prepareThrows 2 = .ok (.iload_n 2, 1) := by decide +kernel
theorem dX1_prepareThrows_3 : decode cX1_prepareThrows 3 = .ok (.aload_n 1, 1) := by decide +kernel
theorem dX1_prepareThrows_4 : decode cX1_prepareThrows 4 = .ok (.getfield 45, 3) := by decide +kernel
theorem dX1_prepareThrows_7 : decode cX1_prepareThrows 7 = .ok (.getfield 51, 3) := by decide +kernel
theorem dX1_prepareThrows_10 : decode cX1_prepareThrows 10 = .ok (.if_icmp .ge 53, 3) := by decide +kernel
theorem dX1_prepareThrows_13 : decode cX1_prepareThrows 13 = .ok (.aload_n 1, 1) := by decide +kernel
theorem dX1_prepareThrows_14 : decode cX1_prepareThrows 14 = .ok (.iload_n 2, 1) := by decide +kernel
theorem dX1_prepareThrows_15 : decode cX1_prepareThrows 15 = .ok (.invokevirtual 56, 3) := by decide +kernel
theorem dX1_prepareThrows_18 : decode cX1_prepareThrows 18 = .ok (.aload_n 1, 1) := by decide +kernel
theorem dX1_prepareThrows_19 : decode cX1_prepareThrows 19 = .ok (.invokevirtual 60, 3) := by decide +kernel
theorem dX1_prepareThrows_22 : decode cX1_prepareThrows 22 = .ok (.istore_n 3, 1) := by decide +kernel
theorem dX1_prepareThrows_23 : decode cX1_prepareThrows 23 = .ok (.aload_n 0, 1) := by decide +kernel
theorem dX1_prepareThrows_24 : decode cX1_prepareThrows 24 = .ok (.getfield 11, 3) := by decide +kernel
theorem dX1_prepareThrows_27 : decode cX1_prepareThrows 27 = .ok (.iload_n 2, 1) := by decide +kernel
theorem dX1_prepareThrows_28 : decode cX1_prepareThrows 28 = .ok (.aload_n 1, 1) := by decide +kernel
theorem dX1_prepareThrows_29 : decode cX1_prepareThrows 29 = .ok (.getfield 64, 3) := by decide +kernel
theorem dX1_prepareThrows_32 : decode cX1_prepareThrows 32 = .ok (.invokestatic 67, 3) := by decide +kernel
theorem dX1_prepareThrows_35 : decode cX1_prepareThrows 35 = .ok (.aload_n 0, 1) := by decide +kernel
theorem dX1_prepareThrows_36 : decode cX1_prepareThrows 36 = .ok (.getfield 15, 3) := by decide +kernel
theorem dX1_prepareThrows_39 : decode cX1_prepareThrows 39 = .ok (.iload_n 2, 1) := by decide +kernel
theorem dX1_prepareThrows_40 : decode cX1_prepareThrows 40 = .ok (.iload_n 3, 1) := by decide +kernel
theorem dX1_prepareThrows_41 : decode cX1_prepareThrows 41 = .ok (.invokestatic 67, 3) := by decide +kernel
theorem dX1_prepareThrows_44 : decode cX1_prepareThrows 44 = .ok (.aload_n 0, 1) := by decide +kernel
theorem dX1_prepareThrows_45 : decode cX1_prepareThrows 45 = .ok (.getfield 18, 3) := by decide +kernel
theorem dX1_prepareThrows_48 : decode cX1_prepareThrows 48 = .ok (.iload_n 2, 1) := by decide +kernel
theorem dX1_prepareThrows_49 : decode cX1_prepareThrows 49 = .ok (.aload_n 1, 1) := by decide +kernel
theorem dX1_prepareThrows_50 : decode cX1_prepareThrows 50 = .ok (.iload_n 3, 1) := by decide +kernel
theorem dX1_prepareThrows_51 : decode cX1_prepareThrows 51 = .ok (.invokevirtual 71, 3) := by decide +kernel
theorem dX1_prepareThrows_54 : decode cX1_prepareThrows 54 = .ok (.invokestatic 67, 3) := by decide +kernel
theorem dX1_prepareThrows_57 : decode cX1_prepareThrows 57 = .ok (.iinc 2 1, 3) := by decide +kernel
theorem dX1_prepareThrows_60 : decode cX1_prepareThrows 60 = .ok (.goto (-58), 3) := by decide +kernel
theorem dX1_prepareThrows_63 : decode cX1_prepareThrows 63 = .ok (.return_, 1) := by decide +kernel
theorem dX1_weigh_0 : decode cX1_weigh 0 = .ok (.aload_n 0, 1) := by decide +kernel
theorem dX1_weigh_1 : decode cX1_weigh 1 = .ok (.getfield 21, 3) := by decide +kernel
theorem dX1_weigh_4 : decode cX1_weigh 4 = .ok (.lconst 0, 1) := by decide +kernel
theorem dX1_weigh_5 : decode cX1_weigh 5 = .ok (.invokestatic 75, 3) := by decide +kernel
theorem dX1_weigh_8 : decode cX1_weigh 8 = .ok (.aload_n 0, 1) := by decide +kernel
theorem dX1_weigh_9 : decode cX1_weigh 9 = .ok (.getfield 25, 3) := by decide +kernel
theorem dX1_weigh_12 : decode cX1_weigh 12 = .ok (.lconst 0, 1) := by decide +kernel
theorem dX1_weigh_13 : decode cX1_weigh 13 = .ok (.invokestatic 75, 3) := by decide +kernel
theorem dX1_weigh_16 : decode cX1_weigh 16 = .ok (.aload_n 0, 1) := by decide +kernel
theorem dX1_weigh_17 : decode cX1_weigh 17 = .ok (.lconst 0, 1) := by decide +kernel
theorem dX1_weigh_18 : decode cX1_weigh 18 = .ok (.putfield 28, 3) := by decide +kernel
theorem dX1_weigh_21 : decode cX1_weigh 21 = .ok (.aload_n 1, 1) := by decide +kernel
theorem dX1_weigh_22 : decode cX1_weigh 22 = .ok (.invokestatic 81, 3) := by decide +kernel
theorem dX1_weigh_25 : decode cX1_weigh 25 = .ok (.istore_n 3, 1) := by decide +kernel
theorem dX1_weigh_26 : decode cX1_weigh 26 = .ok (.aload_n 0, 1) := by decide +kernel
theorem dX1_weigh_27 : decode cX1_weigh 27 = .ok (.getfield 21, 3) := by decide +kernel
theorem dX1_weigh_30 : decode cX1_weigh 30 = .ok (.iload_n 3, 1) := by decide +kernel
theorem dX1_weigh_31 : decode cX1_weigh 31 = .ok (.iconst 5, 1) := by decide +kernel
theorem dX1_weigh_32 : decode cX1_weigh 32 = .ok (.imul, 1) := by decide +kernel
theorem dX1_weigh_33 : decode cX1_weigh 33 = .ok (.iload_n 2, 1) := by decide +kernel
theorem dX1_weigh_34 : decode cX1_weigh 34 = .ok (.iadd, 1) := by decide +kernel
theorem dX1_weigh_35 : decode cX1_weigh 35 = .ok (.ldc2_w 85, 3) := by decide +kernel
theorem dX1_weigh_38 : decode cX1_weigh 38 = .ok (.invokestatic 87, 3) := by decide +kernel
theorem dX1_weigh_41 : decode cX1_weigh 41 = .ok (.iload_n 3, 1) := by decide +kernel
theorem dX1_weigh_42 : decode cX1_weigh 42 = .ok (.istore 4, 2) := by decide +kernel
theorem dX1_weigh_44 : decode cX1_weigh 44 = .ok (.iload 4, 2) := by decide +kernel
theorem dX1_weigh_46 : decode cX1_weigh 46 = .ok (.sipush 1024, 3) := by decide +kernel
theorem dX1_weigh_49 : decode cX1_weigh 49 = .ok (.if_icmp .ge 35, 3) := by decide +kernel
theorem dX1_weigh_52 : decode cX1_weigh 52 = .ok (.iconst 0, 1) := by decide +kernel
theorem dX1_weigh_53 : decode cX1_weigh 53 = .ok (.istore 5, 2) := by decide +kernel
theorem dX1_weigh_55 : decode cX1_weigh 55 = .ok (.iload 5, 2) := by decide +kernel
theorem dX1_weigh_57 : decode cX1_weigh 57 = .ok (.aload_n 1, 1) := by decide +kernel
theorem dX1_weigh_58 : decode cX1_weigh 58 = .ok (.getfield 51, 3) := by decide +kernel
theorem dX1_weigh_61 : decode cX1_weigh 61 = .ok (.if_icmp .ge 17, 3) := by decide +kernel
theorem dX1_weigh_64 : decode cX1_weigh 64 = .ok (.aload_n 0, 1) := by decide +kernel
theorem dX1_weigh_65 : decode cX1_weigh 65 = .ok (.iload 4, 2) := by decide +kernel
theorem dX1_weigh_67 : decode cX1_weigh 67 = .ok (.iload 5, 2) := by decide +kernel
theorem dX1_weigh_69 : decode cX1_weigh 69 = .ok (.invokevirtual 91, 3) := by decide +kernel
theorem dX1_weigh_72 : decode cX1_weigh 72 = .ok (.iinc 5 1, 3) := by decide +kernel
theorem dX1_weigh_75 : decode cX1_weigh 75 = .ok (.goto (-20), 3) := by decide +kernel
theorem dX1_weigh_78 : decode cX1_weigh 78 = .ok (.iinc 4 1, 3) := by decide +kernel
theorem dX1_weigh_81 : decode cX1_weigh 81 = .ok (.goto (-37), 3) := by decide +kernel
theorem dX1_weigh_84 : decode cX1_weigh 84 = .ok (.return_, 1) := by decide +kernel
theorem dX1_shareOut_0 : decode cX1_shareOut 0 = .ok (.aload_n 0, 1) := by decide +kernel
theorem dX1_shareOut_1 : decode cX1_shareOut 1 = .ok (.getfield 21, 3) := by decide +kernel
theorem dX1_shareOut_4 : decode cX1_shareOut 4 = .ok (.iload_n 1, 1) := by decide +kernel
theorem dX1_shareOut_5 : decode cX1_shareOut 5 = .ok (.iconst 5, 1) := by decide +kernel
theorem dX1_shareOut_6 : decode cX1_shareOut 6 = .ok (.imul, 1) := by decide +kernel
theorem dX1_shareOut_7 : decode cX1_shareOut 7 = .ok (.iload_n 2, 1) := by decide +kernel
theorem dX1_shareOut_8 : decode cX1_shareOut 8 = .ok (.iadd, 1) := by decide +kernel
theorem dX1_shareOut_9 : decode cX1_shareOut 9 = .ok (.invokestatic 39, 3) := by decide +kernel
theorem dX1_shareOut_12 : decode cX1_shareOut 12 = .ok (.lstore_n 3, 1) := by decide +kernel
theorem dX1_shareOut_13 : decode cX1_shareOut 13 = .ok (.lload_n 3, 1) := by decide +kernel
theorem dX1_shareOut_14 : decode cX1_shareOut 14 = .ok (.lconst 0, 1) := by decide +kernel
theorem dX1_shareOut_15 : decode cX1_shareOut 15 = .ok (.lcmp, 1) := by decide +kernel
theorem dX1_shareOut_16 : decode cX1_shareOut 16 = .ok (.ifCond .ne 4, 3) := by decide +kernel
theorem dX1_shareOut_19 : decode cX1_shareOut 19 = .ok (.return_, 1) := by decide +kernel
theorem dX1_shareOut_20 : decode cX1_shareOut 20 = .ok (.aload_n 0, 1) := by decide +kernel
theorem dX1_shareOut_21 : decode cX1_shareOut 21 = .ok (.dup, 1) := by decide +kernel
theorem dX1_shareOut_22 : decode cX1_shareOut 22 = .ok (.getfield 28, 3) := by decide +kernel
theorem dX1_shareOut_25 : decode cX1_shareOut 25 = .ok (.lload_n 3, 1) := by decide +kernel
theorem dX1_shareOut_26 : decode cX1_shareOut 26 = .ok (.ladd, 1) := by decide +kernel
theorem dX1_shareOut_27 : decode cX1_shareOut 27 = .ok (.putfield 28, 3) := by decide +kernel
theorem dX1_shareOut_30 : decode cX1_shareOut 30 = .ok (.lload_n 3, 1) := by decide +kernel
theorem dX1_shareOut_31 : decode cX1_shareOut 31 = .ok (.ldc2_w 95, 3) := by decide +kernel
theorem dX1_shareOut_34 : decode cX1_shareOut 34 = .ok (.ldiv, 1) := by decide +kernel
theorem dX1_shareOut_35 : decode cX1_shareOut 35 = .ok (.lstore 5, 2) := by decide +kernel
theorem dX1_shareOut_37 : decode cX1_shareOut 37 = .ok (.aload_n 0, 1) := by decide +kernel
theorem dX1_shareOut_38 : decode cX1_shareOut 38 = .ok (.getfield 18, 3) := by decide +kernel
theorem dX1_shareOut_41 : decode cX1_shareOut 41 = .ok (.iload_n 2, 1) := by decide +kernel
theorem dX1_shareOut_42 : decode cX1_shareOut 42 = .ok (.invokestatic 97, 3) := by decide +kernel
theorem dX1_shareOut_45 : decode cX1_shareOut 45 = .ok (.istore 7, 2) := by decide +kernel
theorem dX1_shareOut_47 : decode cX1_shareOut 47 = .ok (.aload_n 0, 1) := by decide +kernel
theorem dX1_shareOut_48 : decode cX1_shareOut 48 = .ok (.iload_n 1, 1) := by decide +kernel
theorem dX1_shareOut_49 : decode cX1_shareOut 49 = .ok (.aload_n 0, 1) := by decide +kernel
theorem dX1_shareOut_50 : decode cX1_shareOut 50 = .ok (.getfield 15, 3) := by decide +kernel
theorem dX1_shareOut_53 : decode cX1_shareOut 53 = .ok (.iload_n 2, 1) := by decide +kernel
theorem dX1_shareOut_54 : decode cX1_shareOut 54 = .ok (.invokestatic 97, 3) := by decide +kernel
theorem dX1_shareOut_57 : decode cX1_shareOut 57 = .ok (.lload 5, 2) := by decide +kernel
theorem dX1_shareOut_59 : decode cX1_shareOut 59 = .ok (.iload 7, 2) := by decide +kernel
theorem dX1_shareOut_61 : decode cX1_shareOut 61 = .ok (.i2l, 1) := by decide +kernel
theorem dX1_shareOut_62 : decode cX1_shareOut 62 = .ok (.lmul, 1) := by decide +kernel
theorem dX1_shareOut_63 : decode cX1_shareOut 63 = .ok (.invokevirtual 101, 3) := by decide +kernel
theorem dX1_shareOut_66 : decode cX1_shareOut 66 = .ok (.aload_n 0, 1) := by decide +kernel
theorem dX1_shareOut_67 : decode cX1_shareOut 67 = .ok (.iload_n 1, 1) := by decide +kernel
theorem dX1_shareOut_68 : decode cX1_shareOut 68 = .ok (.aload_n 0, 1) := by decide +kernel
theorem dX1_shareOut_69 : decode cX1_shareOut 69 = .ok (.getfield 11, 3) := by decide +kernel
theorem dX1_shareOut_72 : decode cX1_shareOut 72 = .ok (.iload_n 2, 1) := by decide +kernel
theorem dX1_shareOut_73 : decode cX1_shareOut 73 = .ok (.invokestatic 97, 3) := by decide +kernel
theorem dX1_shareOut_76 : decode cX1_shareOut 76 = .ok (.lload 5, 2) := by decide +kernel
theorem dX1_shareOut_78 : decode cX1_shareOut 78 = .ok (.bipush 10, 2) := by decide +kernel
theorem dX1_shareOut_80 : decode cX1_shareOut 80 = .ok (.iload 7, 2) := by decide +kernel
theorem dX1_shareOut_82 : decode cX1_shareOut 82 = .ok (.isub, 1) := by decide +kernel
theorem dX1_shareOut_83 : decode cX1_shareOut 83 = .ok (.i2l, 1) := by decide +kernel
theorem dX1_shareOut_84 : decode cX1_shareOut 84 = .ok (.lmul, 1) := by decide +kernel
theorem dX1_shareOut_85 : decode cX1_shareOut 85 = .ok (.invokevirtual 101, 3) := by decide +kernel
theorem dX1_shareOut_88 : decode cX1_shareOut 88 = .ok (.return_, 1) := by decide +kernel
theorem dX1_giveLetter_0 : decode cX1_giveLetter 0 = .ok (.iload_n 1, 1) := by decide +kernel
theorem dX1_giveLetter_1 : decode cX1_giveLetter 1 = .ok (.iload_n 2, 1) := by decide +kernel
theorem dX1_giveLetter_2 : decode cX1_giveLetter 2 = .ok (.invokestatic 105, 3) := by decide +kernel
theorem dX1_giveLetter_5 : decode cX1_giveLetter 5 = .ok (.iconst 3, 1) := by decide +kernel
theorem dX1_giveLetter_6 : decode cX1_giveLetter 6 = .ok (.if_icmp .lt 15, 3) := by decide +kernel
theorem dX1_giveLetter_9 : decode cX1_giveLetter 9 = .ok (.aload_n 0, 1) := by decide +kernel
theorem dX1_giveLetter_10 : decode cX1_giveLetter 10 = .ok (.getfield 25, 3) := by decide +kernel
theorem dX1_giveLetter_13 : decode cX1_giveLetter 13 = .ok (.iload_n 2, 1) := by decide +kernel
theorem dX1_giveLetter_14 : decode cX1_giveLetter 14 = .ok (.lload_n 3, 1) := by decide +kernel
theorem dX1_giveLetter_15 : decode cX1_giveLetter 15 = .ok (.invokestatic 87, 3) := by decide +kernel
theorem dX1_giveLetter_18 : decode cX1_giveLetter 18 = .ok (.goto 21, 3) := by decide +kernel
theorem dX1_giveLetter_21 : decode cX1_giveLetter 21 = .ok (.aload_n 0, 1) := by decide +kernel
theorem dX1_giveLetter_22 : decode cX1_giveLetter 22 = .ok (.getfield 21, 3) := by decide +kernel
theorem dX1_giveLetter_25 : decode cX1_giveLetter 25 = .ok (.iload_n 1, 1) := by decide +kernel
theorem dX1_giveLetter_26 : decode cX1_giveLetter 26 = .ok (.iload_n 2, 1) := by decide +kernel
theorem dX1_giveLetter_27 : decode cX1_giveLetter 27 = .ok (.invokestatic 108, 3) := by decide +kernel
theorem dX1_giveLetter_30 : decode cX1_giveLetter 30 = .ok (.iadd, 1) := by decide +kernel
theorem dX1_giveLetter_31 : decode cX1_giveLetter 31 = .ok (.iconst 5, 1) := by decide +kernel
theorem dX1_giveLetter_32 : decode cX1_giveLetter 32 = .ok (.imul, 1) := by decide +kernel
theorem dX1_giveLetter_33 : decode cX1_giveLetter 33 = .ok (.iload_n 2, 1) := by decide +kernel
theorem dX1_giveLetter_34 : decode cX1_giveLetter 34 = .ok (.iadd, 1) := by decide +kernel
theorem dX1_giveLetter_35 : decode cX1_giveLetter 35 = .ok (.lload_n 3, 1) := by decide +kernel
theorem dX1_giveLetter_36 : decode cX1_giveLetter 36 = .ok (.invokestatic 87, 3) := by decide +kernel
theorem dX1_giveLetter_39 : decode cX1_giveLetter 39 = .ok (.return_, 1) := by decide +kernel
theorem dX1_playAfternoon_0 : decode cX1_playAfternoon 0 = .ok (.aload_n 1, 1) := by decide +kernel
theorem dX1_playAfternoon_1 : decode cX1_playAfternoon 1 = .ok (.invokestatic 81, 3) := by decide +kernel
theorem dX1_playAfternoon_4 : decode cX1_playAfternoon 4 = .ok (.istore_n 3, 1) := by decide +kernel
theorem dX1_playAfternoon_5 : decode cX1_playAfternoon 5 = .ok (.iconst 0, 1) := by decide +kernel
theorem dX1_playAfternoon_6 : decode cX1_playAfternoon 6 = .ok (.istore 4, 2) := by decide +kernel
theorem dX1_playAfternoon_8 : decode cX1_playAfternoon 8 = .ok (.iconst 0, 1) := by decide +kernel
theorem dX1_playAfternoon_9 : decode cX1_playAfternoon 9 = .ok (.istore 5, 2) := by decide +kernel
theorem dX1_playAfternoon_11 : decode cX1_playAfternoon 11 = .ok (.iload 5, 2) := by decide +kernel
theorem dX1_playAfternoon_13 : decode cX1_playAfternoon 13 = .ok (.bipush 16, 2) := by decide +kernel
theorem dX1_playAfternoon_15 : decode cX1_playAfternoon 15 = .ok (.if_icmp .ge 87, 3) := by decide +kernel
theorem dX1_playAfternoon_18 : decode cX1_playAfternoon 18 = .ok (.iload_n 2, 1) := by decide +kernel
theorem dX1_playAfternoon_19 : decode cX1_playAfternoon 19 = .ok (.iload 5, 2) := by decide +kernel
theorem dX1_playAfternoon_21 : decode cX1_playAfternoon 21 = .ok (.invokestatic 111, 3) := by decide +kernel
theorem dX1_playAfternoon_24 : decode cX1_playAfternoon 24 = .ok (.aload_n 0, 1) := by decide +kernel
theorem dX1_playAfternoon_25 : decode cX1_playAfternoon 25 = .ok (.getfield 18, 3) := by decide +kernel
theorem dX1_playAfternoon_28 : decode cX1_playAfternoon 28 = .ok (.iload 4, 2) := by decide +kernel
theorem dX1_playAfternoon_30 : decode cX1_playAfternoon 30 = .ok (.invokestatic 97, 3) := by decide +kernel
theorem dX1_playAfternoon_33 : decode cX1_playAfternoon 33 = .ok (.if_icmp .ge 15, 3) := by decide +kernel
theorem dX1_playAfternoon_36 : decode cX1_playAfternoon 36 = .ok (.aload_n 0, 1) := by decide +kernel
theorem dX1_playAfternoon_37 : decode cX1_playAfternoon 37 = .ok (.getfield 15, 3) := by decide +kernel
theorem dX1_playAfternoon_40 : decode cX1_playAfternoon 40 = .ok (.iload 4, 2) := by decide +kernel
theorem dX1_playAfternoon_42 : decode cX1_playAfternoon 42 = .ok (.invokestatic 97, 3) := by decide +kernel
theorem dX1_playAfternoon_45 : decode cX1_playAfternoon 45 = .ok (.goto 12, 3) := by decide +kernel
theorem dX1_playAfternoon_48 : decode cX1_playAfternoon 48 = .ok (.aload_n 0, 1) := by decide +kernel
theorem dX1_playAfternoon_49 : decode cX1_playAfternoon 49 = .ok (.getfield 11, 3) := by decide +kernel
theorem dX1_playAfternoon_52 : decode cX1_playAfternoon 52 = .ok (.iload 4, 2) := by decide +kernel
theorem dX1_playAfternoon_54 : decode cX1_playAfternoon 54 = .ok (.invokestatic 97, 3) := by decide +kernel
theorem dX1_playAfternoon_57 : decode cX1_playAfternoon 57 = .ok (.istore 6, 2) := by decide +kernel
theorem dX1_playAfternoon_59 : decode cX1_playAfternoon 59 = .ok (.aload_n 0, 1) := by decide +kernel
theorem dX1_playAfternoon_60 : decode cX1_playAfternoon 60 = .ok (.iload 6, 2) := by decide +kernel
theorem dX1_playAfternoon_62 : decode cX1_playAfternoon 62 = .ok (.putfield 32, 3) := by decide +kernel
theorem dX1_playAfternoon_65 : decode cX1_playAfternoon 65 = .ok (.aload_n 0, 1) := by decide +kernel
theorem dX1_playAfternoon_66 : decode cX1_playAfternoon 66 = .ok (.iload 5, 2) := by decide +kernel
theorem dX1_playAfternoon_68 : decode cX1_playAfternoon 68 = .ok (.iconst 1, 1) := by decide +kernel
theorem dX1_playAfternoon_69 : decode cX1_playAfternoon 69 = .ok (.iadd, 1) := by decide +kernel
theorem dX1_playAfternoon_70 : decode cX1_playAfternoon 70 = .ok (.putfield 36, 3) := by decide +kernel
theorem dX1_playAfternoon_73 : decode cX1_playAfternoon 73 = .ok (.iload_n 3, 1) := by decide +kernel
theorem dX1_playAfternoon_74 : decode cX1_playAfternoon 74 = .ok (.iload 6, 2) := by decide +kernel
theorem dX1_playAfternoon_76 : decode cX1_playAfternoon 76 = .ok (.invokestatic 105, 3) := by decide +kernel
theorem dX1_playAfternoon_79 : decode cX1_playAfternoon 79 = .ok (.iconst 3, 1) := by decide +kernel
theorem dX1_playAfternoon_80 : decode cX1_playAfternoon 80 = .ok (.if_icmp .lt 4, 3) := by decide +kernel
theorem dX1_playAfternoon_83 : decode cX1_playAfternoon 83 = .ok (.return_, 1) := by decide +kernel
theorem dX1_playAfternoon_84 : decode cX1_playAfternoon 84 = .ok (.iload_n 3, 1) := by decide +kernel
theorem dX1_playAfternoon_85 : decode cX1_playAfternoon 85 = .ok (.iload 6, 2) := by decide +kernel
theorem dX1_playAfternoon_87 : decode cX1_playAfternoon 87 = .ok (.invokestatic 108, 3) := by decide +kernel
theorem dX1_playAfternoon_90 : decode cX1_playAfternoon 90 = .ok (.iadd, 1) := by decide +kernel
theorem dX1_playAfternoon_91 : decode cX1_playAfternoon 91 = .ok (.istore_n 3, 1) := by decide +kernel
theorem dX1_playAfternoon_92 : decode cX1_playAfternoon 92 = .ok (.iload 6, 2) := by decide +kernel
theorem dX1_playAfternoon_94 : decode cX1_playAfternoon 94 = .ok (.istore 4, 2) := by decide +kernel
theorem dX1_playAfternoon_96 : decode cX1_playAfternoon 96 = .ok (.iinc 5 1, 3) := by decide +kernel
theorem dX1_playAfternoon_99 : decode cX1_playAfternoon 99 = .ok (.goto (-88), 3) := by decide +kernel
theorem dX1_playAfternoon_102 : decode cX1_playAfternoon 102 = .ok (.return_, 1) := by decide +kernel
theorem dX1_draw_0 : decode cX1_draw 0 = .ok (.ldc2_w 114, 3) := by decide +kernel
theorem dX1_draw_3 : decode cX1_draw 3 = .ok (.iload_n 0, 1) := by decide +kernel
theorem dX1_draw_4 : decode cX1_draw 4 = .ok (.i2l, 1) := by decide +kernel
theorem dX1_draw_5 : decode cX1_draw 5 = .ok (.lmul, 1) := by decide +kernel
theorem dX1_draw_6 : decode cX1_draw 6 = .ok (.ldc2_w 116, 3) := by decide +kernel
theorem dX1_draw_9 : decode cX1_draw 9 = .ok (.iload_n 1, 1) := by decide +kernel
theorem dX1_draw_10 : decode cX1_draw 10 = .ok (.i2l, 1) := by decide +kernel
theorem dX1_draw_11 : decode cX1_draw 11 = .ok (.lmul, 1) := by decide +kernel
theorem dX1_draw_12 : decode cX1_draw 12 = .ok (.ladd, 1) := by decide +kernel
theorem dX1_draw_13 : decode cX1_draw 13 = .ok (.lconst 1, 1) := by decide +kernel
theorem dX1_draw_14 : decode cX1_draw 14 = .ok (.ladd, 1) := by decide +kernel
theorem dX1_draw_15 : decode cX1_draw 15 = .ok (.lstore_n 2, 1) := by decide +kernel
theorem dX1_draw_16 : decode cX1_draw 16 = .ok (.lload_n 2, 1) := by decide +kernel
theorem dX1_draw_17 : decode cX1_draw 17 = .ok (.lload_n 2, 1) := by decide +kernel
theorem dX1_draw_18 : decode cX1_draw 18 = .ok (.lmul, 1) := by decide +kernel
theorem dX1_draw_19 : decode cX1_draw 19 = .ok (.ldc2_w 118, 3) := by decide +kernel
theorem dX1_draw_22 : decode cX1_draw 22 = .ok (.lrem, 1) := by decide +kernel
theorem dX1_draw_23 : decode cX1_draw 23 = .ok (.ldc2_w 95, 3) := by decide +kernel
theorem dX1_draw_26 : decode cX1_draw 26 = .ok (.lrem, 1) := by decide +kernel
theorem dX1_draw_27 : decode cX1_draw 27 = .ok (.l2i, 1) := by decide +kernel
theorem dX1_draw_28 : decode cX1_draw 28 = .ok (.ireturn, 1) := by decide +kernel
theorem dX1_lettersOf_0 : decode cX1_lettersOf 0 = .ok (.iconst 0, 1) := by decide +kernel
theorem dX1_lettersOf_1 : decode cX1_lettersOf 1 = .ok (.istore_n 1, 1) := by decide +kernel
theorem dX1_lettersOf_2 : decode cX1_lettersOf 2 = .ok (.iconst 0, 1) := by decide +kernel
theorem dX1_lettersOf_3 : decode cX1_lettersOf 3 = .ok (.istore_n 2, 1) := by decide +kernel
theorem dX1_lettersOf_4 : decode cX1_lettersOf 4 = .ok (.iload_n 2, 1) := by decide +kernel
theorem dX1_lettersOf_5 : decode cX1_lettersOf 5 = .ok (.aload_n 0, 1) := by decide +kernel
theorem dX1_lettersOf_6 : decode cX1_lettersOf 6 = .ok (.getfield 51, 3) := by decide +kernel
theorem dX1_lettersOf_9 : decode cX1_lettersOf 9 = .ok (.if_icmp .ge 28, 3) := by decide +kernel
theorem dX1_lettersOf_12 : decode cX1_lettersOf 12 = .ok (.iload_n 1, 1) := by decide +kernel
theorem dX1_lettersOf_13 : decode cX1_lettersOf 13 = .ok (.aload_n 0, 1) := by decide +kernel
theorem dX1_lettersOf_14 : decode cX1_lettersOf 14 = .ok (.iload_n 2, 1) := by decide +kernel
theorem dX1_lettersOf_15 : decode cX1_lettersOf 15 = .ok (.invokevirtual 120, 3) := by decide +kernel
theorem dX1_lettersOf_18 : decode cX1_lettersOf 18 = .ok (.getfield 124, 3) := by decide +kernel
theorem dX1_lettersOf_21 : decode cX1_lettersOf 21 = .ok (.getfield 130, 3) := by decide +kernel
theorem dX1_lettersOf_24 : decode cX1_lettersOf 24 = .ok (.iload_n 2, 1) := by decide +kernel
theorem dX1_lettersOf_25 : decode cX1_lettersOf 25 = .ok (.invokestatic 108, 3) := by decide +kernel
theorem dX1_lettersOf_28 : decode cX1_lettersOf 28 = .ok (.imul, 1) := by decide +kernel
theorem dX1_lettersOf_29 : decode cX1_lettersOf 29 = .ok (.iadd, 1) := by decide +kernel
theorem dX1_lettersOf_30 : decode cX1_lettersOf 30 = .ok (.istore_n 1, 1) := by decide +kernel
theorem dX1_lettersOf_31 : decode cX1_lettersOf 31 = .ok (.iinc 2 1, 3) := by decide +kernel
theorem dX1_lettersOf_34 : decode cX1_lettersOf 34 = .ok (.goto (-30), 3) := by decide +kernel
theorem dX1_lettersOf_37 : decode cX1_lettersOf 37 = .ok (.iload_n 1, 1) := by decide +kernel
theorem dX1_lettersOf_38 : decode cX1_lettersOf 38 = .ok (.ireturn, 1) := by decide +kernel
theorem dX1_lettersOf__0 : decode cX1_lettersOf_ 0 = .ok (.iload_n 0, 1) := by decide +kernel
theorem dX1_lettersOf__1 : decode cX1_lettersOf_ 1 = .ok (.iconst 2, 1) := by decide +kernel
theorem dX1_lettersOf__2 : decode cX1_lettersOf_ 2 = .ok (.iload_n 1, 1) := by decide +kernel
theorem dX1_lettersOf__3 : decode cX1_lettersOf_ 3 = .ok (.imul, 1) := by decide +kernel
theorem dX1_lettersOf__4 : decode cX1_lettersOf_ 4 = .ok (.ishr, 1) := by decide +kernel
theorem dX1_lettersOf__5 : decode cX1_lettersOf_ 5 = .ok (.iconst 3, 1) := by decide +kernel
theorem dX1_lettersOf__6 : decode cX1_lettersOf_ 6 = .ok (.iand, 1) := by decide +kernel
theorem dX1_lettersOf__7 : decode cX1_lettersOf_ 7 = .ok (.ireturn, 1) := by decide +kernel
theorem dX1_oneLetterOf_0 : decode cX1_oneLetterOf 0 = .ok (.iconst 1, 1) := by decide +kernel
theorem dX1_oneLetterOf_1 : decode cX1_oneLetterOf 1 = .ok (.iconst 2, 1) := by decide +kernel
theorem dX1_oneLetterOf_2 : decode cX1_oneLetterOf 2 = .ok (.iload_n 0, 1) := by decide +kernel
theorem dX1_oneLetterOf_3 : decode cX1_oneLetterOf 3 = .ok (.imul, 1) := by decide +kernel
theorem dX1_oneLetterOf_4 : decode cX1_oneLetterOf 4 = .ok (.ishl, 1) := by decide +kernel
theorem dX1_oneLetterOf_5 : decode cX1_oneLetterOf 5 = .ok (.ireturn, 1) := by decide +kernel
theorem dX2_init_0 : decode cX2_init 0 = .ok (.aload_n 0, 1) := by decide +kernel
theorem dX2_init_1 : decode cX2_init 1 = .ok (.invokespecial 1, 3) := by decide +kernel
theorem dX2_init_4 : decode cX2_init 4 = .ok (.aload_n 0, 1) := by decide +kernel
theorem dX2_init_5 : decode cX2_init 5 = .ok (.new 7, 3) := by decide +kernel
theorem dX2_init_8 : decode cX2_init 8 = .ok (.dup, 1) := by decide +kernel
theorem dX2_init_9 : decode cX2_init 9 = .ok (.invokespecial 9, 3) := by decide +kernel
theorem dX2_init_12 : decode cX2_init 12 = .ok (.putfield 10, 3) := by decide +kernel
theorem dX2_init_15 : decode cX2_init 15 = .ok (.aload_n 0, 1) := by decide +kernel
theorem dX2_init_16 : decode cX2_init 16 = .ok (.iconst 0, 1) := by decide +kernel
theorem dX2_init_17 : decode cX2_init 17 = .ok (.putfield 16, 3) := by decide +kernel
theorem dX2_init_20 : decode cX2_init 20 = .ok (.aload_n 0, 1) := by decide +kernel
theorem dX2_init_21 : decode cX2_init 21 = .ok (.iconst 1, 1) := by decide +kernel
theorem dX2_init_22 : decode cX2_init 22 = .ok (.putfield 20, 3) := by decide +kernel
theorem dX2_init_25 : decode cX2_init 25 = .ok (.aload_n 0, 1) := by decide +kernel
theorem dX2_init_26 : decode cX2_init 26 = .ok (.iconst 1, 1) := by decide +kernel
theorem dX2_init_27 : decode cX2_init 27 = .ok (.putfield 23, 3) := by decide +kernel
theorem dX2_init_30 : decode cX2_init 30 = .ok (.aload_n 0, 1) := by decide +kernel
theorem dX2_init_31 : decode cX2_init 31 = .ok (.iconst 0, 1) := by decide +kernel
theorem dX2_init_32 : decode cX2_init 32 = .ok (.putfield 26, 3) := by decide +kernel
theorem dX2_init_35 : decode cX2_init 35 = .ok (.aload_n 0, 1) := by decide +kernel
theorem dX2_init_36 : decode cX2_init 36 = .ok (.iconst 0, 1) := by decide +kernel
theorem dX2_init_37 : decode cX2_init 37 = .ok (.putfield 29, 3) := by decide +kernel
theorem dX2_init_40 : decode cX2_init 40 = .ok (.return_, 1) := by decide +kernel
theorem dX2_become_0 : decode cX2_become 0 = .ok (.aload_n 0, 1) := by decide +kernel
theorem dX2_become_1 : decode cX2_become 1 = .ok (.iload_n 1, 1) := by decide +kernel
theorem dX2_become_2 : decode cX2_become 2 = .ok (.putfield 16, 3) := by decide +kernel
theorem dX2_become_5 : decode cX2_become 5 = .ok (.aload_n 0, 1) := by decide +kernel
theorem dX2_become_6 : decode cX2_become 6 = .ok (.iload_n 2, 1) := by decide +kernel
theorem dX2_become_7 : decode cX2_become 7 = .ok (.putfield 20, 3) := by decide +kernel
theorem dX2_become_10 : decode cX2_become 10 = .ok (.aload_n 0, 1) := by decide +kernel
theorem dX2_become_11 : decode cX2_become 11 = .ok (.iload_n 3, 1) := by decide +kernel
theorem dX2_become_12 : decode cX2_become 12 = .ok (.putfield 23, 3) := by decide +kernel
theorem dX2_become_15 : decode cX2_become 15 = .ok (.aload_n 0, 1) := by decide +kernel
theorem dX2_become_16 : decode cX2_become 16 = .ok (.iload 4, 2) := by decide +kernel
theorem dX2_become_18 : decode cX2_become 18 = .ok (.putfield 26, 3) := by decide +kernel
theorem dX2_become_21 : decode cX2_become 21 = .ok (.aload_n 0, 1) := by decide +kernel
theorem dX2_become_22 : decode cX2_become 22 = .ok (.iload 5, 2) := by decide +kernel
theorem dX2_become_24 : decode cX2_become 24 = .ok (.putfield 29, 3) := by decide +kernel
theorem dX2_become_27 : decode cX2_become 27 = .ok (.return_, 1) := by decide +kernel
theorem dX2_copyFrom_0 : decode cX2_copyFrom 0 = .ok (.aload_n 0, 1) := by decide +kernel
theorem dX2_copyFrom_1 : decode cX2_copyFrom 1 = .ok (.aload_n 1, 1) := by decide +kernel
theorem dX2_copyFrom_2 : decode cX2_copyFrom 2 = .ok (.getfield 16, 3) := by decide +kernel
theorem dX2_copyFrom_5 : decode cX2_copyFrom 5 = .ok (.aload_n 1, 1) := by decide +kernel
theorem dX2_copyFrom_6 : decode cX2_copyFrom 6 = .ok (.getfield 20, 3) := by decide +kernel
theorem dX2_copyFrom_9 : decode cX2_copyFrom 9 = .ok (.aload_n 1, 1) := by decide +kernel
theorem dX2_copyFrom_10 : decode cX2_copyFrom 10 = .ok (.getfield 23, 3) := by decide +kernel
theorem dX2_copyFrom_13 : decode cX2_copyFrom 13 = .ok (.aload_n 1, 1) := by decide +kernel
theorem dX2_copyFrom_14 : decode cX2_copyFrom 14 = .ok (.getfield 26, 3) := by decide +kernel
theorem dX2_copyFrom_17 : decode cX2_copyFrom 17 = .ok (.aload_n 1, 1) := by decide +kernel
theorem dX2_copyFrom_18 : decode cX2_copyFrom 18 = .ok (.getfield 29, 3) := by decide +kernel
theorem dX2_copyFrom_21 : decode cX2_copyFrom 21 = .ok (.invokevirtual 32, 3) := by decide +kernel
theorem dX2_copyFrom_24 : decode cX2_copyFrom 24 = .ok (.aload_n 0, 1) := by decide +kernel
theorem dX2_copyFrom_25 : decode cX2_copyFrom 25 = .ok (.getfield 10, 3) := by decide +kernel
theorem dX2_copyFrom_28 : decode cX2_copyFrom 28 = .ok (.aload_n 1, 1) := by decide +kernel
theorem dX2_copyFrom_29 : decode cX2_copyFrom 29 = .ok (.getfield 10, 3) := by decide +kernel
theorem dX2_copyFrom_32 : decode cX2_copyFrom 32 = .ok (.invokevirtual 36, 3) := by decide +kernel
theorem dX2_copyFrom_35 : decode cX2_copyFrom 35 = .ok (.return_, 1) := by decide +kernel
theorem dX3_init_0 : decode cX3_init 0 = .ok (.aload_n 0, 1) := by decide +kernel
theorem dX3_init_1 : decode cX3_init 1 = .ok (.invokespecial 3, 3) := by decide +kernel
theorem dX3_init_4 : decode cX3_init 4 = .ok (.aload_n 0, 1) := by decide +kernel
theorem dX3_init_5 : decode cX3_init 5 = .ok (.iconst 5, 1) := by decide +kernel
theorem dX3_init_6 : decode cX3_init 6 = .ok (.newarray .int, 2) := by decide +kernel
theorem dX3_init_8 : decode cX3_init 8 = .ok (.putfield 11, 3) := by decide +kernel
theorem dX3_init_11 : decode cX3_init 11 = .ok (.aload_n 0, 1) := by decide +kernel
theorem dX3_init_12 : decode cX3_init 12 = .ok (.iconst 0, 1) := by decide +kernel
theorem dX3_init_13 : decode cX3_init 13 = .ok (.putfield 15, 3) := by decide +kernel
theorem dX3_init_16 : decode cX3_init 16 = .ok (.return_, 1) := by decide +kernel
theorem dX3_read_0 : decode cX3_read 0 = .ok (.aload_n 2, 1) := by decide +kernel
theorem dX3_read_1 : decode cX3_read 1 = .ok (.invokevirtual 19, 3) := by decide +kernel
theorem dX3_read_4 : decode cX3_read 4 = .ok (.iconst 0, 1) := by decide +kernel
theorem dX3_read_5 : decode cX3_read 5 = .ok (.istore_n 3, 1) := by decide +kernel
theorem dX3_read_6 : decode cX3_read 6 = .ok (.iload_n 3, 1) := by decide +kernel
theorem dX3_read_7 : decode cX3_read 7 = .ok (.aload_n 1, 1) := by decide +kernel
theorem dX3_read_8 : decode cX3_read 8 = .ok (.getfield 24, 3) := by decide +kernel
theorem dX3_read_11 : decode cX3_read 11 = .ok (.if_icmp .ge 40, 3) := by decide +kernel
theorem dX3_read_14 : decode cX3_read 14 = .ok (.aload_n 0, 1) := by decide +kernel
theorem dX3_read_15 : decode cX3_read 15 = .ok (.aload_n 1, 1) := by decide +kernel
theorem dX3_read_16 : decode cX3_read 16 = .ok (.iload_n 3, 1) := by decide +kernel
theorem dX3_read_17 : decode cX3_read 17 = .ok (.iconst 1, 1) := by decide +kernel
theorem dX3_read_18 : decode cX3_read 18 = .ok (.iadd, 1) := by decide +kernel
theorem dX3_read_19 : decode cX3_read 19 = .ok (.invokevirtual 29, 3) := by decide +kernel
theorem dX3_read_22 : decode cX3_read 22 = .ok (.istore 4, 2) := by decide +kernel
theorem dX3_read_24 : decode cX3_read 24 = .ok (.iload 4, 2) := by decide +kernel
theorem dX3_read_26 : decode cX3_read 26 = .ok (.iload_n 3, 1) := by decide +kernel
theorem dX3_read_27 : decode cX3_read 27 = .ok (.if_icmp .le 16, 3) := by decide +kernel
theorem dX3_read_30 : decode cX3_read 30 = .ok (.aload_n 0, 1) := by decide +kernel
theorem dX3_read_31 : decode cX3_read 31 = .ok (.aload_n 1, 1) := by decide +kernel
theorem dX3_read_32 : decode cX3_read 32 = .ok (.iload_n 3, 1) := by decide +kernel
theorem dX3_read_33 : decode cX3_read 33 = .ok (.invokevirtual 33, 3) := by decide +kernel
theorem dX3_read_36 : decode cX3_read 36 = .ok (.aload_n 2, 1) := by decide +kernel
theorem dX3_read_37 : decode cX3_read 37 = .ok (.invokevirtual 37, 3) := by decide +kernel
theorem dX3_read_40 : decode cX3_read 40 = .ok (.ifCond .ne 5, 3) := by decide +kernel
theorem dX3_read_43 : decode cX3_read 43 = .ok (.iload_n 3, 1) := by decide +kernel
theorem dX3_read_44 : decode cX3_read 44 = .ok (.ireturn, 1) := by decide +kernel
theorem dX3_read_45 : decode cX3_read 45 = .ok (.iload 4, 2) := by decide +kernel
theorem dX3_read_47 : decode cX3_read 47 = .ok (.istore_n 3, 1) := by decide +kernel
theorem dX3_read_48 : decode cX3_read 48 = .ok (.goto (-42), 3) := by decide +kernel
theorem dX3_read_51 : decode cX3_read 51 = .ok (.bipush (-4), 2) := by decide +kernel
theorem dX3_read_53 : decode cX3_read 53 = .ok (.ireturn, 1) := by decide +kernel
theorem dX3_readNumbers_0 : decode cX3_readNumbers 0 = .ok (.iload_n 2, 1) := by decide +kernel
theorem dX3_readNumbers_1 : decode cX3_readNumbers 1 = .ok (.istore_n 3, 1) := by decide +kernel
theorem dX3_readNumbers_2 : decode cX3_readNumbers 2 = .ok (.aload_n 0, 1) := by decide +kernel
theorem dX3_readNumbers_3 : decode cX3_readNumbers 3 = .ok (.iconst 0, 1) := by decide +kernel
theorem dX3_readNumbers_4 : decode cX3_readNumbers 4 = .ok (.putfield 15, 3) := by decide +kernel
theorem dX3_readNumbers_7 : decode cX3_readNumbers 7 = .ok (.iconst 0, 1) := by decide +kernel
theorem dX3_readNumbers_8 : decode cX3_readNumbers 8 = .ok (.istore 4, 2) := by decide +kernel
theorem dX3_readNumbers_10 : decode cX3_readNumbers 10 = .ok (.iload 4, 2) := by decide +kernel
theorem dX3_readNumbers_12 : decode cX3_readNumbers 12 = .ok (.iconst 5, 1) := by decide +kernel
theorem dX3_readNumbers_13 : decode cX3_readNumbers 13 = .ok (.if_icmp .ge 108, 3) := by decide +kernel
theorem dX3_readNumbers_16 : decode cX3_readNumbers 16 = .ok (.aload_n 1, 1) := by decide +kernel
theorem dX3_readNumbers_17 : decode cX3_readNumbers 17 = .ok (.iload_n 3, 1) := by decide +kernel
theorem dX3_readNumbers_18 : decode cX3_readNumbers 18 = .ok (.invokevirtual 41, 3) := by decide +kernel
theorem dX3_readNumbers_21 : decode cX3_readNumbers 21 = .ok (.ifCond .ne 6, 3) := by decide +kernel
theorem dX3_readNumbers_24 : decode cX3_readNumbers 24 = .ok (.bipush (-4), 2) := by decide +kernel
theorem dX3_readNumbers_26 : decode cX3_readNumbers 26 = .ok (.ireturn, 1) := by decide +kernel
theorem dX3_readNumbers_27 : decode cX3_readNumbers 27 = .ok (.aload_n 1, 1) := by decide +kernel
theorem dX3_readNumbers_28 : decode cX3_readNumbers 28 = .ok (.iload_n 3, 1) := by decide +kernel
theorem dX3_readNumbers_29 : decode cX3_readNumbers 29 = .ok (.invokevirtual 33, 3) := by decide +kernel
theorem dX3_readNumbers_32 : decode cX3_readNumbers 32 = .ok (.bipush 48, 2) := by decide +kernel
theorem dX3_readNumbers_34 : decode cX3_readNumbers 34 = .ok (.isub, 1) := by decide +kernel
theorem dX3_readNumbers_35 : decode cX3_readNumbers 35 = .ok (.istore 5, 2) := by decide +kernel
theorem dX3_readNumbers_37 : decode cX3_readNumbers 37 = .ok (.iinc 3 1, 3) := by decide +kernel
theorem dX3_readNumbers_40 : decode cX3_readNumbers 40 = .ok (.aload_n 1, 1) := by decide +kernel
theorem dX3_readNumbers_41 : decode cX3_readNumbers 41 = .ok (.iload_n 3, 1) := by decide +kernel
theorem dX3_readNumbers_42 : decode cX3_readNumbers 42 = .ok (.invokevirtual 41, 3) := by decide +kernel
theorem dX3_readNumbers_45 : decode cX3_readNumbers 45 = .ok (.ifCond .eq 22, 3) := by decide +kernel
theorem dX3_readNumbers_48 : decode cX3_readNumbers 48 = .ok (.bipush 10, 2) := by decide +kernel
theorem dX3_readNumbers_50 : decode cX3_readNumbers 50 = .ok (.iload 5, 2) := by decide +kernel
theorem dX3_readNumbers_52 : decode cX3_readNumbers 52 = .ok (.imul, 1) := by decide +kernel
theorem dX3_readNumbers_53 : decode cX3_readNumbers 53 = .ok (.aload_n 1, 1) := by decide +kernel
theorem dX3_readNumbers_54 : decode cX3_readNumbers 54 = .ok (.iload_n 3, 1) := by decide +kernel
theorem dX3_readNumbers_55 : decode cX3_readNumbers 55 = .ok (.invokevirtual 33, 3) := by decide +kernel
theorem dX3_readNumbers_58 : decode cX3_readNumbers 58 = .ok (.iadd, 1) := by decide +kernel
theorem dX3_readNumbers_59 : decode cX3_readNumbers 59 = .ok (.bipush 48, 2) := by decide +kernel
theorem dX3_readNumbers_61 : decode cX3_readNumbers 61 = .ok (.isub, 1) := by decide +kernel
theorem dX3_readNumbers_62 : decode cX3_readNumbers 62 = .ok (.istore 5, 2) := by decide +kernel
theorem dX3_readNumbers_64 : decode cX3_readNumbers 64 = .ok (.iinc 3 1, 3) := by decide +kernel
theorem dX3_readNumbers_67 : decode cX3_readNumbers 67 = .ok (.aload_n 0, 1) := by decide +kernel
theorem dX3_readNumbers_68 : decode cX3_readNumbers 68 = .ok (.getfield 11, 3) := by decide +kernel
theorem dX3_readNumbers_71 : decode cX3_readNumbers 71 = .ok (.iload 4, 2) := by decide +kernel
theorem dX3_readNumbers_73 : decode cX3_readNumbers 73 = .ok (.iload 5, 2) := by decide +kernel
theorem dX3_readNumbers_75 : decode cX3_readNumbers 75 = .ok (.invokestatic 45, 3) := by decide +kernel
theorem dX3_readNumbers_78 : decode cX3_readNumbers 78 = .ok (.aload_n 0, 1) := by decide +kernel
theorem dX3_readNumbers_79 : decode cX3_readNumbers 79 = .ok (.iload 4, 2) := by decide +kernel
theorem dX3_readNumbers_81 : decode cX3_readNumbers 81 = .ok (.iconst 1, 1) := by decide +kernel
theorem dX3_readNumbers_82 : decode cX3_readNumbers 82 = .ok (.iadd, 1) := by decide +kernel
theorem dX3_readNumbers_83 : decode cX3_readNumbers 83 = .ok (.putfield 15, 3) := by decide +kernel
theorem dX3_readNumbers_86 : decode cX3_readNumbers 86 = .ok (.aload_n 1, 1) := by decide +kernel
theorem dX3_readNumbers_87 : decode cX3_readNumbers 87 = .ok (.iload_n 3, 1) := by decide +kernel
theorem dX3_readNumbers_88 : decode cX3_readNumbers 88 = .ok (.invokevirtual 33, 3) := by decide +kernel
theorem dX3_readNumbers_91 : decode cX3_readNumbers 91 = .ok (.istore 6, 2) := by decide +kernel
theorem dX3_readNumbers_93 : decode cX3_readNumbers 93 = .ok (.iinc 3 1, 3) := by decide +kernel
theorem dX3_readNumbers_96 : decode cX3_readNumbers 96 = .ok (.iload 6, 2) := by decide +kernel
theorem dX3_readNumbers_98 : decode cX3_readNumbers 98 = .ok (.bipush 59, 2) := by decide +kernel
theorem dX3_readNumbers_100 : decode cX3_readNumbers 100 = .ok (.if_icmp .ne 5, 3) := by decide +kernel
theorem dX3_readNumbers_103 : decode cX3_readNumbers 103 = .ok (.iload_n 3, 1) := by decide +kernel
theorem dX3_readNumbers_104 : decode cX3_readNumbers 104 = .ok (.ireturn, 1) := by decide +kernel
theorem dX3_readNumbers_105 : decode cX3_readNumbers 105 = .ok (.iload 6, 2) := by decide +kernel
theorem dX3_readNumbers_107 : decode cX3_readNumbers 107 = .ok (.bipush 44, 2) := by decide +kernel
theorem dX3_readNumbers_109 : decode cX3_readNumbers 109 = .ok (.if_icmp .eq 6, 3) := by decide +kernel
theorem dX3_readNumbers_112 : decode cX3_readNumbers 112 = .ok (.bipush (-4), 2) := by decide +kernel
theorem dX3_readNumbers_114 : decode cX3_readNumbers 114 = .ok (.ireturn, 1) := by decide +kernel
theorem dX3_readNumbers_115 : decode cX3_readNumbers 115 = .ok (.iinc 4 1, 3) := by decide +kernel
theorem dX3_readNumbers_118 : decode cX3_readNumbers 118 = .ok (.goto (-108), 3) := by decide +kernel
theorem dX3_readNumbers_121 : decode cX3_readNumbers 121 = .ok (.bipush (-4), 2) := by decide +kernel
theorem dX3_readNumbers_123 : decode cX3_readNumbers 123 = .ok (.ireturn, 1) := by decide +kernel
theorem dX3_takeItem_0 : decode cX3_takeItem 0 = .ok (.iload_n 1, 1) := by decide +kernel
theorem dX3_takeItem_1 : decode cX3_takeItem 1 = .ok (.lookupswitch 81 #[(97, 63), (100, 75), (108, 69), (110, 51), (112, 57)], 51) := by decide +kernel
theorem dX3_takeItem_52 : decode cX3_takeItem 52 = .ok (.aload_n 0, 1) := by decide +kernel
theorem dX3_takeItem_53 : decode cX3_takeItem 53 = .ok (.aload_n 2, 1) := by decide +kernel
theorem dX3_takeItem_54 : decode cX3_takeItem 54 = .ok (.invokevirtual 51, 3) := by decide +kernel
theorem dX3_takeItem_57 : decode cX3_takeItem 57 = .ok (.ireturn, 1) := by decide +kernel
theorem dX3_takeItem_58 : decode cX3_takeItem 58 = .ok (.aload_n 0, 1) := by decide +kernel
theorem dX3_takeItem_59 : decode cX3_takeItem 59 = .ok (.aload_n 2, 1) := by decide +kernel
theorem dX3_takeItem_60 : decode cX3_takeItem 60 = .ok (.invokevirtual 55, 3) := by decide +kernel
theorem dX3_takeItem_63 : decode cX3_takeItem 63 = .ok (.ireturn, 1) := by decide +kernel
theorem dX3_takeItem_64 : decode cX3_takeItem 64 = .ok (.aload_n 0, 1) := by decide +kernel
theorem dX3_takeItem_65 : decode cX3_takeItem 65 = .ok (.aload_n 2, 1) := by decide +kernel
theorem dX3_takeItem_66 : decode cX3_takeItem 66 = .ok (.invokevirtual 58, 3) := by decide +kernel
theorem dX3_takeItem_69 : decode cX3_takeItem 69 = .ok (.ireturn, 1) := by decide +kernel
theorem dX3_takeItem_70 : decode cX3_takeItem 70 = .ok (.aload_n 0, 1) := by decide +kernel
theorem dX3_takeItem_71 : decode cX3_takeItem 71 = .ok (.aload_n 2, 1) := by decide +kernel
theorem dX3_takeItem_72 : decode cX3_takeItem 72 = .ok (.invokevirtual 61, 3) := by decide +kernel
theorem dX3_takeItem_75 : decode cX3_takeItem 75 = .ok (.ireturn, 1) := by decide +kernel
theorem dX3_takeItem_76 : decode cX3_takeItem 76 = .ok (.aload_n 0, 1) := by decide +kernel
theorem dX3_takeItem_77 : decode cX3_takeItem 77 = .ok (.aload_n 2, 1) := by decide +kernel
theorem dX3_takeItem_78 : decode cX3_takeItem 78 = .ok (.invokevirtual 64, 3) := by decide +kernel
theorem dX3_takeItem_81 : decode cX3_takeItem 81 = .ok (.ireturn, 1) := by decide +kernel
theorem dX3_takeItem_82 : decode cX3_takeItem 82 = .ok (.iconst 0, 1) := by decide +kernel
theorem dX3_takeItem_83 : decode cX3_takeItem 83 = .ok (.ireturn, 1) := by decide +kernel
theorem dX3_takeGround_0 : decode cX3_takeGround 0 = .ok (.aload_n 0, 1) := by decide +kernel
theorem dX3_takeGround_1 : decode cX3_takeGround 1 = .ok (.getfield 15, 3) := by decide +kernel
theorem dX3_takeGround_4 : decode cX3_takeGround 4 = .ok (.iconst 1, 1) := by decide +kernel
theorem dX3_takeGround_5 : decode cX3_takeGround 5 = .ok (.if_icmp .ne 17, 3) := by decide +kernel
theorem dX3_takeGround_8 : decode cX3_takeGround 8 = .ok (.aload_n 0, 1) := by decide +kernel
theorem dX3_takeGround_9 : decode cX3_takeGround 9 = .ok (.iconst 0, 1) := by decide +kernel
theorem dX3_takeGround_10 : decode cX3_takeGround 10 = .ok (.invokevirtual 67, 3) := by decide +kernel
theorem dX3_takeGround_13 : decode cX3_takeGround 13 = .ok (.iconst 5, 1) := by decide +kernel
theorem dX3_takeGround_14 : decode cX3_takeGround 14 = .ok (.bipush 40, 2) := by decide +kernel
theorem dX3_takeGround_16 : decode cX3_takeGround 16 = .ok (.invokestatic 70, 3) := by decide +kernel
theorem dX3_takeGround_19 : decode cX3_takeGround 19 = .ok (.ifCond .ne 5, 3) := by decide +kernel
theorem dX3_takeGround_22 : decode cX3_takeGround 22 = .ok (.iconst 0, 1) := by decide +kernel
theorem dX3_takeGround_23 : decode cX3_takeGround 23 = .ok (.ireturn, 1) := by decide +kernel
theorem dX3_takeGround_24 : decode cX3_takeGround 24 = .ok (.aload_n 1, 1) := by decide +kernel
theorem dX3_takeGround_25 : decode cX3_takeGround 25 = .ok (.aload_n 0, 1) := by decide +kernel
theorem dX3_takeGround_26 : decode cX3_takeGround 26 = .ok (.iconst 0, 1) := by decide +kernel
theorem dX3_takeGround_27 : decode cX3_takeGround 27 = .ok (.invokevirtual 67, 3) := by decide +kernel
theorem dX3_takeGround_30 : decode cX3_takeGround 30 = .ok (.putfield 74, 3) := by decide +kernel
theorem dX3_takeGround_33 : decode cX3_takeGround 33 = .ok (.iconst 1, 1) := by decide +kernel
theorem dX3_takeGround_34 : decode cX3_takeGround 34 = .ok (.ireturn, 1) := by decide +kernel
theorem dX3_takePlayer_0 : decode cX3_takePlayer 0 = .ok (.aload_n 0, 1) := by decide +kernel
theorem dX3_takePlayer_1 : decode cX3_takePlayer 1 = .ok (.getfield 15, 3) := by decide +kernel
theorem dX3_takePlayer_4 : decode cX3_takePlayer 4 = .ok (.iconst 5, 1) := by decide +kernel
theorem dX3_takePlayer_5 : decode cX3_takePlayer 5 = .ok (.if_icmp .ne 79, 3) := by decide +kernel
theorem dX3_takePlayer_8 : decode cX3_takePlayer 8 = .ok (.aload_n 1, 1) := by decide +kernel
theorem dX3_takePlayer_9 : decode cX3_takePlayer 9 = .ok (.getfield 77, 3) := by decide +kernel
theorem dX3_takePlayer_12 : decode cX3_takePlayer 12 = .ok (.iconst 5, 1) := by decide +kernel
theorem dX3_takePlayer_13 : decode cX3_takePlayer 13 = .ok (.if_icmp .ge 71, 3) := by decide +kernel
theorem dX3_takePlayer_16 : decode cX3_takePlayer 16 = .ok (.aload_n 0, 1) := by decide +kernel
theorem dX3_takePlayer_17 : decode cX3_takePlayer 17 = .ok (.iconst 0, 1) := by decide +kernel
theorem dX3_takePlayer_18 : decode cX3_takePlayer 18 = .ok (.invokevirtual 67, 3) := by decide +kernel
theorem dX3_takePlayer_21 : decode cX3_takePlayer 21 = .ok (.iconst 0, 1) := by decide +kernel
theorem dX3_takePlayer_22 : decode cX3_takePlayer 22 = .ok (.bipush 40, 2) := by decide +kernel
theorem dX3_takePlayer_24 : decode cX3_takePlayer 24 = .ok (.invokestatic 70, 3) := by decide +kernel
theorem dX3_takePlayer_27 : decode cX3_takePlayer 27 = .ok (.ifCond .eq 57, 3) := by decide +kernel
theorem dX3_takePlayer_30 : decode cX3_takePlayer 30 = .ok (.aload_n 0, 1) := by decide +kernel
theorem dX3_takePlayer_31 : decode cX3_takePlayer 31 = .ok (.iconst 1, 1) := by decide +kernel
theorem dX3_takePlayer_32 : decode cX3_takePlayer 32 = .ok (.invokevirtual 67, 3) := by decide +kernel
theorem dX3_takePlayer_35 : decode cX3_takePlayer 35 = .ok (.iconst 1, 1) := by decide +kernel
theorem dX3_takePlayer_36 : decode cX3_takePlayer 36 = .ok (.iconst 5, 1) := by decide +kernel
theorem dX3_takePlayer_37 : decode cX3_takePlayer 37 = .ok (.invokestatic 70, 3) := by decide +kernel
theorem dX3_takePlayer_40 : decode cX3_takePlayer 40 = .ok (.ifCond .eq 44, 3) := by decide +kernel
theorem dX3_takePlayer_43 : decode cX3_takePlayer 43 = .ok (.aload_n 0, 1) := by decide +kernel
theorem dX3_takePlayer_44 : decode cX3_takePlayer 44 = .ok (.iconst 2, 1) := by decide +kernel
theorem dX3_takePlayer_45 : decode cX3_takePlayer 45 = .ok (.invokevirtual 67, 3) := by decide +kernel
theorem dX3_takePlayer_48 : decode cX3_takePlayer 48 = .ok (.iconst 1, 1) := by decide +kernel
theorem dX3_takePlayer_49 : decode cX3_takePlayer 49 = .ok (.bipush 9, 2) := by decide +kernel
theorem dX3_takePlayer_51 : decode cX3_takePlayer 51 = .ok (.invokestatic 70, 3) := by decide +kernel
theorem dX3_takePlayer_54 : decode cX3_takePlayer 54 = .ok (.ifCond .eq 30, 3) := by decide +kernel
theorem dX3_takePlayer_57 : decode cX3_takePlayer 57 = .ok (.aload_n 0, 1) := by decide +kernel
theorem dX3_takePlayer_58 : decode cX3_takePlayer 58 = .ok (.iconst 3, 1) := by decide +kernel
theorem dX3_takePlayer_59 : decode cX3_takePlayer 59 = .ok (.invokevirtual 67, 3) := by decide +kernel
theorem dX3_takePlayer_62 : decode cX3_takePlayer 62 = .ok (.iconst 0, 1) := by decide +kernel
theorem dX3_takePlayer_63 : decode cX3_takePlayer 63 = .ok (.bipush 9, 2) := by decide +kernel
theorem dX3_takePlayer_65 : decode cX3_takePlayer 65 = .ok (.invokestatic 70, 3) := by decide +kernel
theorem dX3_takePlayer_68 : decode cX3_takePlayer 68 = .ok (.ifCond .eq 16, 3) := by decide +kernel
theorem dX3_takePlayer_71 : decode cX3_takePlayer 71 = .ok (.aload_n 0, 1) := by decide +kernel
theorem dX3_takePlayer_72 : decode cX3_takePlayer 72 = .ok (.iconst 4, 1) := by decide +kernel
theorem dX3_takePlayer_73 : decode cX3_takePlayer 73 = .ok (.invokevirtual 67, 3) := by decide +kernel
theorem dX3_takePlayer_76 : decode cX3_takePlayer 76 = .ok (.iconst 0, 1) := by decide +kernel
theorem dX3_takePlayer_77 : decode cX3_takePlayer 77 = .ok (.iconst 3, 1) := by decide +kernel
theorem dX3_takePlayer_78 : decode cX3_takePlayer 78 = .ok (.invokestatic 70, 3) := by decide +kernel
theorem dX3_takePlayer_81 : decode cX3_takePlayer 81 = .ok (.ifCond .ne 5, 3) := by decide +kernel
theorem dX3_takePlayer_84 : decode cX3_takePlayer 84 = .ok (.iconst 0, 1) := by decide +kernel
theorem dX3_takePlayer_85 : decode cX3_takePlayer 85 = .ok (.ireturn, 1) := by decide +kernel
theorem dX3_takePlayer_86 : decode cX3_takePlayer 86 = .ok (.aload_n 1, 1) := by decide +kernel
theorem dX3_takePlayer_87 : decode cX3_takePlayer 87 = .ok (.aload_n 0, 1) := by decide +kernel
theorem dX3_takePlayer_88 : decode cX3_takePlayer 88 = .ok (.iconst 0, 1) := by decide +kernel
theorem dX3_takePlayer_89 : decode cX3_takePlayer 89 = .ok (.invokevirtual 67, 3) := by decide +kernel
theorem dX3_takePlayer_92 : decode cX3_takePlayer 92 = .ok (.aload_n 0, 1) := by decide +kernel
theorem dX3_takePlayer_93 : decode cX3_takePlayer 93 = .ok (.iconst 1, 1) := by decide +kernel
theorem dX3_takePlayer_94 : decode cX3_takePlayer 94 = .ok (.invokevirtual 67, 3) := by decide +kernel
theorem dX3_takePlayer_97 : decode cX3_takePlayer 97 = .ok (.aload_n 0, 1) := by decide +kernel
theorem dX3_takePlayer_98 : decode cX3_takePlayer 98 = .ok (.iconst 2, 1) := by decide +kernel
theorem dX3_takePlayer_99 : decode cX3_takePlayer 99 = .ok (.invokevirtual 67, 3) := by decide +kernel
theorem dX3_takePlayer_102 : decode cX3_takePlayer 102 = .ok (.aload_n 0, 1) := by decide +kernel
theorem dX3_takePlayer_103 : decode cX3_takePlayer 103 = .ok (.iconst 3, 1) := by decide +kernel
theorem dX3_takePlayer_104 : decode cX3_takePlayer 104 = .ok (.invokevirtual 67, 3) := by decide +kernel
theorem dX3_takePlayer_107 : decode cX3_takePlayer 107 = .ok (.aload_n 0, 1) := by decide +kernel
theorem dX3_takePlayer_108 : decode cX3_takePlayer 108 = .ok (.iconst 4, 1) := by decide +kernel
theorem dX3_takePlayer_109 : decode cX3_takePlayer 109 = .ok (.invokevirtual 67, 3) := by decide +kernel
theorem dX3_takePlayer_112 : decode cX3_takePlayer 112 = .ok (.invokevirtual 78, 3) := by decide +kernel
theorem dX3_takePlayer_115 : decode cX3_takePlayer 115 = .ok (.iconst 1, 1) := by decide +kernel
theorem dX3_takePlayer_116 : decode cX3_takePlayer 116 = .ok (.ireturn, 1) := by decide +kernel
theorem dX3_takeCall_0 : decode cX3_takeCall 0 = .ok (.aload_n 0, 1) := by decide +kernel
theorem dX3_takeCall_1 : decode cX3_takeCall 1 = .ok (.getfield 15, 3) := by decide +kernel
theorem dX3_takeCall_4 : decode cX3_takeCall 4 = .ok (.iconst 4, 1) := by decide +kernel
theorem dX3_takeCall_5 : decode cX3_takeCall 5 = .ok (.if_icmp .ne 68, 3) := by decide +kernel
theorem dX3_takeCall_8 : decode cX3_takeCall 8 = .ok (.aload_n 1, 1) := by decide +kernel
theorem dX3_takeCall_9 : decode cX3_takeCall 9 = .ok (.aload_n 0, 1) := by decide +kernel
theorem dX3_takeCall_10 : decode cX3_takeCall 10 = .ok (.iconst 0, 1) := by decide +kernel
theorem dX3_takeCall_11 : decode cX3_takeCall 11 = .ok (.invokevirtual 67, 3) := by decide +kernel
theorem dX3_takeCall_14 : decode cX3_takeCall 14 = .ok (.invokevirtual 82, 3) := by decide +kernel
theorem dX3_takeCall_17 : decode cX3_takeCall 17 = .ok (.ifCond .eq 56, 3) := by decide +kernel
theorem dX3_takeCall_20 : decode cX3_takeCall 20 = .ok (.aload_n 1, 1) := by decide +kernel
theorem dX3_takeCall_21 : decode cX3_takeCall 21 = .ok (.aload_n 0, 1) := by decide +kernel
theorem dX3_takeCall_22 : decode cX3_takeCall 22 = .ok (.iconst 1, 1) := by decide +kernel
theorem dX3_takeCall_23 : decode cX3_takeCall 23 = .ok (.invokevirtual 67, 3) := by decide +kernel
theorem dX3_takeCall_26 : decode cX3_takeCall 26 = .ok (.invokevirtual 82, 3) := by decide +kernel
theorem dX3_takeCall_29 : decode cX3_takeCall 29 = .ok (.ifCond .eq 44, 3) := by decide +kernel
theorem dX3_takeCall_32 : decode cX3_takeCall 32 = .ok (.aload_n 0, 1) := by decide +kernel
theorem dX3_takeCall_33 : decode cX3_takeCall 33 = .ok (.iconst 0, 1) := by decide +kernel
theorem dX3_takeCall_34 : decode cX3_takeCall 34 = .ok (.invokevirtual 67, 3) := by decide +kernel
theorem dX3_takeCall_37 : decode cX3_takeCall 37 = .ok (.aload_n 0, 1) := by decide +kernel
theorem dX3_takeCall_38 : decode cX3_takeCall 38 = .ok (.iconst 1, 1) := by decide +kernel
theorem dX3_takeCall_39 : decode cX3_takeCall 39 = .ok (.invokevirtual 67, 3) := by decide +kernel
theorem dX3_takeCall_42 : decode cX3_takeCall 42 = .ok (.if_icmp .eq 31, 3) := by decide +kernel
theorem dX3_takeCall_45 : decode cX3_takeCall 45 = .ok (.aload_n 0, 1) := by decide +kernel
theorem dX3_takeCall_46 : decode cX3_takeCall 46 = .ok (.iconst 2, 1) := by decide +kernel
theorem dX3_takeCall_47 : decode cX3_takeCall 47 = .ok (.invokevirtual 67, 3) := by decide +kernel
theorem dX3_takeCall_50 : decode cX3_takeCall 50 = .ok (.iconst 0, 1) := by decide +kernel
theorem dX3_takeCall_51 : decode cX3_takeCall 51 = .ok (.bipush 40, 2) := by decide +kernel
theorem dX3_takeCall_53 : decode cX3_takeCall 53 = .ok (.invokestatic 70, 3) := by decide +kernel
theorem dX3_takeCall_56 : decode cX3_takeCall 56 = .ok (.ifCond .eq 17, 3) := by decide +kernel
theorem dX3_takeCall_59 : decode cX3_takeCall 59 = .ok (.aload_n 0, 1) := by decide +kernel
theorem dX3_takeCall_60 : decode cX3_takeCall 60 = .ok (.iconst 3, 1) := by decide +kernel
theorem dX3_takeCall_61 : decode cX3_takeCall 61 = .ok (.invokevirtual 67, 3) := by decide +kernel
theorem dX3_takeCall_64 : decode cX3_takeCall 64 = .ok (.iconst 1, 1) := by decide +kernel
theorem dX3_takeCall_65 : decode cX3_takeCall 65 = .ok (.bipush 9, 2) := by decide +kernel
theorem dX3_takeCall_67 : decode cX3_takeCall 67 = .ok (.invokestatic 70, 3) := by decide +kernel
theorem dX3_takeCall_70 : decode cX3_takeCall 70 = .ok (.ifCond .ne 5, 3) := by decide +kernel
theorem dX3_takeCall_73 : decode cX3_takeCall 73 = .ok (.iconst 0, 1) := by decide +kernel
theorem dX3_takeCall_74 : decode cX3_takeCall 74 = .ok (.ireturn, 1) := by decide +kernel
theorem dX3_takeCall_75 : decode cX3_takeCall 75 = .ok (.aload_n 1, 1) := by decide +kernel
theorem dX3_takeCall_76 : decode cX3_takeCall 76 = .ok (.aload_n 0, 1) := by decide +kernel
theorem dX3_takeCall_77 : decode cX3_takeCall 77 = .ok (.iconst 0, 1) := by decide +kernel
theorem dX3_takeCall_78 : decode cX3_takeCall 78 = .ok (.invokevirtual 67, 3) := by decide +kernel
theorem dX3_takeCall_81 : decode cX3_takeCall 81 = .ok (.invokevirtual 85, 3) := by decide +kernel
theorem dX3_takeCall_84 : decode cX3_takeCall 84 = .ok (.getfield 89, 3) := by decide +kernel
theorem dX3_takeCall_87 : decode cX3_takeCall 87 = .ok (.aload_n 0, 1) := by decide +kernel
theorem dX3_takeCall_88 : decode cX3_takeCall 88 = .ok (.iconst 1, 1) := by decide +kernel
theorem dX3_takeCall_89 : decode cX3_takeCall 89 = .ok (.invokevirtual 67, 3) := by decide +kernel
theorem dX3_takeCall_92 : decode cX3_takeCall 92 = .ok (.aload_n 0, 1) := by decide +kernel
theorem dX3_takeCall_93 : decode cX3_takeCall 93 = .ok (.iconst 2, 1) := by decide +kernel
theorem dX3_takeCall_94 : decode cX3_takeCall 94 = .ok (.invokevirtual 67, 3) := by decide +kernel
theorem dX3_takeCall_97 : decode cX3_takeCall 97 = .ok (.aload_n 0, 1) := by decide +kernel
theorem dX3_takeCall_98 : decode cX3_takeCall 98 = .ok (.iconst 3, 1) := by decide +kernel
theorem dX3_takeCall_99 : decode cX3_takeCall 99 = .ok (.invokevirtual 67, 3) := by decide +kernel
theorem dX3_takeCall_102 : decode cX3_takeCall 102 = .ok (.invokevirtual 95, 3) := by decide +kernel
theorem dX3_takeCall_105 : decode cX3_takeCall 105 = .ok (.iconst 1, 1) := by decide +kernel
theorem dX3_takeCall_106 : decode cX3_takeCall 106 = .ok (.ireturn, 1) := by decide +kernel
theorem dX3_takeLetters_0 : decode cX3_takeLetters 0 = .ok (.aload_n 0, 1) := by decide +kernel
theorem dX3_takeLetters_1 : decode cX3_takeLetters 1 = .ok (.getfield 15, 3) := by decide +kernel
theorem dX3_takeLetters_4 : decode cX3_takeLetters 4 = .ok (.iconst 2, 1) := by decide +kernel
theorem dX3_takeLetters_5 : decode cX3_takeLetters 5 = .ok (.if_icmp .ne 28, 3) := by decide +kernel
theorem dX3_takeLetters_8 : decode cX3_takeLetters 8 = .ok (.aload_n 1, 1) := by decide +kernel
theorem dX3_takeLetters_9 : decode cX3_takeLetters 9 = .ok (.aload_n 0, 1) := by decide +kernel
theorem dX3_takeLetters_10 : decode cX3_takeLetters 10 = .ok (.iconst 0, 1) := by decide +kernel
theorem dX3_takeLetters_11 : decode cX3_takeLetters 11 = .ok (.invokevirtual 67, 3) := by decide +kernel
theorem dX3_takeLetters_14 : decode cX3_takeLetters 14 = .ok (.invokevirtual 82, 3) := by decide +kernel
theorem dX3_takeLetters_17 : decode cX3_takeLetters 17 = .ok (.ifCond .eq 16, 3) := by decide +kernel
theorem dX3_takeLetters_20 : decode cX3_takeLetters 20 = .ok (.aload_n 0, 1) := by decide +kernel
theorem dX3_takeLetters_21 : decode cX3_takeLetters 21 = .ok (.iconst 1, 1) := by decide +kernel
theorem dX3_takeLetters_22 : decode cX3_takeLetters 22 = .ok (.invokevirtual 67, 3) := by decide +kernel
theorem dX3_takeLetters_25 : decode cX3_takeLetters 25 = .ok (.iconst 0, 1) := by decide +kernel
theorem dX3_takeLetters_26 : decode cX3_takeLetters 26 = .ok (.iconst 3, 1) := by decide +kernel
theorem dX3_takeLetters_27 : decode cX3_takeLetters 27 = .ok (.invokestatic 70, 3) := by decide +kernel
theorem dX3_takeLetters_30 : decode cX3_takeLetters 30 = .ok (.ifCond .ne 5, 3) := by decide +kernel
theorem dX3_takeLetters_33 : decode cX3_takeLetters 33 = .ok (.iconst 0, 1) := by decide +kernel
theorem dX3_takeLetters_34 : decode cX3_takeLetters 34 = .ok (.ireturn, 1) := by decide +kernel
theorem dX3_takeLetters_35 : decode cX3_takeLetters 35 = .ok (.aload_n 1, 1) := by decide +kernel
theorem dX3_takeLetters_36 : decode cX3_takeLetters 36 = .ok (.aload_n 0, 1) := by decide +kernel
theorem dX3_takeLetters_37 : decode cX3_takeLetters 37 = .ok (.iconst 0, 1) := by decide +kernel
theorem dX3_takeLetters_38 : decode cX3_takeLetters 38 = .ok (.invokevirtual 67, 3) := by decide +kernel
theorem dX3_takeLetters_41 : decode cX3_takeLetters 41 = .ok (.invokevirtual 85, 3) := by decide +kernel
theorem dX3_takeLetters_44 : decode cX3_takeLetters 44 = .ok (.getfield 89, 3) := by decide +kernel
theorem dX3_takeLetters_47 : decode cX3_takeLetters 47 = .ok (.aload_n 0, 1) := by decide +kernel
theorem dX3_takeLetters_48 : decode cX3_takeLetters 48 = .ok (.iconst 1, 1) := by decide +kernel
theorem dX3_takeLetters_49 : decode cX3_takeLetters 49 = .ok (.invokevirtual 67, 3) := by decide +kernel
theorem dX3_takeLetters_52 : decode cX3_takeLetters 52 = .ok (.putfield 101, 3) := by decide +kernel
theorem dX3_takeLetters_55 : decode cX3_takeLetters 55 = .ok (.iconst 1, 1) := by decide +kernel
theorem dX3_takeLetters_56 : decode cX3_takeLetters 56 = .ok (.ireturn, 1) := by decide +kernel
theorem dX3_takeSlide_0 : decode cX3_takeSlide 0 = .ok (.aload_n 0, 1) := by decide +kernel
theorem dX3_takeSlide_1 : decode cX3_takeSlide 1 = .ok (.getfield 15, 3) := by decide +kernel
theorem dX3_takeSlide_4 : decode cX3_takeSlide 4 = .ok (.iconst 1, 1) := by decide +kernel
theorem dX3_takeSlide_5 : decode cX3_takeSlide 5 = .ok (.if_icmp .ne 16, 3) := by decide +kernel
theorem dX3_takeSlide_8 : decode cX3_takeSlide 8 = .ok (.aload_n 0, 1) := by decide +kernel
theorem dX3_takeSlide_9 : decode cX3_takeSlide 9 = .ok (.iconst 0, 1) := by decide +kernel
theorem dX3_takeSlide_10 : decode cX3_takeSlide 10 = .ok (.invokevirtual 67, 3) := by decide +kernel
theorem dX3_takeSlide_13 : decode cX3_takeSlide 13 = .ok (.iconst 0, 1) := by decide +kernel
theorem dX3_takeSlide_14 : decode cX3_takeSlide 14 = .ok (.iconst 3, 1) := by decide +kernel
theorem dX3_takeSlide_15 : decode cX3_takeSlide 15 = .ok (.invokestatic 70, 3) := by decide +kernel
theorem dX3_takeSlide_18 : decode cX3_takeSlide 18 = .ok (.ifCond .ne 5, 3) := by decide +kernel
theorem dX3_takeSlide_21 : decode cX3_takeSlide 21 = .ok (.iconst 0, 1) := by decide +kernel
theorem dX3_takeSlide_22 : decode cX3_takeSlide 22 = .ok (.ireturn, 1) := by decide +kernel
theorem dX3_takeSlide_23 : decode cX3_takeSlide 23 = .ok (.aload_n 1, 1) := by decide +kernel
theorem dX3_takeSlide_24 : decode cX3_takeSlide 24 = .ok (.aload_n 0, 1) := by decide +kernel
theorem dX3_takeSlide_25 : decode cX3_takeSlide 25 = .ok (.iconst 0, 1) := by decide +kernel
theorem dX3_takeSlide_26 : decode cX3_takeSlide 26 = .ok (.invokevirtual 67, 3) := by decide +kernel
theorem dX3_takeSlide_29 : decode cX3_takeSlide 29 = .ok (.putfield 104, 3) := by decide +kernel
theorem dX3_takeSlide_32 : decode cX3_takeSlide 32 = .ok (.iconst 1, 1) := by decide +kernel
theorem dX3_takeSlide_33 : decode cX3_takeSlide 33 = .ok (.ireturn, 1) := by decide +kernel
theorem dX3_number_0 : decode cX3_number 0 = .ok (.aload_n 0, 1) := by decide +kernel
theorem dX3_number_1 : decode cX3_number 1 = .ok (.getfield 11, 3) := by decide +kernel
theorem dX3_number_4 : decode cX3_number 4 = .ok (.iload_n 1, 1) := by decide +kernel
theorem dX3_number_5 : decode cX3_number 5 = .ok (.invokestatic 107, 3) := by decide +kernel
theorem dX3_number_8 : decode cX3_number 8 = .ok (.ireturn, 1) := by decide +kernel
theorem dX4_init_0 : decode cX4_init 0 = .ok (.aload_n 0, 1) := by decide +kernel
theorem dX4_init_1 : decode cX4_init 1 = .ok (.invokespecial 3, 3) := by decide +kernel
theorem dX4_init_4 : decode cX4_init 4 = .ok (.aload_n 0, 1) := by decide +kernel
theorem dX4_init_5 : decode cX4_init 5 = .ok (.new 9, 3) := by decide +kernel
theorem dX4_init_8 : decode cX4_init 8 = .ok (.dup, 1) := by decide +kernel
theorem dX4_init_9 : decode cX4_init 9 = .ok (.invokespecial 11, 3) := by decide +kernel
theorem dX4_init_12 : decode cX4_init 12 = .ok (.putfield 12, 3) := by decide +kernel
theorem dX4_init_15 : decode cX4_init 15 = .ok (.aload_n 0, 1) := by decide +kernel
theorem dX4_init_16 : decode cX4_init 16 = .ok (.iconst 5, 1) := by decide +kernel
theorem dX4_init_17 : decode cX4_init 17 = .ok (.newarray .int, 2) := by decide +kernel
theorem dX4_init_19 : decode cX4_init 19 = .ok (.putfield 18, 3) := by decide +kernel
theorem dX4_init_22 : decode cX4_init 22 = .ok (.aload_n 0, 1) := by decide +kernel
theorem dX4_init_23 : decode cX4_init 23 = .ok (.iconst 5, 1) := by decide +kernel
theorem dX4_init_24 : decode cX4_init 24 = .ok (.newarray .int, 2) := by decide +kernel
theorem dX4_init_26 : decode cX4_init 26 = .ok (.putfield 22, 3) := by decide +kernel
theorem dX4_init_29 : decode cX4_init 29 = .ok (.aload_n 0, 1) := by decide +kernel
theorem dX4_init_30 : decode cX4_init 30 = .ok (.iconst 5, 1) := by decide +kernel
theorem dX4_init_31 : decode cX4_init 31 = .ok (.newarray .int, 2) := by decide +kernel
theorem dX4_init_33 : decode cX4_init 33 = .ok (.putfield 25, 3) := by decide +kernel
theorem dX4_init_36 : decode cX4_init 36 = .ok (.aload_n 0, 1) := by decide +kernel
theorem dX4_init_37 : decode cX4_init 37 = .ok (.iconst 0, 1) := by decide +kernel
theorem dX4_init_38 : decode cX4_init 38 = .ok (.putfield 28, 3) := by decide +kernel
theorem dX4_init_41 : decode cX4_init 41 = .ok (.aload_n 0, 1) := by decide +kernel
theorem dX4_init_42 : decode cX4_init 42 = .ok (.iconst 0, 1) := by decide +kernel
theorem dX4_init_43 : decode cX4_init 43 = .ok (.putfield 32, 3) := by decide +kernel
theorem dX4_init_46 : decode cX4_init 46 = .ok (.aload_n 0, 1) := by decide +kernel
theorem dX4_init_47 : decode cX4_init 47 = .ok (.iconst 0, 1) := by decide +kernel
theorem dX4_init_48 : decode cX4_init 48 = .ok (.putfield 35, 3) := by decide +kernel
theorem dX4_init_51 : decode cX4_init 51 = .ok (.return_, 1) := by decide +kernel
theorem dX4_playAsTold_0 : decode cX4_playAsTold 0 = .ok (.aload_n 0, 1) := by decide +kernel
theorem dX4_playAsTold_1 : decode cX4_playAsTold 1 = .ok (.getfield 12, 3) := by decide +kernel
theorem dX4_playAsTold_4 : decode cX4_playAsTold 4 = .ok (.iload_n 1, 1) := by decide +kernel
theorem dX4_playAsTold_5 : decode cX4_playAsTold 5 = .ok (.invokevirtual 38, 3) := by decide +kernel
theorem dX4_playAsTold_8 : decode cX4_playAsTold 8 = .ok (.getfield 42, 3) := by decide +kernel
theorem dX4_playAsTold_11 : decode cX4_playAsTold 11 = .ok (.astore_n 2, 1) := by decide +kernel
theorem dX4_playAsTold_12 : decode cX4_playAsTold 12 = .ok (.aload_n 0, 1) := by decide +kernel
theorem dX4_playAsTold_13 : decode cX4_playAsTold 13 = .ok (.aload_n 2, 1) := by decide +kernel
theorem dX4_playAsTold_14 : decode cX4_playAsTold 14 = .ok (.getfield 48, 3) := by decide +kernel
theorem dX4_playAsTold_17 : decode cX4_playAsTold 17 = .ok (.aload_n 2, 1) := by decide +kernel
theorem dX4_playAsTold_18 : decode cX4_playAsTold 18 = .ok (.getfield 51, 3) := by decide +kernel
theorem dX4_playAsTold_21 : decode cX4_playAsTold 21 = .ok (.aload_n 2, 1) := by decide +kernel
theorem dX4_playAsTold_22 : decode cX4_playAsTold 22 = .ok (.getfield 52, 3) := by decide +kernel
theorem dX4_playAsTold_25 : decode cX4_playAsTold 25 = .ok (.invokevirtual 55, 3) := by decide +kernel
theorem dX4_playAsTold_28 : decode cX4_playAsTold 28 = .ok (.return_, 1) := by decide +kernel
theorem dX4_playCall_0 : decode cX4_playCall 0 = .ok (.aload_n 0, 1) := by decide +kernel
theorem dX4_playCall_1 : decode cX4_playCall 1 = .ok (.iload_n 1, 1) := by decide +kernel
theorem dX4_playCall_2 : decode cX4_playCall 2 = .ok (.putfield 28, 3) := by decide +kernel
theorem dX4_playCall_5 : decode cX4_playCall 5 = .ok (.aload_n 0, 1) := by decide +kernel
theorem dX4_playCall_6 : decode cX4_playCall 6 = .ok (.iload_n 2, 1) := by decide +kernel
theorem dX4_playCall_7 : decode cX4_playCall 7 = .ok (.putfield 32, 3) := by decide +kernel
theorem dX4_playCall_10 : decode cX4_playCall 10 = .ok (.aload_n 0, 1) := by decide +kernel
theorem dX4_playCall_11 : decode cX4_playCall 11 = .ok (.iload_n 3, 1) := by decide +kernel
theorem dX4_playCall_12 : decode cX4_playCall 12 = .ok (.aload_n 0, 1) := by decide +kernel
theorem dX4_playCall_13 : decode cX4_playCall 13 = .ok (.aload_n 0, 1) := by decide +kernel
theorem dX4_playCall_14 : decode cX4_playCall 14 = .ok (.getfield 12, 3) := by decide +kernel
theorem dX4_playCall_17 : decode cX4_playCall 17 = .ok (.iload_n 1, 1) := by decide +kernel
theorem dX4_playCall_18 : decode cX4_playCall 18 = .ok (.invokevirtual 38, 3) := by decide +kernel
theorem dX4_playCall_21 : decode cX4_playCall 21 = .ok (.invokevirtual 59, 3) := by decide +kernel
theorem dX4_playCall_24 : decode cX4_playCall 24 = .ok (.invokestatic 63, 3) := by decide +kernel
theorem dX4_playCall_27 : decode cX4_playCall 27 = .ok (.putfield 35, 3) := by decide +kernel
theorem dX4_playCall_30 : decode cX4_playCall 30 = .ok (.iconst 0, 1) := by decide +kernel
theorem dX4_playCall_31 : decode cX4_playCall 31 = .ok (.istore 4, 2) := by decide +kernel
theorem dX4_playCall_33 : decode cX4_playCall 33 = .ok (.iload 4, 2) := by decide +kernel
theorem dX4_playCall_35 : decode cX4_playCall 35 = .ok (.aload_n 0, 1) := by decide +kernel
theorem dX4_playCall_36 : decode cX4_playCall 36 = .ok (.getfield 12, 3) := by decide +kernel
theorem dX4_playCall_39 : decode cX4_playCall 39 = .ok (.getfield 69, 3) := by decide +kernel
theorem dX4_playCall_42 : decode cX4_playCall 42 = .ok (.if_icmp .ge 27, 3) := by decide +kernel
theorem dX4_playCall_45 : decode cX4_playCall 45 = .ok (.aload_n 0, 1) := by decide +kernel
theorem dX4_playCall_46 : decode cX4_playCall 46 = .ok (.iload 4, 2) := by decide +kernel
theorem dX4_playCall_48 : decode cX4_playCall 48 = .ok (.aload_n 0, 1) := by decide +kernel
theorem dX4_playCall_49 : decode cX4_playCall 49 = .ok (.getfield 12, 3) := by decide +kernel
theorem dX4_playCall_52 : decode cX4_playCall 52 = .ok (.iload 4, 2) := by decide +kernel
theorem dX4_playCall_54 : decode cX4_playCall 54 = .ok (.invokevirtual 38, 3) := by decide +kernel
theorem dX4_playCall_57 : decode cX4_playCall 57 = .ok (.getfield 72, 3) := by decide +kernel
theorem dX4_playCall_60 : decode cX4_playCall 60 = .ok (.invokevirtual 75, 3) := by decide +kernel
theorem dX4_playCall_63 : decode cX4_playCall 63 = .ok (.iinc 4 1, 3) := by decide +kernel
theorem dX4_playCall_66 : decode cX4_playCall 66 = .ok (.goto (-33), 3) := by decide +kernel
theorem dX4_playCall_69 : decode cX4_playCall 69 = .ok (.return_, 1) := by decide +kernel
theorem dX4_suppose_0 : decode cX4_suppose 0 = .ok (.aload_n 0, 1) := by decide +kernel
theorem dX4_suppose_1 : decode cX4_suppose 1 = .ok (.getfield 12, 3) := by decide +kernel
theorem dX4_suppose_4 : decode cX4_suppose 4 = .ok (.iload_n 1, 1) := by decide +kernel
theorem dX4_suppose_5 : decode cX4_suppose 5 = .ok (.invokevirtual 38, 3) := by decide +kernel
theorem dX4_suppose_8 : decode cX4_suppose 8 = .ok (.astore_n 3, 1) := by decide +kernel
theorem dX4_suppose_9 : decode cX4_suppose 9 = .ok (.aload_n 3, 1) := by decide +kernel
theorem dX4_suppose_10 : decode cX4_suppose 10 = .ok (.getfield 79, 3) := by decide +kernel
theorem dX4_suppose_13 : decode cX4_suppose 13 = .ok (.aload_n 0, 1) := by decide +kernel
theorem dX4_suppose_14 : decode cX4_suppose 14 = .ok (.getfield 32, 3) := by decide +kernel
theorem dX4_suppose_17 : decode cX4_suppose 17 = .ok (.if_icmp .lt 13, 3) := by decide +kernel
theorem dX4_suppose_20 : decode cX4_suppose 20 = .ok (.aload_n 0, 1) := by decide +kernel
theorem dX4_suppose_21 : decode cX4_suppose 21 = .ok (.getfield 12, 3) := by decide +kernel
theorem dX4_suppose_24 : decode cX4_suppose 24 = .ok (.getfield 82, 3) := by decide +kernel
theorem dX4_suppose_27 : decode cX4_suppose 27 = .ok (.goto 4, 3) := by decide +kernel
theorem dX4_suppose_30 : decode cX4_suppose 30 = .ok (.iconst 0, 1) := by decide +kernel
theorem dX4_suppose_31 : decode cX4_suppose 31 = .ok (.istore 4, 2) := by decide +kernel
theorem dX4_suppose_33 : decode cX4_suppose 33 = .ok (.iload_n 2, 1) := by decide +kernel
theorem dX4_suppose_34 : decode cX4_suppose 34 = .ok (.iconst 2, 1) := by decide +kernel
theorem dX4_suppose_35 : decode cX4_suppose 35 = .ok (.if_icmp .ne 10, 3) := by decide +kernel
theorem dX4_suppose_38 : decode cX4_suppose 38 = .ok (.aload_n 0, 1) := by decide +kernel
theorem dX4_suppose_39 : decode cX4_suppose 39 = .ok (.getfield 32, 3) := by decide +kernel
theorem dX4_suppose_42 : decode cX4_suppose 42 = .ok (.goto 5, 3) := by decide +kernel
theorem dX4_suppose_45 : decode cX4_suppose 45 = .ok (.iload 4, 2) := by decide +kernel
theorem dX4_suppose_47 : decode cX4_suppose 47 = .ok (.istore 5, 2) := by decide +kernel
theorem dX4_suppose_49 : decode cX4_suppose 49 = .ok (.iload_n 2, 1) := by decide +kernel
theorem dX4_suppose_50 : decode cX4_suppose 50 = .ok (.iconst 1, 1) := by decide +kernel
theorem dX4_suppose_51 : decode cX4_suppose 51 = .ok (.if_icmp .ne 12, 3) := by decide +kernel
theorem dX4_suppose_54 : decode cX4_suppose 54 = .ok (.aload_n 0, 1) := by decide +kernel
theorem dX4_suppose_55 : decode cX4_suppose 55 = .ok (.getfield 35, 3) := by decide +kernel
theorem dX4_suppose_58 : decode cX4_suppose 58 = .ok (.iconst 1, 1) := by decide +kernel
theorem dX4_suppose_59 : decode cX4_suppose 59 = .ok (.isub, 1) := by decide +kernel
theorem dX4_suppose_60 : decode cX4_suppose 60 = .ok (.goto 7, 3) := by decide +kernel
theorem dX4_suppose_63 : decode cX4_suppose 63 = .ok (.aload_n 0, 1) := by decide +kernel
theorem dX4_suppose_64 : decode cX4_suppose 64 = .ok (.getfield 35, 3) := by decide +kernel
theorem dX4_suppose_67 : decode cX4_suppose 67 = .ok (.istore 6, 2) := by decide +kernel
theorem dX4_suppose_69 : decode cX4_suppose 69 = .ok (.iload_n 2, 1) := by decide +kernel
theorem dX4_suppose_70 : decode cX4_suppose 70 = .ok (.iconst 2, 1) := by decide +kernel
theorem dX4_suppose_71 : decode cX4_suppose 71 = .ok (.if_icmp .ne 7, 3) := by decide +kernel
theorem dX4_suppose_74 : decode cX4_suppose 74 = .ok (.iconst 0, 1) := by decide +kernel
theorem dX4_suppose_75 : decode cX4_suppose 75 = .ok (.goto 10, 3) := by decide +kernel
theorem dX4_suppose_78 : decode cX4_suppose 78 = .ok (.aload_n 0, 1) := by decide +kernel
theorem dX4_suppose_79 : decode cX4_suppose 79 = .ok (.getfield 12, 3) := by decide +kernel
theorem dX4_suppose_82 : decode cX4_suppose 82 = .ok (.getfield 85, 3) := by decide +kernel
theorem dX4_suppose_85 : decode cX4_suppose 85 = .ok (.istore 7, 2) := by decide +kernel
theorem dX4_suppose_87 : decode cX4_suppose 87 = .ok (.iload_n 1, 1) := by decide +kernel
theorem dX4_suppose_88 : decode cX4_suppose 88 = .ok (.aload_n 0, 1) := by decide +kernel
theorem dX4_suppose_89 : decode cX4_suppose 89 = .ok (.getfield 28, 3) := by decide +kernel
theorem dX4_suppose_92 : decode cX4_suppose 92 = .ok (.if_icmp .ne 10, 3) := by decide +kernel
theorem dX4_suppose_95 : decode cX4_suppose 95 = .ok (.aload_n 0, 1) := by decide +kernel
theorem dX4_suppose_96 : decode cX4_suppose 96 = .ok (.getfield 32, 3) := by decide +kernel
theorem dX4_suppose_99 : decode cX4_suppose 99 = .ok (.goto 22, 3) := by decide +kernel
theorem dX4_suppose_102 : decode cX4_suppose 102 = .ok (.iload 5, 2) := by decide +kernel
theorem dX4_suppose_104 : decode cX4_suppose 104 = .ok (.aload_n 3, 1) := by decide +kernel
theorem dX4_suppose_105 : decode cX4_suppose 105 = .ok (.getfield 79, 3) := by decide +kernel
theorem dX4_suppose_108 : decode cX4_suppose 108 = .ok (.iload 6, 2) := by decide +kernel
theorem dX4_suppose_110 : decode cX4_suppose 110 = .ok (.aload_n 3, 1) := by decide +kernel
theorem dX4_suppose_111 : decode cX4_suppose 111 = .ok (.getfield 88, 3) := by decide +kernel
theorem dX4_suppose_114 : decode cX4_suppose 114 = .ok (.imul, 1) := by decide +kernel
theorem dX4_suppose_115 : decode cX4_suppose 115 = .ok (.iload 7, 2) := by decide +kernel
theorem dX4_suppose_117 : decode cX4_suppose 117 = .ok (.iadd, 1) := by decide +kernel
theorem dX4_suppose_118 : decode cX4_suppose 118 = .ok (.invokestatic 91, 3) := by decide +kernel
theorem dX4_suppose_121 : decode cX4_suppose 121 = .ok (.istore 8, 2) := by decide +kernel
theorem dX4_suppose_123 : decode cX4_suppose 123 = .ok (.aload_n 0, 1) := by decide +kernel
theorem dX4_suppose_124 : decode cX4_suppose 124 = .ok (.getfield 18, 3) := by decide +kernel
theorem dX4_suppose_127 : decode cX4_suppose 127 = .ok (.iload_n 1, 1) := by decide +kernel
theorem dX4_suppose_128 : decode cX4_suppose 128 = .ok (.iload_n 2, 1) := by decide +kernel
theorem dX4_suppose_129 : decode cX4_suppose 129 = .ok (.invokestatic 95, 3) := by decide +kernel
theorem dX4_suppose_132 : decode cX4_suppose 132 = .ok (.aload_n 0, 1) := by decide +kernel
theorem dX4_suppose_133 : decode cX4_suppose 133 = .ok (.getfield 22, 3) := by decide +kernel
theorem dX4_suppose_136 : decode cX4_suppose 136 = .ok (.iload_n 1, 1) := by decide +kernel
theorem dX4_suppose_137 : decode cX4_suppose 137 = .ok (.iload 8, 2) := by decide +kernel
theorem dX4_suppose_139 : decode cX4_suppose 139 = .ok (.invokestatic 95, 3) := by decide +kernel
theorem dX4_suppose_142 : decode cX4_suppose 142 = .ok (.aload_n 0, 1) := by decide +kernel
theorem dX4_suppose_143 : decode cX4_suppose 143 = .ok (.getfield 25, 3) := by decide +kernel
theorem dX4_suppose_146 : decode cX4_suppose 146 = .ok (.iload_n 1, 1) := by decide +kernel
theorem dX4_suppose_147 : decode cX4_suppose 147 = .ok (.iload 8, 2) := by decide +kernel
theorem dX4_suppose_149 : decode cX4_suppose 149 = .ok (.aload_n 0, 1) := by decide +kernel
theorem dX4_suppose_150 : decode cX4_suppose 150 = .ok (.getfield 32, 3) := by decide +kernel
theorem dX4_suppose_153 : decode cX4_suppose 153 = .ok (.iconst 3, 1) := by decide +kernel
theorem dX4_suppose_154 : decode cX4_suppose 154 = .ok (.invokestatic 91, 3) := by decide +kernel
theorem dX4_suppose_157 : decode cX4_suppose 157 = .ok (.invokestatic 95, 3) := by decide +kernel
theorem dX4_suppose_160 : decode cX4_suppose 160 = .ok (.return_, 1) := by decide +kernel
theorem dX4_standOf_0 : decode cX4_standOf 0 = .ok (.aload_n 0, 1) := by decide +kernel
theorem dX4_standOf_1 : decode cX4_standOf 1 = .ok (.getfield 22, 3) := by decide +kernel
theorem dX4_standOf_4 : decode cX4_standOf 4 = .ok (.iload_n 1, 1) := by decide +kernel
theorem dX4_standOf_5 : decode cX4_standOf 5 = .ok (.invokestatic 101, 3) := by decide +kernel
theorem dX4_standOf_8 : decode cX4_standOf 8 = .ok (.ireturn, 1) := by decide +kernel
theorem dX4_target_0 : decode cX4_target 0 = .ok (.bipush (-4), 2) := by decide +kernel
theorem dX4_target_2 : decode cX4_target 2 = .ok (.istore_n 1, 1) := by decide +kernel
theorem dX4_target_3 : decode cX4_target 3 = .ok (.iconst (-1), 1) := by decide +kernel
theorem dX4_target_4 : decode cX4_target 4 = .ok (.istore_n 2, 1) := by decide +kernel
theorem dX4_target_5 : decode cX4_target 5 = .ok (.iconst 0, 1) := by decide +kernel
theorem dX4_target_6 : decode cX4_target 6 = .ok (.istore_n 3, 1) := by decide +kernel
theorem dX4_target_7 : decode cX4_target 7 = .ok (.iload_n 3, 1) := by decide +kernel
theorem dX4_target_8 : decode cX4_target 8 = .ok (.aload_n 0, 1) := by decide +kernel
theorem dX4_target_9 : decode cX4_target 9 = .ok (.getfield 12, 3) := by decide +kernel
theorem dX4_target_12 : decode cX4_target 12 = .ok (.getfield 69, 3) := by decide +kernel
theorem dX4_target_15 : decode cX4_target 15 = .ok (.if_icmp .ge 39, 3) := by decide +kernel
theorem dX4_target_18 : decode cX4_target 18 = .ok (.iload_n 3, 1) := by decide +kernel
theorem dX4_target_19 : decode cX4_target 19 = .ok (.aload_n 0, 1) := by decide +kernel
theorem dX4_target_20 : decode cX4_target 20 = .ok (.getfield 28, 3) := by decide +kernel
theorem dX4_target_23 : decode cX4_target 23 = .ok (.if_icmp .ne 7, 3) := by decide +kernel
theorem dX4_target_26 : decode cX4_target 26 = .ok (.iconst (-1), 1) := by decide +kernel
theorem dX4_target_27 : decode cX4_target 27 = .ok (.goto 8, 3) := by decide +kernel
theorem dX4_target_30 : decode cX4_target 30 = .ok (.aload_n 0, 1) := by decide +kernel
theorem dX4_target_31 : decode cX4_target 31 = .ok (.iload_n 3, 1) := by decide +kernel
theorem dX4_target_32 : decode cX4_target 32 = .ok (.invokevirtual 105, 3) := by decide +kernel
theorem dX4_target_35 : decode cX4_target 35 = .ok (.istore 4, 2) := by decide +kernel
theorem dX4_target_37 : decode cX4_target 37 = .ok (.iload 4, 2) := by decide +kernel
theorem dX4_target_39 : decode cX4_target 39 = .ok (.iload_n 2, 1) := by decide +kernel
theorem dX4_target_40 : decode cX4_target 40 = .ok (.if_icmp .le 8, 3) := by decide +kernel
theorem dX4_target_43 : decode cX4_target 43 = .ok (.iload 4, 2) := by decide +kernel
theorem dX4_target_45 : decode cX4_target 45 = .ok (.istore_n 2, 1) := by decide +kernel
theorem dX4_target_46 : decode cX4_target 46 = .ok (.iload_n 3, 1) := by decide +kernel
theorem dX4_target_47 : decode cX4_target 47 = .ok (.istore_n 1, 1) := by decide +kernel
theorem dX4_target_48 : decode cX4_target 48 = .ok (.iinc 3 1, 3) := by decide +kernel
theorem dX4_target_51 : decode cX4_target 51 = .ok (.goto (-44), 3) := by decide +kernel
theorem dX4_target_54 : decode cX4_target 54 = .ok (.iload_n 1, 1) := by decide +kernel
theorem dX4_target_55 : decode cX4_target 55 = .ok (.ireturn, 1) := by decide +kernel
theorem dX4_chanceOf_0 : decode cX4_chanceOf 0 = .ok (.aload_n 0, 1) := by decide +kernel
theorem dX4_chanceOf_1 : decode cX4_chanceOf 1 = .ok (.getfield 12, 3) := by decide +kernel
theorem dX4_chanceOf_4 : decode cX4_chanceOf 4 = .ok (.iload_n 1, 1) := by decide +kernel
theorem dX4_chanceOf_5 : decode cX4_chanceOf 5 = .ok (.invokevirtual 38, 3) := by decide +kernel
theorem dX4_chanceOf_8 : decode cX4_chanceOf 8 = .ok (.getfield 109, 3) := by decide +kernel
theorem dX4_chanceOf_11 : decode cX4_chanceOf 11 = .ok (.istore_n 2, 1) := by decide +kernel
theorem dX4_chanceOf_12 : decode cX4_chanceOf 12 = .ok (.aload_n 0, 1) := by decide +kernel
theorem dX4_chanceOf_13 : decode cX4_chanceOf 13 = .ok (.getfield 18, 3) := by decide +kernel
theorem dX4_chanceOf_16 : decode cX4_chanceOf 16 = .ok (.iload_n 1, 1) := by decide +kernel
theorem dX4_chanceOf_17 : decode cX4_chanceOf 17 = .ok (.invokestatic 101, 3) := by decide +kernel
theorem dX4_chanceOf_20 : decode cX4_chanceOf 20 = .ok (.iconst 3, 1) := by decide +kernel
theorem dX4_chanceOf_21 : decode cX4_chanceOf 21 = .ok (.if_icmp .ne 9, 3) := by decide +kernel
theorem dX4_chanceOf_24 : decode cX4_chanceOf 24 = .ok (.iload_n 2, 1) := by decide +kernel
theorem dX4_chanceOf_25 : decode cX4_chanceOf 25 = .ok (.iconst 2, 1) := by decide +kernel
theorem dX4_chanceOf_26 : decode cX4_chanceOf 26 = .ok (.idiv, 1) := by decide +kernel
theorem dX4_chanceOf_27 : decode cX4_chanceOf 27 = .ok (.goto 4, 3) := by decide +kernel
theorem dX4_chanceOf_30 : decode cX4_chanceOf 30 = .ok (.iload_n 2, 1) := by decide +kernel
theorem dX4_chanceOf_31 : decode cX4_chanceOf 31 = .ok (.istore_n 3, 1) := by decide +kernel
theorem dX4_chanceOf_32 : decode cX4_chanceOf 32 = .ok (.aload_n 0, 1) := by decide +kernel
theorem dX4_chanceOf_33 : decode cX4_chanceOf 33 = .ok (.getfield 22, 3) := by decide +kernel
theorem dX4_chanceOf_36 : decode cX4_chanceOf 36 = .ok (.iload_n 1, 1) := by decide +kernel
theorem dX4_chanceOf_37 : decode cX4_chanceOf 37 = .ok (.invokestatic 101, 3) := by decide +kernel
theorem dX4_chanceOf_40 : decode cX4_chanceOf 40 = .ok (.aload_n 0, 1) := by decide +kernel
theorem dX4_chanceOf_41 : decode cX4_chanceOf 41 = .ok (.getfield 25, 3) := by decide +kernel
theorem dX4_chanceOf_44 : decode cX4_chanceOf 44 = .ok (.iload_n 1, 1) := by decide +kernel
theorem dX4_chanceOf_45 : decode cX4_chanceOf 45 = .ok (.invokestatic 101, 3) := by decide +kernel
theorem dX4_chanceOf_48 : decode cX4_chanceOf 48 = .ok (.isub, 1) := by decide +kernel
theorem dX4_chanceOf_49 : decode cX4_chanceOf 49 = .ok (.invokestatic 112, 3) := by decide +kernel
theorem dX4_chanceOf_52 : decode cX4_chanceOf 52 = .ok (.istore 4, 2) := by decide +kernel
theorem dX4_chanceOf_54 : decode cX4_chanceOf 54 = .ok (.bipush 10, 2) := by decide +kernel
theorem dX4_chanceOf_56 : decode cX4_chanceOf 56 = .ok (.iconst 0, 1) := by decide +kernel
theorem dX4_chanceOf_57 : decode cX4_chanceOf 57 = .ok (.iload_n 3, 1) := by decide +kernel
theorem dX4_chanceOf_58 : decode cX4_chanceOf 58 = .ok (.aload_n 0, 1) := by decide +kernel
theorem dX4_chanceOf_59 : decode cX4_chanceOf 59 = .ok (.getfield 12, 3) := by decide +kernel
theorem dX4_chanceOf_62 : decode cX4_chanceOf 62 = .ok (.aload_n 0, 1) := by decide +kernel
theorem dX4_chanceOf_63 : decode cX4_chanceOf 63 = .ok (.getfield 28, 3) := by decide +kernel
theorem dX4_chanceOf_66 : decode cX4_chanceOf 66 = .ok (.invokevirtual 38, 3) := by decide +kernel
theorem dX4_chanceOf_69 : decode cX4_chanceOf 69 = .ok (.getfield 115, 3) := by decide +kernel
theorem dX4_chanceOf_72 : decode cX4_chanceOf 72 = .ok (.iadd, 1) := by decide +kernel
theorem dX4_chanceOf_73 : decode cX4_chanceOf 73 = .ok (.iload 4, 2) := by decide +kernel
theorem dX4_chanceOf_75 : decode cX4_chanceOf 75 = .ok (.isub, 1) := by decide +kernel
theorem dX4_chanceOf_76 : decode cX4_chanceOf 76 = .ok (.invokestatic 63, 3) := by decide +kernel
theorem dX4_chanceOf_79 : decode cX4_chanceOf 79 = .ok (.invokestatic 118, 3) := by decide +kernel
theorem dX4_chanceOf_82 : decode cX4_chanceOf 82 = .ok (.istore 5, 2) := by decide +kernel
theorem dX4_chanceOf_84 : decode cX4_chanceOf 84 = .ok (.aload_n 0, 1) := by decide +kernel
theorem dX4_chanceOf_85 : decode cX4_chanceOf 85 = .ok (.iload_n 1, 1) := by decide +kernel
theorem dX4_chanceOf_86 : decode cX4_chanceOf 86 = .ok (.invokevirtual 121, 3) := by decide +kernel
theorem dX4_chanceOf_89 : decode cX4_chanceOf 89 = .ok (.bipush (-4), 2) := by decide +kernel
theorem dX4_chanceOf_91 : decode cX4_chanceOf 91 = .ok (.if_icmp .ne 8, 3) := by decide +kernel
theorem dX4_chanceOf_94 : decode cX4_chanceOf 94 = .ok (.iload 5, 2) := by decide +kernel
theorem dX4_chanceOf_96 : decode cX4_chanceOf 96 = .ok (.goto 7, 3) := by decide +kernel
theorem dX4_chanceOf_99 : decode cX4_chanceOf 99 = .ok (.iload 5, 2) := by decide +kernel
theorem dX4_chanceOf_101 : decode cX4_chanceOf 101 = .ok (.iconst 2, 1) := by decide +kernel
theorem dX4_chanceOf_102 : decode cX4_chanceOf 102 = .ok (.idiv, 1) := by decide +kernel
theorem dX4_chanceOf_103 : decode cX4_chanceOf 103 = .ok (.ireturn, 1) := by decide +kernel
theorem dX4_hiderOf_0 : decode cX4_hiderOf 0 = .ok (.aload_n 0, 1) := by decide +kernel
theorem dX4_hiderOf_1 : decode cX4_hiderOf 1 = .ok (.getfield 25, 3) := by decide +kernel
theorem dX4_hiderOf_4 : decode cX4_hiderOf 4 = .ok (.iload_n 1, 1) := by decide +kernel
theorem dX4_hiderOf_5 : decode cX4_hiderOf 5 = .ok (.invokestatic 101, 3) := by decide +kernel
theorem dX4_hiderOf_8 : decode cX4_hiderOf 8 = .ok (.aload_n 0, 1) := by decide +kernel
theorem dX4_hiderOf_9 : decode cX4_hiderOf 9 = .ok (.getfield 22, 3) := by decide +kernel
theorem dX4_hiderOf_12 : decode cX4_hiderOf 12 = .ok (.iload_n 1, 1) := by decide +kernel
theorem dX4_hiderOf_13 : decode cX4_hiderOf 13 = .ok (.invokestatic 101, 3) := by decide +kernel
theorem dX4_hiderOf_16 : decode cX4_hiderOf 16 = .ok (.invokestatic 118, 3) := by decide +kernel
theorem dX4_hiderOf_19 : decode cX4_hiderOf 19 = .ok (.istore_n 2, 1) := by decide +kernel
theorem dX4_hiderOf_20 : decode cX4_hiderOf 20 = .ok (.aload_n 0, 1) := by decide +kernel
theorem dX4_hiderOf_21 : decode cX4_hiderOf 21 = .ok (.getfield 25, 3) := by decide +kernel
theorem dX4_hiderOf_24 : decode cX4_hiderOf 24 = .ok (.iload_n 1, 1) := by decide +kernel
theorem dX4_hiderOf_25 : decode cX4_hiderOf 25 = .ok (.invokestatic 101, 3) := by decide +kernel
theorem dX4_hiderOf_28 : decode cX4_hiderOf 28 = .ok (.aload_n 0, 1) := by decide +kernel
theorem dX4_hiderOf_29 : decode cX4_hiderOf 29 = .ok (.getfield 22, 3) := by decide +kernel
theorem dX4_hiderOf_32 : decode cX4_hiderOf 32 = .ok (.iload_n 1, 1) := by decide +kernel
theorem dX4_hiderOf_33 : decode cX4_hiderOf 33 = .ok (.invokestatic 101, 3) := by decide +kernel
theorem dX4_hiderOf_36 : decode cX4_hiderOf 36 = .ok (.invokestatic 63, 3) := by decide +kernel
theorem dX4_hiderOf_39 : decode cX4_hiderOf 39 = .ok (.istore_n 3, 1) := by decide +kernel
theorem dX4_hiderOf_40 : decode cX4_hiderOf 40 = .ok (.aload_n 0, 1) := by decide +kernel
theorem dX4_hiderOf_41 : decode cX4_hiderOf 41 = .ok (.getfield 12, 3) := by decide +kernel
theorem dX4_hiderOf_44 : decode cX4_hiderOf 44 = .ok (.iload_n 1, 1) := by decide +kernel
theorem dX4_hiderOf_45 : decode cX4_hiderOf 45 = .ok (.invokevirtual 38, 3) := by decide +kernel
theorem dX4_hiderOf_48 : decode cX4_hiderOf 48 = .ok (.getfield 109, 3) := by decide +kernel
theorem dX4_hiderOf_51 : decode cX4_hiderOf 51 = .ok (.istore 4, 2) := by decide +kernel
theorem dX4_hiderOf_53 : decode cX4_hiderOf 53 = .ok (.iconst 0, 1) := by decide +kernel
theorem dX4_hiderOf_54 : decode cX4_hiderOf 54 = .ok (.istore 5, 2) := by decide +kernel
theorem dX4_hiderOf_56 : decode cX4_hiderOf 56 = .ok (.iload 5, 2) := by decide +kernel
theorem dX4_hiderOf_58 : decode cX4_hiderOf 58 = .ok (.aload_n 0, 1) := by decide +kernel
theorem dX4_hiderOf_59 : decode cX4_hiderOf 59 = .ok (.getfield 12, 3) := by decide +kernel
theorem dX4_hiderOf_62 : decode cX4_hiderOf 62 = .ok (.getfield 69, 3) := by decide +kernel
theorem dX4_hiderOf_65 : decode cX4_hiderOf 65 = .ok (.if_icmp .ge 79, 3) := by decide +kernel
theorem dX4_hiderOf_68 : decode cX4_hiderOf 68 = .ok (.aload_n 0, 1) := by decide +kernel
theorem dX4_hiderOf_69 : decode cX4_hiderOf 69 = .ok (.getfield 22, 3) := by decide +kernel
theorem dX4_hiderOf_72 : decode cX4_hiderOf 72 = .ok (.iload 5, 2) := by decide +kernel
theorem dX4_hiderOf_74 : decode cX4_hiderOf 74 = .ok (.invokestatic 101, 3) := by decide +kernel
theorem dX4_hiderOf_77 : decode cX4_hiderOf 77 = .ok (.istore 6, 2) := by decide +kernel
theorem dX4_hiderOf_79 : decode cX4_hiderOf 79 = .ok (.iload 6, 2) := by decide +kernel
theorem dX4_hiderOf_81 : decode cX4_hiderOf 81 = .ok (.iload_n 2, 1) := by decide +kernel
theorem dX4_hiderOf_82 : decode cX4_hiderOf 82 = .ok (.if_icmp .le 13, 3) := by decide +kernel
theorem dX4_hiderOf_85 : decode cX4_hiderOf 85 = .ok (.iload 6, 2) := by decide +kernel
theorem dX4_hiderOf_87 : decode cX4_hiderOf 87 = .ok (.iload_n 3, 1) := by decide +kernel
theorem dX4_hiderOf_88 : decode cX4_hiderOf 88 = .ok (.if_icmp .ge 7, 3) := by decide +kernel
theorem dX4_hiderOf_91 : decode cX4_hiderOf 91 = .ok (.iconst 1, 1) := by decide +kernel
theorem dX4_hiderOf_92 : decode cX4_hiderOf 92 = .ok (.goto 4, 3) := by decide +kernel
theorem dX4_hiderOf_95 : decode cX4_hiderOf 95 = .ok (.iconst 0, 1) := by decide +kernel
theorem dX4_hiderOf_96 : decode cX4_hiderOf 96 = .ok (.istore 7, 2) := by decide +kernel
theorem dX4_hiderOf_98 : decode cX4_hiderOf 98 = .ok (.iload 5, 2) := by decide +kernel
theorem dX4_hiderOf_100 : decode cX4_hiderOf 100 = .ok (.iload_n 1, 1) := by decide +kernel
theorem dX4_hiderOf_101 : decode cX4_hiderOf 101 = .ok (.if_icmp .eq 37, 3) := by decide +kernel
theorem dX4_hiderOf_104 : decode cX4_hiderOf 104 = .ok (.iload 5, 2) := by decide +kernel
theorem dX4_hiderOf_106 : decode cX4_hiderOf 106 = .ok (.aload_n 0, 1) := by decide +kernel
theorem dX4_hiderOf_107 : decode cX4_hiderOf 107 = .ok (.getfield 28, 3) := by decide +kernel
theorem dX4_hiderOf_110 : decode cX4_hiderOf 110 = .ok (.if_icmp .eq 28, 3) := by decide +kernel
theorem dX4_hiderOf_113 : decode cX4_hiderOf 113 = .ok (.iload 7, 2) := by decide +kernel
theorem dX4_hiderOf_115 : decode cX4_hiderOf 115 = .ok (.ifCond .eq 23, 3) := by decide +kernel
theorem dX4_hiderOf_118 : decode cX4_hiderOf 118 = .ok (.aload_n 0, 1) := by decide +kernel
theorem dX4_hiderOf_119 : decode cX4_hiderOf 119 = .ok (.getfield 12, 3) := by decide +kernel
theorem dX4_hiderOf_122 : decode cX4_hiderOf 122 = .ok (.iload 5, 2) := by decide +kernel
theorem dX4_hiderOf_124 : decode cX4_hiderOf 124 = .ok (.invokevirtual 38, 3) := by decide +kernel
theorem dX4_hiderOf_127 : decode cX4_hiderOf 127 = .ok (.getfield 109, 3) := by decide +kernel
theorem dX4_hiderOf_130 : decode cX4_hiderOf 130 = .ok (.iload 4, 2) := by decide +kernel
theorem dX4_hiderOf_132 : decode cX4_hiderOf 132 = .ok (.if_icmp .lt 6, 3) := by decide +kernel
theorem dX4_hiderOf_135 : decode cX4_hiderOf 135 = .ok (.iload 5, 2) := by decide +kernel
theorem dX4_hiderOf_137 : decode cX4_hiderOf 137 = .ok (.ireturn, 1) := by decide +kernel
theorem dX4_hiderOf_138 : decode cX4_hiderOf 138 = .ok (.iinc 5 1, 3) := by decide +kernel
theorem dX4_hiderOf_141 : decode cX4_hiderOf 141 = .ok (.goto (-85), 3) := by decide +kernel
theorem dX4_hiderOf_144 : decode cX4_hiderOf 144 = .ok (.bipush (-4), 2) := by decide +kernel
theorem dX4_hiderOf_146 : decode cX4_hiderOf 146 = .ok (.ireturn, 1) := by decide +kernel
theorem dX4_beatsToBall_0 : decode cX4_beatsToBall 0 = .ok (.aload_n 0, 1) := by decide +kernel
theorem dX4_beatsToBall_1 : decode cX4_beatsToBall 1 = .ok (.getfield 32, 3) := by decide +kernel
theorem dX4_beatsToBall_4 : decode cX4_beatsToBall 4 = .ok (.aload_n 1, 1) := by decide +kernel
theorem dX4_beatsToBall_5 : decode cX4_beatsToBall 5 = .ok (.getfield 79, 3) := by decide +kernel
theorem dX4_beatsToBall_8 : decode cX4_beatsToBall 8 = .ok (.isub, 1) := by decide +kernel
theorem dX4_beatsToBall_9 : decode cX4_beatsToBall 9 = .ok (.invokestatic 112, 3) := by decide +kernel
theorem dX4_beatsToBall_12 : decode cX4_beatsToBall 12 = .ok (.istore_n 2, 1) := by decide +kernel
theorem dX4_beatsToBall_13 : decode cX4_beatsToBall 13 = .ok (.aload_n 1, 1) := by decide +kernel
theorem dX4_beatsToBall_14 : decode cX4_beatsToBall 14 = .ok (.getfield 88, 3) := by decide +kernel
theorem dX4_beatsToBall_17 : decode cX4_beatsToBall 17 = .ok (.ifCond .le 19, 3) := by decide +kernel
theorem dX4_beatsToBall_20 : decode cX4_beatsToBall 20 = .ok (.iload_n 2, 1) := by decide +kernel
theorem dX4_beatsToBall_21 : decode cX4_beatsToBall 21 = .ok (.aload_n 1, 1) := by decide +kernel
theorem dX4_beatsToBall_22 : decode cX4_beatsToBall 22 = .ok (.getfield 88, 3) := by decide +kernel
theorem dX4_beatsToBall_25 : decode cX4_beatsToBall 25 = .ok (.iadd, 1) := by decide +kernel
theorem dX4_beatsToBall_26 : decode cX4_beatsToBall 26 = .ok (.iconst 1, 1) := by decide +kernel
theorem dX4_beatsToBall_27 : decode cX4_beatsToBall 27 = .ok (.isub, 1) := by decide +kernel
theorem dX4_beatsToBall_28 : decode cX4_beatsToBall 28 = .ok (.aload_n 1, 1) := by decide +kernel
theorem dX4_beatsToBall_29 : decode cX4_beatsToBall 29 = .ok (.getfield 88, 3) := by decide +kernel
theorem dX4_beatsToBall_32 : decode cX4_beatsToBall 32 = .ok (.idiv, 1) := by decide +kernel
theorem dX4_beatsToBall_33 : decode cX4_beatsToBall 33 = .ok (.goto 4, 3) := by decide +kernel
theorem dX4_beatsToBall_36 : decode cX4_beatsToBall 36 = .ok (.iload_n 2, 1) := by decide +kernel
theorem dX4_beatsToBall_37 : decode cX4_beatsToBall 37 = .ok (.ireturn, 1) := by decide +kernel
theorem dX4_toward_0 : decode cX4_toward 0 = .ok (.iload_n 0, 1) := by decide +kernel
theorem dX4_toward_1 : decode cX4_toward 1 = .ok (.iload_n 1, 1) := by decide +kernel
theorem dX4_toward_2 : decode cX4_toward 2 = .ok (.if_icmp .lt 13, 3) := by decide +kernel
theorem dX4_toward_5 : decode cX4_toward 5 = .ok (.iload_n 0, 1) := by decide +kernel
theorem dX4_toward_6 : decode cX4_toward 6 = .ok (.iload_n 1, 1) := by decide +kernel
theorem dX4_toward_7 : decode cX4_toward 7 = .ok (.iload_n 2, 1) := by decide +kernel
theorem dX4_toward_8 : decode cX4_toward 8 = .ok (.iadd, 1) := by decide +kernel
theorem dX4_toward_9 : decode cX4_toward 9 = .ok (.invokestatic 118, 3) := by decide +kernel
theorem dX4_toward_12 : decode cX4_toward 12 = .ok (.goto 10, 3) := by decide +kernel
theorem dX4_toward_15 : decode cX4_toward 15 = .ok (.iload_n 0, 1) := by decide +kernel
theorem dX4_toward_16 : decode cX4_toward 16 = .ok (.iload_n 1, 1) := by decide +kernel
theorem dX4_toward_17 : decode cX4_toward 17 = .ok (.iload_n 2, 1) := by decide +kernel
theorem dX4_toward_18 : decode cX4_toward 18 = .ok (.isub, 1) := by decide +kernel
theorem dX4_toward_19 : decode cX4_toward 19 = .ok (.invokestatic 63, 3) := by decide +kernel
theorem dX4_toward_22 : decode cX4_toward 22 = .ok (.ireturn, 1) := by decide +kernel
theorem dX5_at_0 : decode cX5_at 0 = .ok (.iload_n 1, 1) := by decide +kernel
theorem dX5_at_1 : decode cX5_at 1 = .ok (.ifCond .lt 15, 3) := by decide +kernel
theorem dX5_at_4 : decode cX5_at 4 = .ok (.iload_n 1, 1) := by decide +kernel
theorem dX5_at_5 : decode cX5_at 5 = .ok (.aload_n 0, 1) := by decide +kernel
theorem dX5_at_6 : decode cX5_at 6 = .ok (.arraylength, 1) := by decide +kernel
theorem dX5_at_7 : decode cX5_at 7 = .ok (.if_icmp .ge 9, 3) := by decide +kernel
theorem dX5_at_10 : decode cX5_at 10 = .ok (.aload_n 0, 1) := by decide +kernel
theorem dX5_at_11 : decode cX5_at 11 = .ok (.iload_n 1, 1) := by decide +kernel
theorem dX5_at_12 : decode cX5_at 12 = .ok (.iaload, 1) := by decide +kernel
theorem dX5_at_13 : decode cX5_at 13 = .ok (.goto 4, 3) := by decide +kernel
theorem dX5_at_16 : decode cX5_at 16 = .ok (.iconst 0, 1) := by decide +kernel
theorem dX5_at_17 : decode cX5_at 17 = .ok (.ireturn, 1) := by decide +kernel
theorem dX5_put_0 : decode cX5_put 0 = .ok (.iload_n 1, 1) := by decide +kernel
theorem dX5_put_1 : decode cX5_put 1 = .ok (.ifCond .lt 13, 3) := by decide +kernel
theorem dX5_put_4 : decode cX5_put 4 = .ok (.iload_n 1, 1) := by decide +kernel
theorem dX5_put_5 : decode cX5_put 5 = .ok (.aload_n 0, 1) := by decide +kernel
theorem dX5_put_6 : decode cX5_put 6 = .ok (.arraylength, 1) := by decide +kernel
theorem dX5_put_7 : decode cX5_put 7 = .ok (.if_icmp .ge 7, 3) := by decide +kernel
theorem dX5_put_10 : decode cX5_put 10 = .ok (.aload_n 0, 1) := by decide +kernel
theorem dX5_put_11 : decode cX5_put 11 = .ok (.iload_n 1, 1) := by decide +kernel
theorem dX5_put_12 : decode cX5_put 12 = .ok (.iload_n 2, 1) := by decide +kernel
theorem dX5_put_13 : decode cX5_put 13 = .ok (.iastore, 1) := by decide +kernel
theorem dX5_put_14 : decode cX5_put 14 = .ok (.return_, 1) := by decide +kernel
theorem dX5_longAt_0 : decode cX5_longAt 0 = .ok (.iload_n 1, 1) := by decide +kernel
theorem dX5_longAt_1 : decode cX5_longAt 1 = .ok (.ifCond .lt 15, 3) := by decide +kernel
theorem dX5_longAt_4 : decode cX5_longAt 4 = .ok (.iload_n 1, 1) := by decide +kernel
theorem dX5_longAt_5 : decode cX5_longAt 5 = .ok (.aload_n 0, 1) := by decide +kernel
theorem dX5_longAt_6 : decode cX5_longAt 6 = .ok (.arraylength, 1) := by decide +kernel
theorem dX5_longAt_7 : decode cX5_longAt 7 = .ok (.if_icmp .ge 9, 3) := by decide +kernel
theorem dX5_longAt_10 : decode cX5_longAt 10 = .ok (.aload_n 0, 1) := by decide +kernel
theorem dX5_longAt_11 : decode cX5_longAt 11 = .ok (.iload_n 1, 1) := by decide +kernel
theorem dX5_longAt_12 : decode cX5_longAt 12 = .ok (.laload, 1) := by decide +kernel
theorem dX5_longAt_13 : decode cX5_longAt 13 = .ok (.goto 4, 3) := by decide +kernel
theorem dX5_longAt_16 : decode cX5_longAt 16 = .ok (.lconst 0, 1) := by decide +kernel
theorem dX5_longAt_17 : decode cX5_longAt 17 = .ok (.lreturn, 1) := by decide +kernel
theorem dX5_addLong_0 : decode cX5_addLong 0 = .ok (.iload_n 1, 1) := by decide +kernel
theorem dX5_addLong_1 : decode cX5_addLong 1 = .ok (.ifCond .lt 16, 3) := by decide +kernel
theorem dX5_addLong_4 : decode cX5_addLong 4 = .ok (.iload_n 1, 1) := by decide +kernel
theorem dX5_addLong_5 : decode cX5_addLong 5 = .ok (.aload_n 0, 1) := by decide +kernel
theorem dX5_addLong_6 : decode cX5_addLong 6 = .ok (.arraylength, 1) := by decide +kernel
theorem dX5_addLong_7 : decode cX5_addLong 7 = .ok (.if_icmp .ge 10, 3) := by decide +kernel
theorem dX5_addLong_10 : decode cX5_addLong 10 = .ok (.aload_n 0, 1) := by decide +kernel
theorem dX5_addLong_11 : decode cX5_addLong 11 = .ok (.iload_n 1, 1) := by decide +kernel
theorem dX5_addLong_12 : decode cX5_addLong 12 = .ok (.dup2, 1) := by decide +kernel
theorem dX5_addLong_13 : decode cX5_addLong 13 = .ok (.laload, 1) := by decide +kernel
theorem dX5_addLong_14 : decode cX5_addLong 14 = .ok (.lload_n 2, 1) := by decide +kernel
theorem dX5_addLong_15 : decode cX5_addLong 15 = .ok (.ladd, 1) := by decide +kernel
theorem dX5_addLong_16 : decode cX5_addLong 16 = .ok (.lastore, 1) := by decide +kernel
theorem dX5_addLong_17 : decode cX5_addLong 17 = .ok (.return_, 1) := by decide +kernel
theorem dX6_init_0 : decode cX6_init 0 = .ok (.aload_n 0, 1) := by decide +kernel
theorem dX6_init_1 : decode cX6_init 1 = .ok (.invokespecial 3, 3) := by decide +kernel
theorem dX6_init_4 : decode cX6_init 4 = .ok (.aload_n 0, 1) := by decide +kernel
theorem dX6_init_5 : decode cX6_init 5 = .ok (.iconst 0, 1) := by decide +kernel
theorem dX6_init_6 : decode cX6_init 6 = .ok (.putfield 9, 3) := by decide +kernel
theorem dX6_init_9 : decode cX6_init 9 = .ok (.aload_n 0, 1) := by decide +kernel
theorem dX6_init_10 : decode cX6_init 10 = .ok (.iconst 0, 1) := by decide +kernel
theorem dX6_init_11 : decode cX6_init 11 = .ok (.putfield 15, 3) := by decide +kernel
theorem dX6_init_14 : decode cX6_init 14 = .ok (.aload_n 0, 1) := by decide +kernel
theorem dX6_init_15 : decode cX6_init 15 = .ok (.iconst 0, 1) := by decide +kernel
theorem dX6_init_16 : decode cX6_init 16 = .ok (.putfield 19, 3) := by decide +kernel
theorem dX6_init_19 : decode cX6_init 19 = .ok (.aload_n 0, 1) := by decide +kernel
theorem dX6_init_20 : decode cX6_init 20 = .ok (.iconst 0, 1) := by decide +kernel
theorem dX6_init_21 : decode cX6_init 21 = .ok (.putfield 22, 3) := by decide +kernel
theorem dX6_init_24 : decode cX6_init 24 = .ok (.aload_n 0, 1) := by decide +kernel
theorem dX6_init_25 : decode cX6_init 25 = .ok (.iconst 0, 1) := by decide +kernel
theorem dX6_init_26 : decode cX6_init 26 = .ok (.putfield 25, 3) := by decide +kernel
theorem dX6_init_29 : decode cX6_init 29 = .ok (.return_, 1) := by decide +kernel
theorem dX6_search_0 : decode cX6_search 0 = .ok (.aload_n 0, 1) := by decide +kernel
theorem dX6_search_1 : decode cX6_search 1 = .ok (.iconst 0, 1) := by decide +kernel
theorem dX6_search_2 : decode cX6_search 2 = .ok (.putfield 9, 3) := by decide +kernel
theorem dX6_search_5 : decode cX6_search 5 = .ok (.iconst 0, 1) := by decide +kernel
theorem dX6_search_6 : decode cX6_search 6 = .ok (.istore_n 3, 1) := by decide +kernel
theorem dX6_search_7 : decode cX6_search 7 = .ok (.iload_n 3, 1) := by decide +kernel
theorem dX6_search_8 : decode cX6_search 8 = .ok (.aload_n 1, 1) := by decide +kernel
theorem dX6_search_9 : decode cX6_search 9 = .ok (.getfield 28, 3) := by decide +kernel
theorem dX6_search_12 : decode cX6_search 12 = .ok (.getfield 34, 3) := by decide +kernel
theorem dX6_search_15 : decode cX6_search 15 = .ok (.if_icmp .ge 57, 3) := by decide +kernel
theorem dX6_search_18 : decode cX6_search 18 = .ok (.iconst 0, 1) := by decide +kernel
theorem dX6_search_19 : decode cX6_search 19 = .ok (.istore 4, 2) := by decide +kernel
theorem dX6_search_21 : decode cX6_search 21 = .ok (.iload 4, 2) := by decide +kernel
theorem dX6_search_23 : decode cX6_search 23 = .ok (.aload_n 1, 1) := by decide +kernel
theorem dX6_search_24 : decode cX6_search 24 = .ok (.getfield 28, 3) := by decide +kernel
theorem dX6_search_27 : decode cX6_search 27 = .ok (.getfield 39, 3) := by decide +kernel
theorem dX6_search_30 : decode cX6_search 30 = .ok (.if_icmp .gt 36, 3) := by decide +kernel
theorem dX6_search_33 : decode cX6_search 33 = .ok (.iconst 1, 1) := by decide +kernel
theorem dX6_search_34 : decode cX6_search 34 = .ok (.istore 5, 2) := by decide +kernel
theorem dX6_search_36 : decode cX6_search 36 = .ok (.iload 5, 2) := by decide +kernel
theorem dX6_search_38 : decode cX6_search 38 = .ok (.bipush 9, 2) := by decide +kernel
theorem dX6_search_40 : decode cX6_search 40 = .ok (.if_icmp .gt 20, 3) := by decide +kernel
theorem dX6_search_43 : decode cX6_search 43 = .ok (.aload_n 0, 1) := by decide +kernel
theorem dX6_search_44 : decode cX6_search 44 = .ok (.aload_n 1, 1) := by decide +kernel
theorem dX6_search_45 : decode cX6_search 45 = .ok (.iload_n 2, 1) := by decide +kernel
theorem dX6_search_46 : decode cX6_search 46 = .ok (.iload_n 3, 1) := by decide +kernel
theorem dX6_search_47 : decode cX6_search 47 = .ok (.iload 4, 2) := by decide +kernel
theorem dX6_search_49 : decode cX6_search 49 = .ok (.iload 5, 2) := by decide +kernel
theorem dX6_search_51 : decode cX6_search 51 = .ok (.invokevirtual 42, 3) := by decide +kernel
theorem dX6_search_54 : decode cX6_search 54 = .ok (.iinc 5 1, 3) := by decide +kernel
theorem dX6_search_57 : decode cX6_search 57 = .ok (.goto (-21), 3) := by decide +kernel
theorem dX6_search_60 : decode cX6_search 60 = .ok (.iinc 4 1, 3) := by decide +kernel
theorem dX6_search_63 : decode cX6_search 63 = .ok (.goto (-42), 3) := by decide +kernel
theorem dX6_search_66 : decode cX6_search 66 = .ok (.iinc 3 1, 3) := by decide +kernel
theorem dX6_search_69 : decode cX6_search 69 = .ok (.goto (-62), 3) := by decide +kernel
theorem dX6_search_72 : decode cX6_search 72 = .ok (.return_, 1) := by decide +kernel
theorem dX6_tryCall_0 : decode cX6_tryCall 0 = .ok (.aload_n 0, 1) := by decide +kernel
theorem dX6_tryCall_1 : decode cX6_tryCall 1 = .ok (.getfield 9, 3) := by decide +kernel
theorem dX6_tryCall_4 : decode cX6_tryCall 4 = .ok (.ifCond .eq 14, 3) := by decide +kernel
theorem dX6_tryCall_7 : decode cX6_tryCall 7 = .ok (.aload_n 0, 1) := by decide +kernel
theorem dX6_tryCall_8 : decode cX6_tryCall 8 = .ok (.getfield 25, 3) := by decide +kernel
theorem dX6_tryCall_11 : decode cX6_tryCall 11 = .ok (.ifCond .ne 7, 3) := by decide +kernel
theorem dX6_tryCall_14 : decode cX6_tryCall 14 = .ok (.iconst 1, 1) := by decide +kernel
theorem dX6_tryCall_15 : decode cX6_tryCall 15 = .ok (.goto 4, 3) := by decide +kernel
theorem dX6_tryCall_18 : decode cX6_tryCall 18 = .ok (.iconst 0, 1) := by decide +kernel
theorem dX6_tryCall_19 : decode cX6_tryCall 19 = .ok (.istore 6, 2) := by decide +kernel
theorem dX6_tryCall_21 : decode cX6_tryCall 21 = .ok (.iload_n 2, 1) := by decide +kernel
theorem dX6_tryCall_22 : decode cX6_tryCall 22 = .ok (.iload_n 3, 1) := by decide +kernel
theorem dX6_tryCall_23 : decode cX6_tryCall 23 = .ok (.if_icmp .eq 8, 3) := by decide +kernel
theorem dX6_tryCall_26 : decode cX6_tryCall 26 = .ok (.iload 6, 2) := by decide +kernel
theorem dX6_tryCall_28 : decode cX6_tryCall 28 = .ok (.ifCond .eq 4, 3) := by decide +kernel
theorem dX6_tryCall_31 : decode cX6_tryCall 31 = .ok (.return_, 1) := by decide +kernel
theorem dX6_tryCall_32 : decode cX6_tryCall 32 = .ok (.aload_n 1, 1) := by decide +kernel
theorem dX6_tryCall_33 : decode cX6_tryCall 33 = .ok (.iload_n 3, 1) := by decide +kernel
theorem dX6_tryCall_34 : decode cX6_tryCall 34 = .ok (.iload 4, 2) := by decide +kernel
theorem dX6_tryCall_36 : decode cX6_tryCall 36 = .ok (.iload 5, 2) := by decide +kernel
theorem dX6_tryCall_38 : decode cX6_tryCall 38 = .ok (.invokevirtual 46, 3) := by decide +kernel
theorem dX6_tryCall_41 : decode cX6_tryCall 41 = .ok (.aload_n 1, 1) := by decide +kernel
theorem dX6_tryCall_42 : decode cX6_tryCall 42 = .ok (.invokevirtual 50, 3) := by decide +kernel
theorem dX6_tryCall_45 : decode cX6_tryCall 45 = .ok (.istore 7, 2) := by decide +kernel
theorem dX6_tryCall_47 : decode cX6_tryCall 47 = .ok (.aload_n 1, 1) := by decide +kernel
theorem dX6_tryCall_48 : decode cX6_tryCall 48 = .ok (.iload 7, 2) := by decide +kernel
theorem dX6_tryCall_50 : decode cX6_tryCall 50 = .ok (.invokevirtual 54, 3) := by decide +kernel
theorem dX6_tryCall_53 : decode cX6_tryCall 53 = .ok (.istore 8, 2) := by decide +kernel
theorem dX6_tryCall_55 : decode cX6_tryCall 55 = .ok (.aload_n 0, 1) := by decide +kernel
theorem dX6_tryCall_56 : decode cX6_tryCall 56 = .ok (.getfield 9, 3) := by decide +kernel
theorem dX6_tryCall_59 : decode cX6_tryCall 59 = .ok (.ifCond .eq 12, 3) := by decide +kernel
theorem dX6_tryCall_62 : decode cX6_tryCall 62 = .ok (.iload 8, 2) := by decide +kernel
theorem dX6_tryCall_64 : decode cX6_tryCall 64 = .ok (.aload_n 0, 1) := by decide +kernel
theorem dX6_tryCall_65 : decode cX6_tryCall 65 = .ok (.getfield 25, 3) := by decide +kernel
theorem dX6_tryCall_68 : decode cX6_tryCall 68 = .ok (.if_icmp .ge 7, 3) := by decide +kernel
theorem dX6_tryCall_71 : decode cX6_tryCall 71 = .ok (.iconst 1, 1) := by decide +kernel
theorem dX6_tryCall_72 : decode cX6_tryCall 72 = .ok (.goto 4, 3) := by decide +kernel
theorem dX6_tryCall_75 : decode cX6_tryCall 75 = .ok (.iconst 0, 1) := by decide +kernel
theorem dX6_tryCall_76 : decode cX6_tryCall 76 = .ok (.istore 9, 2) := by decide +kernel
theorem dX6_tryCall_78 : decode cX6_tryCall 78 = .ok (.iload 7, 2) := by decide +kernel
theorem dX6_tryCall_80 : decode cX6_tryCall 80 = .ok (.iload_n 2, 1) := by decide +kernel
theorem dX6_tryCall_81 : decode cX6_tryCall 81 = .ok (.if_icmp .eq 36, 3) := by decide +kernel
theorem dX6_tryCall_84 : decode cX6_tryCall 84 = .ok (.iload 9, 2) := by decide +kernel
theorem dX6_tryCall_86 : decode cX6_tryCall 86 = .ok (.ifCond .eq 31, 3) := by decide +kernel
theorem dX6_tryCall_89 : decode cX6_tryCall 89 = .ok (.aload_n 0, 1) := by decide +kernel
theorem dX6_tryCall_90 : decode cX6_tryCall 90 = .ok (.iconst 1, 1) := by decide +kernel
theorem dX6_tryCall_91 : decode cX6_tryCall 91 = .ok (.putfield 9, 3) := by decide +kernel
theorem dX6_tryCall_94 : decode cX6_tryCall 94 = .ok (.aload_n 0, 1) := by decide +kernel
theorem dX6_tryCall_95 : decode cX6_tryCall 95 = .ok (.iload_n 3, 1) := by decide +kernel
theorem dX6_tryCall_96 : decode cX6_tryCall 96 = .ok (.putfield 15, 3) := by decide +kernel
theorem dX6_tryCall_99 : decode cX6_tryCall 99 = .ok (.aload_n 0, 1) := by decide +kernel
theorem dX6_tryCall_100 : decode cX6_tryCall 100 = .ok (.iload 4, 2) := by decide +kernel
theorem dX6_tryCall_102 : decode cX6_tryCall 102 = .ok (.putfield 19, 3) := by decide +kernel
theorem dX6_tryCall_105 : decode cX6_tryCall 105 = .ok (.aload_n 0, 1) := by decide +kernel
theorem dX6_tryCall_106 : decode cX6_tryCall 106 = .ok (.iload 5, 2) := by decide +kernel
theorem dX6_tryCall_108 : decode cX6_tryCall 108 = .ok (.putfield 22, 3) := by decide +kernel
theorem dX6_tryCall_111 : decode cX6_tryCall 111 = .ok (.aload_n 0, 1) := by decide +kernel
theorem dX6_tryCall_112 : decode cX6_tryCall 112 = .ok (.iload 8, 2) := by decide +kernel
theorem dX6_tryCall_114 : decode cX6_tryCall 114 = .ok (.putfield 25, 3) := by decide +kernel
theorem dX6_tryCall_117 : decode cX6_tryCall 117 = .ok (.return_, 1) := by decide +kernel
theorem dX7_init_0 : decode cX7_init 0 = .ok (.aload_n 0, 1) := by decide +kernel
theorem dX7_init_1 : decode cX7_init 1 = .ok (.invokespecial 3, 3) := by decide +kernel
theorem dX7_init_4 : decode cX7_init 4 = .ok (.aload_n 0, 1) := by decide +kernel
theorem dX7_init_5 : decode cX7_init 5 = .ok (.iconst 0, 1) := by decide +kernel
theorem dX7_init_6 : decode cX7_init 6 = .ok (.putfield 9, 3) := by decide +kernel
theorem dX7_init_9 : decode cX7_init 9 = .ok (.aload_n 0, 1) := by decide +kernel
theorem dX7_init_10 : decode cX7_init 10 = .ok (.iconst 0, 1) := by decide +kernel
theorem dX7_init_11 : decode cX7_init 11 = .ok (.putfield 15, 3) := by decide +kernel
theorem dX7_init_14 : decode cX7_init 14 = .ok (.aload_n 0, 1) := by decide +kernel
theorem dX7_init_15 : decode cX7_init 15 = .ok (.iconst 1, 1) := by decide +kernel
theorem dX7_init_16 : decode cX7_init 16 = .ok (.iload_n 1, 1) := by decide +kernel
theorem dX7_init_17 : decode cX7_init 17 = .ok (.invokestatic 18, 3) := by decide +kernel
theorem dX7_init_20 : decode cX7_init 20 = .ok (.putfield 24, 3) := by decide +kernel
theorem dX7_init_23 : decode cX7_init 23 = .ok (.aload_n 0, 1) := by decide +kernel
theorem dX7_init_24 : decode cX7_init 24 = .ok (.aload_n 0, 1) := by decide +kernel
theorem dX7_init_25 : decode cX7_init 25 = .ok (.getfield 24, 3) := by decide +kernel
theorem dX7_init_28 : decode cX7_init 28 = .ok (.iconst 5, 1) := by decide +kernel
theorem dX7_init_29 : decode cX7_init 29 = .ok (.imul, 1) := by decide +kernel
theorem dX7_init_30 : decode cX7_init 30 = .ok (.anewarray 27, 3) := by decide +kernel
theorem dX7_init_33 : decode cX7_init 33 = .ok (.putfield 29, 3) := by decide +kernel
theorem dX7_init_36 : decode cX7_init 36 = .ok (.iconst 0, 1) := by decide +kernel
theorem dX7_init_37 : decode cX7_init 37 = .ok (.istore_n 2, 1) := by decide +kernel
theorem dX7_init_38 : decode cX7_init 38 = .ok (.iload_n 2, 1) := by decide +kernel
theorem dX7_init_39 : decode cX7_init 39 = .ok (.aload_n 0, 1) := by decide +kernel
theorem dX7_init_40 : decode cX7_init 40 = .ok (.getfield 29, 3) := by decide +kernel
theorem dX7_init_43 : decode cX7_init 43 = .ok (.arraylength, 1) := by decide +kernel
theorem dX7_init_44 : decode cX7_init 44 = .ok (.if_icmp .ge 22, 3) := by decide +kernel
theorem dX7_init_47 : decode cX7_init 47 = .ok (.aload_n 0, 1) := by decide +kernel
theorem dX7_init_48 : decode cX7_init 48 = .ok (.getfield 29, 3) := by decide +kernel
theorem dX7_init_51 : decode cX7_init 51 = .ok (.iload_n 2, 1) := by decide +kernel
theorem dX7_init_52 : decode cX7_init 52 = .ok (.new 27, 3) := by decide +kernel
theorem dX7_init_55 : decode cX7_init 55 = .ok (.dup, 1) := by decide +kernel
theorem dX7_init_56 : decode cX7_init 56 = .ok (.invokespecial 33, 3) := by decide +kernel
theorem dX7_init_59 : decode cX7_init 59 = .ok (.aastore, 1) := by decide +kernel
theorem dX7_init_60 : decode cX7_init 60 = .ok (.iinc 2 1, 3) := by decide +kernel
theorem dX7_init_63 : decode cX7_init 63 = .ok (.goto (-25), 3) := by decide +kernel
theorem dX7_init_66 : decode cX7_init 66 = .ok (.return_, 1) := by decide +kernel
theorem dX7_empty_0 : decode cX7_empty 0 = .ok (.aload_n 0, 1) := by decide +kernel
theorem dX7_empty_1 : decode cX7_empty 1 = .ok (.iconst 0, 1) := by decide +kernel
theorem dX7_empty_2 : decode cX7_empty 2 = .ok (.putfield 9, 3) := by decide +kernel
theorem dX7_empty_5 : decode cX7_empty 5 = .ok (.return_, 1) := by decide +kernel
theorem dX7_putNewest_0 : decode cX7_putNewest 0 = .ok (.aload_n 0, 1) := by decide +kernel
theorem dX7_putNewest_1 : decode cX7_putNewest 1 = .ok (.aload_n 0, 1) := by decide +kernel
theorem dX7_putNewest_2 : decode cX7_putNewest 2 = .ok (.getfield 15, 3) := by decide +kernel
theorem dX7_putNewest_5 : decode cX7_putNewest 5 = .ok (.iconst 1, 1) := by decide +kernel
theorem dX7_putNewest_6 : decode cX7_putNewest 6 = .ok (.iadd, 1) := by decide +kernel
theorem dX7_putNewest_7 : decode cX7_putNewest 7 = .ok (.aload_n 0, 1) := by decide +kernel
theorem dX7_putNewest_8 : decode cX7_putNewest 8 = .ok (.getfield 24, 3) := by decide +kernel
theorem dX7_putNewest_11 : decode cX7_putNewest 11 = .ok (.if_icmp .ge 12, 3) := by decide +kernel
theorem dX7_putNewest_14 : decode cX7_putNewest 14 = .ok (.aload_n 0, 1) := by decide +kernel
theorem dX7_putNewest_15 : decode cX7_putNewest 15 = .ok (.getfield 15, 3) := by decide +kernel
theorem dX7_putNewest_18 : decode cX7_putNewest 18 = .ok (.iconst 1, 1) := by decide +kernel
theorem dX7_putNewest_19 : decode cX7_putNewest 19 = .ok (.iadd, 1) := by decide +kernel
theorem dX7_putNewest_20 : decode cX7_putNewest 20 = .ok (.goto 4, 3) := by decide +kernel
theorem dX7_putNewest_23 : decode cX7_putNewest 23 = .ok (.iconst 0, 1) := by decide +kernel
theorem dX7_putNewest_24 : decode cX7_putNewest 24 = .ok (.putfield 15, 3) := by decide +kernel
theorem dX7_putNewest_27 : decode cX7_putNewest 27 = .ok (.aload_n 0, 1) := by decide +kernel
theorem dX7_putNewest_28 : decode cX7_putNewest 28 = .ok (.aload_n 0, 1) := by decide +kernel
theorem dX7_putNewest_29 : decode cX7_putNewest 29 = .ok (.getfield 24, 3) := by decide +kernel
theorem dX7_putNewest_32 : decode cX7_putNewest 32 = .ok (.aload_n 0, 1) := by decide +kernel
theorem dX7_putNewest_33 : decode cX7_putNewest 33 = .ok (.getfield 9, 3) := by decide +kernel
theorem dX7_putNewest_36 : decode cX7_putNewest 36 = .ok (.iconst 1, 1) := by decide +kernel
theorem dX7_putNewest_37 : decode cX7_putNewest 37 = .ok (.iadd, 1) := by decide +kernel
theorem dX7_putNewest_38 : decode cX7_putNewest 38 = .ok (.invokestatic 34, 3) := by decide +kernel
theorem dX7_putNewest_41 : decode cX7_putNewest 41 = .ok (.putfield 9, 3) := by decide +kernel
theorem dX7_putNewest_44 : decode cX7_putNewest 44 = .ok (.iconst 0, 1) := by decide +kernel
theorem dX7_putNewest_45 : decode cX7_putNewest 45 = .ok (.istore_n 2, 1) := by decide +kernel
theorem dX7_putNewest_46 : decode cX7_putNewest 46 = .ok (.iload_n 2, 1) := by decide +kernel
theorem dX7_putNewest_47 : decode cX7_putNewest 47 = .ok (.iconst 5, 1) := by decide +kernel
theorem dX7_putNewest_48 : decode cX7_putNewest 48 = .ok (.if_icmp .ge 31, 3) := by decide +kernel
theorem dX7_putNewest_51 : decode cX7_putNewest 51 = .ok (.aload_n 0, 1) := by decide +kernel
theorem dX7_putNewest_52 : decode cX7_putNewest 52 = .ok (.iload_n 2, 1) := by decide +kernel
theorem dX7_putNewest_53 : decode cX7_putNewest 53 = .ok (.invokevirtual 37, 3) := by decide +kernel
theorem dX7_putNewest_56 : decode cX7_putNewest 56 = .ok (.astore_n 3, 1) := by decide +kernel
theorem dX7_putNewest_57 : decode cX7_putNewest 57 = .ok (.aload_n 3, 1) := by decide +kernel
theorem dX7_putNewest_58 : decode cX7_putNewest 58 = .ok (.ifnull 15, 3) := by decide +kernel
theorem dX7_putNewest_61 : decode cX7_putNewest 61 = .ok (.aload_n 3, 1) := by decide +kernel
theorem dX7_putNewest_62 : decode cX7_putNewest 62 = .ok (.aload_n 1, 1) := by decide +kernel
theorem dX7_putNewest_63 : decode cX7_putNewest 63 = .ok (.iload_n 2, 1) := by decide +kernel
theorem dX7_putNewest_64 : decode cX7_putNewest 64 = .ok (.invokevirtual 41, 3) := by decide +kernel
theorem dX7_putNewest_67 : decode cX7_putNewest 67 = .ok (.getfield 47, 3) := by decide +kernel
theorem dX7_putNewest_70 : decode cX7_putNewest 70 = .ok (.invokevirtual 53, 3) := by decide +kernel
theorem dX7_putNewest_73 : decode cX7_putNewest 73 = .ok (.iinc 2 1, 3) := by decide +kernel
theorem dX7_putNewest_76 : decode cX7_putNewest 76 = .ok (.goto (-30), 3) := by decide +kernel
theorem dX7_putNewest_79 : decode cX7_putNewest 79 = .ok (.return_, 1) := by decide +kernel
theorem dX7_takeNewest_0 : decode cX7_takeNewest 0 = .ok (.aload_n 0, 1) := by decide +kernel
theorem dX7_takeNewest_1 : decode cX7_takeNewest 1 = .ok (.getfield 9, 3) := by decide +kernel
theorem dX7_takeNewest_4 : decode cX7_takeNewest 4 = .ok (.ifCond .ne 4, 3) := by decide +kernel
theorem dX7_takeNewest_7 : decode cX7_takeNewest 7 = .ok (.return_, 1) := by decide +kernel
theorem dX7_takeNewest_8 : decode cX7_takeNewest 8 = .ok (.iconst 0, 1) := by decide +kernel
theorem dX7_takeNewest_9 : decode cX7_takeNewest 9 = .ok (.istore_n 2, 1) := by decide +kernel
theorem dX7_takeNewest_10 : decode cX7_takeNewest 10 = .ok (.iload_n 2, 1) := by decide +kernel
theorem dX7_takeNewest_11 : decode cX7_takeNewest 11 = .ok (.iconst 5, 1) := by decide +kernel
theorem dX7_takeNewest_12 : decode cX7_takeNewest 12 = .ok (.if_icmp .ge 31, 3) := by decide +kernel
theorem dX7_takeNewest_15 : decode cX7_takeNewest 15 = .ok (.aload_n 0, 1) := by decide +kernel
theorem dX7_takeNewest_16 : decode cX7_takeNewest 16 = .ok (.iload_n 2, 1) := by decide +kernel
theorem dX7_takeNewest_17 : decode cX7_takeNewest 17 = .ok (.invokevirtual 37, 3) := by decide +kernel
theorem dX7_takeNewest_20 : decode cX7_takeNewest 20 = .ok (.astore_n 3, 1) := by decide +kernel
theorem dX7_takeNewest_21 : decode cX7_takeNewest 21 = .ok (.aload_n 3, 1) := by decide +kernel
theorem dX7_takeNewest_22 : decode cX7_takeNewest 22 = .ok (.ifnull 15, 3) := by decide +kernel
theorem dX7_takeNewest_25 : decode cX7_takeNewest 25 = .ok (.aload_n 1, 1) := by decide +kernel
theorem dX7_takeNewest_26 : decode cX7_takeNewest 26 = .ok (.iload_n 2, 1) := by decide +kernel
theorem dX7_takeNewest_27 : decode cX7_takeNewest 27 = .ok (.invokevirtual 41, 3) := by decide +kernel
theorem dX7_takeNewest_30 : decode cX7_takeNewest 30 = .ok (.getfield 47, 3) := by decide +kernel
theorem dX7_takeNewest_33 : decode cX7_takeNewest 33 = .ok (.aload_n 3, 1) := by decide +kernel
theorem dX7_takeNewest_34 : decode cX7_takeNewest 34 = .ok (.invokevirtual 53, 3) := by decide +kernel
theorem dX7_takeNewest_37 : decode cX7_takeNewest 37 = .ok (.iinc 2 1, 3) := by decide +kernel
theorem dX7_takeNewest_40 : decode cX7_takeNewest 40 = .ok (.goto (-30), 3) := by decide +kernel
theorem dX7_takeNewest_43 : decode cX7_takeNewest 43 = .ok (.aload_n 0, 1) := by decide +kernel
theorem dX7_takeNewest_44 : decode cX7_takeNewest 44 = .ok (.aload_n 0, 1) := by decide +kernel
theorem dX7_takeNewest_45 : decode cX7_takeNewest 45 = .ok (.getfield 15, 3) := by decide +kernel
theorem dX7_takeNewest_48 : decode cX7_takeNewest 48 = .ok (.ifCond .le 12, 3) := by decide +kernel
theorem dX7_takeNewest_51 : decode cX7_takeNewest 51 = .ok (.aload_n 0, 1) := by decide +kernel
theorem dX7_takeNewest_52 : decode cX7_takeNewest 52 = .ok (.getfield 15, 3) := by decide +kernel
theorem dX7_takeNewest_55 : decode cX7_takeNewest 55 = .ok (.iconst 1, 1) := by decide +kernel
theorem dX7_takeNewest_56 : decode cX7_takeNewest 56 = .ok (.isub, 1) := by decide +kernel
theorem dX7_takeNewest_57 : decode cX7_takeNewest 57 = .ok (.goto 9, 3) := by decide +kernel
theorem dX7_takeNewest_60 : decode cX7_takeNewest 60 = .ok (.aload_n 0, 1) := by decide +kernel
theorem dX7_takeNewest_61 : decode cX7_takeNewest 61 = .ok (.getfield 24, 3) := by decide +kernel
theorem dX7_takeNewest_64 : decode cX7_takeNewest 64 = .ok (.iconst 1, 1) := by decide +kernel
theorem dX7_takeNewest_65 : decode cX7_takeNewest 65 = .ok (.isub, 1) := by decide +kernel
theorem dX7_takeNewest_66 : decode cX7_takeNewest 66 = .ok (.putfield 15, 3) := by decide +kernel
theorem dX7_takeNewest_69 : decode cX7_takeNewest 69 = .ok (.aload_n 0, 1) := by decide +kernel
theorem dX7_takeNewest_70 : decode cX7_takeNewest 70 = .ok (.dup, 1) := by decide +kernel
theorem dX7_takeNewest_71 : decode cX7_takeNewest 71 = .ok (.getfield 9, 3) := by decide +kernel
theorem dX7_takeNewest_74 : decode cX7_takeNewest 74 = .ok (.iconst 1, 1) := by decide +kernel
theorem dX7_takeNewest_75 : decode cX7_takeNewest 75 = .ok (.isub, 1) := by decide +kernel
theorem dX7_takeNewest_76 : decode cX7_takeNewest 76 = .ok (.putfield 9, 3) := by decide +kernel
theorem dX7_takeNewest_79 : decode cX7_takeNewest 79 = .ok (.return_, 1) := by decide +kernel
theorem dX7_copyOf_0 : decode cX7_copyOf 0 = .ok (.aload_n 0, 1) := by decide +kernel
theorem dX7_copyOf_1 : decode cX7_copyOf 1 = .ok (.getfield 15, 3) := by decide +kernel
theorem dX7_copyOf_4 : decode cX7_copyOf 4 = .ok (.iconst 5, 1) := by decide +kernel
theorem dX7_copyOf_5 : decode cX7_copyOf 5 = .ok (.imul, 1) := by decide +kernel
theorem dX7_copyOf_6 : decode cX7_copyOf 6 = .ok (.iload_n 1, 1) := by decide +kernel
theorem dX7_copyOf_7 : decode cX7_copyOf 7 = .ok (.iadd, 1) := by decide +kernel
theorem dX7_copyOf_8 : decode cX7_copyOf 8 = .ok (.istore_n 2, 1) := by decide +kernel
theorem dX7_copyOf_9 : decode cX7_copyOf 9 = .ok (.iload_n 2, 1) := by decide +kernel
theorem dX7_copyOf_10 : decode cX7_copyOf 10 = .ok (.ifCond .lt 21, 3) := by decide +kernel
theorem dX7_copyOf_13 : decode cX7_copyOf 13 = .ok (.iload_n 2, 1) := by decide +kernel
theorem dX7_copyOf_14 : decode cX7_copyOf 14 = .ok (.aload_n 0, 1) := by decide +kernel
theorem dX7_copyOf_15 : decode cX7_copyOf 15 = .ok (.getfield 29, 3) := by decide +kernel
theorem dX7_copyOf_18 : decode cX7_copyOf 18 = .ok (.arraylength, 1) := by decide +kernel
theorem dX7_copyOf_19 : decode cX7_copyOf 19 = .ok (.if_icmp .ge 12, 3) := by decide +kernel
theorem dX7_copyOf_22 : decode cX7_copyOf 22 = .ok (.aload_n 0, 1) := by decide +kernel
theorem dX7_copyOf_23 : decode cX7_copyOf 23 = .ok (.getfield 29, 3) := by decide +kernel
theorem dX7_copyOf_26 : decode cX7_copyOf 26 = .ok (.iload_n 2, 1) := by decide +kernel
theorem dX7_copyOf_27 : decode cX7_copyOf 27 = .ok (.aaload, 1) := by decide +kernel
theorem dX7_copyOf_28 : decode cX7_copyOf 28 = .ok (.goto 4, 3) := by decide +kernel
theorem dX7_copyOf_31 : decode cX7_copyOf 31 = .ok (.aconst_null, 1) := by decide +kernel
theorem dX7_copyOf_32 : decode cX7_copyOf 32 = .ok (.areturn, 1) := by decide +kernel
theorem dX8_init_0 : decode cX8_init 0 = .ok (.aload_n 0, 1) := by decide +kernel
theorem dX8_init_1 : decode cX8_init 1 = .ok (.invokespecial 3, 3) := by decide +kernel
theorem dX8_init_4 : decode cX8_init 4 = .ok (.aload_n 0, 1) := by decide +kernel
theorem dX8_init_5 : decode cX8_init 5 = .ok (.bipush 8, 2) := by decide +kernel
theorem dX8_init_7 : decode cX8_init 7 = .ok (.newarray .int, 2) := by decide +kernel
theorem dX8_init_9 : decode cX8_init 9 = .ok (.putfield 9, 3) := by decide +kernel
theorem dX8_init_12 : decode cX8_init 12 = .ok (.aload_n 0, 1) := by decide +kernel
theorem dX8_init_13 : decode cX8_init 13 = .ok (.bipush 8, 2) := by decide +kernel
theorem dX8_init_15 : decode cX8_init 15 = .ok (.newarray .int, 2) := by decide +kernel
theorem dX8_init_17 : decode cX8_init 17 = .ok (.putfield 15, 3) := by decide +kernel
theorem dX8_init_20 : decode cX8_init 20 = .ok (.aload_n 0, 1) := by decide +kernel
theorem dX8_init_21 : decode cX8_init 21 = .ok (.bipush 8, 2) := by decide +kernel
theorem dX8_init_23 : decode cX8_init 23 = .ok (.newarray .int, 2) := by decide +kernel
theorem dX8_init_25 : decode cX8_init 25 = .ok (.putfield 18, 3) := by decide +kernel
theorem dX8_init_28 : decode cX8_init 28 = .ok (.aload_n 0, 1) := by decide +kernel
theorem dX8_init_29 : decode cX8_init 29 = .ok (.iconst 0, 1) := by decide +kernel
theorem dX8_init_30 : decode cX8_init 30 = .ok (.putfield 21, 3) := by decide +kernel
theorem dX8_init_33 : decode cX8_init 33 = .ok (.return_, 1) := by decide +kernel
theorem dX8_add_0 : decode cX8_add 0 = .ok (.aload_n 0, 1) := by decide +kernel
theorem dX8_add_1 : decode cX8_add 1 = .ok (.getfield 9, 3) := by decide +kernel
theorem dX8_add_4 : decode cX8_add 4 = .ok (.aload_n 0, 1) := by decide +kernel
theorem dX8_add_5 : decode cX8_add 5 = .ok (.getfield 21, 3) := by decide +kernel
theorem dX8_add_8 : decode cX8_add 8 = .ok (.iload_n 1, 1) := by decide +kernel
theorem dX8_add_9 : decode cX8_add 9 = .ok (.invokestatic 25, 3) := by decide +kernel
theorem dX8_add_12 : decode cX8_add 12 = .ok (.aload_n 0, 1) := by decide +kernel
theorem dX8_add_13 : decode cX8_add 13 = .ok (.getfield 15, 3) := by decide +kernel
theorem dX8_add_16 : decode cX8_add 16 = .ok (.aload_n 0, 1) := by decide +kernel
theorem dX8_add_17 : decode cX8_add 17 = .ok (.getfield 21, 3) := by decide +kernel
theorem dX8_add_20 : decode cX8_add 20 = .ok (.iload_n 2, 1) := by decide +kernel
theorem dX8_add_21 : decode cX8_add 21 = .ok (.invokestatic 25, 3) := by decide +kernel
theorem dX8_add_24 : decode cX8_add 24 = .ok (.aload_n 0, 1) := by decide +kernel
theorem dX8_add_25 : decode cX8_add 25 = .ok (.getfield 18, 3) := by decide +kernel
theorem dX8_add_28 : decode cX8_add 28 = .ok (.aload_n 0, 1) := by decide +kernel
theorem dX8_add_29 : decode cX8_add 29 = .ok (.getfield 21, 3) := by decide +kernel
theorem dX8_add_32 : decode cX8_add 32 = .ok (.iload_n 3, 1) := by decide +kernel
theorem dX8_add_33 : decode cX8_add 33 = .ok (.invokestatic 25, 3) := by decide +kernel
theorem dX8_add_36 : decode cX8_add 36 = .ok (.aload_n 0, 1) := by decide +kernel
theorem dX8_add_37 : decode cX8_add 37 = .ok (.dup, 1) := by decide +kernel
theorem dX8_add_38 : decode cX8_add 38 = .ok (.getfield 21, 3) := by decide +kernel
theorem dX8_add_41 : decode cX8_add 41 = .ok (.iconst 1, 1) := by decide +kernel
theorem dX8_add_42 : decode cX8_add 42 = .ok (.iadd, 1) := by decide +kernel
theorem dX8_add_43 : decode cX8_add 43 = .ok (.putfield 21, 3) := by decide +kernel
theorem dX8_add_46 : decode cX8_add 46 = .ok (.aload_n 0, 1) := by decide +kernel
theorem dX8_add_47 : decode cX8_add 47 = .ok (.getfield 21, 3) := by decide +kernel
theorem dX8_add_50 : decode cX8_add 50 = .ok (.ireturn, 1) := by decide +kernel
theorem dX8_empty_0 : decode cX8_empty 0 = .ok (.aload_n 0, 1) := by decide +kernel
theorem dX8_empty_1 : decode cX8_empty 1 = .ok (.getfield 21, 3) := by decide +kernel
theorem dX8_empty_4 : decode cX8_empty 4 = .ok (.istore_n 1, 1) := by decide +kernel
theorem dX8_empty_5 : decode cX8_empty 5 = .ok (.aload_n 0, 1) := by decide +kernel
theorem dX8_empty_6 : decode cX8_empty 6 = .ok (.iconst 0, 1) := by decide +kernel
theorem dX8_empty_7 : decode cX8_empty 7 = .ok (.putfield 21, 3) := by decide +kernel
theorem dX8_empty_10 : decode cX8_empty 10 = .ok (.iload_n 1, 1) := by decide +kernel
theorem dX8_empty_11 : decode cX8_empty 11 = .ok (.ireturn, 1) := by decide +kernel
theorem dX8_kindsOf_0 : decode cX8_kindsOf 0 = .ok (.iconst 0, 1) := by decide +kernel
theorem dX8_kindsOf_1 : decode cX8_kindsOf 1 = .ok (.istore_n 3, 1) := by decide +kernel
theorem dX8_kindsOf_2 : decode cX8_kindsOf 2 = .ok (.iconst 0, 1) := by decide +kernel
theorem dX8_kindsOf_3 : decode cX8_kindsOf 3 = .ok (.istore 4, 2) := by decide +kernel
theorem dX8_kindsOf_5 : decode cX8_kindsOf 5 = .ok (.iload 4, 2) := by decide +kernel
theorem dX8_kindsOf_7 : decode cX8_kindsOf 7 = .ok (.iconst 4, 1) := by decide +kernel
theorem dX8_kindsOf_8 : decode cX8_kindsOf 8 = .ok (.if_icmp .ge 27, 3) := by decide +kernel
theorem dX8_kindsOf_11 : decode cX8_kindsOf 11 = .ok (.aload_n 0, 1) := by decide +kernel
theorem dX8_kindsOf_12 : decode cX8_kindsOf 12 = .ok (.iload_n 1, 1) := by decide +kernel
theorem dX8_kindsOf_13 : decode cX8_kindsOf 13 = .ok (.iload 4, 2) := by decide +kernel
theorem dX8_kindsOf_15 : decode cX8_kindsOf 15 = .ok (.aload_n 2, 1) := by decide +kernel
theorem dX8_kindsOf_16 : decode cX8_kindsOf 16 = .ok (.invokevirtual 31, 3) := by decide +kernel
theorem dX8_kindsOf_19 : decode cX8_kindsOf 19 = .ok (.ifCond .eq 10, 3) := by decide +kernel
theorem dX8_kindsOf_22 : decode cX8_kindsOf 22 = .ok (.iload_n 3, 1) := by decide +kernel
theorem dX8_kindsOf_23 : decode cX8_kindsOf 23 = .ok (.iconst 1, 1) := by decide +kernel
theorem dX8_kindsOf_24 : decode cX8_kindsOf 24 = .ok (.iload 4, 2) := by decide +kernel
theorem dX8_kindsOf_26 : decode cX8_kindsOf 26 = .ok (.ishl, 1) := by decide +kernel
theorem dX8_kindsOf_27 : decode cX8_kindsOf 27 = .ok (.ior, 1) := by decide +kernel
theorem dX8_kindsOf_28 : decode cX8_kindsOf 28 = .ok (.istore_n 3, 1) := by decide +kernel
theorem dX8_kindsOf_29 : decode cX8_kindsOf 29 = .ok (.iinc 4 1, 3) := by decide +kernel
theorem dX8_kindsOf_32 : decode cX8_kindsOf 32 = .ok (.goto (-27), 3) := by decide +kernel
theorem dX8_kindsOf_35 : decode cX8_kindsOf 35 = .ok (.iload_n 3, 1) := by decide +kernel
theorem dX8_kindsOf_36 : decode cX8_kindsOf 36 = .ok (.ireturn, 1) := by decide +kernel
theorem dX8_allAreSo_0 : decode cX8_allAreSo 0 = .ok (.iconst 0, 1) := by decide +kernel
theorem dX8_allAreSo_1 : decode cX8_allAreSo 1 = .ok (.istore 4, 2) := by decide +kernel
theorem dX8_allAreSo_3 : decode cX8_allAreSo 3 = .ok (.iload 4, 2) := by decide +kernel
theorem dX8_allAreSo_5 : decode cX8_allAreSo 5 = .ok (.aload_n 0, 1) := by decide +kernel
theorem dX8_allAreSo_6 : decode cX8_allAreSo 6 = .ok (.getfield 21, 3) := by decide +kernel
theorem dX8_allAreSo_9 : decode cX8_allAreSo 9 = .ok (.if_icmp .ge 60, 3) := by decide +kernel
theorem dX8_allAreSo_12 : decode cX8_allAreSo 12 = .ok (.aload_n 0, 1) := by decide +kernel
theorem dX8_allAreSo_13 : decode cX8_allAreSo 13 = .ok (.getfield 15, 3) := by decide +kernel
theorem dX8_allAreSo_16 : decode cX8_allAreSo 16 = .ok (.iload 4, 2) := by decide +kernel
theorem dX8_allAreSo_18 : decode cX8_allAreSo 18 = .ok (.invokestatic 35, 3) := by decide +kernel
theorem dX8_allAreSo_21 : decode cX8_allAreSo 21 = .ok (.iload_n 1, 1) := by decide +kernel
theorem dX8_allAreSo_22 : decode cX8_allAreSo 22 = .ok (.if_icmp .ne 41, 3) := by decide +kernel
theorem dX8_allAreSo_25 : decode cX8_allAreSo 25 = .ok (.aload_n 3, 1) := by decide +kernel
theorem dX8_allAreSo_26 : decode cX8_allAreSo 26 = .ok (.aload_n 0, 1) := by decide +kernel
theorem dX8_allAreSo_27 : decode cX8_allAreSo 27 = .ok (.getfield 9, 3) := by decide +kernel
theorem dX8_allAreSo_30 : decode cX8_allAreSo 30 = .ok (.iload 4, 2) := by decide +kernel
theorem dX8_allAreSo_32 : decode cX8_allAreSo 32 = .ok (.invokestatic 35, 3) := by decide +kernel
theorem dX8_allAreSo_35 : decode cX8_allAreSo 35 = .ok (.invokevirtual 39, 3) := by decide +kernel
theorem dX8_allAreSo_38 : decode cX8_allAreSo 38 = .ok (.aload_n 3, 1) := by decide +kernel
theorem dX8_allAreSo_39 : decode cX8_allAreSo 39 = .ok (.iload_n 1, 1) := by decide +kernel
theorem dX8_allAreSo_40 : decode cX8_allAreSo 40 = .ok (.iload_n 2, 1) := by decide +kernel
theorem dX8_allAreSo_41 : decode cX8_allAreSo 41 = .ok (.invokevirtual 45, 3) := by decide +kernel
theorem dX8_allAreSo_44 : decode cX8_allAreSo 44 = .ok (.aload_n 3, 1) := by decide +kernel
theorem dX8_allAreSo_45 : decode cX8_allAreSo 45 = .ok (.iload_n 1, 1) := by decide +kernel
theorem dX8_allAreSo_46 : decode cX8_allAreSo 46 = .ok (.invokevirtual 49, 3) := by decide +kernel
theorem dX8_allAreSo_49 : decode cX8_allAreSo 49 = .ok (.aload_n 0, 1) := by decide +kernel
theorem dX8_allAreSo_50 : decode cX8_allAreSo 50 = .ok (.getfield 18, 3) := by decide +kernel
theorem dX8_allAreSo_53 : decode cX8_allAreSo 53 = .ok (.iload 4, 2) := by decide +kernel
theorem dX8_allAreSo_55 : decode cX8_allAreSo 55 = .ok (.invokestatic 35, 3) := by decide +kernel
theorem dX8_allAreSo_58 : decode cX8_allAreSo 58 = .ok (.if_icmp .eq 5, 3) := by decide +kernel
theorem dX8_allAreSo_61 : decode cX8_allAreSo 61 = .ok (.iconst 0, 1) := by decide +kernel
theorem dX8_allAreSo_62 : decode cX8_allAreSo 62 = .ok (.ireturn, 1) := by decide +kernel
theorem dX8_allAreSo_63 : decode cX8_allAreSo 63 = .ok (.iinc 4 1, 3) := by decide +kernel
theorem dX8_allAreSo_66 : decode cX8_allAreSo 66 = .ok (.goto (-63), 3) := by decide +kernel
theorem dX8_allAreSo_69 : decode cX8_allAreSo 69 = .ok (.iconst 1, 1) := by decide +kernel
theorem dX8_allAreSo_70 : decode cX8_allAreSo 70 = .ok (.ireturn, 1) := by decide +kernel
theorem dX9_init_0 : decode cX9_init 0 = .ok (.aload_n 0, 1) := by decide +kernel
theorem dX9_init_1 : decode cX9_init 1 = .ok (.invokespecial 3, 3) := by decide +kernel
theorem dX9_init_4 : decode cX9_init 4 = .ok (.aload_n 0, 1) := by decide +kernel
theorem dX9_init_5 : decode cX9_init 5 = .ok (.sipush 300, 3) := by decide +kernel
theorem dX9_init_8 : decode cX9_init 8 = .ok (.newarray .int, 2) := by decide +kernel
theorem dX9_init_10 : decode cX9_init 10 = .ok (.putfield 9, 3) := by decide +kernel
theorem dX9_init_13 : decode cX9_init 13 = .ok (.aload_n 0, 1) := by decide +kernel
theorem dX9_init_14 : decode cX9_init 14 = .ok (.iconst 0, 1) := by decide +kernel
theorem dX9_init_15 : decode cX9_init 15 = .ok (.putfield 15, 3) := by decide +kernel
theorem dX9_init_18 : decode cX9_init 18 = .ok (.return_, 1) := by decide +kernel
theorem dX9_hasRoomFor_0 : decode cX9_hasRoomFor 0 = .ok (.aload_n 0, 1) := by decide +kernel
theorem dX9_hasRoomFor_1 : decode cX9_hasRoomFor 1 = .ok (.getfield 15, 3) := by decide +kernel
theorem dX9_hasRoomFor_4 : decode cX9_hasRoomFor 4 = .ok (.iload_n 1, 1) := by decide +kernel
theorem dX9_hasRoomFor_5 : decode cX9_hasRoomFor 5 = .ok (.iadd, 1) := by decide +kernel
theorem dX9_hasRoomFor_6 : decode cX9_hasRoomFor 6 = .ok (.sipush 300, 3) := by decide +kernel
theorem dX9_hasRoomFor_9 : decode cX9_hasRoomFor 9 = .ok (.if_icmp .gt 7, 3) := by decide +kernel
theorem dX9_hasRoomFor_12 : decode cX9_hasRoomFor 12 = .ok (.iconst 1, 1) := by decide +kernel
theorem dX9_hasRoomFor_13 : decode cX9_hasRoomFor 13 = .ok (.goto 4, 3) := by decide +kernel
theorem dX9_hasRoomFor_16 : decode cX9_hasRoomFor 16 = .ok (.iconst 0, 1) := by decide +kernel
theorem dX9_hasRoomFor_17 : decode cX9_hasRoomFor 17 = .ok (.ireturn, 1) := by decide +kernel
theorem dX9_append_0 : decode cX9_append 0 = .ok (.iload_n 1, 1) := by decide +kernel
theorem dX9_append_1 : decode cX9_append 1 = .ok (.iconst 1, 1) := by decide +kernel
theorem dX9_append_2 : decode cX9_append 2 = .ok (.isub, 1) := by decide +kernel
theorem dX9_append_3 : decode cX9_append 3 = .ok (.istore 4, 2) := by decide +kernel
theorem dX9_append_5 : decode cX9_append 5 = .ok (.iload 4, 2) := by decide +kernel
theorem dX9_append_7 : decode cX9_append 7 = .ok (.ifCond .lt 42, 3) := by decide +kernel
theorem dX9_append_10 : decode cX9_append 10 = .ok (.aload_n 0, 1) := by decide +kernel
theorem dX9_append_11 : decode cX9_append 11 = .ok (.getfield 9, 3) := by decide +kernel
theorem dX9_append_14 : decode cX9_append 14 = .ok (.aload_n 0, 1) := by decide +kernel
theorem dX9_append_15 : decode cX9_append 15 = .ok (.getfield 15, 3) := by decide +kernel
theorem dX9_append_18 : decode cX9_append 18 = .ok (.lload_n 2, 1) := by decide +kernel
theorem dX9_append_19 : decode cX9_append 19 = .ok (.bipush 8, 2) := by decide +kernel
theorem dX9_append_21 : decode cX9_append 21 = .ok (.iload 4, 2) := by decide +kernel
theorem dX9_append_23 : decode cX9_append 23 = .ok (.imul, 1) := by decide +kernel
theorem dX9_append_24 : decode cX9_append 24 = .ok (.lushr, 1) := by decide +kernel
theorem dX9_append_25 : decode cX9_append 25 = .ok (.l2i, 1) := by decide +kernel
theorem dX9_append_26 : decode cX9_append 26 = .ok (.sipush 255, 3) := by decide +kernel
theorem dX9_append_29 : decode cX9_append 29 = .ok (.iand, 1) := by decide +kernel
theorem dX9_append_30 : decode cX9_append 30 = .ok (.invokestatic 19, 3) := by decide +kernel
theorem dX9_append_33 : decode cX9_append 33 = .ok (.aload_n 0, 1) := by decide +kernel
theorem dX9_append_34 : decode cX9_append 34 = .ok (.dup, 1) := by decide +kernel
theorem dX9_append_35 : decode cX9_append 35 = .ok (.getfield 15, 3) := by decide +kernel
theorem dX9_append_38 : decode cX9_append 38 = .ok (.iconst 1, 1) := by decide +kernel
theorem dX9_append_39 : decode cX9_append 39 = .ok (.iadd, 1) := by decide +kernel
theorem dX9_append_40 : decode cX9_append 40 = .ok (.putfield 15, 3) := by decide +kernel
theorem dX9_append_43 : decode cX9_append 43 = .ok (.iinc 4 (-1), 3) := by decide +kernel
theorem dX9_append_46 : decode cX9_append 46 = .ok (.goto (-41), 3) := by decide +kernel
theorem dX9_append_49 : decode cX9_append 49 = .ok (.aload_n 0, 1) := by decide +kernel
theorem dX9_append_50 : decode cX9_append 50 = .ok (.getfield 15, 3) := by decide +kernel
theorem dX9_append_53 : decode cX9_append 53 = .ok (.ireturn, 1) := by decide +kernel
theorem dX9_empty_0 : decode cX9_empty 0 = .ok (.aload_n 0, 1) := by decide +kernel
theorem dX9_empty_1 : decode cX9_empty 1 = .ok (.getfield 15, 3) := by decide +kernel
theorem dX9_empty_4 : decode cX9_empty 4 = .ok (.istore_n 1, 1) := by decide +kernel
theorem dX9_empty_5 : decode cX9_empty 5 = .ok (.aload_n 0, 1) := by decide +kernel
theorem dX9_empty_6 : decode cX9_empty 6 = .ok (.iconst 0, 1) := by decide +kernel
theorem dX9_empty_7 : decode cX9_empty 7 = .ok (.putfield 15, 3) := by decide +kernel
theorem dX9_empty_10 : decode cX9_empty 10 = .ok (.iload_n 1, 1) := by decide +kernel
theorem dX9_empty_11 : decode cX9_empty 11 = .ok (.ireturn, 1) := by decide +kernel
theorem dX9_byteAt_0 : decode cX9_byteAt 0 = .ok (.iload_n 1, 1) := by decide +kernel
theorem dX9_byteAt_1 : decode cX9_byteAt 1 = .ok (.aload_n 0, 1) := by decide +kernel
theorem dX9_byteAt_2 : decode cX9_byteAt 2 = .ok (.getfield 15, 3) := by decide +kernel
theorem dX9_byteAt_5 : decode cX9_byteAt 5 = .ok (.if_icmp .ge 14, 3) := by decide +kernel
theorem dX9_byteAt_8 : decode cX9_byteAt 8 = .ok (.aload_n 0, 1) := by decide +kernel
theorem dX9_byteAt_9 : decode cX9_byteAt 9 = .ok (.getfield 9, 3) := by decide +kernel
theorem dX9_byteAt_12 : decode cX9_byteAt 12 = .ok (.iload_n 1, 1) := by decide +kernel
theorem dX9_byteAt_13 : decode cX9_byteAt 13 = .ok (.invokestatic 25, 3) := by decide +kernel
theorem dX9_byteAt_16 : decode cX9_byteAt 16 = .ok (.goto 4, 3) := by decide +kernel
theorem dX9_byteAt_19 : decode cX9_byteAt 19 = .ok (.iconst (-1), 1) := by decide +kernel
theorem dX9_byteAt_20 : decode cX9_byteAt 20 = .ok (.ireturn, 1) := by decide +kernel
theorem dX9_hasFigureAt_0 : decode cX9_hasFigureAt 0 = .ok (.aload_n 0, 1) := by decide +kernel
theorem dX9_hasFigureAt_1 : decode cX9_hasFigureAt 1 = .ok (.iload_n 1, 1) := by decide +kernel
theorem dX9_hasFigureAt_2 : decode cX9_hasFigureAt 2 = .ok (.invokevirtual 29, 3) := by decide +kernel
theorem dX9_hasFigureAt_5 : decode cX9_hasFigureAt 5 = .ok (.bipush 48, 2) := by decide +kernel
theorem dX9_hasFigureAt_7 : decode cX9_hasFigureAt 7 = .ok (.bipush 57, 2) := by decide +kernel
theorem dX9_hasFigureAt_9 : decode cX9_hasFigureAt 9 = .ok (.invokestatic 33, 3) := by decide +kernel
theorem dX9_hasFigureAt_12 : decode cX9_hasFigureAt 12 = .ok (.ireturn, 1) := by decide +kernel
theorem dX10_init_0 : decode cX10_init 0 = .ok (.aload_n 0, 1) := by decide +kernel
theorem dX10_init_1 : decode cX10_init 1 = .ok (.invokespecial 3, 3) := by decide +kernel
theorem dX10_init_4 : decode cX10_init 4 = .ok (.aload_n 0, 1) := by decide +kernel
theorem dX10_init_5 : decode cX10_init 5 = .ok (.bipush (-4), 2) := by decide +kernel
theorem dX10_init_7 : decode cX10_init 7 = .ok (.putfield 9, 3) := by decide +kernel
theorem dX10_init_10 : decode cX10_init 10 = .ok (.aload_n 0, 1) := by decide +kernel
theorem dX10_init_11 : decode cX10_init 11 = .ok (.iconst 0, 1) := by decide +kernel
theorem dX10_init_12 : decode cX10_init 12 = .ok (.putfield 15, 3) := by decide +kernel
theorem dX10_init_15 : decode cX10_init 15 = .ok (.aload_n 0, 1) := by decide +kernel
theorem dX10_init_16 : decode cX10_init 16 = .ok (.iconst 1, 1) := by decide +kernel
theorem dX10_init_17 : decode cX10_init 17 = .ok (.putfield 18, 3) := by decide +kernel
theorem dX10_init_20 : decode cX10_init 20 = .ok (.aload_n 0, 1) := by decide +kernel
theorem dX10_init_21 : decode cX10_init 21 = .ok (.iconst 0, 1) := by decide +kernel
theorem dX10_init_22 : decode cX10_init 22 = .ok (.putfield 21, 3) := by decide +kernel
theorem dX10_init_25 : decode cX10_init 25 = .ok (.return_, 1) := by decide +kernel
theorem dX10_tellCall_0 : decode cX10_tellCall 0 = .ok (.aload_n 0, 1) := by decide +kernel
theorem dX10_tellCall_1 : decode cX10_tellCall 1 = .ok (.iload_n 1, 1) := by decide +kernel
theorem dX10_tellCall_2 : decode cX10_tellCall 2 = .ok (.putfield 9, 3) := by decide +kernel
theorem dX10_tellCall_5 : decode cX10_tellCall 5 = .ok (.aload_n 0, 1) := by decide +kernel
theorem dX10_tellCall_6 : decode cX10_tellCall 6 = .ok (.iload_n 2, 1) := by decide +kernel
theorem dX10_tellCall_7 : decode cX10_tellCall 7 = .ok (.putfield 15, 3) := by decide +kernel
theorem dX10_tellCall_10 : decode cX10_tellCall 10 = .ok (.aload_n 0, 1) := by decide +kernel
theorem dX10_tellCall_11 : decode cX10_tellCall 11 = .ok (.iload_n 3, 1) := by decide +kernel
theorem dX10_tellCall_12 : decode cX10_tellCall 12 = .ok (.putfield 18, 3) := by decide +kernel
theorem dX10_tellCall_15 : decode cX10_tellCall 15 = .ok (.return_, 1) := by decide +kernel
theorem dX10_copyFrom_0 : decode cX10_copyFrom 0 = .ok (.aload_n 0, 1) := by decide +kernel
theorem dX10_copyFrom_1 : decode cX10_copyFrom 1 = .ok (.aload_n 1, 1) := by decide +kernel
theorem dX10_copyFrom_2 : decode cX10_copyFrom 2 = .ok (.getfield 9, 3) := by decide +kernel
theorem dX10_copyFrom_5 : decode cX10_copyFrom 5 = .ok (.aload_n 1, 1) := by decide +kernel
theorem dX10_copyFrom_6 : decode cX10_copyFrom 6 = .ok (.getfield 15, 3) := by decide +kernel
theorem dX10_copyFrom_9 : decode cX10_copyFrom 9 = .ok (.aload_n 1, 1) := by decide +kernel
theorem dX10_copyFrom_10 : decode cX10_copyFrom 10 = .ok (.getfield 18, 3) := by decide +kernel
theorem dX10_copyFrom_13 : decode cX10_copyFrom 13 = .ok (.invokevirtual 24, 3) := by decide +kernel
theorem dX10_copyFrom_16 : decode cX10_copyFrom 16 = .ok (.aload_n 0, 1) := by decide +kernel
theorem dX10_copyFrom_17 : decode cX10_copyFrom 17 = .ok (.aload_n 1, 1) := by decide +kernel
theorem dX10_copyFrom_18 : decode cX10_copyFrom 18 = .ok (.getfield 21, 3) := by decide +kernel
theorem dX10_copyFrom_21 : decode cX10_copyFrom 21 = .ok (.putfield 21, 3) := by decide +kernel
theorem dX10_copyFrom_24 : decode cX10_copyFrom 24 = .ok (.return_, 1) := by decide +kernel
theorem dX11_init_0 : decode cX11_init 0 = .ok (.aload_n 0, 1) := by decide +kernel
theorem dX11_init_1 : decode cX11_init 1 = .ok (.invokespecial 1, 3) := by decide +kernel
theorem dX11_init_4 : decode cX11_init 4 = .ok (.aload_n 0, 1) := by decide +kernel
theorem dX11_init_5 : decode cX11_init 5 = .ok (.new 7, 3) := by decide +kernel
theorem dX11_init_8 : decode cX11_init 8 = .ok (.dup, 1) := by decide +kernel
theorem dX11_init_9 : decode cX11_init 9 = .ok (.invokespecial 9, 3) := by decide +kernel
theorem dX11_init_12 : decode cX11_init 12 = .ok (.putfield 10, 3) := by decide +kernel
theorem dX11_init_15 : decode cX11_init 15 = .ok (.aload_n 0, 1) := by decide +kernel
theorem dX11_init_16 : decode cX11_init 16 = .ok (.new 16, 3) := by decide +kernel
theorem dX11_init_19 : decode cX11_init 19 = .ok (.dup, 1) := by decide +kernel
theorem dX11_init_20 : decode cX11_init 20 = .ok (.invokespecial 18, 3) := by decide +kernel
theorem dX11_init_23 : decode cX11_init 23 = .ok (.putfield 19, 3) := by decide +kernel
theorem dX11_init_26 : decode cX11_init 26 = .ok (.aload_n 0, 1) := by decide +kernel
theorem dX11_init_27 : decode cX11_init 27 = .ok (.new 23, 3) := by decide +kernel
theorem dX11_init_30 : decode cX11_init 30 = .ok (.dup, 1) := by decide +kernel
theorem dX11_init_31 : decode cX11_init 31 = .ok (.invokespecial 25, 3) := by decide +kernel
theorem dX11_init_34 : decode cX11_init 34 = .ok (.putfield 26, 3) := by decide +kernel
theorem dX11_init_37 : decode cX11_init 37 = .ok (.aload_n 0, 1) := by decide +kernel
theorem dX11_init_38 : decode cX11_init 38 = .ok (.aload_n 0, 1) := by decide +kernel
theorem dX11_init_39 : decode cX11_init 39 = .ok (.getfield 26, 3) := by decide +kernel
theorem dX11_init_42 : decode cX11_init 42 = .ok (.getfield 30, 3) := by decide +kernel
theorem dX11_init_45 : decode cX11_init 45 = .ok (.putfield 34, 3) := by decide +kernel
theorem dX11_init_48 : decode cX11_init 48 = .ok (.aload_n 0, 1) := by decide +kernel
theorem dX11_init_49 : decode cX11_init 49 = .ok (.new 35, 3) := by decide +kernel
theorem dX11_init_52 : decode cX11_init 52 = .ok (.dup, 1) := by decide +kernel
theorem dX11_init_53 : decode cX11_init 53 = .ok (.invokespecial 37, 3) := by decide +kernel
theorem dX11_init_56 : decode cX11_init 56 = .ok (.putfield 38, 3) := by decide +kernel
theorem dX11_init_59 : decode cX11_init 59 = .ok (.aload_n 0, 1) := by decide +kernel
theorem dX11_init_60 : decode cX11_init 60 = .ok (.new 41, 3) := by decide +kernel
theorem dX11_init_63 : decode cX11_init 63 = .ok (.dup, 1) := by decide +kernel
theorem dX11_init_64 : decode cX11_init 64 = .ok (.invokespecial 43, 3) := by decide +kernel
theorem dX11_init_67 : decode cX11_init 67 = .ok (.putfield 44, 3) := by decide +kernel
theorem dX11_init_70 : decode cX11_init 70 = .ok (.aload_n 0, 1) := by decide +kernel
theorem dX11_init_71 : decode cX11_init 71 = .ok (.new 48, 3) := by decide +kernel
theorem dX11_init_74 : decode cX11_init 74 = .ok (.dup, 1) := by decide +kernel
theorem dX11_init_75 : decode cX11_init 75 = .ok (.invokespecial 50, 3) := by decide +kernel
theorem dX11_init_78 : decode cX11_init 78 = .ok (.putfield 51, 3) := by decide +kernel
theorem dX11_init_81 : decode cX11_init 81 = .ok (.aload_n 0, 1) := by decide +kernel
theorem dX11_init_82 : decode cX11_init 82 = .ok (.new 55, 3) := by decide +kernel
theorem dX11_init_85 : decode cX11_init 85 = .ok (.dup, 1) := by decide +kernel
theorem dX11_init_86 : decode cX11_init 86 = .ok (.invokespecial 57, 3) := by decide +kernel
theorem dX11_init_89 : decode cX11_init 89 = .ok (.putfield 58, 3) := by decide +kernel
theorem dX11_init_92 : decode cX11_init 92 = .ok (.aload_n 0, 1) := by decide +kernel
theorem dX11_init_93 : decode cX11_init 93 = .ok (.new 62, 3) := by decide +kernel
theorem dX11_init_96 : decode cX11_init 96 = .ok (.dup, 1) := by decide +kernel
theorem dX11_init_97 : decode cX11_init 97 = .ok (.bipush 8, 2) := by decide +kernel
theorem dX11_init_99 : decode cX11_init 99 = .ok (.invokespecial 64, 3) := by decide +kernel
theorem dX11_init_102 : decode cX11_init 102 = .ok (.putfield 67, 3) := by decide +kernel
theorem dX11_init_105 : decode cX11_init 105 = .ok (.aload_n 0, 1) := by decide +kernel
theorem dX11_init_106 : decode cX11_init 106 = .ok (.new 62, 3) := by decide +kernel
theorem dX11_init_109 : decode cX11_init 109 = .ok (.dup, 1) := by decide +kernel
theorem dX11_init_110 : decode cX11_init 110 = .ok (.iconst 2, 1) := by decide +kernel
theorem dX11_init_111 : decode cX11_init 111 = .ok (.invokespecial 64, 3) := by decide +kernel
theorem dX11_init_114 : decode cX11_init 114 = .ok (.putfield 71, 3) := by decide +kernel
theorem dX11_init_117 : decode cX11_init 117 = .ok (.aload_n 0, 1) := by decide +kernel
theorem dX11_init_118 : decode cX11_init 118 = .ok (.getfield 34, 3) := by decide +kernel
theorem dX11_init_121 : decode cX11_init 121 = .ok (.bipush 10, 2) := by decide +kernel
theorem dX11_init_123 : decode cX11_init 123 = .ok (.iconst 2, 1) := by decide +kernel
theorem dX11_init_124 : decode cX11_init 124 = .ok (.iconst 5, 1) := by decide +kernel
theorem dX11_init_125 : decode cX11_init 125 = .ok (.iconst 5, 1) := by decide +kernel
theorem dX11_init_126 : decode cX11_init 126 = .ok (.iconst 0, 1) := by decide +kernel
theorem dX11_init_127 : decode cX11_init 127 = .ok (.invokevirtual 74, 3) := by decide +kernel
theorem dX11_init_130 : decode cX11_init 130 = .ok (.aload_n 0, 1) := by decide +kernel
theorem dX11_init_131 : decode cX11_init 131 = .ok (.getfield 34, 3) := by decide +kernel
theorem dX11_init_134 : decode cX11_init 134 = .ok (.bipush 14, 2) := by decide +kernel
theorem dX11_init_136 : decode cX11_init 136 = .ok (.iconst 2, 1) := by decide +kernel
theorem dX11_init_137 : decode cX11_init 137 = .ok (.iconst 5, 1) := by decide +kernel
theorem dX11_init_138 : decode cX11_init 138 = .ok (.iconst 3, 1) := by decide +kernel
theorem dX11_init_139 : decode cX11_init 139 = .ok (.iconst 0, 1) := by decide +kernel
theorem dX11_init_140 : decode cX11_init 140 = .ok (.invokevirtual 74, 3) := by decide +kernel
theorem dX11_init_143 : decode cX11_init 143 = .ok (.aload_n 0, 1) := by decide +kernel
theorem dX11_init_144 : decode cX11_init 144 = .ok (.getfield 34, 3) := by decide +kernel
theorem dX11_init_147 : decode cX11_init 147 = .ok (.bipush 20, 2) := by decide +kernel
theorem dX11_init_149 : decode cX11_init 149 = .ok (.iconst 3, 1) := by decide +kernel
theorem dX11_init_150 : decode cX11_init 150 = .ok (.iconst 4, 1) := by decide +kernel
theorem dX11_init_151 : decode cX11_init 151 = .ok (.bipush 6, 2) := by decide +kernel
theorem dX11_init_153 : decode cX11_init 153 = .ok (.iconst 0, 1) := by decide +kernel
theorem dX11_init_154 : decode cX11_init 154 = .ok (.invokevirtual 74, 3) := by decide +kernel
theorem dX11_init_157 : decode cX11_init 157 = .ok (.aload_n 0, 1) := by decide +kernel
theorem dX11_init_158 : decode cX11_init 158 = .ok (.getfield 34, 3) := by decide +kernel
theorem dX11_init_161 : decode cX11_init 161 = .ok (.invokevirtual 78, 3) := by decide +kernel
theorem dX11_init_164 : decode cX11_init 164 = .ok (.return_, 1) := by decide +kernel
theorem dX11_write_0 : decode cX11_write 0 = .ok (.iload_n 1, 1) := by decide +kernel
theorem dX11_write_1 : decode cX11_write 1 = .ok (.iconst 1, 1) := by decide +kernel
theorem dX11_write_2 : decode cX11_write 2 = .ok (.bipush 8, 2) := by decide +kernel
theorem dX11_write_4 : decode cX11_write 4 = .ok (.invokestatic 81, 3) := by decide +kernel
theorem dX11_write_7 : decode cX11_write 7 = .ok (.ifCond .ne 5, 3) := by decide +kernel
theorem dX11_write_10 : decode cX11_write 10 = .ok (.iconst (-1), 1) := by decide +kernel
theorem dX11_write_11 : decode cX11_write 11 = .ok (.ireturn, 1) := by decide +kernel
theorem dX11_write_12 : decode cX11_write 12 = .ok (.aload_n 0, 1) := by decide +kernel
theorem dX11_write_13 : decode cX11_write 13 = .ok (.getfield 10, 3) := by decide +kernel
theorem dX11_write_16 : decode cX11_write 16 = .ok (.iload_n 1, 1) := by decide +kernel
theorem dX11_write_17 : decode cX11_write 17 = .ok (.invokevirtual 85, 3) := by decide +kernel
theorem dX11_write_20 : decode cX11_write 20 = .ok (.ifCond .eq 15, 3) := by decide +kernel
theorem dX11_write_23 : decode cX11_write 23 = .ok (.aload_n 0, 1) := by decide +kernel
theorem dX11_write_24 : decode cX11_write 24 = .ok (.getfield 10, 3) := by decide +kernel
theorem dX11_write_27 : decode cX11_write 27 = .ok (.iload_n 1, 1) := by decide +kernel
theorem dX11_write_28 : decode cX11_write 28 = .ok (.lload_n 2, 1) := by decide +kernel
theorem dX11_write_29 : decode cX11_write 29 = .ok (.invokevirtual 89, 3) := by decide +kernel
theorem dX11_write_32 : decode cX11_write 32 = .ok (.goto 5, 3) := by decide +kernel
theorem dX11_write_35 : decode cX11_write 35 = .ok (.bipush (-3), 2) := by decide +kernel
theorem dX11_write_37 : decode cX11_write 37 = .ok (.ireturn, 1) := by decide +kernel
theorem dX11_wipe_0 : decode cX11_wipe 0 = .ok (.aload_n 0, 1) := by decide +kernel
theorem dX11_wipe_1 : decode cX11_wipe 1 = .ok (.getfield 10, 3) := by decide +kernel
theorem dX11_wipe_4 : decode cX11_wipe 4 = .ok (.invokevirtual 93, 3) := by decide +kernel
theorem dX11_wipe_7 : decode cX11_wipe 7 = .ok (.ireturn, 1) := by decide +kernel
theorem dX11_fault_0 : decode cX11_fault 0 = .ok (.aload_n 0, 1) := by decide +kernel
theorem dX11_fault_1 : decode cX11_fault 1 = .ok (.getfield 19, 3) := by decide +kernel
theorem dX11_fault_4 : decode cX11_fault 4 = .ok (.aload_n 0, 1) := by decide +kernel
theorem dX11_fault_5 : decode cX11_fault 5 = .ok (.getfield 10, 3) := by decide +kernel
theorem dX11_fault_8 : decode cX11_fault 8 = .ok (.aload_n 0, 1) := by decide +kernel
theorem dX11_fault_9 : decode cX11_fault 9 = .ok (.getfield 38, 3) := by decide +kernel
theorem dX11_fault_12 : decode cX11_fault 12 = .ok (.invokevirtual 97, 3) := by decide +kernel
theorem dX11_fault_15 : decode cX11_fault 15 = .ok (.ireturn, 1) := by decide +kernel
theorem dX11_lay_0 : decode cX11_lay 0 = .ok (.aload_n 0, 1) := by decide +kernel
theorem dX11_lay_1 : decode cX11_lay 1 = .ok (.getfield 19, 3) := by decide +kernel
theorem dX11_lay_4 : decode cX11_lay 4 = .ok (.aload_n 0, 1) := by decide +kernel
theorem dX11_lay_5 : decode cX11_lay 5 = .ok (.getfield 10, 3) := by decide +kernel
theorem dX11_lay_8 : decode cX11_lay 8 = .ok (.aload_n 0, 1) := by decide +kernel
theorem dX11_lay_9 : decode cX11_lay 9 = .ok (.getfield 38, 3) := by decide +kernel
theorem dX11_lay_12 : decode cX11_lay 12 = .ok (.invokevirtual 97, 3) := by decide +kernel
theorem dX11_lay_15 : decode cX11_lay 15 = .ok (.bipush (-4), 2) := by decide +kernel
theorem dX11_lay_17 : decode cX11_lay 17 = .ok (.if_icmp .ne 13, 3) := by decide +kernel
theorem dX11_lay_20 : decode cX11_lay 20 = .ok (.aload_n 0, 1) := by decide +kernel
theorem dX11_lay_21 : decode cX11_lay 21 = .ok (.getfield 38, 3) := by decide +kernel
theorem dX11_lay_24 : decode cX11_lay 24 = .ok (.invokevirtual 101, 3) := by decide +kernel
theorem dX11_lay_27 : decode cX11_lay 27 = .ok (.ifCond .ne 6, 3) := by decide +kernel
theorem dX11_lay_30 : decode cX11_lay 30 = .ok (.bipush (-2), 2) := by decide +kernel
theorem dX11_lay_32 : decode cX11_lay 32 = .ok (.ireturn, 1) := by decide +kernel
theorem dX11_lay_33 : decode cX11_lay 33 = .ok (.aload_n 0, 1) := by decide +kernel
theorem dX11_lay_34 : decode cX11_lay 34 = .ok (.getfield 38, 3) := by decide +kernel
theorem dX11_lay_37 : decode cX11_lay 37 = .ok (.invokevirtual 78, 3) := by decide +kernel
theorem dX11_lay_40 : decode cX11_lay 40 = .ok (.aload_n 0, 1) := by decide +kernel
theorem dX11_lay_41 : decode cX11_lay 41 = .ok (.getfield 34, 3) := by decide +kernel
theorem dX11_lay_44 : decode cX11_lay 44 = .ok (.aload_n 0, 1) := by decide +kernel
theorem dX11_lay_45 : decode cX11_lay 45 = .ok (.getfield 38, 3) := by decide +kernel
theorem dX11_lay_48 : decode cX11_lay 48 = .ok (.invokevirtual 105, 3) := by decide +kernel
theorem dX11_lay_51 : decode cX11_lay 51 = .ok (.aload_n 0, 1) := by decide +kernel
theorem dX11_lay_52 : decode cX11_lay 52 = .ok (.getfield 58, 3) := by decide +kernel
theorem dX11_lay_55 : decode cX11_lay 55 = .ok (.invokevirtual 109, 3) := by decide +kernel
theorem dX11_lay_58 : decode cX11_lay 58 = .ok (.pop, 1) := by decide +kernel
theorem dX11_lay_59 : decode cX11_lay 59 = .ok (.aload_n 0, 1) := by decide +kernel
theorem dX11_lay_60 : decode cX11_lay 60 = .ok (.getfield 67, 3) := by decide +kernel
theorem dX11_lay_63 : decode cX11_lay 63 = .ok (.invokevirtual 110, 3) := by decide +kernel
theorem dX11_lay_66 : decode cX11_lay 66 = .ok (.aload_n 0, 1) := by decide +kernel
theorem dX11_lay_67 : decode cX11_lay 67 = .ok (.getfield 71, 3) := by decide +kernel
theorem dX11_lay_70 : decode cX11_lay 70 = .ok (.invokevirtual 110, 3) := by decide +kernel
theorem dX11_lay_73 : decode cX11_lay 73 = .ok (.aload_n 0, 1) := by decide +kernel
theorem dX11_lay_74 : decode cX11_lay 74 = .ok (.getfield 34, 3) := by decide +kernel
theorem dX11_lay_77 : decode cX11_lay 77 = .ok (.getfield 112, 3) := by decide +kernel
theorem dX11_lay_80 : decode cX11_lay 80 = .ok (.ireturn, 1) := by decide +kernel
theorem dX11_player_0 : decode cX11_player 0 = .ok (.aload_n 0, 1) := by decide +kernel
theorem dX11_player_1 : decode cX11_player 1 = .ok (.getfield 34, 3) := by decide +kernel
theorem dX11_player_4 : decode cX11_player 4 = .ok (.iload_n 1, 1) := by decide +kernel
theorem dX11_player_5 : decode cX11_player 5 = .ok (.invokevirtual 116, 3) := by decide +kernel
theorem dX11_player_8 : decode cX11_player 8 = .ok (.ifCond .ne 5, 3) := by decide +kernel
theorem dX11_player_11 : decode cX11_player 11 = .ok (.iconst (-1), 1) := by decide +kernel
theorem dX11_player_12 : decode cX11_player 12 = .ok (.ireturn, 1) := by decide +kernel
theorem dX11_player_13 : decode cX11_player 13 = .ok (.aload_n 0, 1) := by decide +kernel
theorem dX11_player_14 : decode cX11_player 14 = .ok (.getfield 34, 3) := by decide +kernel
theorem dX11_player_17 : decode cX11_player 17 = .ok (.iload_n 1, 1) := by decide +kernel
theorem dX11_player_18 : decode cX11_player 18 = .ok (.invokevirtual 119, 3) := by decide +kernel
theorem dX11_player_21 : decode cX11_player 21 = .ok (.astore_n 3, 1) := by decide +kernel
theorem dX11_player_22 : decode cX11_player 22 = .ok (.iload_n 2, 1) := by decide +kernel
theorem dX11_player_23 : decode cX11_player 23 = .ok (.tableswitch 70 0 5 #[37, 42, 47, 52, 57, 62], 37) := by decide +kernel
theorem dX11_player_60 : decode cX11_player 60 = .ok (.aload_n 3, 1) := by decide +kernel
theorem dX11_player_61 : decode cX11_player 61 = .ok (.getfield 123, 3) := by decide +kernel
theorem dX11_player_64 : decode cX11_player 64 = .ok (.ireturn, 1) := by decide +kernel
theorem dX11_player_65 : decode cX11_player 65 = .ok (.aload_n 3, 1) := by decide +kernel
theorem dX11_player_66 : decode cX11_player 66 = .ok (.getfield 128, 3) := by decide +kernel
theorem dX11_player_69 : decode cX11_player 69 = .ok (.ireturn, 1) := by decide +kernel
theorem dX11_player_70 : decode cX11_player 70 = .ok (.aload_n 3, 1) := by decide +kernel
theorem dX11_player_71 : decode cX11_player 71 = .ok (.getfield 131, 3) := by decide +kernel
theorem dX11_player_74 : decode cX11_player 74 = .ok (.ireturn, 1) := by decide +kernel
theorem dX11_player_75 : decode cX11_player 75 = .ok (.aload_n 3, 1) := by decide +kernel
theorem dX11_player_76 : decode cX11_player 76 = .ok (.getfield 134, 3) := by decide +kernel
theorem dX11_player_79 : decode cX11_player 79 = .ok (.ireturn, 1) := by decide +kernel
theorem dX11_player_80 : decode cX11_player 80 = .ok (.aload_n 3, 1) := by decide +kernel
theorem dX11_player_81 : decode cX11_player 81 = .ok (.getfield 137, 3) := by decide +kernel
theorem dX11_player_84 : decode cX11_player 84 = .ok (.ireturn, 1) := by decide +kernel
theorem dX11_player_85 : decode cX11_player 85 = .ok (.aload_n 3, 1) := by decide +kernel
theorem dX11_player_86 : decode cX11_player 86 = .ok (.getfield 140, 3) := by decide +kernel
theorem dX11_player_89 : decode cX11_player 89 = .ok (.getfield 144, 3) := by decide +kernel
theorem dX11_player_92 : decode cX11_player 92 = .ok (.ireturn, 1) := by decide +kernel
theorem dX11_player_93 : decode cX11_player 93 = .ok (.iconst (-1), 1) := by decide +kernel
theorem dX11_player_94 : decode cX11_player 94 = .ok (.ireturn, 1) := by decide +kernel
theorem dX11_called_0 : decode cX11_called 0 = .ok (.aload_n 0, 1) := by decide +kernel
theorem dX11_called_1 : decode cX11_called 1 = .ok (.getfield 34, 3) := by decide +kernel
theorem dX11_called_4 : decode cX11_called 4 = .ok (.iload_n 1, 1) := by decide +kernel
theorem dX11_called_5 : decode cX11_called 5 = .ok (.invokevirtual 116, 3) := by decide +kernel
theorem dX11_called_8 : decode cX11_called 8 = .ok (.ifCond .ne 5, 3) := by decide +kernel
theorem dX11_called_11 : decode cX11_called 11 = .ok (.iconst (-1), 1) := by decide +kernel
theorem dX11_called_12 : decode cX11_called 12 = .ok (.ireturn, 1) := by decide +kernel
theorem dX11_called_13 : decode cX11_called 13 = .ok (.aload_n 0, 1) := by decide +kernel
theorem dX11_called_14 : decode cX11_called 14 = .ok (.getfield 34, 3) := by decide +kernel
theorem dX11_called_17 : decode cX11_called 17 = .ok (.iload_n 1, 1) := by decide +kernel
theorem dX11_called_18 : decode cX11_called 18 = .ok (.invokevirtual 119, 3) := by decide +kernel
theorem dX11_called_21 : decode cX11_called 21 = .ok (.getfield 140, 3) := by decide +kernel
theorem dX11_called_24 : decode cX11_called 24 = .ok (.astore_n 3, 1) := by decide +kernel
theorem dX11_called_25 : decode cX11_called 25 = .ok (.iload_n 2, 1) := by decide +kernel
theorem dX11_called_26 : decode cX11_called 26 = .ok (.tableswitch 61 0 3 #[30, 35, 40, 45], 30) := by decide +kernel
theorem dX11_called_56 : decode cX11_called 56 = .ok (.aload_n 3, 1) := by decide +kernel
theorem dX11_called_57 : decode cX11_called 57 = .ok (.getfield 149, 3) := by decide +kernel
theorem dX11_called_60 : decode cX11_called 60 = .ok (.ireturn, 1) := by decide +kernel
theorem dX11_called_61 : decode cX11_called 61 = .ok (.aload_n 3, 1) := by decide +kernel
theorem dX11_called_62 : decode cX11_called 62 = .ok (.getfield 152, 3) := by decide +kernel
theorem dX11_called_65 : decode cX11_called 65 = .ok (.ireturn, 1) := by decide +kernel
theorem dX11_called_66 : decode cX11_called 66 = .ok (.aload_n 3, 1) := by decide +kernel
theorem dX11_called_67 : decode cX11_called 67 = .ok (.getfield 155, 3) := by decide +kernel
theorem dX11_called_70 : decode cX11_called 70 = .ok (.ireturn, 1) := by decide +kernel
theorem dX11_called_71 : decode cX11_called 71 = .ok (.aload_n 0, 1) := by decide +kernel
theorem dX11_called_72 : decode cX11_called 72 = .ok (.getfield 26, 3) := by decide +kernel
theorem dX11_called_75 : decode cX11_called 75 = .ok (.iload_n 1, 1) := by decide +kernel
theorem dX11_called_76 : decode cX11_called 76 = .ok (.invokevirtual 158, 3) := by decide +kernel
theorem dX11_called_79 : decode cX11_called 79 = .ok (.aload_n 0, 1) := by decide +kernel
theorem dX11_called_80 : decode cX11_called 80 = .ok (.getfield 26, 3) := by decide +kernel
theorem dX11_called_83 : decode cX11_called 83 = .ok (.getfield 161, 3) := by decide +kernel
theorem dX11_called_86 : decode cX11_called 86 = .ok (.ireturn, 1) := by decide +kernel
theorem dX11_called_87 : decode cX11_called 87 = .ok (.iconst (-1), 1) := by decide +kernel
theorem dX11_called_88 : decode cX11_called 88 = .ok (.ireturn, 1) := by decide +kernel
theorem dX11_stands_0 : decode cX11_stands 0 = .ok (.aload_n 0, 1) := by decide +kernel
theorem dX11_stands_1 : decode cX11_stands 1 = .ok (.getfield 34, 3) := by decide +kernel
theorem dX11_stands_4 : decode cX11_stands 4 = .ok (.iload_n 1, 1) := by decide +kernel
theorem dX11_stands_5 : decode cX11_stands 5 = .ok (.invokevirtual 116, 3) := by decide +kernel
theorem dX11_stands_8 : decode cX11_stands 8 = .ok (.ifCond .eq 14, 3) := by decide +kernel
theorem dX11_stands_11 : decode cX11_stands 11 = .ok (.aload_n 0, 1) := by decide +kernel
theorem dX11_stands_12 : decode cX11_stands 12 = .ok (.getfield 34, 3) := by decide +kernel
theorem dX11_stands_15 : decode cX11_stands 15 = .ok (.iload_n 2, 1) := by decide +kernel
theorem dX11_stands_16 : decode cX11_stands 16 = .ok (.invokevirtual 116, 3) := by decide +kernel
theorem dX11_stands_19 : decode cX11_stands 19 = .ok (.ifCond .ne 5, 3) := by decide +kernel
theorem dX11_stands_22 : decode cX11_stands 22 = .ok (.iconst (-1), 1) := by decide +kernel
theorem dX11_stands_23 : decode cX11_stands 23 = .ok (.ireturn, 1) := by decide +kernel
theorem dX11_stands_24 : decode cX11_stands 24 = .ok (.aload_n 0, 1) := by decide +kernel
theorem dX11_stands_25 : decode cX11_stands 25 = .ok (.getfield 26, 3) := by decide +kernel
theorem dX11_stands_28 : decode cX11_stands 28 = .ok (.iload_n 1, 1) := by decide +kernel
theorem dX11_stands_29 : decode cX11_stands 29 = .ok (.invokevirtual 158, 3) := by decide +kernel
theorem dX11_stands_32 : decode cX11_stands 32 = .ok (.aload_n 0, 1) := by decide +kernel
theorem dX11_stands_33 : decode cX11_stands 33 = .ok (.getfield 26, 3) := by decide +kernel
theorem dX11_stands_36 : decode cX11_stands 36 = .ok (.iload_n 2, 1) := by decide +kernel
theorem dX11_stands_37 : decode cX11_stands 37 = .ok (.invokevirtual 164, 3) := by decide +kernel
theorem dX11_stands_40 : decode cX11_stands 40 = .ok (.ireturn, 1) := by decide +kernel
theorem dX11_chance_0 : decode cX11_chance 0 = .ok (.aload_n 0, 1) := by decide +kernel
theorem dX11_chance_1 : decode cX11_chance 1 = .ok (.iload_n 1, 1) := by decide +kernel
theorem dX11_chance_2 : decode cX11_chance 2 = .ok (.iload_n 2, 1) := by decide +kernel
theorem dX11_chance_3 : decode cX11_chance 3 = .ok (.invokevirtual 168, 3) := by decide +kernel
theorem dX11_chance_6 : decode cX11_chance 6 = .ok (.ifCond .ne 5, 3) := by decide +kernel
theorem dX11_chance_9 : decode cX11_chance 9 = .ok (.iconst (-1), 1) := by decide +kernel
theorem dX11_chance_10 : decode cX11_chance 10 = .ok (.ireturn, 1) := by decide +kernel
theorem dX11_chance_11 : decode cX11_chance 11 = .ok (.aload_n 0, 1) := by decide +kernel
theorem dX11_chance_12 : decode cX11_chance 12 = .ok (.getfield 26, 3) := by decide +kernel
theorem dX11_chance_15 : decode cX11_chance 15 = .ok (.iload_n 1, 1) := by decide +kernel
theorem dX11_chance_16 : decode cX11_chance 16 = .ok (.invokevirtual 158, 3) := by decide +kernel
theorem dX11_chance_19 : decode cX11_chance 19 = .ok (.aload_n 0, 1) := by decide +kernel
theorem dX11_chance_20 : decode cX11_chance 20 = .ok (.getfield 26, 3) := by decide +kernel
theorem dX11_chance_23 : decode cX11_chance 23 = .ok (.iload_n 2, 1) := by decide +kernel
theorem dX11_chance_24 : decode cX11_chance 24 = .ok (.invokevirtual 172, 3) := by decide +kernel
theorem dX11_chance_27 : decode cX11_chance 27 = .ok (.ireturn, 1) := by decide +kernel
theorem dX11_thrown_0 : decode cX11_thrown 0 = .ok (.aload_n 0, 1) := by decide +kernel
theorem dX11_thrown_1 : decode cX11_thrown 1 = .ok (.getfield 34, 3) := by decide +kernel
theorem dX11_thrown_4 : decode cX11_thrown 4 = .ok (.iload_n 1, 1) := by decide +kernel
theorem dX11_thrown_5 : decode cX11_thrown 5 = .ok (.invokevirtual 116, 3) := by decide +kernel
theorem dX11_thrown_8 : decode cX11_thrown 8 = .ok (.ifCond .eq 12, 3) := by decide +kernel
theorem dX11_thrown_11 : decode cX11_thrown 11 = .ok (.iload_n 2, 1) := by decide +kernel
theorem dX11_thrown_12 : decode cX11_thrown 12 = .ok (.iconst 0, 1) := by decide +kernel
theorem dX11_thrown_13 : decode cX11_thrown 13 = .ok (.iconst 1, 1) := by decide +kernel
theorem dX11_thrown_14 : decode cX11_thrown 14 = .ok (.invokestatic 81, 3) := by decide +kernel
theorem dX11_thrown_17 : decode cX11_thrown 17 = .ok (.ifCond .ne 5, 3) := by decide +kernel
theorem dX11_thrown_20 : decode cX11_thrown 20 = .ok (.iconst (-1), 1) := by decide +kernel
theorem dX11_thrown_21 : decode cX11_thrown 21 = .ok (.ireturn, 1) := by decide +kernel
theorem dX11_thrown_22 : decode cX11_thrown 22 = .ok (.aload_n 0, 1) := by decide +kernel
theorem dX11_thrown_23 : decode cX11_thrown 23 = .ok (.getfield 26, 3) := by decide +kernel
theorem dX11_thrown_26 : decode cX11_thrown 26 = .ok (.iload_n 1, 1) := by decide +kernel
theorem dX11_thrown_27 : decode cX11_thrown 27 = .ok (.invokevirtual 158, 3) := by decide +kernel
theorem dX11_thrown_30 : decode cX11_thrown 30 = .ok (.aload_n 0, 1) := by decide +kernel
theorem dX11_thrown_31 : decode cX11_thrown 31 = .ok (.getfield 26, 3) := by decide +kernel
theorem dX11_thrown_34 : decode cX11_thrown 34 = .ok (.invokevirtual 175, 3) := by decide +kernel
theorem dX11_thrown_37 : decode cX11_thrown 37 = .ok (.istore_n 3, 1) := by decide +kernel
theorem dX11_thrown_38 : decode cX11_thrown 38 = .ok (.iload_n 2, 1) := by decide +kernel
theorem dX11_thrown_39 : decode cX11_thrown 39 = .ok (.ifCond .ne 7, 3) := by decide +kernel
theorem dX11_thrown_42 : decode cX11_thrown 42 = .ok (.iload_n 3, 1) := by decide +kernel
theorem dX11_thrown_43 : decode cX11_thrown 43 = .ok (.goto 11, 3) := by decide +kernel
theorem dX11_thrown_46 : decode cX11_thrown 46 = .ok (.aload_n 0, 1) := by decide +kernel
theorem dX11_thrown_47 : decode cX11_thrown 47 = .ok (.getfield 26, 3) := by decide +kernel
theorem dX11_thrown_50 : decode cX11_thrown 50 = .ok (.iload_n 3, 1) := by decide +kernel
theorem dX11_thrown_51 : decode cX11_thrown 51 = .ok (.invokevirtual 172, 3) := by decide +kernel
theorem dX11_thrown_54 : decode cX11_thrown 54 = .ok (.ireturn, 1) := by decide +kernel
theorem dX11_hidden_0 : decode cX11_hidden 0 = .ok (.aload_n 0, 1) := by decide +kernel
theorem dX11_hidden_1 : decode cX11_hidden 1 = .ok (.iload_n 1, 1) := by decide +kernel
theorem dX11_hidden_2 : decode cX11_hidden 2 = .ok (.iload_n 2, 1) := by decide +kernel
theorem dX11_hidden_3 : decode cX11_hidden 3 = .ok (.invokevirtual 168, 3) := by decide +kernel
theorem dX11_hidden_6 : decode cX11_hidden 6 = .ok (.ifCond .ne 5, 3) := by decide +kernel
theorem dX11_hidden_9 : decode cX11_hidden 9 = .ok (.iconst (-1), 1) := by decide +kernel
theorem dX11_hidden_10 : decode cX11_hidden 10 = .ok (.ireturn, 1) := by decide +kernel
theorem dX11_hidden_11 : decode cX11_hidden 11 = .ok (.aload_n 0, 1) := by decide +kernel
theorem dX11_hidden_12 : decode cX11_hidden 12 = .ok (.getfield 26, 3) := by decide +kernel
theorem dX11_hidden_15 : decode cX11_hidden 15 = .ok (.iload_n 1, 1) := by decide +kernel
theorem dX11_hidden_16 : decode cX11_hidden 16 = .ok (.invokevirtual 158, 3) := by decide +kernel
theorem dX11_hidden_19 : decode cX11_hidden 19 = .ok (.aload_n 0, 1) := by decide +kernel
theorem dX11_hidden_20 : decode cX11_hidden 20 = .ok (.getfield 26, 3) := by decide +kernel
theorem dX11_hidden_23 : decode cX11_hidden 23 = .ok (.iload_n 2, 1) := by decide +kernel
theorem dX11_hidden_24 : decode cX11_hidden 24 = .ok (.invokevirtual 178, 3) := by decide +kernel
theorem dX11_hidden_27 : decode cX11_hidden 27 = .ok (.ireturn, 1) := by decide +kernel
theorem dX11_safe_0 : decode cX11_safe 0 = .ok (.aload_n 0, 1) := by decide +kernel
theorem dX11_safe_1 : decode cX11_safe 1 = .ok (.getfield 34, 3) := by decide +kernel
theorem dX11_safe_4 : decode cX11_safe 4 = .ok (.iload_n 1, 1) := by decide +kernel
theorem dX11_safe_5 : decode cX11_safe 5 = .ok (.invokevirtual 116, 3) := by decide +kernel
theorem dX11_safe_8 : decode cX11_safe 8 = .ok (.ifCond .eq 12, 3) := by decide +kernel
theorem dX11_safe_11 : decode cX11_safe 11 = .ok (.iload_n 2, 1) := by decide +kernel
theorem dX11_safe_12 : decode cX11_safe 12 = .ok (.iconst 0, 1) := by decide +kernel
theorem dX11_safe_13 : decode cX11_safe 13 = .ok (.iconst 3, 1) := by decide +kernel
theorem dX11_safe_14 : decode cX11_safe 14 = .ok (.invokestatic 81, 3) := by decide +kernel
theorem dX11_safe_17 : decode cX11_safe 17 = .ok (.ifCond .ne 5, 3) := by decide +kernel
theorem dX11_safe_20 : decode cX11_safe 20 = .ok (.iconst (-1), 1) := by decide +kernel
theorem dX11_safe_21 : decode cX11_safe 21 = .ok (.ireturn, 1) := by decide +kernel
theorem dX11_safe_22 : decode cX11_safe 22 = .ok (.aload_n 0, 1) := by decide +kernel
theorem dX11_safe_23 : decode cX11_safe 23 = .ok (.getfield 44, 3) := by decide +kernel
theorem dX11_safe_26 : decode cX11_safe 26 = .ok (.aload_n 0, 1) := by decide +kernel
theorem dX11_safe_27 : decode cX11_safe 27 = .ok (.getfield 26, 3) := by decide +kernel
theorem dX11_safe_30 : decode cX11_safe 30 = .ok (.iload_n 1, 1) := by decide +kernel
theorem dX11_safe_31 : decode cX11_safe 31 = .ok (.invokevirtual 181, 3) := by decide +kernel
theorem dX11_safe_34 : decode cX11_safe 34 = .ok (.aload_n 0, 1) := by decide +kernel
theorem dX11_safe_35 : decode cX11_safe 35 = .ok (.getfield 44, 3) := by decide +kernel
theorem dX11_safe_38 : decode cX11_safe 38 = .ok (.getfield 185, 3) := by decide +kernel
theorem dX11_safe_41 : decode cX11_safe 41 = .ok (.ifCond .ne 6, 3) := by decide +kernel
theorem dX11_safe_44 : decode cX11_safe 44 = .ok (.bipush (-4), 2) := by decide +kernel
theorem dX11_safe_46 : decode cX11_safe 46 = .ok (.ireturn, 1) := by decide +kernel
theorem dX11_safe_47 : decode cX11_safe 47 = .ok (.iload_n 2, 1) := by decide +kernel
theorem dX11_safe_48 : decode cX11_safe 48 = .ok (.tableswitch 52 0 2 #[28, 36, 44], 28) := by decide +kernel
theorem dX11_safe_76 : decode cX11_safe 76 = .ok (.aload_n 0, 1) := by decide +kernel
theorem dX11_safe_77 : decode cX11_safe 77 = .ok (.getfield 44, 3) := by decide +kernel
theorem dX11_safe_80 : decode cX11_safe 80 = .ok (.getfield 189, 3) := by decide +kernel
theorem dX11_safe_83 : decode cX11_safe 83 = .ok (.ireturn, 1) := by decide +kernel
theorem dX11_safe_84 : decode cX11_safe 84 = .ok (.aload_n 0, 1) := by decide +kernel
theorem dX11_safe_85 : decode cX11_safe 85 = .ok (.getfield 44, 3) := by decide +kernel
theorem dX11_safe_88 : decode cX11_safe 88 = .ok (.getfield 190, 3) := by decide +kernel
theorem dX11_safe_91 : decode cX11_safe 91 = .ok (.ireturn, 1) := by decide +kernel
theorem dX11_safe_92 : decode cX11_safe 92 = .ok (.aload_n 0, 1) := by decide +kernel
theorem dX11_safe_93 : decode cX11_safe 93 = .ok (.getfield 44, 3) := by decide +kernel
theorem dX11_safe_96 : decode cX11_safe 96 = .ok (.getfield 191, 3) := by decide +kernel
theorem dX11_safe_99 : decode cX11_safe 99 = .ok (.ireturn, 1) := by decide +kernel
theorem dX11_safe_100 : decode cX11_safe 100 = .ok (.aload_n 0, 1) := by decide +kernel
theorem dX11_safe_101 : decode cX11_safe 101 = .ok (.getfield 44, 3) := by decide +kernel
theorem dX11_safe_104 : decode cX11_safe 104 = .ok (.getfield 192, 3) := by decide +kernel
theorem dX11_safe_107 : decode cX11_safe 107 = .ok (.ireturn, 1) := by decide +kernel
theorem dX11_run_0 : decode cX11_run 0 = .ok (.aload_n 0, 1) := by decide +kernel
theorem dX11_run_1 : decode cX11_run 1 = .ok (.iload_n 1, 1) := by decide +kernel
theorem dX11_run_2 : decode cX11_run 2 = .ok (.iload_n 2, 1) := by decide +kernel
theorem dX11_run_3 : decode cX11_run 3 = .ok (.invokevirtual 168, 3) := by decide +kernel
theorem dX11_run_6 : decode cX11_run 6 = .ok (.ifCond .eq 12, 3) := by decide +kernel
theorem dX11_run_9 : decode cX11_run 9 = .ok (.iload_n 3, 1) := by decide +kernel
theorem dX11_run_10 : decode cX11_run 10 = .ok (.iconst 0, 1) := by decide +kernel
theorem dX11_run_11 : decode cX11_run 11 = .ok (.iconst 1, 1) := by decide +kernel
theorem dX11_run_12 : decode cX11_run 12 = .ok (.invokestatic 81, 3) := by decide +kernel
theorem dX11_run_15 : decode cX11_run 15 = .ok (.ifCond .ne 5, 3) := by decide +kernel
theorem dX11_run_18 : decode cX11_run 18 = .ok (.iconst (-1), 1) := by decide +kernel
theorem dX11_run_19 : decode cX11_run 19 = .ok (.ireturn, 1) := by decide +kernel
theorem dX11_run_20 : decode cX11_run 20 = .ok (.aload_n 0, 1) := by decide +kernel
theorem dX11_run_21 : decode cX11_run 21 = .ok (.getfield 26, 3) := by decide +kernel
theorem dX11_run_24 : decode cX11_run 24 = .ok (.iload_n 1, 1) := by decide +kernel
theorem dX11_run_25 : decode cX11_run 25 = .ok (.invokevirtual 158, 3) := by decide +kernel
theorem dX11_run_28 : decode cX11_run 28 = .ok (.iconst 0, 1) := by decide +kernel
theorem dX11_run_29 : decode cX11_run 29 = .ok (.istore 4, 2) := by decide +kernel
theorem dX11_run_31 : decode cX11_run 31 = .ok (.bipush 11, 2) := by decide +kernel
theorem dX11_run_33 : decode cX11_run 33 = .ok (.istore 5, 2) := by decide +kernel
theorem dX11_run_35 : decode cX11_run 35 = .ok (.iconst 0, 1) := by decide +kernel
theorem dX11_run_36 : decode cX11_run 36 = .ok (.istore 6, 2) := by decide +kernel
theorem dX11_run_38 : decode cX11_run 38 = .ok (.iload 6, 2) := by decide +kernel
theorem dX11_run_40 : decode cX11_run 40 = .ok (.iconst 4, 1) := by decide +kernel
theorem dX11_run_41 : decode cX11_run 41 = .ok (.if_icmp .ge 59, 3) := by decide +kernel
theorem dX11_run_44 : decode cX11_run 44 = .ok (.aload_n 0, 1) := by decide +kernel
theorem dX11_run_45 : decode cX11_run 45 = .ok (.getfield 26, 3) := by decide +kernel
theorem dX11_run_48 : decode cX11_run 48 = .ok (.iload_n 2, 1) := by decide +kernel
theorem dX11_run_49 : decode cX11_run 49 = .ok (.iload 6, 2) := by decide +kernel
theorem dX11_run_51 : decode cX11_run 51 = .ok (.invokevirtual 195, 3) := by decide +kernel
theorem dX11_run_54 : decode cX11_run 54 = .ok (.aload_n 0, 1) := by decide +kernel
theorem dX11_run_55 : decode cX11_run 55 = .ok (.getfield 26, 3) := by decide +kernel
theorem dX11_run_58 : decode cX11_run 58 = .ok (.invokevirtual 175, 3) := by decide +kernel
theorem dX11_run_61 : decode cX11_run 61 = .ok (.iload_n 2, 1) := by decide +kernel
theorem dX11_run_62 : decode cX11_run 62 = .ok (.if_icmp .ne 14, 3) := by decide +kernel
theorem dX11_run_65 : decode cX11_run 65 = .ok (.aload_n 0, 1) := by decide +kernel
theorem dX11_run_66 : decode cX11_run 66 = .ok (.getfield 26, 3) := by decide +kernel
theorem dX11_run_69 : decode cX11_run 69 = .ok (.iload_n 2, 1) := by decide +kernel
theorem dX11_run_70 : decode cX11_run 70 = .ok (.invokevirtual 172, 3) := by decide +kernel
theorem dX11_run_73 : decode cX11_run 73 = .ok (.goto 4, 3) := by decide +kernel
theorem dX11_run_76 : decode cX11_run 76 = .ok (.iconst 0, 1) := by decide +kernel
theorem dX11_run_77 : decode cX11_run 77 = .ok (.istore 7, 2) := by decide +kernel
theorem dX11_run_79 : decode cX11_run 79 = .ok (.iload 7, 2) := by decide +kernel
theorem dX11_run_81 : decode cX11_run 81 = .ok (.iload 5, 2) := by decide +kernel
theorem dX11_run_83 : decode cX11_run 83 = .ok (.if_icmp .ge 11, 3) := by decide +kernel
theorem dX11_run_86 : decode cX11_run 86 = .ok (.iload 7, 2) := by decide +kernel
theorem dX11_run_88 : decode cX11_run 88 = .ok (.istore 5, 2) := by decide +kernel
theorem dX11_run_90 : decode cX11_run 90 = .ok (.iload 6, 2) := by decide +kernel
theorem dX11_run_92 : decode cX11_run 92 = .ok (.istore 4, 2) := by decide +kernel
theorem dX11_run_94 : decode cX11_run 94 = .ok (.iinc 6 1, 3) := by decide +kernel
theorem dX11_run_97 : decode cX11_run 97 = .ok (.goto (-59), 3) := by decide +kernel
theorem dX11_run_100 : decode cX11_run 100 = .ok (.iload_n 3, 1) := by decide +kernel
theorem dX11_run_101 : decode cX11_run 101 = .ok (.ifCond .ne 8, 3) := by decide +kernel
theorem dX11_run_104 : decode cX11_run 104 = .ok (.iload 4, 2) := by decide +kernel
theorem dX11_run_106 : decode cX11_run 106 = .ok (.goto 5, 3) := by decide +kernel
theorem dX11_run_109 : decode cX11_run 109 = .ok (.iload 5, 2) := by decide +kernel
theorem dX11_run_111 : decode cX11_run 111 = .ok (.ireturn, 1) := by decide +kernel
theorem dX11_first_0 : decode cX11_first 0 = .ok (.aload_n 0, 1) := by decide +kernel
theorem dX11_first_1 : decode cX11_first 1 = .ok (.getfield 34, 3) := by decide +kernel
theorem dX11_first_4 : decode cX11_first 4 = .ok (.iload_n 1, 1) := by decide +kernel
theorem dX11_first_5 : decode cX11_first 5 = .ok (.invokevirtual 116, 3) := by decide +kernel
theorem dX11_first_8 : decode cX11_first 8 = .ok (.ifCond .eq 23, 3) := by decide +kernel
theorem dX11_first_11 : decode cX11_first 11 = .ok (.aload_n 0, 1) := by decide +kernel
theorem dX11_first_12 : decode cX11_first 12 = .ok (.getfield 34, 3) := by decide +kernel
theorem dX11_first_15 : decode cX11_first 15 = .ok (.iload_n 2, 1) := by decide +kernel
theorem dX11_first_16 : decode cX11_first 16 = .ok (.invokevirtual 116, 3) := by decide +kernel
theorem dX11_first_19 : decode cX11_first 19 = .ok (.ifCond .eq 12, 3) := by decide +kernel
theorem dX11_first_22 : decode cX11_first 22 = .ok (.iload_n 3, 1) := by decide +kernel
theorem dX11_first_23 : decode cX11_first 23 = .ok (.iconst 0, 1) := by decide +kernel
theorem dX11_first_24 : decode cX11_first 24 = .ok (.iconst 1, 1) := by decide +kernel
theorem dX11_first_25 : decode cX11_first 25 = .ok (.invokestatic 81, 3) := by decide +kernel
theorem dX11_first_28 : decode cX11_first 28 = .ok (.ifCond .ne 7, 3) := by decide +kernel
theorem dX11_first_31 : decode cX11_first 31 = .ok (.ldc2_w 199, 3) := by decide +kernel
theorem dX11_first_34 : decode cX11_first 34 = .ok (.lreturn, 1) := by decide +kernel
theorem dX11_first_35 : decode cX11_first 35 = .ok (.aload_n 0, 1) := by decide +kernel
theorem dX11_first_36 : decode cX11_first 36 = .ok (.getfield 51, 3) := by decide +kernel
theorem dX11_first_39 : decode cX11_first 39 = .ok (.aload_n 0, 1) := by decide +kernel
theorem dX11_first_40 : decode cX11_first 40 = .ok (.getfield 26, 3) := by decide +kernel
theorem dX11_first_43 : decode cX11_first 43 = .ok (.invokevirtual 201, 3) := by decide +kernel
theorem dX11_first_46 : decode cX11_first 46 = .ok (.aload_n 0, 1) := by decide +kernel
theorem dX11_first_47 : decode cX11_first 47 = .ok (.getfield 51, 3) := by decide +kernel
theorem dX11_first_50 : decode cX11_first 50 = .ok (.aload_n 0, 1) := by decide +kernel
theorem dX11_first_51 : decode cX11_first 51 = .ok (.getfield 34, 3) := by decide +kernel
theorem dX11_first_54 : decode cX11_first 54 = .ok (.iload_n 1, 1) := by decide +kernel
theorem dX11_first_55 : decode cX11_first 55 = .ok (.invokevirtual 205, 3) := by decide +kernel
theorem dX11_first_58 : decode cX11_first 58 = .ok (.aload_n 0, 1) := by decide +kernel
theorem dX11_first_59 : decode cX11_first 59 = .ok (.getfield 51, 3) := by decide +kernel
theorem dX11_first_62 : decode cX11_first 62 = .ok (.iload_n 2, 1) := by decide +kernel
theorem dX11_first_63 : decode cX11_first 63 = .ok (.invokevirtual 209, 3) := by decide +kernel
theorem dX11_first_66 : decode cX11_first 66 = .ok (.iload_n 3, 1) := by decide +kernel
theorem dX11_first_67 : decode cX11_first 67 = .ok (.invokestatic 213, 3) := by decide +kernel
theorem dX11_first_70 : decode cX11_first 70 = .ok (.lreturn, 1) := by decide +kernel
theorem dX11_rounds_0 : decode cX11_rounds 0 = .ok (.aload_n 0, 1) := by decide +kernel
theorem dX11_rounds_1 : decode cX11_rounds 1 = .ok (.getfield 34, 3) := by decide +kernel
theorem dX11_rounds_4 : decode cX11_rounds 4 = .ok (.iload_n 1, 1) := by decide +kernel
theorem dX11_rounds_5 : decode cX11_rounds 5 = .ok (.invokevirtual 116, 3) := by decide +kernel
theorem dX11_rounds_8 : decode cX11_rounds 8 = .ok (.ifCond .eq 12, 3) := by decide +kernel
theorem dX11_rounds_11 : decode cX11_rounds 11 = .ok (.iload_n 2, 1) := by decide +kernel
theorem dX11_rounds_12 : decode cX11_rounds 12 = .ok (.iconst 0, 1) := by decide +kernel
theorem dX11_rounds_13 : decode cX11_rounds 13 = .ok (.iconst 1, 1) := by decide +kernel
theorem dX11_rounds_14 : decode cX11_rounds 14 = .ok (.invokestatic 81, 3) := by decide +kernel
theorem dX11_rounds_17 : decode cX11_rounds 17 = .ok (.ifCond .ne 7, 3) := by decide +kernel
theorem dX11_rounds_20 : decode cX11_rounds 20 = .ok (.ldc2_w 199, 3) := by decide +kernel
theorem dX11_rounds_23 : decode cX11_rounds 23 = .ok (.lreturn, 1) := by decide +kernel
theorem dX11_rounds_24 : decode cX11_rounds 24 = .ok (.aload_n 0, 1) := by decide +kernel
theorem dX11_rounds_25 : decode cX11_rounds 25 = .ok (.getfield 51, 3) := by decide +kernel
theorem dX11_rounds_28 : decode cX11_rounds 28 = .ok (.aload_n 0, 1) := by decide +kernel
theorem dX11_rounds_29 : decode cX11_rounds 29 = .ok (.getfield 26, 3) := by decide +kernel
theorem dX11_rounds_32 : decode cX11_rounds 32 = .ok (.invokevirtual 201, 3) := by decide +kernel
theorem dX11_rounds_35 : decode cX11_rounds 35 = .ok (.aload_n 0, 1) := by decide +kernel
theorem dX11_rounds_36 : decode cX11_rounds 36 = .ok (.getfield 51, 3) := by decide +kernel
theorem dX11_rounds_39 : decode cX11_rounds 39 = .ok (.aload_n 0, 1) := by decide +kernel
theorem dX11_rounds_40 : decode cX11_rounds 40 = .ok (.getfield 34, 3) := by decide +kernel
theorem dX11_rounds_43 : decode cX11_rounds 43 = .ok (.iload_n 1, 1) := by decide +kernel
theorem dX11_rounds_44 : decode cX11_rounds 44 = .ok (.invokevirtual 205, 3) := by decide +kernel
theorem dX11_rounds_47 : decode cX11_rounds 47 = .ok (.aload_n 0, 1) := by decide +kernel
theorem dX11_rounds_48 : decode cX11_rounds 48 = .ok (.getfield 51, 3) := by decide +kernel
theorem dX11_rounds_51 : decode cX11_rounds 51 = .ok (.getfield 217, 3) := by decide +kernel
theorem dX11_rounds_54 : decode cX11_rounds 54 = .ok (.iload_n 2, 1) := by decide +kernel
theorem dX11_rounds_55 : decode cX11_rounds 55 = .ok (.invokestatic 213, 3) := by decide +kernel
theorem dX11_rounds_58 : decode cX11_rounds 58 = .ok (.lreturn, 1) := by decide +kernel
theorem dX11_call_0 : decode cX11_call 0 = .ok (.aload_n 0, 1) := by decide +kernel
theorem dX11_call_1 : decode cX11_call 1 = .ok (.getfield 34, 3) := by decide +kernel
theorem dX11_call_4 : decode cX11_call 4 = .ok (.iload_n 1, 1) := by decide +kernel
theorem dX11_call_5 : decode cX11_call 5 = .ok (.invokevirtual 116, 3) := by decide +kernel
theorem dX11_call_8 : decode cX11_call 8 = .ok (.ifCond .eq 41, 3) := by decide +kernel
theorem dX11_call_11 : decode cX11_call 11 = .ok (.aload_n 0, 1) := by decide +kernel
theorem dX11_call_12 : decode cX11_call 12 = .ok (.getfield 34, 3) := by decide +kernel
theorem dX11_call_15 : decode cX11_call 15 = .ok (.iload_n 2, 1) := by decide +kernel
theorem dX11_call_16 : decode cX11_call 16 = .ok (.invokevirtual 116, 3) := by decide +kernel
theorem dX11_call_19 : decode cX11_call 19 = .ok (.ifCond .eq 30, 3) := by decide +kernel
theorem dX11_call_22 : decode cX11_call 22 = .ok (.iload_n 1, 1) := by decide +kernel
theorem dX11_call_23 : decode cX11_call 23 = .ok (.iload_n 2, 1) := by decide +kernel
theorem dX11_call_24 : decode cX11_call 24 = .ok (.if_icmp .eq 25, 3) := by decide +kernel
theorem dX11_call_27 : decode cX11_call 27 = .ok (.aload_n 0, 1) := by decide +kernel
theorem dX11_call_28 : decode cX11_call 28 = .ok (.getfield 34, 3) := by decide +kernel
theorem dX11_call_31 : decode cX11_call 31 = .ok (.iload_n 3, 1) := by decide +kernel
theorem dX11_call_32 : decode cX11_call 32 = .ok (.invokevirtual 221, 3) := by decide +kernel
theorem dX11_call_35 : decode cX11_call 35 = .ok (.ifCond .eq 14, 3) := by decide +kernel
theorem dX11_call_38 : decode cX11_call 38 = .ok (.iload 4, 2) := by decide +kernel
theorem dX11_call_40 : decode cX11_call 40 = .ok (.iconst 1, 1) := by decide +kernel
theorem dX11_call_41 : decode cX11_call 41 = .ok (.bipush 9, 2) := by decide +kernel
theorem dX11_call_43 : decode cX11_call 43 = .ok (.invokestatic 81, 3) := by decide +kernel
theorem dX11_call_46 : decode cX11_call 46 = .ok (.ifCond .ne 5, 3) := by decide +kernel
theorem dX11_call_49 : decode cX11_call 49 = .ok (.iconst (-1), 1) := by decide +kernel
theorem dX11_call_50 : decode cX11_call 50 = .ok (.ireturn, 1) := by decide +kernel
theorem dX11_call_51 : decode cX11_call 51 = .ok (.aload_n 0, 1) := by decide +kernel
theorem dX11_call_52 : decode cX11_call 52 = .ok (.getfield 67, 3) := by decide +kernel
theorem dX11_call_55 : decode cX11_call 55 = .ok (.aload_n 0, 1) := by decide +kernel
theorem dX11_call_56 : decode cX11_call 56 = .ok (.getfield 34, 3) := by decide +kernel
theorem dX11_call_59 : decode cX11_call 59 = .ok (.invokevirtual 224, 3) := by decide +kernel
theorem dX11_call_62 : decode cX11_call 62 = .ok (.aload_n 0, 1) := by decide +kernel
theorem dX11_call_63 : decode cX11_call 63 = .ok (.getfield 34, 3) := by decide +kernel
theorem dX11_call_66 : decode cX11_call 66 = .ok (.iload_n 1, 1) := by decide +kernel
theorem dX11_call_67 : decode cX11_call 67 = .ok (.invokevirtual 119, 3) := by decide +kernel
theorem dX11_call_70 : decode cX11_call 70 = .ok (.getfield 140, 3) := by decide +kernel
theorem dX11_call_73 : decode cX11_call 73 = .ok (.iload_n 2, 1) := by decide +kernel
theorem dX11_call_74 : decode cX11_call 74 = .ok (.iload_n 3, 1) := by decide +kernel
theorem dX11_call_75 : decode cX11_call 75 = .ok (.iload 4, 2) := by decide +kernel
theorem dX11_call_77 : decode cX11_call 77 = .ok (.invokevirtual 227, 3) := by decide +kernel
theorem dX11_call_80 : decode cX11_call 80 = .ok (.aload_n 0, 1) := by decide +kernel
theorem dX11_call_81 : decode cX11_call 81 = .ok (.getfield 67, 3) := by decide +kernel
theorem dX11_call_84 : decode cX11_call 84 = .ok (.getfield 231, 3) := by decide +kernel
theorem dX11_call_87 : decode cX11_call 87 = .ok (.ireturn, 1) := by decide +kernel
theorem dX11_letters_0 : decode cX11_letters 0 = .ok (.aload_n 0, 1) := by decide +kernel
theorem dX11_letters_1 : decode cX11_letters 1 = .ok (.getfield 34, 3) := by decide +kernel
theorem dX11_letters_4 : decode cX11_letters 4 = .ok (.iload_n 1, 1) := by decide +kernel
theorem dX11_letters_5 : decode cX11_letters 5 = .ok (.invokevirtual 116, 3) := by decide +kernel
theorem dX11_letters_8 : decode cX11_letters 8 = .ok (.ifCond .eq 12, 3) := by decide +kernel
theorem dX11_letters_11 : decode cX11_letters 11 = .ok (.iload_n 2, 1) := by decide +kernel
theorem dX11_letters_12 : decode cX11_letters 12 = .ok (.iconst 0, 1) := by decide +kernel
theorem dX11_letters_13 : decode cX11_letters 13 = .ok (.iconst 3, 1) := by decide +kernel
theorem dX11_letters_14 : decode cX11_letters 14 = .ok (.invokestatic 81, 3) := by decide +kernel
theorem dX11_letters_17 : decode cX11_letters 17 = .ok (.ifCond .ne 5, 3) := by decide +kernel
theorem dX11_letters_20 : decode cX11_letters 20 = .ok (.iconst (-1), 1) := by decide +kernel
theorem dX11_letters_21 : decode cX11_letters 21 = .ok (.ireturn, 1) := by decide +kernel
theorem dX11_letters_22 : decode cX11_letters 22 = .ok (.aload_n 0, 1) := by decide +kernel
theorem dX11_letters_23 : decode cX11_letters 23 = .ok (.getfield 67, 3) := by decide +kernel
theorem dX11_letters_26 : decode cX11_letters 26 = .ok (.aload_n 0, 1) := by decide +kernel
theorem dX11_letters_27 : decode cX11_letters 27 = .ok (.getfield 34, 3) := by decide +kernel
theorem dX11_letters_30 : decode cX11_letters 30 = .ok (.invokevirtual 224, 3) := by decide +kernel
theorem dX11_letters_33 : decode cX11_letters 33 = .ok (.aload_n 0, 1) := by decide +kernel
theorem dX11_letters_34 : decode cX11_letters 34 = .ok (.getfield 34, 3) := by decide +kernel
theorem dX11_letters_37 : decode cX11_letters 37 = .ok (.iload_n 1, 1) := by decide +kernel
theorem dX11_letters_38 : decode cX11_letters 38 = .ok (.invokevirtual 119, 3) := by decide +kernel
theorem dX11_letters_41 : decode cX11_letters 41 = .ok (.getfield 140, 3) := by decide +kernel
theorem dX11_letters_44 : decode cX11_letters 44 = .ok (.astore_n 3, 1) := by decide +kernel
theorem dX11_letters_45 : decode cX11_letters 45 = .ok (.aload_n 3, 1) := by decide +kernel
theorem dX11_letters_46 : decode cX11_letters 46 = .ok (.getfield 144, 3) := by decide +kernel
theorem dX11_letters_49 : decode cX11_letters 49 = .ok (.istore 4, 2) := by decide +kernel
theorem dX11_letters_51 : decode cX11_letters 51 = .ok (.aload_n 3, 1) := by decide +kernel
theorem dX11_letters_52 : decode cX11_letters 52 = .ok (.iload_n 2, 1) := by decide +kernel
theorem dX11_letters_53 : decode cX11_letters 53 = .ok (.putfield 144, 3) := by decide +kernel
theorem dX11_letters_56 : decode cX11_letters 56 = .ok (.iload 4, 2) := by decide +kernel
theorem dX11_letters_58 : decode cX11_letters 58 = .ok (.ireturn, 1) := by decide +kernel
theorem dX11_undo_0 : decode cX11_undo 0 = .ok (.aload_n 0, 1) := by decide +kernel
theorem dX11_undo_1 : decode cX11_undo 1 = .ok (.getfield 67, 3) := by decide +kernel
theorem dX11_undo_4 : decode cX11_undo 4 = .ok (.getfield 231, 3) := by decide +kernel
theorem dX11_undo_7 : decode cX11_undo 7 = .ok (.ifCond .ne 6, 3) := by decide +kernel
theorem dX11_undo_10 : decode cX11_undo 10 = .ok (.bipush (-2), 2) := by decide +kernel
theorem dX11_undo_12 : decode cX11_undo 12 = .ok (.ireturn, 1) := by decide +kernel
theorem dX11_undo_13 : decode cX11_undo 13 = .ok (.aload_n 0, 1) := by decide +kernel
theorem dX11_undo_14 : decode cX11_undo 14 = .ok (.getfield 67, 3) := by decide +kernel
theorem dX11_undo_17 : decode cX11_undo 17 = .ok (.aload_n 0, 1) := by decide +kernel
theorem dX11_undo_18 : decode cX11_undo 18 = .ok (.getfield 34, 3) := by decide +kernel
theorem dX11_undo_21 : decode cX11_undo 21 = .ok (.invokevirtual 232, 3) := by decide +kernel
theorem dX11_undo_24 : decode cX11_undo 24 = .ok (.aload_n 0, 1) := by decide +kernel
theorem dX11_undo_25 : decode cX11_undo 25 = .ok (.getfield 67, 3) := by decide +kernel
theorem dX11_undo_28 : decode cX11_undo 28 = .ok (.getfield 231, 3) := by decide +kernel
theorem dX11_undo_31 : decode cX11_undo 31 = .ok (.ireturn, 1) := by decide +kernel
theorem dX11_seen_0 : decode cX11_seen 0 = .ok (.aload_n 0, 1) := by decide +kernel
theorem dX11_seen_1 : decode cX11_seen 1 = .ok (.getfield 34, 3) := by decide +kernel
theorem dX11_seen_4 : decode cX11_seen 4 = .ok (.iload_n 1, 1) := by decide +kernel
theorem dX11_seen_5 : decode cX11_seen 5 = .ok (.invokevirtual 116, 3) := by decide +kernel
theorem dX11_seen_8 : decode cX11_seen 8 = .ok (.ifCond .eq 25, 3) := by decide +kernel
theorem dX11_seen_11 : decode cX11_seen 11 = .ok (.aload_n 0, 1) := by decide +kernel
theorem dX11_seen_12 : decode cX11_seen 12 = .ok (.getfield 34, 3) := by decide +kernel
theorem dX11_seen_15 : decode cX11_seen 15 = .ok (.iload_n 2, 1) := by decide +kernel
theorem dX11_seen_16 : decode cX11_seen 16 = .ok (.invokevirtual 116, 3) := by decide +kernel
theorem dX11_seen_19 : decode cX11_seen 19 = .ok (.ifCond .eq 14, 3) := by decide +kernel
theorem dX11_seen_22 : decode cX11_seen 22 = .ok (.aload_n 0, 1) := by decide +kernel
theorem dX11_seen_23 : decode cX11_seen 23 = .ok (.getfield 34, 3) := by decide +kernel
theorem dX11_seen_26 : decode cX11_seen 26 = .ok (.iload_n 3, 1) := by decide +kernel
theorem dX11_seen_27 : decode cX11_seen 27 = .ok (.invokevirtual 221, 3) := by decide +kernel
theorem dX11_seen_30 : decode cX11_seen 30 = .ok (.ifCond .ne 5, 3) := by decide +kernel
theorem dX11_seen_33 : decode cX11_seen 33 = .ok (.iconst (-1), 1) := by decide +kernel
theorem dX11_seen_34 : decode cX11_seen 34 = .ok (.ireturn, 1) := by decide +kernel
theorem dX11_seen_35 : decode cX11_seen 35 = .ok (.aload_n 0, 1) := by decide +kernel
theorem dX11_seen_36 : decode cX11_seen 36 = .ok (.getfield 58, 3) := by decide +kernel
theorem dX11_seen_39 : decode cX11_seen 39 = .ok (.getfield 235, 3) := by decide +kernel
theorem dX11_seen_42 : decode cX11_seen 42 = .ok (.bipush 8, 2) := by decide +kernel
theorem dX11_seen_44 : decode cX11_seen 44 = .ok (.if_icmp .ge 16, 3) := by decide +kernel
theorem dX11_seen_47 : decode cX11_seen 47 = .ok (.aload_n 0, 1) := by decide +kernel
theorem dX11_seen_48 : decode cX11_seen 48 = .ok (.getfield 58, 3) := by decide +kernel
theorem dX11_seen_51 : decode cX11_seen 51 = .ok (.iload_n 1, 1) := by decide +kernel
theorem dX11_seen_52 : decode cX11_seen 52 = .ok (.iload_n 2, 1) := by decide +kernel
theorem dX11_seen_53 : decode cX11_seen 53 = .ok (.iload_n 3, 1) := by decide +kernel
theorem dX11_seen_54 : decode cX11_seen 54 = .ok (.invokevirtual 236, 3) := by decide +kernel
theorem dX11_seen_57 : decode cX11_seen 57 = .ok (.goto 5, 3) := by decide +kernel
theorem dX11_seen_60 : decode cX11_seen 60 = .ok (.bipush (-3), 2) := by decide +kernel
theorem dX11_seen_62 : decode cX11_seen 62 = .ok (.ireturn, 1) := by decide +kernel
theorem dX11_forget_0 : decode cX11_forget 0 = .ok (.aload_n 0, 1) := by decide +kernel
theorem dX11_forget_1 : decode cX11_forget 1 = .ok (.getfield 58, 3) := by decide +kernel
theorem dX11_forget_4 : decode cX11_forget 4 = .ok (.invokevirtual 109, 3) := by decide +kernel
theorem dX11_forget_7 : decode cX11_forget 7 = .ok (.ireturn, 1) := by decide +kernel
theorem dX11_kinds_0 : decode cX11_kinds 0 = .ok (.aload_n 0, 1) := by decide +kernel
theorem dX11_kinds_1 : decode cX11_kinds 1 = .ok (.getfield 34, 3) := by decide +kernel
theorem dX11_kinds_4 : decode cX11_kinds 4 = .ok (.iload_n 1, 1) := by decide +kernel
theorem dX11_kinds_5 : decode cX11_kinds 5 = .ok (.invokevirtual 116, 3) := by decide +kernel
theorem dX11_kinds_8 : decode cX11_kinds 8 = .ok (.ifCond .eq 18, 3) := by decide +kernel
theorem dX11_kinds_11 : decode cX11_kinds 11 = .ok (.aload_n 0, 1) := by decide +kernel
theorem dX11_kinds_12 : decode cX11_kinds 12 = .ok (.getfield 58, 3) := by decide +kernel
theorem dX11_kinds_15 : decode cX11_kinds 15 = .ok (.iload_n 1, 1) := by decide +kernel
theorem dX11_kinds_16 : decode cX11_kinds 16 = .ok (.aload_n 0, 1) := by decide +kernel
theorem dX11_kinds_17 : decode cX11_kinds 17 = .ok (.getfield 26, 3) := by decide +kernel
theorem dX11_kinds_20 : decode cX11_kinds 20 = .ok (.invokevirtual 240, 3) := by decide +kernel
theorem dX11_kinds_23 : decode cX11_kinds 23 = .ok (.goto 4, 3) := by decide +kernel
theorem dX11_kinds_26 : decode cX11_kinds 26 = .ok (.iconst (-1), 1) := by decide +kernel
theorem dX11_kinds_27 : decode cX11_kinds 27 = .ok (.ireturn, 1) := by decide +kernel
theorem dX11_afternoon_0 : decode cX11_afternoon 0 = .ok (.iload_n 1, 1) := by decide +kernel
theorem dX11_afternoon_1 : decode cX11_afternoon 1 = .ok (.iconst 0, 1) := by decide +kernel
theorem dX11_afternoon_2 : decode cX11_afternoon 2 = .ok (.sipush 9999, 3) := by decide +kernel
theorem dX11_afternoon_5 : decode cX11_afternoon 5 = .ok (.invokestatic 81, 3) := by decide +kernel
theorem dX11_afternoon_8 : decode cX11_afternoon 8 = .ok (.ifCond .eq 12, 3) := by decide +kernel
theorem dX11_afternoon_11 : decode cX11_afternoon 11 = .ok (.iload_n 2, 1) := by decide +kernel
theorem dX11_afternoon_12 : decode cX11_afternoon 12 = .ok (.iconst 0, 1) := by decide +kernel
theorem dX11_afternoon_13 : decode cX11_afternoon 13 = .ok (.iconst 1, 1) := by decide +kernel
theorem dX11_afternoon_14 : decode cX11_afternoon 14 = .ok (.invokestatic 81, 3) := by decide +kernel
theorem dX11_afternoon_17 : decode cX11_afternoon 17 = .ok (.ifCond .ne 5, 3) := by decide +kernel
theorem dX11_afternoon_20 : decode cX11_afternoon 20 = .ok (.iconst (-1), 1) := by decide +kernel
theorem dX11_afternoon_21 : decode cX11_afternoon 21 = .ok (.ireturn, 1) := by decide +kernel
theorem dX11_afternoon_22 : decode cX11_afternoon 22 = .ok (.aload_n 0, 1) := by decide +kernel
theorem dX11_afternoon_23 : decode cX11_afternoon 23 = .ok (.getfield 51, 3) := by decide +kernel
theorem dX11_afternoon_26 : decode cX11_afternoon 26 = .ok (.aload_n 0, 1) := by decide +kernel
theorem dX11_afternoon_27 : decode cX11_afternoon 27 = .ok (.getfield 26, 3) := by decide +kernel
theorem dX11_afternoon_30 : decode cX11_afternoon 30 = .ok (.invokevirtual 201, 3) := by decide +kernel
theorem dX11_afternoon_33 : decode cX11_afternoon 33 = .ok (.aload_n 0, 1) := by decide +kernel
theorem dX11_afternoon_34 : decode cX11_afternoon 34 = .ok (.getfield 51, 3) := by decide +kernel
theorem dX11_afternoon_37 : decode cX11_afternoon 37 = .ok (.aload_n 0, 1) := by decide +kernel
theorem dX11_afternoon_38 : decode cX11_afternoon 38 = .ok (.getfield 34, 3) := by decide +kernel
theorem dX11_afternoon_41 : decode cX11_afternoon 41 = .ok (.iload_n 1, 1) := by decide +kernel
theorem dX11_afternoon_42 : decode cX11_afternoon 42 = .ok (.invokevirtual 244, 3) := by decide +kernel
theorem dX11_afternoon_45 : decode cX11_afternoon 45 = .ok (.iload_n 2, 1) := by decide +kernel
theorem dX11_afternoon_46 : decode cX11_afternoon 46 = .ok (.ifCond .ne 13, 3) := by decide +kernel
theorem dX11_afternoon_49 : decode cX11_afternoon 49 = .ok (.aload_n 0, 1) := by decide +kernel
theorem dX11_afternoon_50 : decode cX11_afternoon 50 = .ok (.getfield 51, 3) := by decide +kernel
theorem dX11_afternoon_53 : decode cX11_afternoon 53 = .ok (.getfield 247, 3) := by decide +kernel
theorem dX11_afternoon_56 : decode cX11_afternoon 56 = .ok (.goto 10, 3) := by decide +kernel
theorem dX11_afternoon_59 : decode cX11_afternoon 59 = .ok (.aload_n 0, 1) := by decide +kernel
theorem dX11_afternoon_60 : decode cX11_afternoon 60 = .ok (.getfield 51, 3) := by decide +kernel
theorem dX11_afternoon_63 : decode cX11_afternoon 63 = .ok (.getfield 250, 3) := by decide +kernel
theorem dX11_afternoon_66 : decode cX11_afternoon 66 = .ok (.ireturn, 1) := by decide +kernel
theorem dX11_keep_0 : decode cX11_keep 0 = .ok (.aload_n 0, 1) := by decide +kernel
theorem dX11_keep_1 : decode cX11_keep 1 = .ok (.getfield 71, 3) := by decide +kernel
theorem dX11_keep_4 : decode cX11_keep 4 = .ok (.getfield 231, 3) := by decide +kernel
theorem dX11_keep_7 : decode cX11_keep 7 = .ok (.iconst 2, 1) := by decide +kernel
theorem dX11_keep_8 : decode cX11_keep 8 = .ok (.if_icmp .lt 6, 3) := by decide +kernel
theorem dX11_keep_11 : decode cX11_keep 11 = .ok (.bipush (-3), 2) := by decide +kernel
theorem dX11_keep_13 : decode cX11_keep 13 = .ok (.ireturn, 1) := by decide +kernel
theorem dX11_keep_14 : decode cX11_keep 14 = .ok (.aload_n 0, 1) := by decide +kernel
theorem dX11_keep_15 : decode cX11_keep 15 = .ok (.getfield 71, 3) := by decide +kernel
theorem dX11_keep_18 : decode cX11_keep 18 = .ok (.aload_n 0, 1) := by decide +kernel
theorem dX11_keep_19 : decode cX11_keep 19 = .ok (.getfield 34, 3) := by decide +kernel
theorem dX11_keep_22 : decode cX11_keep 22 = .ok (.invokevirtual 224, 3) := by decide +kernel
theorem dX11_keep_25 : decode cX11_keep 25 = .ok (.aload_n 0, 1) := by decide +kernel
theorem dX11_keep_26 : decode cX11_keep 26 = .ok (.getfield 71, 3) := by decide +kernel
theorem dX11_keep_29 : decode cX11_keep 29 = .ok (.getfield 231, 3) := by decide +kernel
theorem dX11_keep_32 : decode cX11_keep 32 = .ok (.ireturn, 1) := by decide +kernel
theorem dX11_back_0 : decode cX11_back 0 = .ok (.aload_n 0, 1) := by decide +kernel
theorem dX11_back_1 : decode cX11_back 1 = .ok (.getfield 71, 3) := by decide +kernel
theorem dX11_back_4 : decode cX11_back 4 = .ok (.getfield 231, 3) := by decide +kernel
theorem dX11_back_7 : decode cX11_back 7 = .ok (.ifCond .ne 6, 3) := by decide +kernel
theorem dX11_back_10 : decode cX11_back 10 = .ok (.bipush (-2), 2) := by decide +kernel
theorem dX11_back_12 : decode cX11_back 12 = .ok (.ireturn, 1) := by decide +kernel
theorem dX11_back_13 : decode cX11_back 13 = .ok (.aload_n 0, 1) := by decide +kernel
theorem dX11_back_14 : decode cX11_back 14 = .ok (.getfield 71, 3) := by decide +kernel
theorem dX11_back_17 : decode cX11_back 17 = .ok (.aload_n 0, 1) := by decide +kernel
theorem dX11_back_18 : decode cX11_back 18 = .ok (.getfield 34, 3) := by decide +kernel
theorem dX11_back_21 : decode cX11_back 21 = .ok (.invokevirtual 232, 3) := by decide +kernel
theorem dX11_back_24 : decode cX11_back 24 = .ok (.aload_n 0, 1) := by decide +kernel
theorem dX11_back_25 : decode cX11_back 25 = .ok (.getfield 67, 3) := by decide +kernel
theorem dX11_back_28 : decode cX11_back 28 = .ok (.invokevirtual 110, 3) := by decide +kernel
theorem dX11_back_31 : decode cX11_back 31 = .ok (.aload_n 0, 1) := by decide +kernel
theorem dX11_back_32 : decode cX11_back 32 = .ok (.getfield 71, 3) := by decide +kernel
theorem dX11_back_35 : decode cX11_back 35 = .ok (.getfield 231, 3) := by decide +kernel
theorem dX11_back_38 : decode cX11_back 38 = .ok (.ireturn, 1) := by decide +kernel
theorem dX11_count_0 : decode cX11_count 0 = .ok (.iload_n 1, 1) := by decide +kernel
theorem dX11_count_1 : decode cX11_count 1 = .ok (.tableswitch 99 0 6 #[43, 51, 59, 67, 75, 83, 91], 43) := by decide +kernel
theorem dX11_count_44 : decode cX11_count 44 = .ok (.aload_n 0, 1) := by decide +kernel
theorem dX11_count_45 : decode cX11_count 45 = .ok (.getfield 34, 3) := by decide +kernel
theorem dX11_count_48 : decode cX11_count 48 = .ok (.getfield 112, 3) := by decide +kernel
theorem dX11_count_51 : decode cX11_count 51 = .ok (.ireturn, 1) := by decide +kernel
theorem dX11_count_52 : decode cX11_count 52 = .ok (.aload_n 0, 1) := by decide +kernel
theorem dX11_count_53 : decode cX11_count 53 = .ok (.getfield 34, 3) := by decide +kernel
theorem dX11_count_56 : decode cX11_count 56 = .ok (.getfield 253, 3) := by decide +kernel
theorem dX11_count_59 : decode cX11_count 59 = .ok (.ireturn, 1) := by decide +kernel
theorem dX11_count_60 : decode cX11_count 60 = .ok (.aload_n 0, 1) := by decide +kernel
theorem dX11_count_61 : decode cX11_count 61 = .ok (.getfield 34, 3) := by decide +kernel
theorem dX11_count_64 : decode cX11_count 64 = .ok (.getfield 256, 3) := by decide +kernel
theorem dX11_count_67 : decode cX11_count 67 = .ok (.ireturn, 1) := by decide +kernel
theorem dX11_count_68 : decode cX11_count 68 = .ok (.aload_n 0, 1) := by decide +kernel
theorem dX11_count_69 : decode cX11_count 69 = .ok (.getfield 58, 3) := by decide +kernel
theorem dX11_count_72 : decode cX11_count 72 = .ok (.getfield 235, 3) := by decide +kernel
theorem dX11_count_75 : decode cX11_count 75 = .ok (.ireturn, 1) := by decide +kernel
theorem dX11_count_76 : decode cX11_count 76 = .ok (.aload_n 0, 1) := by decide +kernel
theorem dX11_count_77 : decode cX11_count 77 = .ok (.getfield 67, 3) := by decide +kernel
theorem dX11_count_80 : decode cX11_count 80 = .ok (.getfield 231, 3) := by decide +kernel
theorem dX11_count_83 : decode cX11_count 83 = .ok (.ireturn, 1) := by decide +kernel
theorem dX11_count_84 : decode cX11_count 84 = .ok (.aload_n 0, 1) := by decide +kernel
theorem dX11_count_85 : decode cX11_count 85 = .ok (.getfield 71, 3) := by decide +kernel
theorem dX11_count_88 : decode cX11_count 88 = .ok (.getfield 231, 3) := by decide +kernel
theorem dX11_count_91 : decode cX11_count 91 = .ok (.ireturn, 1) := by decide +kernel
theorem dX11_count_92 : decode cX11_count 92 = .ok (.aload_n 0, 1) := by decide +kernel
theorem dX11_count_93 : decode cX11_count 93 = .ok (.getfield 10, 3) := by decide +kernel
theorem dX11_count_96 : decode cX11_count 96 = .ok (.getfield 259, 3) := by decide +kernel
theorem dX11_count_99 : decode cX11_count 99 = .ok (.ireturn, 1) := by decide +kernel
theorem dX11_count_100 : decode cX11_count 100 = .ok (.iconst (-1), 1) := by decide +kernel
theorem dX11_count_101 : decode cX11_count 101 = .ok (.ireturn, 1) := by decide +kernel
theorem dX11_canBeHit_0 : decode cX11_canBeHit 0 = .ok (.aload_n 0, 1) := by decide +kernel
theorem dX11_canBeHit_1 : decode cX11_canBeHit 1 = .ok (.getfield 34, 3) := by decide +kernel
theorem dX11_canBeHit_4 : decode cX11_canBeHit 4 = .ok (.iload_n 1, 1) := by decide +kernel
theorem dX11_canBeHit_5 : decode cX11_canBeHit 5 = .ok (.invokevirtual 116, 3) := by decide +kernel
theorem dX11_canBeHit_8 : decode cX11_canBeHit 8 = .ok (.ifCond .eq 36, 3) := by decide +kernel
theorem dX11_canBeHit_11 : decode cX11_canBeHit 11 = .ok (.aload_n 0, 1) := by decide +kernel
theorem dX11_canBeHit_12 : decode cX11_canBeHit 12 = .ok (.getfield 34, 3) := by decide +kernel
theorem dX11_canBeHit_15 : decode cX11_canBeHit 15 = .ok (.iload_n 2, 1) := by decide +kernel
theorem dX11_canBeHit_16 : decode cX11_canBeHit 16 = .ok (.invokevirtual 116, 3) := by decide +kernel
theorem dX11_canBeHit_19 : decode cX11_canBeHit 19 = .ok (.ifCond .eq 25, 3) := by decide +kernel
theorem dX11_canBeHit_22 : decode cX11_canBeHit 22 = .ok (.iload_n 2, 1) := by decide +kernel
theorem dX11_canBeHit_23 : decode cX11_canBeHit 23 = .ok (.aload_n 0, 1) := by decide +kernel
theorem dX11_canBeHit_24 : decode cX11_canBeHit 24 = .ok (.getfield 34, 3) := by decide +kernel
theorem dX11_canBeHit_27 : decode cX11_canBeHit 27 = .ok (.iload_n 1, 1) := by decide +kernel
theorem dX11_canBeHit_28 : decode cX11_canBeHit 28 = .ok (.invokevirtual 119, 3) := by decide +kernel
theorem dX11_canBeHit_31 : decode cX11_canBeHit 31 = .ok (.getfield 140, 3) := by decide +kernel
theorem dX11_canBeHit_34 : decode cX11_canBeHit 34 = .ok (.getfield 149, 3) := by decide +kernel
theorem dX11_canBeHit_37 : decode cX11_canBeHit 37 = .ok (.if_icmp .eq 7, 3) := by decide +kernel
theorem dX11_canBeHit_40 : decode cX11_canBeHit 40 = .ok (.iconst 1, 1) := by decide +kernel
theorem dX11_canBeHit_41 : decode cX11_canBeHit 41 = .ok (.goto 4, 3) := by decide +kernel
theorem dX11_canBeHit_44 : decode cX11_canBeHit 44 = .ok (.iconst 0, 1) := by decide +kernel
theorem dX11_canBeHit_45 : decode cX11_canBeHit 45 = .ok (.ireturn, 1) := by decide +kernel
theorem dX11_within_0 : decode cX11_within 0 = .ok (.iload_n 0, 1) := by decide +kernel
theorem dX11_within_1 : decode cX11_within 1 = .ok (.iload_n 1, 1) := by decide +kernel
theorem dX11_within_2 : decode cX11_within 2 = .ok (.if_icmp .lt 12, 3) := by decide +kernel
theorem dX11_within_5 : decode cX11_within 5 = .ok (.iload_n 0, 1) := by decide +kernel
theorem dX11_within_6 : decode cX11_within 6 = .ok (.iload_n 2, 1) := by decide +kernel
theorem dX11_within_7 : decode cX11_within 7 = .ok (.if_icmp .gt 7, 3) := by decide +kernel
theorem dX11_within_10 : decode cX11_within 10 = .ok (.iconst 1, 1) := by decide +kernel
theorem dX11_within_11 : decode cX11_within 11 = .ok (.goto 4, 3) := by decide +kernel
theorem dX11_within_14 : decode cX11_within 14 = .ok (.iconst 0, 1) := by decide +kernel
theorem dX11_within_15 : decode cX11_within 15 = .ok (.ireturn, 1) := by decide +kernel
theorem dX11_inLowestTerms_0 : decode cX11_inLowestTerms 0 = .ok (.lload_n 0, 1) := by decide +kernel
theorem dX11_inLowestTerms_1 : decode cX11_inLowestTerms 1 = .ok (.lstore_n 3, 1) := by decide +kernel
theorem dX11_inLowestTerms_2 : decode cX11_inLowestTerms 2 = .ok (.ldc2_w 262, 3) := by decide +kernel
theorem dX11_inLowestTerms_5 : decode cX11_inLowestTerms 5 = .ok (.lstore 5, 2) := by decide +kernel
theorem dX11_inLowestTerms_7 : decode cX11_inLowestTerms 7 = .ok (.iconst 0, 1) := by decide +kernel
theorem dX11_inLowestTerms_8 : decode cX11_inLowestTerms 8 = .ok (.istore 7, 2) := by decide +kernel
theorem dX11_inLowestTerms_10 : decode cX11_inLowestTerms 10 = .ok (.iload 7, 2) := by decide +kernel
theorem dX11_inLowestTerms_12 : decode cX11_inLowestTerms 12 = .ok (.bipush 16, 2) := by decide +kernel
theorem dX11_inLowestTerms_14 : decode cX11_inLowestTerms 14 = .ok (.if_icmp .ge 79, 3) := by decide +kernel
theorem dX11_inLowestTerms_17 : decode cX11_inLowestTerms 17 = .ok (.lload_n 3, 1) := by decide +kernel
theorem dX11_inLowestTerms_18 : decode cX11_inLowestTerms 18 = .ok (.ldc2_w 264, 3) := by decide +kernel
theorem dX11_inLowestTerms_21 : decode cX11_inLowestTerms 21 = .ok (.lrem, 1) := by decide +kernel
theorem dX11_inLowestTerms_22 : decode cX11_inLowestTerms 22 = .ok (.lconst 0, 1) := by decide +kernel
theorem dX11_inLowestTerms_23 : decode cX11_inLowestTerms 23 = .ok (.lcmp, 1) := by decide +kernel
theorem dX11_inLowestTerms_24 : decode cX11_inLowestTerms 24 = .ok (.ifCond .ne 28, 3) := by decide +kernel
theorem dX11_inLowestTerms_27 : decode cX11_inLowestTerms 27 = .ok (.lload 5, 2) := by decide +kernel
theorem dX11_inLowestTerms_29 : decode cX11_inLowestTerms 29 = .ok (.ldc2_w 264, 3) := by decide +kernel
theorem dX11_inLowestTerms_32 : decode cX11_inLowestTerms 32 = .ok (.lrem, 1) := by decide +kernel
theorem dX11_inLowestTerms_33 : decode cX11_inLowestTerms 33 = .ok (.lconst 0, 1) := by decide +kernel
theorem dX11_inLowestTerms_34 : decode cX11_inLowestTerms 34 = .ok (.lcmp, 1) := by decide +kernel
theorem dX11_inLowestTerms_35 : decode cX11_inLowestTerms 35 = .ok (.ifCond .ne 17, 3) := by decide +kernel
theorem dX11_inLowestTerms_38 : decode cX11_inLowestTerms 38 = .ok (.lload_n 3, 1) := by decide +kernel
theorem dX11_inLowestTerms_39 : decode cX11_inLowestTerms 39 = .ok (.ldc2_w 264, 3) := by decide +kernel
theorem dX11_inLowestTerms_42 : decode cX11_inLowestTerms 42 = .ok (.ldiv, 1) := by decide +kernel
theorem dX11_inLowestTerms_43 : decode cX11_inLowestTerms 43 = .ok (.lstore_n 3, 1) := by decide +kernel
theorem dX11_inLowestTerms_44 : decode cX11_inLowestTerms 44 = .ok (.lload 5, 2) := by decide +kernel
theorem dX11_inLowestTerms_46 : decode cX11_inLowestTerms 46 = .ok (.ldc2_w 264, 3) := by decide +kernel
theorem dX11_inLowestTerms_49 : decode cX11_inLowestTerms 49 = .ok (.ldiv, 1) := by decide +kernel
theorem dX11_inLowestTerms_50 : decode cX11_inLowestTerms 50 = .ok (.lstore 5, 2) := by decide +kernel
theorem dX11_inLowestTerms_52 : decode cX11_inLowestTerms 52 = .ok (.lload_n 3, 1) := by decide +kernel
theorem dX11_inLowestTerms_53 : decode cX11_inLowestTerms 53 = .ok (.ldc2_w 266, 3) := by decide +kernel
theorem dX11_inLowestTerms_56 : decode cX11_inLowestTerms 56 = .ok (.lrem, 1) := by decide +kernel
theorem dX11_inLowestTerms_57 : decode cX11_inLowestTerms 57 = .ok (.lconst 0, 1) := by decide +kernel
theorem dX11_inLowestTerms_58 : decode cX11_inLowestTerms 58 = .ok (.lcmp, 1) := by decide +kernel
theorem dX11_inLowestTerms_59 : decode cX11_inLowestTerms 59 = .ok (.ifCond .ne 28, 3) := by decide +kernel
theorem dX11_inLowestTerms_62 : decode cX11_inLowestTerms 62 = .ok (.lload 5, 2) := by decide +kernel
theorem dX11_inLowestTerms_64 : decode cX11_inLowestTerms 64 = .ok (.ldc2_w 266, 3) := by decide +kernel
theorem dX11_inLowestTerms_67 : decode cX11_inLowestTerms 67 = .ok (.lrem, 1) := by decide +kernel
theorem dX11_inLowestTerms_68 : decode cX11_inLowestTerms 68 = .ok (.lconst 0, 1) := by decide +kernel
theorem dX11_inLowestTerms_69 : decode cX11_inLowestTerms 69 = .ok (.lcmp, 1) := by decide +kernel
theorem dX11_inLowestTerms_70 : decode cX11_inLowestTerms 70 = .ok (.ifCond .ne 17, 3) := by decide +kernel
theorem dX11_inLowestTerms_73 : decode cX11_inLowestTerms 73 = .ok (.lload_n 3, 1) := by decide +kernel
theorem dX11_inLowestTerms_74 : decode cX11_inLowestTerms 74 = .ok (.ldc2_w 266, 3) := by decide +kernel
theorem dX11_inLowestTerms_77 : decode cX11_inLowestTerms 77 = .ok (.ldiv, 1) := by decide +kernel
theorem dX11_inLowestTerms_78 : decode cX11_inLowestTerms 78 = .ok (.lstore_n 3, 1) := by decide +kernel
theorem dX11_inLowestTerms_79 : decode cX11_inLowestTerms 79 = .ok (.lload 5, 2) := by decide +kernel
theorem dX11_inLowestTerms_81 : decode cX11_inLowestTerms 81 = .ok (.ldc2_w 266, 3) := by decide +kernel
theorem dX11_inLowestTerms_84 : decode cX11_inLowestTerms 84 = .ok (.ldiv, 1) := by decide +kernel
theorem dX11_inLowestTerms_85 : decode cX11_inLowestTerms 85 = .ok (.lstore 5, 2) := by decide +kernel
theorem dX11_inLowestTerms_87 : decode cX11_inLowestTerms 87 = .ok (.iinc 7 1, 3) := by decide +kernel
theorem dX11_inLowestTerms_90 : decode cX11_inLowestTerms 90 = .ok (.goto (-80), 3) := by decide +kernel
theorem dX11_inLowestTerms_93 : decode cX11_inLowestTerms 93 = .ok (.iload_n 2, 1) := by decide +kernel
theorem dX11_inLowestTerms_94 : decode cX11_inLowestTerms 94 = .ok (.ifCond .ne 7, 3) := by decide +kernel
theorem dX11_inLowestTerms_97 : decode cX11_inLowestTerms 97 = .ok (.lload_n 3, 1) := by decide +kernel
theorem dX11_inLowestTerms_98 : decode cX11_inLowestTerms 98 = .ok (.goto 5, 3) := by decide +kernel
theorem dX11_inLowestTerms_101 : decode cX11_inLowestTerms 101 = .ok (.lload 5, 2) := by decide +kernel
theorem dX11_inLowestTerms_103 : decode cX11_inLowestTerms 103 = .ok (.lreturn, 1) := by decide +kernel
theorem dX12_init_0 : decode cX12_init 0 = .ok (.aload_n 0, 1) := by decide +kernel
theorem dX12_init_1 : decode cX12_init 1 = .ok (.invokespecial 1, 3) := by decide +kernel
theorem dX12_init_4 : decode cX12_init 4 = .ok (.aload_n 0, 1) := by decide +kernel
theorem dX12_init_5 : decode cX12_init 5 = .ok (.bipush 25, 2) := by decide +kernel
theorem dX12_init_7 : decode cX12_init 7 = .ok (.newarray .int, 2) := by decide +kernel
theorem dX12_init_9 : decode cX12_init 9 = .ok (.putfield 7, 3) := by decide +kernel
theorem dX12_init_12 : decode cX12_init 12 = .ok (.aload_n 0, 1) := by decide +kernel
theorem dX12_init_13 : decode cX12_init 13 = .ok (.bipush 20, 2) := by decide +kernel
theorem dX12_init_15 : decode cX12_init 15 = .ok (.newarray .int, 2) := by decide +kernel
theorem dX12_init_17 : decode cX12_init 17 = .ok (.putfield 13, 3) := by decide +kernel
theorem dX12_init_20 : decode cX12_init 20 = .ok (.aload_n 0, 1) := by decide +kernel
theorem dX12_init_21 : decode cX12_init 21 = .ok (.sipush 300, 3) := by decide +kernel
theorem dX12_init_24 : decode cX12_init 24 = .ok (.newarray .int, 2) := by decide +kernel
theorem dX12_init_26 : decode cX12_init 26 = .ok (.putfield 16, 3) := by decide +kernel
theorem dX12_init_29 : decode cX12_init 29 = .ok (.aload_n 0, 1) := by decide +kernel
theorem dX12_init_30 : decode cX12_init 30 = .ok (.iconst 5, 1) := by decide +kernel
theorem dX12_init_31 : decode cX12_init 31 = .ok (.newarray .int, 2) := by decide +kernel
theorem dX12_init_33 : decode cX12_init 33 = .ok (.putfield 19, 3) := by decide +kernel
theorem dX12_init_36 : decode cX12_init 36 = .ok (.aload_n 0, 1) := by decide +kernel
theorem dX12_init_37 : decode cX12_init 37 = .ok (.bipush 25, 2) := by decide +kernel
theorem dX12_init_39 : decode cX12_init 39 = .ok (.newarray .int, 2) := by decide +kernel
theorem dX12_init_41 : decode cX12_init 41 = .ok (.putfield 22, 3) := by decide +kernel
theorem dX12_init_44 : decode cX12_init 44 = .ok (.aload_n 0, 1) := by decide +kernel
theorem dX12_init_45 : decode cX12_init 45 = .ok (.bipush 15, 2) := by decide +kernel
theorem dX12_init_47 : decode cX12_init 47 = .ok (.newarray .int, 2) := by decide +kernel
theorem dX12_init_49 : decode cX12_init 49 = .ok (.putfield 25, 3) := by decide +kernel
theorem dX12_init_52 : decode cX12_init 52 = .ok (.aload_n 0, 1) := by decide +kernel
theorem dX12_init_53 : decode cX12_init 53 = .ok (.iconst 5, 1) := by decide +kernel
theorem dX12_init_54 : decode cX12_init 54 = .ok (.newarray .int, 2) := by decide +kernel
theorem dX12_init_56 : decode cX12_init 56 = .ok (.putfield 28, 3) := by decide +kernel
theorem dX12_init_59 : decode cX12_init 59 = .ok (.aload_n 0, 1) := by decide +kernel
theorem dX12_init_60 : decode cX12_init 60 = .ok (.iconst 5, 1) := by decide +kernel
theorem dX12_init_61 : decode cX12_init 61 = .ok (.newarray .int, 2) := by decide +kernel
theorem dX12_init_63 : decode cX12_init 63 = .ok (.putfield 31, 3) := by decide +kernel
theorem dX12_init_66 : decode cX12_init 66 = .ok (.aload_n 0, 1) := by decide +kernel
theorem dX12_init_67 : decode cX12_init 67 = .ok (.iconst 5, 1) := by decide +kernel
theorem dX12_init_68 : decode cX12_init 68 = .ok (.newarray .int, 2) := by decide +kernel
theorem dX12_init_70 : decode cX12_init 70 = .ok (.putfield 34, 3) := by decide +kernel
theorem dX12_init_73 : decode cX12_init 73 = .ok (.aload_n 0, 1) := by decide +kernel
theorem dX12_init_74 : decode cX12_init 74 = .ok (.iconst 5, 1) := by decide +kernel
theorem dX12_init_75 : decode cX12_init 75 = .ok (.newarray .int, 2) := by decide +kernel
theorem dX12_init_77 : decode cX12_init 77 = .ok (.putfield 37, 3) := by decide +kernel
theorem dX12_init_80 : decode cX12_init 80 = .ok (.aload_n 0, 1) := by decide +kernel
theorem dX12_init_81 : decode cX12_init 81 = .ok (.iconst 4, 1) := by decide +kernel
theorem dX12_init_82 : decode cX12_init 82 = .ok (.newarray .int, 2) := by decide +kernel
theorem dX12_init_84 : decode cX12_init 84 = .ok (.putfield 40, 3) := by decide +kernel
theorem dX12_init_87 : decode cX12_init 87 = .ok (.aload_n 0, 1) := by decide +kernel
theorem dX12_init_88 : decode cX12_init 88 = .ok (.bipush 18, 2) := by decide +kernel
theorem dX12_init_90 : decode cX12_init 90 = .ok (.newarray .long, 2) := by decide +kernel
theorem dX12_init_92 : decode cX12_init 92 = .ok (.putfield 43, 3) := by decide +kernel
theorem dX12_init_95 : decode cX12_init 95 = .ok (.aload_n 0, 1) := by decide +kernel
theorem dX12_init_96 : decode cX12_init 96 = .ok (.sipush 5120, 3) := by decide +kernel
theorem dX12_init_99 : decode cX12_init 99 = .ok (.newarray .long, 2) := by decide +kernel
theorem dX12_init_101 : decode cX12_init 101 = .ok (.putfield 47, 3) := by decide +kernel
theorem dX12_init_104 : decode cX12_init 104 = .ok (.aload_n 0, 1) := by decide +kernel
theorem dX12_init_105 : decode cX12_init 105 = .ok (.iconst 5, 1) := by decide +kernel
theorem dX12_init_106 : decode cX12_init 106 = .ok (.newarray .int, 2) := by decide +kernel
theorem dX12_init_108 : decode cX12_init 108 = .ok (.putfield 50, 3) := by decide +kernel
theorem dX12_init_111 : decode cX12_init 111 = .ok (.aload_n 0, 1) := by decide +kernel
theorem dX12_init_112 : decode cX12_init 112 = .ok (.iconst 5, 1) := by decide +kernel
theorem dX12_init_113 : decode cX12_init 113 = .ok (.newarray .int, 2) := by decide +kernel
theorem dX12_init_115 : decode cX12_init 115 = .ok (.putfield 53, 3) := by decide +kernel
theorem dX12_init_118 : decode cX12_init 118 = .ok (.aload_n 0, 1) := by decide +kernel
theorem dX12_init_119 : decode cX12_init 119 = .ok (.bipush 40, 2) := by decide +kernel
theorem dX12_init_121 : decode cX12_init 121 = .ok (.newarray .int, 2) := by decide +kernel
theorem dX12_init_123 : decode cX12_init 123 = .ok (.putfield 56, 3) := by decide +kernel
theorem dX12_init_126 : decode cX12_init 126 = .ok (.aload_n 0, 1) := by decide +kernel
theorem dX12_init_127 : decode cX12_init 127 = .ok (.bipush 24, 2) := by decide +kernel
theorem dX12_init_129 : decode cX12_init 129 = .ok (.newarray .int, 2) := by decide +kernel
theorem dX12_init_131 : decode cX12_init 131 = .ok (.putfield 59, 3) := by decide +kernel
theorem dX12_init_134 : decode cX12_init 134 = .ok (.aload_n 0, 1) := by decide +kernel
theorem dX12_init_135 : decode cX12_init 135 = .ok (.iconst 5, 1) := by decide +kernel
theorem dX12_init_136 : decode cX12_init 136 = .ok (.newarray .int, 2) := by decide +kernel
theorem dX12_init_138 : decode cX12_init 138 = .ok (.putfield 62, 3) := by decide +kernel
theorem dX12_init_141 : decode cX12_init 141 = .ok (.aload_n 0, 1) := by decide +kernel
theorem dX12_init_142 : decode cX12_init 142 = .ok (.bipush 40, 2) := by decide +kernel
theorem dX12_init_144 : decode cX12_init 144 = .ok (.newarray .int, 2) := by decide +kernel
theorem dX12_init_146 : decode cX12_init 146 = .ok (.putfield 65, 3) := by decide +kernel
theorem dX12_init_149 : decode cX12_init 149 = .ok (.aload_n 0, 1) := by decide +kernel
theorem dX12_init_150 : decode cX12_init 150 = .ok (.bipush 30, 2) := by decide +kernel
theorem dX12_init_152 : decode cX12_init 152 = .ok (.putfield 68, 3) := by decide +kernel
theorem dX12_init_155 : decode cX12_init 155 = .ok (.aload_n 0, 1) := by decide +kernel
theorem dX12_init_156 : decode cX12_init 156 = .ok (.iconst 1, 1) := by decide +kernel
theorem dX12_init_157 : decode cX12_init 157 = .ok (.putfield 72, 3) := by decide +kernel
theorem dX12_init_160 : decode cX12_init 160 = .ok (.aload_n 0, 1) := by decide +kernel
theorem dX12_init_161 : decode cX12_init 161 = .ok (.iconst 3, 1) := by decide +kernel
theorem dX12_init_162 : decode cX12_init 162 = .ok (.putfield 75, 3) := by decide +kernel
theorem dX12_init_165 : decode cX12_init 165 = .ok (.aload_n 0, 1) := by decide +kernel
theorem dX12_init_166 : decode cX12_init 166 = .ok (.iconst 0, 1) := by decide +kernel
theorem dX12_init_167 : decode cX12_init 167 = .ok (.bipush 10, 2) := by decide +kernel
theorem dX12_init_169 : decode cX12_init 169 = .ok (.iconst 2, 1) := by decide +kernel
theorem dX12_init_170 : decode cX12_init 170 = .ok (.iconst 5, 1) := by decide +kernel
theorem dX12_init_171 : decode cX12_init 171 = .ok (.iconst 5, 1) := by decide +kernel
theorem dX12_init_172 : decode cX12_init 172 = .ok (.iconst 0, 1) := by decide +kernel
theorem dX12_init_173 : decode cX12_init 173 = .ok (.invokevirtual 78, 3) := by decide +kernel
theorem dX12_init_176 : decode cX12_init 176 = .ok (.aload_n 0, 1) := by decide +kernel
theorem dX12_init_177 : decode cX12_init 177 = .ok (.iconst 1, 1) := by decide +kernel
theorem dX12_init_178 : decode cX12_init 178 = .ok (.bipush 14, 2) := by decide +kernel
theorem dX12_init_180 : decode cX12_init 180 = .ok (.iconst 2, 1) := by decide +kernel
theorem dX12_init_181 : decode cX12_init 181 = .ok (.iconst 5, 1) := by decide +kernel
theorem dX12_init_182 : decode cX12_init 182 = .ok (.iconst 3, 1) := by decide +kernel
theorem dX12_init_183 : decode cX12_init 183 = .ok (.iconst 0, 1) := by decide +kernel
theorem dX12_init_184 : decode cX12_init 184 = .ok (.invokevirtual 78, 3) := by decide +kernel
theorem dX12_init_187 : decode cX12_init 187 = .ok (.aload_n 0, 1) := by decide +kernel
theorem dX12_init_188 : decode cX12_init 188 = .ok (.iconst 2, 1) := by decide +kernel
theorem dX12_init_189 : decode cX12_init 189 = .ok (.bipush 20, 2) := by decide +kernel
theorem dX12_init_191 : decode cX12_init 191 = .ok (.iconst 3, 1) := by decide +kernel
theorem dX12_init_192 : decode cX12_init 192 = .ok (.iconst 4, 1) := by decide +kernel
theorem dX12_init_193 : decode cX12_init 193 = .ok (.bipush 6, 2) := by decide +kernel
theorem dX12_init_195 : decode cX12_init 195 = .ok (.iconst 0, 1) := by decide +kernel
theorem dX12_init_196 : decode cX12_init 196 = .ok (.invokevirtual 78, 3) := by decide +kernel
theorem dX12_init_199 : decode cX12_init 199 = .ok (.iconst 0, 1) := by decide +kernel
theorem dX12_init_200 : decode cX12_init 200 = .ok (.istore_n 1, 1) := by decide +kernel
theorem dX12_init_201 : decode cX12_init 201 = .ok (.iload_n 1, 1) := by decide +kernel
theorem dX12_init_202 : decode cX12_init 202 = .ok (.aload_n 0, 1) := by decide +kernel
theorem dX12_init_203 : decode cX12_init 203 = .ok (.getfield 75, 3) := by decide +kernel
theorem dX12_init_206 : decode cX12_init 206 = .ok (.if_icmp .ge 54, 3) := by decide +kernel
theorem dX12_init_209 : decode cX12_init 209 = .ok (.aload_n 0, 1) := by decide +kernel
theorem dX12_init_210 : decode cX12_init 210 = .ok (.getfield 13, 3) := by decide +kernel
theorem dX12_init_213 : decode cX12_init 213 = .ok (.iload_n 1, 1) := by decide +kernel
theorem dX12_init_214 : decode cX12_init 214 = .ok (.iload_n 1, 1) := by decide +kernel
theorem dX12_init_215 : decode cX12_init 215 = .ok (.iconst 1, 1) := by decide +kernel
theorem dX12_init_216 : decode cX12_init 216 = .ok (.iadd, 1) := by decide +kernel
theorem dX12_init_217 : decode cX12_init 217 = .ok (.aload_n 0, 1) := by decide +kernel
theorem dX12_init_218 : decode cX12_init 218 = .ok (.getfield 75, 3) := by decide +kernel
theorem dX12_init_221 : decode cX12_init 221 = .ok (.irem, 1) := by decide +kernel
theorem dX12_init_222 : decode cX12_init 222 = .ok (.iastore, 1) := by decide +kernel
theorem dX12_init_223 : decode cX12_init 223 = .ok (.aload_n 0, 1) := by decide +kernel
theorem dX12_init_224 : decode cX12_init 224 = .ok (.getfield 13, 3) := by decide +kernel
theorem dX12_init_227 : decode cX12_init 227 = .ok (.iconst 5, 1) := by decide +kernel
theorem dX12_init_228 : decode cX12_init 228 = .ok (.iload_n 1, 1) := by decide +kernel
theorem dX12_init_229 : decode cX12_init 229 = .ok (.iadd, 1) := by decide +kernel
theorem dX12_init_230 : decode cX12_init 230 = .ok (.aload_n 0, 1) := by decide +kernel
theorem dX12_init_231 : decode cX12_init 231 = .ok (.getfield 7, 3) := by decide +kernel
theorem dX12_init_234 : decode cX12_init 234 = .ok (.iconst 5, 1) := by decide +kernel
theorem dX12_init_235 : decode cX12_init 235 = .ok (.aload_n 0, 1) := by decide +kernel
theorem dX12_init_236 : decode cX12_init 236 = .ok (.getfield 13, 3) := by decide +kernel
theorem dX12_init_239 : decode cX12_init 239 = .ok (.iload_n 1, 1) := by decide +kernel
theorem dX12_init_240 : decode cX12_init 240 = .ok (.iaload, 1) := by decide +kernel
theorem dX12_init_241 : decode cX12_init 241 = .ok (.imul, 1) := by decide +kernel
theorem dX12_init_242 : decode cX12_init 242 = .ok (.iaload, 1) := by decide +kernel
theorem dX12_init_243 : decode cX12_init 243 = .ok (.iastore, 1) := by decide +kernel
theorem dX12_init_244 : decode cX12_init 244 = .ok (.aload_n 0, 1) := by decide +kernel
theorem dX12_init_245 : decode cX12_init 245 = .ok (.getfield 13, 3) := by decide +kernel
theorem dX12_init_248 : decode cX12_init 248 = .ok (.bipush 10, 2) := by decide +kernel
theorem dX12_init_250 : decode cX12_init 250 = .ok (.iload_n 1, 1) := by decide +kernel
theorem dX12_init_251 : decode cX12_init 251 = .ok (.iadd, 1) := by decide +kernel
theorem dX12_init_252 : decode cX12_init 252 = .ok (.iconst 1, 1) := by decide +kernel
theorem dX12_init_253 : decode cX12_init 253 = .ok (.iastore, 1) := by decide +kernel
theorem dX12_init_254 : decode cX12_init 254 = .ok (.iinc 1 1, 3) := by decide +kernel
theorem dX12_init_257 : decode cX12_init 257 = .ok (.goto (-56), 3) := by decide +kernel
theorem dX12_init_260 : decode cX12_init 260 = .ok (.aload_n 0, 1) := by decide +kernel
theorem dX12_init_261 : decode cX12_init 261 = .ok (.getfield 43, 3) := by decide +kernel
theorem dX12_init_264 : decode cX12_init 264 = .ok (.iconst 0, 1) := by decide +kernel
theorem dX12_init_265 : decode cX12_init 265 = .ok (.lconst 1, 1) := by decide +kernel
theorem dX12_init_266 : decode cX12_init 266 = .ok (.lastore, 1) := by decide +kernel
theorem dX12_init_267 : decode cX12_init 267 = .ok (.iconst 1, 1) := by decide +kernel
theorem dX12_init_268 : decode cX12_init 268 = .ok (.istore_n 1, 1) := by decide +kernel
theorem dX12_init_269 : decode cX12_init 269 = .ok (.iload_n 1, 1) := by decide +kernel
theorem dX12_init_270 : decode cX12_init 270 = .ok (.bipush 18, 2) := by decide +kernel
theorem dX12_init_272 : decode cX12_init 272 = .ok (.if_icmp .ge 27, 3) := by decide +kernel
theorem dX12_init_275 : decode cX12_init 275 = .ok (.aload_n 0, 1) := by decide +kernel
theorem dX12_init_276 : decode cX12_init 276 = .ok (.getfield 43, 3) := by decide +kernel
theorem dX12_init_279 : decode cX12_init 279 = .ok (.iload_n 1, 1) := by decide +kernel
theorem dX12_init_280 : decode cX12_init 280 = .ok (.ldc2_w 82, 3) := by decide +kernel
theorem dX12_init_283 : decode cX12_init 283 = .ok (.aload_n 0, 1) := by decide +kernel
theorem dX12_init_284 : decode cX12_init 284 = .ok (.getfield 43, 3) := by decide +kernel
theorem dX12_init_287 : decode cX12_init 287 = .ok (.iload_n 1, 1) := by decide +kernel
theorem dX12_init_288 : decode cX12_init 288 = .ok (.iconst 1, 1) := by decide +kernel
theorem dX12_init_289 : decode cX12_init 289 = .ok (.isub, 1) := by decide +kernel
theorem dX12_init_290 : decode cX12_init 290 = .ok (.laload, 1) := by decide +kernel
theorem dX12_init_291 : decode cX12_init 291 = .ok (.lmul, 1) := by decide +kernel
theorem dX12_init_292 : decode cX12_init 292 = .ok (.lastore, 1) := by decide +kernel
theorem dX12_init_293 : decode cX12_init 293 = .ok (.iinc 1 1, 3) := by decide +kernel
theorem dX12_init_296 : decode cX12_init 296 = .ok (.goto (-27), 3) := by decide +kernel
theorem dX12_init_299 : decode cX12_init 299 = .ok (.return_, 1) := by decide +kernel
theorem dX12_lays_0 : decode cX12_lays 0 = .ok (.aload_n 0, 1) := by decide +kernel
theorem dX12_lays_1 : decode cX12_lays 1 = .ok (.getfield 7, 3) := by decide +kernel
theorem dX12_lays_4 : decode cX12_lays 4 = .ok (.iconst 5, 1) := by decide +kernel
theorem dX12_lays_5 : decode cX12_lays 5 = .ok (.iload_n 1, 1) := by decide +kernel
theorem dX12_lays_6 : decode cX12_lays 6 = .ok (.imul, 1) := by decide +kernel
theorem dX12_lays_7 : decode cX12_lays 7 = .ok (.iload_n 2, 1) := by decide +kernel
theorem dX12_lays_8 : decode cX12_lays 8 = .ok (.iastore, 1) := by decide +kernel
theorem dX12_lays_9 : decode cX12_lays 9 = .ok (.aload_n 0, 1) := by decide +kernel
theorem dX12_lays_10 : decode cX12_lays 10 = .ok (.getfield 7, 3) := by decide +kernel
theorem dX12_lays_13 : decode cX12_lays 13 = .ok (.iconst 5, 1) := by decide +kernel
theorem dX12_lays_14 : decode cX12_lays 14 = .ok (.iload_n 1, 1) := by decide +kernel
theorem dX12_lays_15 : decode cX12_lays 15 = .ok (.imul, 1) := by decide +kernel
theorem dX12_lays_16 : decode cX12_lays 16 = .ok (.iconst 1, 1) := by decide +kernel
theorem dX12_lays_17 : decode cX12_lays 17 = .ok (.iadd, 1) := by decide +kernel
theorem dX12_lays_18 : decode cX12_lays 18 = .ok (.iload_n 3, 1) := by decide +kernel
theorem dX12_lays_19 : decode cX12_lays 19 = .ok (.iastore, 1) := by decide +kernel
theorem dX12_lays_20 : decode cX12_lays 20 = .ok (.aload_n 0, 1) := by decide +kernel
theorem dX12_lays_21 : decode cX12_lays 21 = .ok (.getfield 7, 3) := by decide +kernel
theorem dX12_lays_24 : decode cX12_lays 24 = .ok (.iconst 5, 1) := by decide +kernel
theorem dX12_lays_25 : decode cX12_lays 25 = .ok (.iload_n 1, 1) := by decide +kernel
theorem dX12_lays_26 : decode cX12_lays 26 = .ok (.imul, 1) := by decide +kernel
theorem dX12_lays_27 : decode cX12_lays 27 = .ok (.iconst 2, 1) := by decide +kernel
theorem dX12_lays_28 : decode cX12_lays 28 = .ok (.iadd, 1) := by decide +kernel
theorem dX12_lays_29 : decode cX12_lays 29 = .ok (.iload 4, 2) := by decide +kernel
theorem dX12_lays_31 : decode cX12_lays 31 = .ok (.iastore, 1) := by decide +kernel
theorem dX12_lays_32 : decode cX12_lays 32 = .ok (.aload_n 0, 1) := by decide +kernel
theorem dX12_lays_33 : decode cX12_lays 33 = .ok (.getfield 7, 3) := by decide +kernel
theorem dX12_lays_36 : decode cX12_lays 36 = .ok (.iconst 5, 1) := by decide +kernel
theorem dX12_lays_37 : decode cX12_lays 37 = .ok (.iload_n 1, 1) := by decide +kernel
theorem dX12_lays_38 : decode cX12_lays 38 = .ok (.imul, 1) := by decide +kernel
theorem dX12_lays_39 : decode cX12_lays 39 = .ok (.iconst 3, 1) := by decide +kernel
theorem dX12_lays_40 : decode cX12_lays 40 = .ok (.iadd, 1) := by decide +kernel
theorem dX12_lays_41 : decode cX12_lays 41 = .ok (.iload 5, 2) := by decide +kernel
theorem dX12_lays_43 : decode cX12_lays 43 = .ok (.iastore, 1) := by decide +kernel
theorem dX12_lays_44 : decode cX12_lays 44 = .ok (.aload_n 0, 1) := by decide +kernel
theorem dX12_lays_45 : decode cX12_lays 45 = .ok (.getfield 7, 3) := by decide +kernel
theorem dX12_lays_48 : decode cX12_lays 48 = .ok (.iconst 5, 1) := by decide +kernel
theorem dX12_lays_49 : decode cX12_lays 49 = .ok (.iload_n 1, 1) := by decide +kernel
theorem dX12_lays_50 : decode cX12_lays 50 = .ok (.imul, 1) := by decide +kernel
theorem dX12_lays_51 : decode cX12_lays 51 = .ok (.iconst 4, 1) := by decide +kernel
theorem dX12_lays_52 : decode cX12_lays 52 = .ok (.iadd, 1) := by decide +kernel
theorem dX12_lays_53 : decode cX12_lays 53 = .ok (.iload 6, 2) := by decide +kernel
theorem dX12_lays_55 : decode cX12_lays 55 = .ok (.iastore, 1) := by decide +kernel
theorem dX12_lays_56 : decode cX12_lays 56 = .ok (.return_, 1) := by decide +kernel
theorem dX12_in_0 : decode cX12_in 0 = .ok (.iload_n 0, 1) := by decide +kernel
theorem dX12_in_1 : decode cX12_in 1 = .ok (.iload_n 1, 1) := by decide +kernel
theorem dX12_in_2 : decode cX12_in 2 = .ok (.if_icmp .lt 12, 3) := by decide +kernel
theorem dX12_in_5 : decode cX12_in 5 = .ok (.iload_n 0, 1) := by decide +kernel
theorem dX12_in_6 : decode cX12_in 6 = .ok (.iload_n 2, 1) := by decide +kernel
theorem dX12_in_7 : decode cX12_in 7 = .ok (.if_icmp .gt 7, 3) := by decide +kernel
theorem dX12_in_10 : decode cX12_in 10 = .ok (.iconst 1, 1) := by decide +kernel
theorem dX12_in_11 : decode cX12_in 11 = .ok (.goto 4, 3) := by decide +kernel
theorem dX12_in_14 : decode cX12_in 14 = .ok (.iconst 0, 1) := by decide +kernel
theorem dX12_in_15 : decode cX12_in 15 = .ok (.ireturn, 1) := by decide +kernel
theorem dX12_isPlayer_0 : decode cX12_isPlayer 0 = .ok (.iload_n 1, 1) := by decide +kernel
theorem dX12_isPlayer_1 : decode cX12_isPlayer 1 = .ok (.iconst 0, 1) := by decide +kernel
theorem dX12_isPlayer_2 : decode cX12_isPlayer 2 = .ok (.aload_n 0, 1) := by decide +kernel
theorem dX12_isPlayer_3 : decode cX12_isPlayer 3 = .ok (.getfield 75, 3) := by decide +kernel
theorem dX12_isPlayer_6 : decode cX12_isPlayer 6 = .ok (.iconst 1, 1) := by decide +kernel
theorem dX12_isPlayer_7 : decode cX12_isPlayer 7 = .ok (.isub, 1) := by decide +kernel
theorem dX12_isPlayer_8 : decode cX12_isPlayer 8 = .ok (.invokestatic 84, 3) := by decide +kernel
theorem dX12_isPlayer_11 : decode cX12_isPlayer 11 = .ok (.ireturn, 1) := by decide +kernel
theorem dX12_size_0 : decode cX12_size 0 = .ok (.iload_n 0, 1) := by decide +kernel
theorem dX12_size_1 : decode cX12_size 1 = .ok (.ifCond .ge 8, 3) := by decide +kernel
theorem dX12_size_4 : decode cX12_size 4 = .ok (.iload_n 0, 1) := by decide +kernel
theorem dX12_size_5 : decode cX12_size 5 = .ok (.ineg, 1) := by decide +kernel
theorem dX12_size_6 : decode cX12_size 6 = .ok (.goto 4, 3) := by decide +kernel
theorem dX12_size_9 : decode cX12_size 9 = .ok (.iload_n 0, 1) := by decide +kernel
theorem dX12_size_10 : decode cX12_size 10 = .ok (.ireturn, 1) := by decide +kernel
theorem dX12_write_0 : decode cX12_write 0 = .ok (.iload_n 1, 1) := by decide +kernel
theorem dX12_write_1 : decode cX12_write 1 = .ok (.iconst 1, 1) := by decide +kernel
theorem dX12_write_2 : decode cX12_write 2 = .ok (.bipush 8, 2) := by decide +kernel
theorem dX12_write_4 : decode cX12_write 4 = .ok (.invokestatic 84, 3) := by decide +kernel
theorem dX12_write_7 : decode cX12_write 7 = .ok (.ifCond .ne 5, 3) := by decide +kernel
theorem dX12_write_10 : decode cX12_write 10 = .ok (.iconst (-1), 1) := by decide +kernel
theorem dX12_write_11 : decode cX12_write 11 = .ok (.ireturn, 1) := by decide +kernel
theorem dX12_write_12 : decode cX12_write 12 = .ok (.aload_n 0, 1) := by decide +kernel
theorem dX12_write_13 : decode cX12_write 13 = .ok (.getfield 88, 3) := by decide +kernel
theorem dX12_write_16 : decode cX12_write 16 = .ok (.iload_n 1, 1) := by decide +kernel
theorem dX12_write_17 : decode cX12_write 17 = .ok (.iadd, 1) := by decide +kernel
theorem dX12_write_18 : decode cX12_write 18 = .ok (.sipush 300, 3) := by decide +kernel
theorem dX12_write_21 : decode cX12_write 21 = .ok (.if_icmp .le 6, 3) := by decide +kernel
theorem dX12_write_24 : decode cX12_write 24 = .ok (.bipush (-3), 2) := by decide +kernel
theorem dX12_write_26 : decode cX12_write 26 = .ok (.ireturn, 1) := by decide +kernel
theorem dX12_write_27 : decode cX12_write 27 = .ok (.iload_n 1, 1) := by decide +kernel
theorem dX12_write_28 : decode cX12_write 28 = .ok (.iconst 1, 1) := by decide +kernel
theorem dX12_write_29 : decode cX12_write 29 = .ok (.isub, 1) := by decide +kernel
theorem dX12_write_30 : decode cX12_write 30 = .ok (.istore 4, 2) := by decide +kernel
theorem dX12_write_32 : decode cX12_write 32 = .ok (.iload 4, 2) := by decide +kernel
theorem dX12_write_34 : decode cX12_write 34 = .ok (.ifCond .lt 40, 3) := by decide +kernel
theorem dX12_write_37 : decode cX12_write 37 = .ok (.aload_n 0, 1) := by decide +kernel
theorem dX12_write_38 : decode cX12_write 38 = .ok (.getfield 16, 3) := by decide +kernel
theorem dX12_write_41 : decode cX12_write 41 = .ok (.aload_n 0, 1) := by decide +kernel
theorem dX12_write_42 : decode cX12_write 42 = .ok (.getfield 88, 3) := by decide +kernel
theorem dX12_write_45 : decode cX12_write 45 = .ok (.lload_n 2, 1) := by decide +kernel
end
section
theorem dX12_write_46 : decode cX12_write 46 = .ok (.bipush 8, 2) := by decide +kernel
theorem dX12_write_48 : decode cX12_write 48 = .ok (.iload 4, 2) := by decide +kernel
theorem dX12_write_50 : decode cX12_write 50 = .ok (.imul, 1) := by decide +kernel
theorem dX12_write_51 : decode cX12_write 51 = .ok (.lshr, 1) := by decide +kernel
theorem dX12_write_52 : decode cX12_write 52 = .ok (.ldc2_w 91, 3) := by decide +kernel
theorem dX12_write_55 : decode cX12_write 55 = .ok (.land, 1) := by decide +kernel
theorem dX12_write_56 : decode cX12_write 56 = .ok (.l2i, 1) := by decide +kernel
theorem dX12_write_57 : decode cX12_write 57 = .ok (.iastore, 1) := by decide +kernel
theorem dX12_write_58 : decode cX12_write 58 = .ok (.aload_n 0, 1) := by decide +kernel
theorem dX12_write_59 : decode cX12_write 59 = .ok (.dup, 1) := by decide +kernel
theorem dX12_write_60 : decode cX12_write 60 = .ok (.getfield 88, 3) := by decide +kernel
theorem dX12_write_63 : decode cX12_write 63 = .ok (.iconst 1, 1) := by decide +kernel
theorem dX12_write_64 : decode cX12_write 64 = .ok (.iadd, 1) := by decide +kernel
theorem dX12_write_65 : decode cX12_write 65 = .ok (.putfield 88, 3) := by decide +kernel
theorem dX12_write_68 : decode cX12_write 68 = .ok (.iinc 4 (-1), 3) := by decide +kernel
theorem dX12_write_71 : decode cX12_write 71 = .ok (.goto (-39), 3) := by decide +kernel
theorem dX12_write_74 : decode cX12_write 74 = .ok (.aload_n 0, 1) := by decide +kernel
theorem dX12_write_75 : decode cX12_write 75 = .ok (.getfield 88, 3) := by decide +kernel
theorem dX12_write_78 : decode cX12_write 78 = .ok (.ireturn, 1) := by decide +kernel
theorem dX12_wipe_0 : decode cX12_wipe 0 = .ok (.aload_n 0, 1) := by decide +kernel
theorem dX12_wipe_1 : decode cX12_wipe 1 = .ok (.getfield 88, 3) := by decide +kernel
theorem dX12_wipe_4 : decode cX12_wipe 4 = .ok (.istore_n 1, 1) := by decide +kernel
theorem dX12_wipe_5 : decode cX12_wipe 5 = .ok (.aload_n 0, 1) := by decide +kernel
theorem dX12_wipe_6 : decode cX12_wipe 6 = .ok (.iconst 0, 1) := by decide +kernel
theorem dX12_wipe_7 : decode cX12_wipe 7 = .ok (.putfield 88, 3) := by decide +kernel
theorem dX12_wipe_10 : decode cX12_wipe 10 = .ok (.iload_n 1, 1) := by decide +kernel
theorem dX12_wipe_11 : decode cX12_wipe 11 = .ok (.ireturn, 1) := by decide +kernel
theorem dX12_byteAt_0 : decode cX12_byteAt 0 = .ok (.iload_n 1, 1) := by decide +kernel
theorem dX12_byteAt_1 : decode cX12_byteAt 1 = .ok (.aload_n 0, 1) := by decide +kernel
theorem dX12_byteAt_2 : decode cX12_byteAt 2 = .ok (.getfield 88, 3) := by decide +kernel
theorem dX12_byteAt_5 : decode cX12_byteAt 5 = .ok (.if_icmp .ge 12, 3) := by decide +kernel
theorem dX12_byteAt_8 : decode cX12_byteAt 8 = .ok (.aload_n 0, 1) := by decide +kernel
theorem dX12_byteAt_9 : decode cX12_byteAt 9 = .ok (.getfield 16, 3) := by decide +kernel
theorem dX12_byteAt_12 : decode cX12_byteAt 12 = .ok (.iload_n 1, 1) := by decide +kernel
theorem dX12_byteAt_13 : decode cX12_byteAt 13 = .ok (.iaload, 1) := by decide +kernel
theorem dX12_byteAt_14 : decode cX12_byteAt 14 = .ok (.goto 4, 3) := by decide +kernel
theorem dX12_byteAt_17 : decode cX12_byteAt 17 = .ok (.iconst (-1), 1) := by decide +kernel
theorem dX12_byteAt_18 : decode cX12_byteAt 18 = .ok (.ireturn, 1) := by decide +kernel
theorem dX12_isFigure_0 : decode cX12_isFigure 0 = .ok (.iload_n 0, 1) := by decide +kernel
theorem dX12_isFigure_1 : decode cX12_isFigure 1 = .ok (.bipush 48, 2) := by decide +kernel
theorem dX12_isFigure_3 : decode cX12_isFigure 3 = .ok (.bipush 57, 2) := by decide +kernel
theorem dX12_isFigure_5 : decode cX12_isFigure 5 = .ok (.invokestatic 84, 3) := by decide +kernel
theorem dX12_isFigure_8 : decode cX12_isFigure 8 = .ok (.ireturn, 1) := by decide +kernel
theorem dX12_readNumbers_0 : decode cX12_readNumbers 0 = .ok (.iconst 0, 1) := by decide +kernel
theorem dX12_readNumbers_1 : decode cX12_readNumbers 1 = .ok (.istore_n 2, 1) := by decide +kernel
theorem dX12_readNumbers_2 : decode cX12_readNumbers 2 = .ok (.iload_n 2, 1) := by decide +kernel
theorem dX12_readNumbers_3 : decode cX12_readNumbers 3 = .ok (.iload_n 1, 1) := by decide +kernel
theorem dX12_readNumbers_4 : decode cX12_readNumbers 4 = .ok (.if_icmp .ge 140, 3) := by decide +kernel
theorem dX12_readNumbers_7 : decode cX12_readNumbers 7 = .ok (.aload_n 0, 1) := by decide +kernel
theorem dX12_readNumbers_8 : decode cX12_readNumbers 8 = .ok (.aload_n 0, 1) := by decide +kernel
theorem dX12_readNumbers_9 : decode cX12_readNumbers 9 = .ok (.getfield 93, 3) := by decide +kernel
theorem dX12_readNumbers_12 : decode cX12_readNumbers 12 = .ok (.invokevirtual 96, 3) := by decide +kernel
theorem dX12_readNumbers_15 : decode cX12_readNumbers 15 = .ok (.invokestatic 100, 3) := by decide +kernel
theorem dX12_readNumbers_18 : decode cX12_readNumbers 18 = .ok (.ifCond .ne 5, 3) := by decide +kernel
theorem dX12_readNumbers_21 : decode cX12_readNumbers 21 = .ok (.iconst 0, 1) := by decide +kernel
theorem dX12_readNumbers_22 : decode cX12_readNumbers 22 = .ok (.ireturn, 1) := by decide +kernel
theorem dX12_readNumbers_23 : decode cX12_readNumbers 23 = .ok (.aload_n 0, 1) := by decide +kernel
theorem dX12_readNumbers_24 : decode cX12_readNumbers 24 = .ok (.getfield 19, 3) := by decide +kernel
theorem dX12_readNumbers_27 : decode cX12_readNumbers 27 = .ok (.iload_n 2, 1) := by decide +kernel
theorem dX12_readNumbers_28 : decode cX12_readNumbers 28 = .ok (.aload_n 0, 1) := by decide +kernel
theorem dX12_readNumbers_29 : decode cX12_readNumbers 29 = .ok (.aload_n 0, 1) := by decide +kernel
theorem dX12_readNumbers_30 : decode cX12_readNumbers 30 = .ok (.getfield 93, 3) := by decide +kernel
theorem dX12_readNumbers_33 : decode cX12_readNumbers 33 = .ok (.invokevirtual 96, 3) := by decide +kernel
theorem dX12_readNumbers_36 : decode cX12_readNumbers 36 = .ok (.bipush 48, 2) := by decide +kernel
theorem dX12_readNumbers_38 : decode cX12_readNumbers 38 = .ok (.isub, 1) := by decide +kernel
theorem dX12_readNumbers_39 : decode cX12_readNumbers 39 = .ok (.iastore, 1) := by decide +kernel
theorem dX12_readNumbers_40 : decode cX12_readNumbers 40 = .ok (.aload_n 0, 1) := by decide +kernel
theorem dX12_readNumbers_41 : decode cX12_readNumbers 41 = .ok (.dup, 1) := by decide +kernel
theorem dX12_readNumbers_42 : decode cX12_readNumbers 42 = .ok (.getfield 93, 3) := by decide +kernel
theorem dX12_readNumbers_45 : decode cX12_readNumbers 45 = .ok (.iconst 1, 1) := by decide +kernel
theorem dX12_readNumbers_46 : decode cX12_readNumbers 46 = .ok (.iadd, 1) := by decide +kernel
theorem dX12_readNumbers_47 : decode cX12_readNumbers 47 = .ok (.putfield 93, 3) := by decide +kernel
theorem dX12_readNumbers_50 : decode cX12_readNumbers 50 = .ok (.aload_n 0, 1) := by decide +kernel
theorem dX12_readNumbers_51 : decode cX12_readNumbers 51 = .ok (.aload_n 0, 1) := by decide +kernel
theorem dX12_readNumbers_52 : decode cX12_readNumbers 52 = .ok (.getfield 93, 3) := by decide +kernel
theorem dX12_readNumbers_55 : decode cX12_readNumbers 55 = .ok (.invokevirtual 96, 3) := by decide +kernel
theorem dX12_readNumbers_58 : decode cX12_readNumbers 58 = .ok (.invokestatic 100, 3) := by decide +kernel
theorem dX12_readNumbers_61 : decode cX12_readNumbers 61 = .ok (.ifCond .eq 40, 3) := by decide +kernel
theorem dX12_readNumbers_64 : decode cX12_readNumbers 64 = .ok (.aload_n 0, 1) := by decide +kernel
theorem dX12_readNumbers_65 : decode cX12_readNumbers 65 = .ok (.getfield 19, 3) := by decide +kernel
theorem dX12_readNumbers_68 : decode cX12_readNumbers 68 = .ok (.iload_n 2, 1) := by decide +kernel
theorem dX12_readNumbers_69 : decode cX12_readNumbers 69 = .ok (.bipush 10, 2) := by decide +kernel
theorem dX12_readNumbers_71 : decode cX12_readNumbers 71 = .ok (.aload_n 0, 1) := by decide +kernel
theorem dX12_readNumbers_72 : decode cX12_readNumbers 72 = .ok (.getfield 19, 3) := by decide +kernel
theorem dX12_readNumbers_75 : decode cX12_readNumbers 75 = .ok (.iload_n 2, 1) := by decide +kernel
theorem dX12_readNumbers_76 : decode cX12_readNumbers 76 = .ok (.iaload, 1) := by decide +kernel
theorem dX12_readNumbers_77 : decode cX12_readNumbers 77 = .ok (.imul, 1) := by decide +kernel
theorem dX12_readNumbers_78 : decode cX12_readNumbers 78 = .ok (.aload_n 0, 1) := by decide +kernel
theorem dX12_readNumbers_79 : decode cX12_readNumbers 79 = .ok (.aload_n 0, 1) := by decide +kernel
theorem dX12_readNumbers_80 : decode cX12_readNumbers 80 = .ok (.getfield 93, 3) := by decide +kernel
theorem dX12_readNumbers_83 : decode cX12_readNumbers 83 = .ok (.invokevirtual 96, 3) := by decide +kernel
theorem dX12_readNumbers_86 : decode cX12_readNumbers 86 = .ok (.iadd, 1) := by decide +kernel
theorem dX12_readNumbers_87 : decode cX12_readNumbers 87 = .ok (.bipush 48, 2) := by decide +kernel
theorem dX12_readNumbers_89 : decode cX12_readNumbers 89 = .ok (.isub, 1) := by decide +kernel
theorem dX12_readNumbers_90 : decode cX12_readNumbers 90 = .ok (.iastore, 1) := by decide +kernel
theorem dX12_readNumbers_91 : decode cX12_readNumbers 91 = .ok (.aload_n 0, 1) := by decide +kernel
theorem dX12_readNumbers_92 : decode cX12_readNumbers 92 = .ok (.dup, 1) := by decide +kernel
theorem dX12_readNumbers_93 : decode cX12_readNumbers 93 = .ok (.getfield 93, 3) := by decide +kernel
theorem dX12_readNumbers_96 : decode cX12_readNumbers 96 = .ok (.iconst 1, 1) := by decide +kernel
theorem dX12_readNumbers_97 : decode cX12_readNumbers 97 = .ok (.iadd, 1) := by decide +kernel
theorem dX12_readNumbers_98 : decode cX12_readNumbers 98 = .ok (.putfield 93, 3) := by decide +kernel
theorem dX12_readNumbers_101 : decode cX12_readNumbers 101 = .ok (.aload_n 0, 1) := by decide +kernel
theorem dX12_readNumbers_102 : decode cX12_readNumbers 102 = .ok (.aload_n 0, 1) := by decide +kernel
theorem dX12_readNumbers_103 : decode cX12_readNumbers 103 = .ok (.getfield 93, 3) := by decide +kernel
theorem dX12_readNumbers_106 : decode cX12_readNumbers 106 = .ok (.invokevirtual 96, 3) := by decide +kernel
theorem dX12_readNumbers_109 : decode cX12_readNumbers 109 = .ok (.iload_n 2, 1) := by decide +kernel
theorem dX12_readNumbers_110 : decode cX12_readNumbers 110 = .ok (.iload_n 1, 1) := by decide +kernel
theorem dX12_readNumbers_111 : decode cX12_readNumbers 111 = .ok (.iconst 1, 1) := by decide +kernel
theorem dX12_readNumbers_112 : decode cX12_readNumbers 112 = .ok (.isub, 1) := by decide +kernel
theorem dX12_readNumbers_113 : decode cX12_readNumbers 113 = .ok (.if_icmp .ge 8, 3) := by decide +kernel
theorem dX12_readNumbers_116 : decode cX12_readNumbers 116 = .ok (.bipush 44, 2) := by decide +kernel
theorem dX12_readNumbers_118 : decode cX12_readNumbers 118 = .ok (.goto 5, 3) := by decide +kernel
theorem dX12_readNumbers_121 : decode cX12_readNumbers 121 = .ok (.bipush 59, 2) := by decide +kernel
theorem dX12_readNumbers_123 : decode cX12_readNumbers 123 = .ok (.if_icmp .eq 5, 3) := by decide +kernel
theorem dX12_readNumbers_126 : decode cX12_readNumbers 126 = .ok (.iconst 0, 1) := by decide +kernel
theorem dX12_readNumbers_127 : decode cX12_readNumbers 127 = .ok (.ireturn, 1) := by decide +kernel
theorem dX12_readNumbers_128 : decode cX12_readNumbers 128 = .ok (.aload_n 0, 1) := by decide +kernel
theorem dX12_readNumbers_129 : decode cX12_readNumbers 129 = .ok (.dup, 1) := by decide +kernel
theorem dX12_readNumbers_130 : decode cX12_readNumbers 130 = .ok (.getfield 93, 3) := by decide +kernel
theorem dX12_readNumbers_133 : decode cX12_readNumbers 133 = .ok (.iconst 1, 1) := by decide +kernel
theorem dX12_readNumbers_134 : decode cX12_readNumbers 134 = .ok (.iadd, 1) := by decide +kernel
theorem dX12_readNumbers_135 : decode cX12_readNumbers 135 = .ok (.putfield 93, 3) := by decide +kernel
theorem dX12_readNumbers_138 : decode cX12_readNumbers 138 = .ok (.iinc 2 1, 3) := by decide +kernel
theorem dX12_readNumbers_141 : decode cX12_readNumbers 141 = .ok (.goto (-139), 3) := by decide +kernel
theorem dX12_readNumbers_144 : decode cX12_readNumbers 144 = .ok (.iconst 1, 1) := by decide +kernel
theorem dX12_readNumbers_145 : decode cX12_readNumbers 145 = .ok (.ireturn, 1) := by decide +kernel
theorem dX12_readGround_0 : decode cX12_readGround 0 = .ok (.aload_n 0, 1) := by decide +kernel
theorem dX12_readGround_1 : decode cX12_readGround 1 = .ok (.iconst 1, 1) := by decide +kernel
theorem dX12_readGround_2 : decode cX12_readGround 2 = .ok (.invokevirtual 104, 3) := by decide +kernel
theorem dX12_readGround_5 : decode cX12_readGround 5 = .ok (.ifCond .eq 18, 3) := by decide +kernel
theorem dX12_readGround_8 : decode cX12_readGround 8 = .ok (.aload_n 0, 1) := by decide +kernel
theorem dX12_readGround_9 : decode cX12_readGround 9 = .ok (.getfield 19, 3) := by decide +kernel
theorem dX12_readGround_12 : decode cX12_readGround 12 = .ok (.iconst 0, 1) := by decide +kernel
theorem dX12_readGround_13 : decode cX12_readGround 13 = .ok (.iaload, 1) := by decide +kernel
theorem dX12_readGround_14 : decode cX12_readGround 14 = .ok (.iconst 5, 1) := by decide +kernel
theorem dX12_readGround_15 : decode cX12_readGround 15 = .ok (.bipush 40, 2) := by decide +kernel
theorem dX12_readGround_17 : decode cX12_readGround 17 = .ok (.invokestatic 84, 3) := by decide +kernel
theorem dX12_readGround_20 : decode cX12_readGround 20 = .ok (.ifCond .ne 5, 3) := by decide +kernel
theorem dX12_readGround_23 : decode cX12_readGround 23 = .ok (.iconst 0, 1) := by decide +kernel
theorem dX12_readGround_24 : decode cX12_readGround 24 = .ok (.ireturn, 1) := by decide +kernel
theorem dX12_readGround_25 : decode cX12_readGround 25 = .ok (.aload_n 0, 1) := by decide +kernel
theorem dX12_readGround_26 : decode cX12_readGround 26 = .ok (.aload_n 0, 1) := by decide +kernel
theorem dX12_readGround_27 : decode cX12_readGround 27 = .ok (.getfield 19, 3) := by decide +kernel
theorem dX12_readGround_30 : decode cX12_readGround 30 = .ok (.iconst 0, 1) := by decide +kernel
theorem dX12_readGround_31 : decode cX12_readGround 31 = .ok (.iaload, 1) := by decide +kernel
theorem dX12_readGround_32 : decode cX12_readGround 32 = .ok (.putfield 107, 3) := by decide +kernel
theorem dX12_readGround_35 : decode cX12_readGround 35 = .ok (.iconst 1, 1) := by decide +kernel
theorem dX12_readGround_36 : decode cX12_readGround 36 = .ok (.ireturn, 1) := by decide +kernel
theorem dX12_readSlide_0 : decode cX12_readSlide 0 = .ok (.aload_n 0, 1) := by decide +kernel
theorem dX12_readSlide_1 : decode cX12_readSlide 1 = .ok (.iconst 1, 1) := by decide +kernel
theorem dX12_readSlide_2 : decode cX12_readSlide 2 = .ok (.invokevirtual 104, 3) := by decide +kernel
theorem dX12_readSlide_5 : decode cX12_readSlide 5 = .ok (.ifCond .eq 17, 3) := by decide +kernel
theorem dX12_readSlide_8 : decode cX12_readSlide 8 = .ok (.aload_n 0, 1) := by decide +kernel
theorem dX12_readSlide_9 : decode cX12_readSlide 9 = .ok (.getfield 19, 3) := by decide +kernel
theorem dX12_readSlide_12 : decode cX12_readSlide 12 = .ok (.iconst 0, 1) := by decide +kernel
theorem dX12_readSlide_13 : decode cX12_readSlide 13 = .ok (.iaload, 1) := by decide +kernel
theorem dX12_readSlide_14 : decode cX12_readSlide 14 = .ok (.iconst 0, 1) := by decide +kernel
theorem dX12_readSlide_15 : decode cX12_readSlide 15 = .ok (.iconst 3, 1) := by decide +kernel
theorem dX12_readSlide_16 : decode cX12_readSlide 16 = .ok (.invokestatic 84, 3) := by decide +kernel
theorem dX12_readSlide_19 : decode cX12_readSlide 19 = .ok (.ifCond .ne 5, 3) := by decide +kernel
theorem dX12_readSlide_22 : decode cX12_readSlide 22 = .ok (.iconst 0, 1) := by decide +kernel
theorem dX12_readSlide_23 : decode cX12_readSlide 23 = .ok (.ireturn, 1) := by decide +kernel
theorem dX12_readSlide_24 : decode cX12_readSlide 24 = .ok (.aload_n 0, 1) := by decide +kernel
theorem dX12_readSlide_25 : decode cX12_readSlide 25 = .ok (.aload_n 0, 1) := by decide +kernel
theorem dX12_readSlide_26 : decode cX12_readSlide 26 = .ok (.getfield 19, 3) := by decide +kernel
theorem dX12_readSlide_29 : decode cX12_readSlide 29 = .ok (.iconst 0, 1) := by decide +kernel
theorem dX12_readSlide_30 : decode cX12_readSlide 30 = .ok (.iaload, 1) := by decide +kernel
theorem dX12_readSlide_31 : decode cX12_readSlide 31 = .ok (.putfield 110, 3) := by decide +kernel
theorem dX12_readSlide_34 : decode cX12_readSlide 34 = .ok (.iconst 1, 1) := by decide +kernel
theorem dX12_readSlide_35 : decode cX12_readSlide 35 = .ok (.ireturn, 1) := by decide +kernel
theorem dX12_readPlayer_0 : decode cX12_readPlayer 0 = .ok (.aload_n 0, 1) := by decide +kernel
theorem dX12_readPlayer_1 : decode cX12_readPlayer 1 = .ok (.getfield 113, 3) := by decide +kernel
theorem dX12_readPlayer_4 : decode cX12_readPlayer 4 = .ok (.iconst 5, 1) := by decide +kernel
theorem dX12_readPlayer_5 : decode cX12_readPlayer 5 = .ok (.if_icmp .eq 11, 3) := by decide +kernel
theorem dX12_readPlayer_8 : decode cX12_readPlayer 8 = .ok (.aload_n 0, 1) := by decide +kernel
theorem dX12_readPlayer_9 : decode cX12_readPlayer 9 = .ok (.iconst 5, 1) := by decide +kernel
theorem dX12_readPlayer_10 : decode cX12_readPlayer 10 = .ok (.invokevirtual 104, 3) := by decide +kernel
theorem dX12_readPlayer_13 : decode cX12_readPlayer 13 = .ok (.ifCond .ne 5, 3) := by decide +kernel
theorem dX12_readPlayer_16 : decode cX12_readPlayer 16 = .ok (.iconst 0, 1) := by decide +kernel
theorem dX12_readPlayer_17 : decode cX12_readPlayer 17 = .ok (.ireturn, 1) := by decide +kernel
theorem dX12_readPlayer_18 : decode cX12_readPlayer 18 = .ok (.aload_n 0, 1) := by decide +kernel
theorem dX12_readPlayer_19 : decode cX12_readPlayer 19 = .ok (.getfield 19, 3) := by decide +kernel
theorem dX12_readPlayer_22 : decode cX12_readPlayer 22 = .ok (.iconst 0, 1) := by decide +kernel
theorem dX12_readPlayer_23 : decode cX12_readPlayer 23 = .ok (.iaload, 1) := by decide +kernel
theorem dX12_readPlayer_24 : decode cX12_readPlayer 24 = .ok (.iconst 0, 1) := by decide +kernel
theorem dX12_readPlayer_25 : decode cX12_readPlayer 25 = .ok (.bipush 40, 2) := by decide +kernel
theorem dX12_readPlayer_27 : decode cX12_readPlayer 27 = .ok (.invokestatic 84, 3) := by decide +kernel
theorem dX12_readPlayer_30 : decode cX12_readPlayer 30 = .ok (.ifCond .eq 61, 3) := by decide +kernel
theorem dX12_readPlayer_33 : decode cX12_readPlayer 33 = .ok (.aload_n 0, 1) := by decide +kernel
theorem dX12_readPlayer_34 : decode cX12_readPlayer 34 = .ok (.getfield 19, 3) := by decide +kernel
theorem dX12_readPlayer_37 : decode cX12_readPlayer 37 = .ok (.iconst 1, 1) := by decide +kernel
theorem dX12_readPlayer_38 : decode cX12_readPlayer 38 = .ok (.iaload, 1) := by decide +kernel
theorem dX12_readPlayer_39 : decode cX12_readPlayer 39 = .ok (.iconst 1, 1) := by decide +kernel
theorem dX12_readPlayer_40 : decode cX12_readPlayer 40 = .ok (.iconst 5, 1) := by decide +kernel
theorem dX12_readPlayer_41 : decode cX12_readPlayer 41 = .ok (.invokestatic 84, 3) := by decide +kernel
theorem dX12_readPlayer_44 : decode cX12_readPlayer 44 = .ok (.ifCond .eq 47, 3) := by decide +kernel
theorem dX12_readPlayer_47 : decode cX12_readPlayer 47 = .ok (.aload_n 0, 1) := by decide +kernel
theorem dX12_readPlayer_48 : decode cX12_readPlayer 48 = .ok (.getfield 19, 3) := by decide +kernel
theorem dX12_readPlayer_51 : decode cX12_readPlayer 51 = .ok (.iconst 2, 1) := by decide +kernel
theorem dX12_readPlayer_52 : decode cX12_readPlayer 52 = .ok (.iaload, 1) := by decide +kernel
theorem dX12_readPlayer_53 : decode cX12_readPlayer 53 = .ok (.iconst 1, 1) := by decide +kernel
theorem dX12_readPlayer_54 : decode cX12_readPlayer 54 = .ok (.bipush 9, 2) := by decide +kernel
theorem dX12_readPlayer_56 : decode cX12_readPlayer 56 = .ok (.invokestatic 84, 3) := by decide +kernel
theorem dX12_readPlayer_59 : decode cX12_readPlayer 59 = .ok (.ifCond .eq 32, 3) := by decide +kernel
theorem dX12_readPlayer_62 : decode cX12_readPlayer 62 = .ok (.aload_n 0, 1) := by decide +kernel
theorem dX12_readPlayer_63 : decode cX12_readPlayer 63 = .ok (.getfield 19, 3) := by decide +kernel
theorem dX12_readPlayer_66 : decode cX12_readPlayer 66 = .ok (.iconst 3, 1) := by decide +kernel
theorem dX12_readPlayer_67 : decode cX12_readPlayer 67 = .ok (.iaload, 1) := by decide +kernel
theorem dX12_readPlayer_68 : decode cX12_readPlayer 68 = .ok (.iconst 0, 1) := by decide +kernel
theorem dX12_readPlayer_69 : decode cX12_readPlayer 69 = .ok (.bipush 9, 2) := by decide +kernel
theorem dX12_readPlayer_71 : decode cX12_readPlayer 71 = .ok (.invokestatic 84, 3) := by decide +kernel
theorem dX12_readPlayer_74 : decode cX12_readPlayer 74 = .ok (.ifCond .eq 17, 3) := by decide +kernel
theorem dX12_readPlayer_77 : decode cX12_readPlayer 77 = .ok (.aload_n 0, 1) := by decide +kernel
theorem dX12_readPlayer_78 : decode cX12_readPlayer 78 = .ok (.getfield 19, 3) := by decide +kernel
theorem dX12_readPlayer_81 : decode cX12_readPlayer 81 = .ok (.iconst 4, 1) := by decide +kernel
theorem dX12_readPlayer_82 : decode cX12_readPlayer 82 = .ok (.iaload, 1) := by decide +kernel
theorem dX12_readPlayer_83 : decode cX12_readPlayer 83 = .ok (.iconst 0, 1) := by decide +kernel
theorem dX12_readPlayer_84 : decode cX12_readPlayer 84 = .ok (.iconst 3, 1) := by decide +kernel
theorem dX12_readPlayer_85 : decode cX12_readPlayer 85 = .ok (.invokestatic 84, 3) := by decide +kernel
theorem dX12_readPlayer_88 : decode cX12_readPlayer 88 = .ok (.ifCond .ne 5, 3) := by decide +kernel
theorem dX12_readPlayer_91 : decode cX12_readPlayer 91 = .ok (.iconst 0, 1) := by decide +kernel
theorem dX12_readPlayer_92 : decode cX12_readPlayer 92 = .ok (.ireturn, 1) := by decide +kernel
theorem dX12_readPlayer_93 : decode cX12_readPlayer 93 = .ok (.iconst 0, 1) := by decide +kernel
theorem dX12_readPlayer_94 : decode cX12_readPlayer 94 = .ok (.istore_n 1, 1) := by decide +kernel
theorem dX12_readPlayer_95 : decode cX12_readPlayer 95 = .ok (.iload_n 1, 1) := by decide +kernel
theorem dX12_readPlayer_96 : decode cX12_readPlayer 96 = .ok (.iconst 5, 1) := by decide +kernel
theorem dX12_readPlayer_97 : decode cX12_readPlayer 97 = .ok (.if_icmp .ge 28, 3) := by decide +kernel
theorem dX12_readPlayer_100 : decode cX12_readPlayer 100 = .ok (.aload_n 0, 1) := by decide +kernel
theorem dX12_readPlayer_101 : decode cX12_readPlayer 101 = .ok (.getfield 22, 3) := by decide +kernel
theorem dX12_readPlayer_104 : decode cX12_readPlayer 104 = .ok (.iconst 5, 1) := by decide +kernel
theorem dX12_readPlayer_105 : decode cX12_readPlayer 105 = .ok (.aload_n 0, 1) := by decide +kernel
theorem dX12_readPlayer_106 : decode cX12_readPlayer 106 = .ok (.getfield 113, 3) := by decide +kernel
theorem dX12_readPlayer_109 : decode cX12_readPlayer 109 = .ok (.imul, 1) := by decide +kernel
theorem dX12_readPlayer_110 : decode cX12_readPlayer 110 = .ok (.iload_n 1, 1) := by decide +kernel
theorem dX12_readPlayer_111 : decode cX12_readPlayer 111 = .ok (.iadd, 1) := by decide +kernel
theorem dX12_readPlayer_112 : decode cX12_readPlayer 112 = .ok (.aload_n 0, 1) := by decide +kernel
theorem dX12_readPlayer_113 : decode cX12_readPlayer 113 = .ok (.getfield 19, 3) := by decide +kernel
theorem dX12_readPlayer_116 : decode cX12_readPlayer 116 = .ok (.iload_n 1, 1) := by decide +kernel
theorem dX12_readPlayer_117 : decode cX12_readPlayer 117 = .ok (.iaload, 1) := by decide +kernel
theorem dX12_readPlayer_118 : decode cX12_readPlayer 118 = .ok (.iastore, 1) := by decide +kernel
theorem dX12_readPlayer_119 : decode cX12_readPlayer 119 = .ok (.iinc 1 1, 3) := by decide +kernel
theorem dX12_readPlayer_122 : decode cX12_readPlayer 122 = .ok (.goto (-27), 3) := by decide +kernel
theorem dX12_readPlayer_125 : decode cX12_readPlayer 125 = .ok (.aload_n 0, 1) := by decide +kernel
theorem dX12_readPlayer_126 : decode cX12_readPlayer 126 = .ok (.getfield 25, 3) := by decide +kernel
theorem dX12_readPlayer_129 : decode cX12_readPlayer 129 = .ok (.aload_n 0, 1) := by decide +kernel
theorem dX12_readPlayer_130 : decode cX12_readPlayer 130 = .ok (.getfield 113, 3) := by decide +kernel
theorem dX12_readPlayer_133 : decode cX12_readPlayer 133 = .ok (.bipush (-4), 2) := by decide +kernel
theorem dX12_readPlayer_135 : decode cX12_readPlayer 135 = .ok (.iastore, 1) := by decide +kernel
theorem dX12_readPlayer_136 : decode cX12_readPlayer 136 = .ok (.aload_n 0, 1) := by decide +kernel
theorem dX12_readPlayer_137 : decode cX12_readPlayer 137 = .ok (.getfield 28, 3) := by decide +kernel
theorem dX12_readPlayer_140 : decode cX12_readPlayer 140 = .ok (.aload_n 0, 1) := by decide +kernel
theorem dX12_readPlayer_141 : decode cX12_readPlayer 141 = .ok (.getfield 113, 3) := by decide +kernel
theorem dX12_readPlayer_144 : decode cX12_readPlayer 144 = .ok (.iconst 0, 1) := by decide +kernel
theorem dX12_readPlayer_145 : decode cX12_readPlayer 145 = .ok (.iastore, 1) := by decide +kernel
theorem dX12_readPlayer_146 : decode cX12_readPlayer 146 = .ok (.aload_n 0, 1) := by decide +kernel
theorem dX12_readPlayer_147 : decode cX12_readPlayer 147 = .ok (.dup, 1) := by decide +kernel
theorem dX12_readPlayer_148 : decode cX12_readPlayer 148 = .ok (.getfield 113, 3) := by decide +kernel
theorem dX12_readPlayer_151 : decode cX12_readPlayer 151 = .ok (.iconst 1, 1) := by decide +kernel
theorem dX12_readPlayer_152 : decode cX12_readPlayer 152 = .ok (.iadd, 1) := by decide +kernel
theorem dX12_readPlayer_153 : decode cX12_readPlayer 153 = .ok (.putfield 113, 3) := by decide +kernel
theorem dX12_readPlayer_156 : decode cX12_readPlayer 156 = .ok (.iconst 1, 1) := by decide +kernel
theorem dX12_readPlayer_157 : decode cX12_readPlayer 157 = .ok (.ireturn, 1) := by decide +kernel
theorem dX12_readCalled_0 : decode cX12_readCalled 0 = .ok (.aload_n 0, 1) := by decide +kernel
theorem dX12_readCalled_1 : decode cX12_readCalled 1 = .ok (.iconst 4, 1) := by decide +kernel
theorem dX12_readCalled_2 : decode cX12_readCalled 2 = .ok (.invokevirtual 104, 3) := by decide +kernel
theorem dX12_readCalled_5 : decode cX12_readCalled 5 = .ok (.ifCond .eq 44, 3) := by decide +kernel
theorem dX12_readCalled_8 : decode cX12_readCalled 8 = .ok (.aload_n 0, 1) := by decide +kernel
theorem dX12_readCalled_9 : decode cX12_readCalled 9 = .ok (.getfield 19, 3) := by decide +kernel
theorem dX12_readCalled_12 : decode cX12_readCalled 12 = .ok (.iconst 0, 1) := by decide +kernel
theorem dX12_readCalled_13 : decode cX12_readCalled 13 = .ok (.iaload, 1) := by decide +kernel
theorem dX12_readCalled_14 : decode cX12_readCalled 14 = .ok (.aload_n 0, 1) := by decide +kernel
theorem dX12_readCalled_15 : decode cX12_readCalled 15 = .ok (.getfield 113, 3) := by decide +kernel
theorem dX12_readCalled_18 : decode cX12_readCalled 18 = .ok (.if_icmp .ge 31, 3) := by decide +kernel
theorem dX12_readCalled_21 : decode cX12_readCalled 21 = .ok (.aload_n 0, 1) := by decide +kernel
theorem dX12_readCalled_22 : decode cX12_readCalled 22 = .ok (.getfield 19, 3) := by decide +kernel
theorem dX12_readCalled_25 : decode cX12_readCalled 25 = .ok (.iconst 1, 1) := by decide +kernel
theorem dX12_readCalled_26 : decode cX12_readCalled 26 = .ok (.iaload, 1) := by decide +kernel
theorem dX12_readCalled_27 : decode cX12_readCalled 27 = .ok (.aload_n 0, 1) := by decide +kernel
theorem dX12_readCalled_28 : decode cX12_readCalled 28 = .ok (.getfield 113, 3) := by decide +kernel
theorem dX12_readCalled_31 : decode cX12_readCalled 31 = .ok (.if_icmp .ge 18, 3) := by decide +kernel
theorem dX12_readCalled_34 : decode cX12_readCalled 34 = .ok (.aload_n 0, 1) := by decide +kernel
theorem dX12_readCalled_35 : decode cX12_readCalled 35 = .ok (.getfield 19, 3) := by decide +kernel
theorem dX12_readCalled_38 : decode cX12_readCalled 38 = .ok (.iconst 0, 1) := by decide +kernel
theorem dX12_readCalled_39 : decode cX12_readCalled 39 = .ok (.iaload, 1) := by decide +kernel
theorem dX12_readCalled_40 : decode cX12_readCalled 40 = .ok (.aload_n 0, 1) := by decide +kernel
theorem dX12_readCalled_41 : decode cX12_readCalled 41 = .ok (.getfield 19, 3) := by decide +kernel
theorem dX12_readCalled_44 : decode cX12_readCalled 44 = .ok (.iconst 1, 1) := by decide +kernel
theorem dX12_readCalled_45 : decode cX12_readCalled 45 = .ok (.iaload, 1) := by decide +kernel
theorem dX12_readCalled_46 : decode cX12_readCalled 46 = .ok (.if_icmp .ne 5, 3) := by decide +kernel
theorem dX12_readCalled_49 : decode cX12_readCalled 49 = .ok (.iconst 0, 1) := by decide +kernel
theorem dX12_readCalled_50 : decode cX12_readCalled 50 = .ok (.ireturn, 1) := by decide +kernel
theorem dX12_readCalled_51 : decode cX12_readCalled 51 = .ok (.aload_n 0, 1) := by decide +kernel
theorem dX12_readCalled_52 : decode cX12_readCalled 52 = .ok (.getfield 19, 3) := by decide +kernel
theorem dX12_readCalled_55 : decode cX12_readCalled 55 = .ok (.iconst 2, 1) := by decide +kernel
theorem dX12_readCalled_56 : decode cX12_readCalled 56 = .ok (.iaload, 1) := by decide +kernel
theorem dX12_readCalled_57 : decode cX12_readCalled 57 = .ok (.iconst 0, 1) := by decide +kernel
theorem dX12_readCalled_58 : decode cX12_readCalled 58 = .ok (.bipush 40, 2) := by decide +kernel
theorem dX12_readCalled_60 : decode cX12_readCalled 60 = .ok (.invokestatic 84, 3) := by decide +kernel
theorem dX12_readCalled_63 : decode cX12_readCalled 63 = .ok (.ifCond .eq 18, 3) := by decide +kernel
theorem dX12_readCalled_66 : decode cX12_readCalled 66 = .ok (.aload_n 0, 1) := by decide +kernel
theorem dX12_readCalled_67 : decode cX12_readCalled 67 = .ok (.getfield 19, 3) := by decide +kernel
theorem dX12_readCalled_70 : decode cX12_readCalled 70 = .ok (.iconst 3, 1) := by decide +kernel
theorem dX12_readCalled_71 : decode cX12_readCalled 71 = .ok (.iaload, 1) := by decide +kernel
theorem dX12_readCalled_72 : decode cX12_readCalled 72 = .ok (.iconst 1, 1) := by decide +kernel
theorem dX12_readCalled_73 : decode cX12_readCalled 73 = .ok (.bipush 9, 2) := by decide +kernel
theorem dX12_readCalled_75 : decode cX12_readCalled 75 = .ok (.invokestatic 84, 3) := by decide +kernel
theorem dX12_readCalled_78 : decode cX12_readCalled 78 = .ok (.ifCond .ne 5, 3) := by decide +kernel
theorem dX12_readCalled_81 : decode cX12_readCalled 81 = .ok (.iconst 0, 1) := by decide +kernel
theorem dX12_readCalled_82 : decode cX12_readCalled 82 = .ok (.ireturn, 1) := by decide +kernel
theorem dX12_readCalled_83 : decode cX12_readCalled 83 = .ok (.aload_n 0, 1) := by decide +kernel
theorem dX12_readCalled_84 : decode cX12_readCalled 84 = .ok (.getfield 25, 3) := by decide +kernel
theorem dX12_readCalled_87 : decode cX12_readCalled 87 = .ok (.aload_n 0, 1) := by decide +kernel
theorem dX12_readCalled_88 : decode cX12_readCalled 88 = .ok (.getfield 19, 3) := by decide +kernel
theorem dX12_readCalled_91 : decode cX12_readCalled 91 = .ok (.iconst 0, 1) := by decide +kernel
theorem dX12_readCalled_92 : decode cX12_readCalled 92 = .ok (.iaload, 1) := by decide +kernel
theorem dX12_readCalled_93 : decode cX12_readCalled 93 = .ok (.aload_n 0, 1) := by decide +kernel
theorem dX12_readCalled_94 : decode cX12_readCalled 94 = .ok (.getfield 19, 3) := by decide +kernel
theorem dX12_readCalled_97 : decode cX12_readCalled 97 = .ok (.iconst 1, 1) := by decide +kernel
theorem dX12_readCalled_98 : decode cX12_readCalled 98 = .ok (.iaload, 1) := by decide +kernel
theorem dX12_readCalled_99 : decode cX12_readCalled 99 = .ok (.iastore, 1) := by decide +kernel
theorem dX12_readCalled_100 : decode cX12_readCalled 100 = .ok (.aload_n 0, 1) := by decide +kernel
theorem dX12_readCalled_101 : decode cX12_readCalled 101 = .ok (.getfield 25, 3) := by decide +kernel
theorem dX12_readCalled_104 : decode cX12_readCalled 104 = .ok (.iconst 5, 1) := by decide +kernel
theorem dX12_readCalled_105 : decode cX12_readCalled 105 = .ok (.aload_n 0, 1) := by decide +kernel
theorem dX12_readCalled_106 : decode cX12_readCalled 106 = .ok (.getfield 19, 3) := by decide +kernel
theorem dX12_readCalled_109 : decode cX12_readCalled 109 = .ok (.iconst 0, 1) := by decide +kernel
theorem dX12_readCalled_110 : decode cX12_readCalled 110 = .ok (.iaload, 1) := by decide +kernel
theorem dX12_readCalled_111 : decode cX12_readCalled 111 = .ok (.iadd, 1) := by decide +kernel
theorem dX12_readCalled_112 : decode cX12_readCalled 112 = .ok (.aload_n 0, 1) := by decide +kernel
theorem dX12_readCalled_113 : decode cX12_readCalled 113 = .ok (.getfield 19, 3) := by decide +kernel
theorem dX12_readCalled_116 : decode cX12_readCalled 116 = .ok (.iconst 2, 1) := by decide +kernel
theorem dX12_readCalled_117 : decode cX12_readCalled 117 = .ok (.iaload, 1) := by decide +kernel
theorem dX12_readCalled_118 : decode cX12_readCalled 118 = .ok (.iastore, 1) := by decide +kernel
theorem dX12_readCalled_119 : decode cX12_readCalled 119 = .ok (.aload_n 0, 1) := by decide +kernel
theorem dX12_readCalled_120 : decode cX12_readCalled 120 = .ok (.getfield 25, 3) := by decide +kernel
theorem dX12_readCalled_123 : decode cX12_readCalled 123 = .ok (.bipush 10, 2) := by decide +kernel
theorem dX12_readCalled_125 : decode cX12_readCalled 125 = .ok (.aload_n 0, 1) := by decide +kernel
theorem dX12_readCalled_126 : decode cX12_readCalled 126 = .ok (.getfield 19, 3) := by decide +kernel
theorem dX12_readCalled_129 : decode cX12_readCalled 129 = .ok (.iconst 0, 1) := by decide +kernel
theorem dX12_readCalled_130 : decode cX12_readCalled 130 = .ok (.iaload, 1) := by decide +kernel
theorem dX12_readCalled_131 : decode cX12_readCalled 131 = .ok (.iadd, 1) := by decide +kernel
theorem dX12_readCalled_132 : decode cX12_readCalled 132 = .ok (.aload_n 0, 1) := by decide +kernel
theorem dX12_readCalled_133 : decode cX12_readCalled 133 = .ok (.getfield 19, 3) := by decide +kernel
theorem dX12_readCalled_136 : decode cX12_readCalled 136 = .ok (.iconst 3, 1) := by decide +kernel
theorem dX12_readCalled_137 : decode cX12_readCalled 137 = .ok (.iaload, 1) := by decide +kernel
theorem dX12_readCalled_138 : decode cX12_readCalled 138 = .ok (.iastore, 1) := by decide +kernel
theorem dX12_readCalled_139 : decode cX12_readCalled 139 = .ok (.iconst 1, 1) := by decide +kernel
theorem dX12_readCalled_140 : decode cX12_readCalled 140 = .ok (.ireturn, 1) := by decide +kernel
theorem dX12_readLettersOf_0 : decode cX12_readLettersOf 0 = .ok (.aload_n 0, 1) := by decide +kernel
theorem dX12_readLettersOf_1 : decode cX12_readLettersOf 1 = .ok (.iconst 2, 1) := by decide +kernel
theorem dX12_readLettersOf_2 : decode cX12_readLettersOf 2 = .ok (.invokevirtual 104, 3) := by decide +kernel
theorem dX12_readLettersOf_5 : decode cX12_readLettersOf 5 = .ok (.ifCond .eq 30, 3) := by decide +kernel
theorem dX12_readLettersOf_8 : decode cX12_readLettersOf 8 = .ok (.aload_n 0, 1) := by decide +kernel
theorem dX12_readLettersOf_9 : decode cX12_readLettersOf 9 = .ok (.getfield 19, 3) := by decide +kernel
theorem dX12_readLettersOf_12 : decode cX12_readLettersOf 12 = .ok (.iconst 0, 1) := by decide +kernel
theorem dX12_readLettersOf_13 : decode cX12_readLettersOf 13 = .ok (.iaload, 1) := by decide +kernel
theorem dX12_readLettersOf_14 : decode cX12_readLettersOf 14 = .ok (.aload_n 0, 1) := by decide +kernel
theorem dX12_readLettersOf_15 : decode cX12_readLettersOf 15 = .ok (.getfield 113, 3) := by decide +kernel
theorem dX12_readLettersOf_18 : decode cX12_readLettersOf 18 = .ok (.if_icmp .ge 17, 3) := by decide +kernel
theorem dX12_readLettersOf_21 : decode cX12_readLettersOf 21 = .ok (.aload_n 0, 1) := by decide +kernel
theorem dX12_readLettersOf_22 : decode cX12_readLettersOf 22 = .ok (.getfield 19, 3) := by decide +kernel
theorem dX12_readLettersOf_25 : decode cX12_readLettersOf 25 = .ok (.iconst 1, 1) := by decide +kernel
theorem dX12_readLettersOf_26 : decode cX12_readLettersOf 26 = .ok (.iaload, 1) := by decide +kernel
theorem dX12_readLettersOf_27 : decode cX12_readLettersOf 27 = .ok (.iconst 0, 1) := by decide +kernel
theorem dX12_readLettersOf_28 : decode cX12_readLettersOf 28 = .ok (.iconst 3, 1) := by decide +kernel
theorem dX12_readLettersOf_29 : decode cX12_readLettersOf 29 = .ok (.invokestatic 84, 3) := by decide +kernel
theorem dX12_readLettersOf_32 : decode cX12_readLettersOf 32 = .ok (.ifCond .ne 5, 3) := by decide +kernel
theorem dX12_readLettersOf_35 : decode cX12_readLettersOf 35 = .ok (.iconst 0, 1) := by decide +kernel
theorem dX12_readLettersOf_36 : decode cX12_readLettersOf 36 = .ok (.ireturn, 1) := by decide +kernel
theorem dX12_readLettersOf_37 : decode cX12_readLettersOf 37 = .ok (.aload_n 0, 1) := by decide +kernel
theorem dX12_readLettersOf_38 : decode cX12_readLettersOf 38 = .ok (.getfield 28, 3) := by decide +kernel
theorem dX12_readLettersOf_41 : decode cX12_readLettersOf 41 = .ok (.aload_n 0, 1) := by decide +kernel
theorem dX12_readLettersOf_42 : decode cX12_readLettersOf 42 = .ok (.getfield 19, 3) := by decide +kernel
theorem dX12_readLettersOf_45 : decode cX12_readLettersOf 45 = .ok (.iconst 0, 1) := by decide +kernel
theorem dX12_readLettersOf_46 : decode cX12_readLettersOf 46 = .ok (.iaload, 1) := by decide +kernel
theorem dX12_readLettersOf_47 : decode cX12_readLettersOf 47 = .ok (.aload_n 0, 1) := by decide +kernel
theorem dX12_readLettersOf_48 : decode cX12_readLettersOf 48 = .ok (.getfield 19, 3) := by decide +kernel
theorem dX12_readLettersOf_51 : decode cX12_readLettersOf 51 = .ok (.iconst 1, 1) := by decide +kernel
theorem dX12_readLettersOf_52 : decode cX12_readLettersOf 52 = .ok (.iaload, 1) := by decide +kernel
theorem dX12_readLettersOf_53 : decode cX12_readLettersOf 53 = .ok (.iastore, 1) := by decide +kernel
theorem dX12_readLettersOf_54 : decode cX12_readLettersOf 54 = .ok (.iconst 1, 1) := by decide +kernel
theorem dX12_readLettersOf_55 : decode cX12_readLettersOf 55 = .ok (.ireturn, 1) := by decide +kernel
theorem dX12_readItem_0 : decode cX12_readItem 0 = .ok (.aload_n 0, 1) := by decide +kernel
theorem dX12_readItem_1 : decode cX12_readItem 1 = .ok (.aload_n 0, 1) := by decide +kernel
theorem dX12_readItem_2 : decode cX12_readItem 2 = .ok (.getfield 93, 3) := by decide +kernel
theorem dX12_readItem_5 : decode cX12_readItem 5 = .ok (.invokevirtual 96, 3) := by decide +kernel
theorem dX12_readItem_8 : decode cX12_readItem 8 = .ok (.istore_n 1, 1) := by decide +kernel
theorem dX12_readItem_9 : decode cX12_readItem 9 = .ok (.aload_n 0, 1) := by decide +kernel
theorem dX12_readItem_10 : decode cX12_readItem 10 = .ok (.dup, 1) := by decide +kernel
theorem dX12_readItem_11 : decode cX12_readItem 11 = .ok (.getfield 93, 3) := by decide +kernel
theorem dX12_readItem_14 : decode cX12_readItem 14 = .ok (.iconst 1, 1) := by decide +kernel
theorem dX12_readItem_15 : decode cX12_readItem 15 = .ok (.iadd, 1) := by decide +kernel
theorem dX12_readItem_16 : decode cX12_readItem 16 = .ok (.putfield 93, 3) := by decide +kernel
theorem dX12_readItem_19 : decode cX12_readItem 19 = .ok (.iload_n 1, 1) := by decide +kernel
theorem dX12_readItem_20 : decode cX12_readItem 20 = .ok (.lookupswitch 77 #[(97, 62), (100, 72), (108, 67), (110, 52), (112, 57)], 52) := by decide +kernel
theorem dX12_readItem_72 : decode cX12_readItem 72 = .ok (.aload_n 0, 1) := by decide +kernel
theorem dX12_readItem_73 : decode cX12_readItem 73 = .ok (.invokevirtual 116, 3) := by decide +kernel
theorem dX12_readItem_76 : decode cX12_readItem 76 = .ok (.ireturn, 1) := by decide +kernel
theorem dX12_readItem_77 : decode cX12_readItem 77 = .ok (.aload_n 0, 1) := by decide +kernel
theorem dX12_readItem_78 : decode cX12_readItem 78 = .ok (.invokevirtual 120, 3) := by decide +kernel
theorem dX12_readItem_81 : decode cX12_readItem 81 = .ok (.ireturn, 1) := by decide +kernel
theorem dX12_readItem_82 : decode cX12_readItem 82 = .ok (.aload_n 0, 1) := by decide +kernel
theorem dX12_readItem_83 : decode cX12_readItem 83 = .ok (.invokevirtual 123, 3) := by decide +kernel
theorem dX12_readItem_86 : decode cX12_readItem 86 = .ok (.ireturn, 1) := by decide +kernel
theorem dX12_readItem_87 : decode cX12_readItem 87 = .ok (.aload_n 0, 1) := by decide +kernel
theorem dX12_readItem_88 : decode cX12_readItem 88 = .ok (.invokevirtual 126, 3) := by decide +kernel
theorem dX12_readItem_91 : decode cX12_readItem 91 = .ok (.ireturn, 1) := by decide +kernel
theorem dX12_readItem_92 : decode cX12_readItem 92 = .ok (.aload_n 0, 1) := by decide +kernel
theorem dX12_readItem_93 : decode cX12_readItem 93 = .ok (.invokevirtual 129, 3) := by decide +kernel
theorem dX12_readItem_96 : decode cX12_readItem 96 = .ok (.ireturn, 1) := by decide +kernel
theorem dX12_readItem_97 : decode cX12_readItem 97 = .ok (.iconst 0, 1) := by decide +kernel
theorem dX12_readItem_98 : decode cX12_readItem 98 = .ok (.ireturn, 1) := by decide +kernel
theorem dX12_fault_0 : decode cX12_fault 0 = .ok (.aload_n 0, 1) := by decide +kernel
theorem dX12_fault_1 : decode cX12_fault 1 = .ok (.iconst 0, 1) := by decide +kernel
theorem dX12_fault_2 : decode cX12_fault 2 = .ok (.putfield 93, 3) := by decide +kernel
theorem dX12_fault_5 : decode cX12_fault 5 = .ok (.aload_n 0, 1) := by decide +kernel
theorem dX12_fault_6 : decode cX12_fault 6 = .ok (.bipush 30, 2) := by decide +kernel
theorem dX12_fault_8 : decode cX12_fault 8 = .ok (.putfield 107, 3) := by decide +kernel
theorem dX12_fault_11 : decode cX12_fault 11 = .ok (.aload_n 0, 1) := by decide +kernel
theorem dX12_fault_12 : decode cX12_fault 12 = .ok (.iconst 1, 1) := by decide +kernel
theorem dX12_fault_13 : decode cX12_fault 13 = .ok (.putfield 110, 3) := by decide +kernel
theorem dX12_fault_16 : decode cX12_fault 16 = .ok (.aload_n 0, 1) := by decide +kernel
theorem dX12_fault_17 : decode cX12_fault 17 = .ok (.iconst 0, 1) := by decide +kernel
theorem dX12_fault_18 : decode cX12_fault 18 = .ok (.putfield 113, 3) := by decide +kernel
theorem dX12_fault_21 : decode cX12_fault 21 = .ok (.aload_n 0, 1) := by decide +kernel
theorem dX12_fault_22 : decode cX12_fault 22 = .ok (.getfield 93, 3) := by decide +kernel
theorem dX12_fault_25 : decode cX12_fault 25 = .ok (.aload_n 0, 1) := by decide +kernel
theorem dX12_fault_26 : decode cX12_fault 26 = .ok (.getfield 88, 3) := by decide +kernel
theorem dX12_fault_29 : decode cX12_fault 29 = .ok (.if_icmp .ge 20, 3) := by decide +kernel
theorem dX12_fault_32 : decode cX12_fault 32 = .ok (.aload_n 0, 1) := by decide +kernel
theorem dX12_fault_33 : decode cX12_fault 33 = .ok (.getfield 93, 3) := by decide +kernel
theorem dX12_fault_36 : decode cX12_fault 36 = .ok (.istore_n 1, 1) := by decide +kernel
theorem dX12_fault_37 : decode cX12_fault 37 = .ok (.aload_n 0, 1) := by decide +kernel
theorem dX12_fault_38 : decode cX12_fault 38 = .ok (.invokevirtual 131, 3) := by decide +kernel
theorem dX12_fault_41 : decode cX12_fault 41 = .ok (.ifCond .ne 5, 3) := by decide +kernel
theorem dX12_fault_44 : decode cX12_fault 44 = .ok (.iload_n 1, 1) := by decide +kernel
theorem dX12_fault_45 : decode cX12_fault 45 = .ok (.ireturn, 1) := by decide +kernel
theorem dX12_fault_46 : decode cX12_fault 46 = .ok (.goto (-25), 3) := by decide +kernel
theorem dX12_fault_49 : decode cX12_fault 49 = .ok (.bipush (-4), 2) := by decide +kernel
theorem dX12_fault_51 : decode cX12_fault 51 = .ok (.ireturn, 1) := by decide +kernel
theorem dX12_calls_0 : decode cX12_calls 0 = .ok (.iconst 0, 1) := by decide +kernel
theorem dX12_calls_1 : decode cX12_calls 1 = .ok (.istore_n 1, 1) := by decide +kernel
theorem dX12_calls_2 : decode cX12_calls 2 = .ok (.iload_n 1, 1) := by decide +kernel
theorem dX12_calls_3 : decode cX12_calls 3 = .ok (.aload_n 0, 1) := by decide +kernel
theorem dX12_calls_4 : decode cX12_calls 4 = .ok (.getfield 113, 3) := by decide +kernel
theorem dX12_calls_7 : decode cX12_calls 7 = .ok (.if_icmp .ge 65, 3) := by decide +kernel
theorem dX12_calls_10 : decode cX12_calls 10 = .ok (.aload_n 0, 1) := by decide +kernel
theorem dX12_calls_11 : decode cX12_calls 11 = .ok (.getfield 25, 3) := by decide +kernel
theorem dX12_calls_14 : decode cX12_calls 14 = .ok (.iload_n 1, 1) := by decide +kernel
theorem dX12_calls_15 : decode cX12_calls 15 = .ok (.iaload, 1) := by decide +kernel
theorem dX12_calls_16 : decode cX12_calls 16 = .ok (.bipush (-4), 2) := by decide +kernel
theorem dX12_calls_18 : decode cX12_calls 18 = .ok (.if_icmp .ne 48, 3) := by decide +kernel
theorem dX12_calls_21 : decode cX12_calls 21 = .ok (.aload_n 0, 1) := by decide +kernel
theorem dX12_calls_22 : decode cX12_calls 22 = .ok (.getfield 25, 3) := by decide +kernel
theorem dX12_calls_25 : decode cX12_calls 25 = .ok (.iload_n 1, 1) := by decide +kernel
theorem dX12_calls_26 : decode cX12_calls 26 = .ok (.iload_n 1, 1) := by decide +kernel
theorem dX12_calls_27 : decode cX12_calls 27 = .ok (.iconst 1, 1) := by decide +kernel
theorem dX12_calls_28 : decode cX12_calls 28 = .ok (.iadd, 1) := by decide +kernel
theorem dX12_calls_29 : decode cX12_calls 29 = .ok (.aload_n 0, 1) := by decide +kernel
theorem dX12_calls_30 : decode cX12_calls 30 = .ok (.getfield 113, 3) := by decide +kernel
theorem dX12_calls_33 : decode cX12_calls 33 = .ok (.irem, 1) := by decide +kernel
theorem dX12_calls_34 : decode cX12_calls 34 = .ok (.iastore, 1) := by decide +kernel
theorem dX12_calls_35 : decode cX12_calls 35 = .ok (.aload_n 0, 1) := by decide +kernel
theorem dX12_calls_36 : decode cX12_calls 36 = .ok (.getfield 25, 3) := by decide +kernel
theorem dX12_calls_39 : decode cX12_calls 39 = .ok (.iconst 5, 1) := by decide +kernel
theorem dX12_calls_40 : decode cX12_calls 40 = .ok (.iload_n 1, 1) := by decide +kernel
theorem dX12_calls_41 : decode cX12_calls 41 = .ok (.iadd, 1) := by decide +kernel
theorem dX12_calls_42 : decode cX12_calls 42 = .ok (.aload_n 0, 1) := by decide +kernel
theorem dX12_calls_43 : decode cX12_calls 43 = .ok (.getfield 22, 3) := by decide +kernel
theorem dX12_calls_46 : decode cX12_calls 46 = .ok (.iconst 5, 1) := by decide +kernel
theorem dX12_calls_47 : decode cX12_calls 47 = .ok (.aload_n 0, 1) := by decide +kernel
theorem dX12_calls_48 : decode cX12_calls 48 = .ok (.getfield 25, 3) := by decide +kernel
theorem dX12_calls_51 : decode cX12_calls 51 = .ok (.iload_n 1, 1) := by decide +kernel
theorem dX12_calls_52 : decode cX12_calls 52 = .ok (.iaload, 1) := by decide +kernel
theorem dX12_calls_53 : decode cX12_calls 53 = .ok (.imul, 1) := by decide +kernel
theorem dX12_calls_54 : decode cX12_calls 54 = .ok (.iaload, 1) := by decide +kernel
theorem dX12_calls_55 : decode cX12_calls 55 = .ok (.iastore, 1) := by decide +kernel
theorem dX12_calls_56 : decode cX12_calls 56 = .ok (.aload_n 0, 1) := by decide +kernel
theorem dX12_calls_57 : decode cX12_calls 57 = .ok (.getfield 25, 3) := by decide +kernel
theorem dX12_calls_60 : decode cX12_calls 60 = .ok (.bipush 10, 2) := by decide +kernel
theorem dX12_calls_62 : decode cX12_calls 62 = .ok (.iload_n 1, 1) := by decide +kernel
theorem dX12_calls_63 : decode cX12_calls 63 = .ok (.iadd, 1) := by decide +kernel
theorem dX12_calls_64 : decode cX12_calls 64 = .ok (.iconst 1, 1) := by decide +kernel
theorem dX12_calls_65 : decode cX12_calls 65 = .ok (.iastore, 1) := by decide +kernel
theorem dX12_calls_66 : decode cX12_calls 66 = .ok (.iinc 1 1, 3) := by decide +kernel
theorem dX12_calls_69 : decode cX12_calls 69 = .ok (.goto (-67), 3) := by decide +kernel
theorem dX12_calls_72 : decode cX12_calls 72 = .ok (.return_, 1) := by decide +kernel
theorem dX12_lay_0 : decode cX12_lay 0 = .ok (.aload_n 0, 1) := by decide +kernel
theorem dX12_lay_1 : decode cX12_lay 1 = .ok (.invokevirtual 134, 3) := by decide +kernel
theorem dX12_lay_4 : decode cX12_lay 4 = .ok (.bipush (-4), 2) := by decide +kernel
theorem dX12_lay_6 : decode cX12_lay 6 = .ok (.if_icmp .ne 11, 3) := by decide +kernel
theorem dX12_lay_9 : decode cX12_lay 9 = .ok (.aload_n 0, 1) := by decide +kernel
theorem dX12_lay_10 : decode cX12_lay 10 = .ok (.getfield 113, 3) := by decide +kernel
theorem dX12_lay_13 : decode cX12_lay 13 = .ok (.iconst 2, 1) := by decide +kernel
theorem dX12_lay_14 : decode cX12_lay 14 = .ok (.if_icmp .ge 6, 3) := by decide +kernel
theorem dX12_lay_17 : decode cX12_lay 17 = .ok (.bipush (-2), 2) := by decide +kernel
theorem dX12_lay_19 : decode cX12_lay 19 = .ok (.ireturn, 1) := by decide +kernel
theorem dX12_lay_20 : decode cX12_lay 20 = .ok (.aload_n 0, 1) := by decide +kernel
theorem dX12_lay_21 : decode cX12_lay 21 = .ok (.invokevirtual 138, 3) := by decide +kernel
theorem dX12_lay_24 : decode cX12_lay 24 = .ok (.iconst 0, 1) := by decide +kernel
theorem dX12_lay_25 : decode cX12_lay 25 = .ok (.istore_n 1, 1) := by decide +kernel
theorem dX12_lay_26 : decode cX12_lay 26 = .ok (.iload_n 1, 1) := by decide +kernel
theorem dX12_lay_27 : decode cX12_lay 27 = .ok (.aload_n 0, 1) := by decide +kernel
theorem dX12_lay_28 : decode cX12_lay 28 = .ok (.getfield 113, 3) := by decide +kernel
theorem dX12_lay_31 : decode cX12_lay 31 = .ok (.if_icmp .ge 42, 3) := by decide +kernel
theorem dX12_lay_34 : decode cX12_lay 34 = .ok (.aload_n 0, 1) := by decide +kernel
theorem dX12_lay_35 : decode cX12_lay 35 = .ok (.getfield 22, 3) := by decide +kernel
theorem dX12_lay_38 : decode cX12_lay 38 = .ok (.iconst 5, 1) := by decide +kernel
theorem dX12_lay_39 : decode cX12_lay 39 = .ok (.iload_n 1, 1) := by decide +kernel
theorem dX12_lay_40 : decode cX12_lay 40 = .ok (.imul, 1) := by decide +kernel
theorem dX12_lay_41 : decode cX12_lay 41 = .ok (.iaload, 1) := by decide +kernel
theorem dX12_lay_42 : decode cX12_lay 42 = .ok (.aload_n 0, 1) := by decide +kernel
theorem dX12_lay_43 : decode cX12_lay 43 = .ok (.getfield 107, 3) := by decide +kernel
theorem dX12_lay_46 : decode cX12_lay 46 = .ok (.if_icmp .gt 18, 3) := by decide +kernel
theorem dX12_lay_49 : decode cX12_lay 49 = .ok (.aload_n 0, 1) := by decide +kernel
theorem dX12_lay_50 : decode cX12_lay 50 = .ok (.getfield 25, 3) := by decide +kernel
theorem dX12_lay_53 : decode cX12_lay 53 = .ok (.iconst 5, 1) := by decide +kernel
theorem dX12_lay_54 : decode cX12_lay 54 = .ok (.iload_n 1, 1) := by decide +kernel
theorem dX12_lay_55 : decode cX12_lay 55 = .ok (.iadd, 1) := by decide +kernel
theorem dX12_lay_56 : decode cX12_lay 56 = .ok (.iaload, 1) := by decide +kernel
theorem dX12_lay_57 : decode cX12_lay 57 = .ok (.aload_n 0, 1) := by decide +kernel
theorem dX12_lay_58 : decode cX12_lay 58 = .ok (.getfield 107, 3) := by decide +kernel
theorem dX12_lay_61 : decode cX12_lay 61 = .ok (.if_icmp .le 6, 3) := by decide +kernel
theorem dX12_lay_64 : decode cX12_lay 64 = .ok (.bipush (-2), 2) := by decide +kernel
theorem dX12_lay_66 : decode cX12_lay 66 = .ok (.ireturn, 1) := by decide +kernel
theorem dX12_lay_67 : decode cX12_lay 67 = .ok (.iinc 1 1, 3) := by decide +kernel
theorem dX12_lay_70 : decode cX12_lay 70 = .ok (.goto (-44), 3) := by decide +kernel
theorem dX12_lay_73 : decode cX12_lay 73 = .ok (.aload_n 0, 1) := by decide +kernel
theorem dX12_lay_74 : decode cX12_lay 74 = .ok (.aload_n 0, 1) := by decide +kernel
theorem dX12_lay_75 : decode cX12_lay 75 = .ok (.getfield 107, 3) := by decide +kernel
theorem dX12_lay_78 : decode cX12_lay 78 = .ok (.putfield 68, 3) := by decide +kernel
theorem dX12_lay_81 : decode cX12_lay 81 = .ok (.aload_n 0, 1) := by decide +kernel
theorem dX12_lay_82 : decode cX12_lay 82 = .ok (.aload_n 0, 1) := by decide +kernel
theorem dX12_lay_83 : decode cX12_lay 83 = .ok (.getfield 110, 3) := by decide +kernel
theorem dX12_lay_86 : decode cX12_lay 86 = .ok (.putfield 72, 3) := by decide +kernel
theorem dX12_lay_89 : decode cX12_lay 89 = .ok (.aload_n 0, 1) := by decide +kernel
theorem dX12_lay_90 : decode cX12_lay 90 = .ok (.aload_n 0, 1) := by decide +kernel
theorem dX12_lay_91 : decode cX12_lay 91 = .ok (.getfield 113, 3) := by decide +kernel
theorem dX12_lay_94 : decode cX12_lay 94 = .ok (.putfield 75, 3) := by decide +kernel
theorem dX12_lay_97 : decode cX12_lay 97 = .ok (.iconst 0, 1) := by decide +kernel
theorem dX12_lay_98 : decode cX12_lay 98 = .ok (.istore_n 1, 1) := by decide +kernel
theorem dX12_lay_99 : decode cX12_lay 99 = .ok (.iload_n 1, 1) := by decide +kernel
theorem dX12_lay_100 : decode cX12_lay 100 = .ok (.bipush 25, 2) := by decide +kernel
theorem dX12_lay_102 : decode cX12_lay 102 = .ok (.if_icmp .ge 21, 3) := by decide +kernel
theorem dX12_lay_105 : decode cX12_lay 105 = .ok (.aload_n 0, 1) := by decide +kernel
theorem dX12_lay_106 : decode cX12_lay 106 = .ok (.getfield 7, 3) := by decide +kernel
theorem dX12_lay_109 : decode cX12_lay 109 = .ok (.iload_n 1, 1) := by decide +kernel
theorem dX12_lay_110 : decode cX12_lay 110 = .ok (.aload_n 0, 1) := by decide +kernel
theorem dX12_lay_111 : decode cX12_lay 111 = .ok (.getfield 22, 3) := by decide +kernel
theorem dX12_lay_114 : decode cX12_lay 114 = .ok (.iload_n 1, 1) := by decide +kernel
theorem dX12_lay_115 : decode cX12_lay 115 = .ok (.iaload, 1) := by decide +kernel
theorem dX12_lay_116 : decode cX12_lay 116 = .ok (.iastore, 1) := by decide +kernel
theorem dX12_lay_117 : decode cX12_lay 117 = .ok (.iinc 1 1, 3) := by decide +kernel
theorem dX12_lay_120 : decode cX12_lay 120 = .ok (.goto (-21), 3) := by decide +kernel
theorem dX12_lay_123 : decode cX12_lay 123 = .ok (.iconst 0, 1) := by decide +kernel
theorem dX12_lay_124 : decode cX12_lay 124 = .ok (.istore_n 1, 1) := by decide +kernel
theorem dX12_lay_125 : decode cX12_lay 125 = .ok (.iload_n 1, 1) := by decide +kernel
theorem dX12_lay_126 : decode cX12_lay 126 = .ok (.bipush 15, 2) := by decide +kernel
theorem dX12_lay_128 : decode cX12_lay 128 = .ok (.if_icmp .ge 21, 3) := by decide +kernel
theorem dX12_lay_131 : decode cX12_lay 131 = .ok (.aload_n 0, 1) := by decide +kernel
theorem dX12_lay_132 : decode cX12_lay 132 = .ok (.getfield 13, 3) := by decide +kernel
theorem dX12_lay_135 : decode cX12_lay 135 = .ok (.iload_n 1, 1) := by decide +kernel
theorem dX12_lay_136 : decode cX12_lay 136 = .ok (.aload_n 0, 1) := by decide +kernel
theorem dX12_lay_137 : decode cX12_lay 137 = .ok (.getfield 25, 3) := by decide +kernel
theorem dX12_lay_140 : decode cX12_lay 140 = .ok (.iload_n 1, 1) := by decide +kernel
theorem dX12_lay_141 : decode cX12_lay 141 = .ok (.iaload, 1) := by decide +kernel
theorem dX12_lay_142 : decode cX12_lay 142 = .ok (.iastore, 1) := by decide +kernel
theorem dX12_lay_143 : decode cX12_lay 143 = .ok (.iinc 1 1, 3) := by decide +kernel
theorem dX12_lay_146 : decode cX12_lay 146 = .ok (.goto (-21), 3) := by decide +kernel
theorem dX12_lay_149 : decode cX12_lay 149 = .ok (.iconst 0, 1) := by decide +kernel
theorem dX12_lay_150 : decode cX12_lay 150 = .ok (.istore_n 1, 1) := by decide +kernel
theorem dX12_lay_151 : decode cX12_lay 151 = .ok (.iload_n 1, 1) := by decide +kernel
theorem dX12_lay_152 : decode cX12_lay 152 = .ok (.iconst 5, 1) := by decide +kernel
theorem dX12_lay_153 : decode cX12_lay 153 = .ok (.if_icmp .ge 36, 3) := by decide +kernel
theorem dX12_lay_156 : decode cX12_lay 156 = .ok (.aload_n 0, 1) := by decide +kernel
theorem dX12_lay_157 : decode cX12_lay 157 = .ok (.getfield 13, 3) := by decide +kernel
theorem dX12_lay_160 : decode cX12_lay 160 = .ok (.bipush 15, 2) := by decide +kernel
theorem dX12_lay_162 : decode cX12_lay 162 = .ok (.iload_n 1, 1) := by decide +kernel
theorem dX12_lay_163 : decode cX12_lay 163 = .ok (.iadd, 1) := by decide +kernel
theorem dX12_lay_164 : decode cX12_lay 164 = .ok (.iload_n 1, 1) := by decide +kernel
theorem dX12_lay_165 : decode cX12_lay 165 = .ok (.aload_n 0, 1) := by decide +kernel
theorem dX12_lay_166 : decode cX12_lay 166 = .ok (.getfield 75, 3) := by decide +kernel
theorem dX12_lay_169 : decode cX12_lay 169 = .ok (.if_icmp .ge 12, 3) := by decide +kernel
theorem dX12_lay_172 : decode cX12_lay 172 = .ok (.aload_n 0, 1) := by decide +kernel
theorem dX12_lay_173 : decode cX12_lay 173 = .ok (.getfield 28, 3) := by decide +kernel
theorem dX12_lay_176 : decode cX12_lay 176 = .ok (.iload_n 1, 1) := by decide +kernel
theorem dX12_lay_177 : decode cX12_lay 177 = .ok (.iaload, 1) := by decide +kernel
theorem dX12_lay_178 : decode cX12_lay 178 = .ok (.goto 4, 3) := by decide +kernel
theorem dX12_lay_181 : decode cX12_lay 181 = .ok (.iconst 0, 1) := by decide +kernel
theorem dX12_lay_182 : decode cX12_lay 182 = .ok (.iastore, 1) := by decide +kernel
theorem dX12_lay_183 : decode cX12_lay 183 = .ok (.iinc 1 1, 3) := by decide +kernel
theorem dX12_lay_186 : decode cX12_lay 186 = .ok (.goto (-35), 3) := by decide +kernel
theorem dX12_lay_189 : decode cX12_lay 189 = .ok (.aload_n 0, 1) := by decide +kernel
theorem dX12_lay_190 : decode cX12_lay 190 = .ok (.iconst 0, 1) := by decide +kernel
theorem dX12_lay_191 : decode cX12_lay 191 = .ok (.putfield 141, 3) := by decide +kernel
theorem dX12_lay_194 : decode cX12_lay 194 = .ok (.aload_n 0, 1) := by decide +kernel
theorem dX12_lay_195 : decode cX12_lay 195 = .ok (.iconst 0, 1) := by decide +kernel
theorem dX12_lay_196 : decode cX12_lay 196 = .ok (.putfield 144, 3) := by decide +kernel
theorem dX12_lay_199 : decode cX12_lay 199 = .ok (.aload_n 0, 1) := by decide +kernel
theorem dX12_lay_200 : decode cX12_lay 200 = .ok (.iconst 0, 1) := by decide +kernel
theorem dX12_lay_201 : decode cX12_lay 201 = .ok (.putfield 147, 3) := by decide +kernel
theorem dX12_lay_204 : decode cX12_lay 204 = .ok (.aload_n 0, 1) := by decide +kernel
theorem dX12_lay_205 : decode cX12_lay 205 = .ok (.getfield 75, 3) := by decide +kernel
theorem dX12_lay_208 : decode cX12_lay 208 = .ok (.ireturn, 1) := by decide +kernel
theorem dX12_player_0 : decode cX12_player 0 = .ok (.aload_n 0, 1) := by decide +kernel
theorem dX12_player_1 : decode cX12_player 1 = .ok (.iload_n 1, 1) := by decide +kernel
theorem dX12_player_2 : decode cX12_player 2 = .ok (.invokevirtual 150, 3) := by decide +kernel
theorem dX12_player_5 : decode cX12_player 5 = .ok (.ifCond .eq 12, 3) := by decide +kernel
theorem dX12_player_8 : decode cX12_player 8 = .ok (.iload_n 2, 1) := by decide +kernel
theorem dX12_player_9 : decode cX12_player 9 = .ok (.iconst 0, 1) := by decide +kernel
theorem dX12_player_10 : decode cX12_player 10 = .ok (.iconst 5, 1) := by decide +kernel
theorem dX12_player_11 : decode cX12_player 11 = .ok (.invokestatic 84, 3) := by decide +kernel
theorem dX12_player_14 : decode cX12_player 14 = .ok (.ifCond .ne 5, 3) := by decide +kernel
theorem dX12_player_17 : decode cX12_player 17 = .ok (.iconst (-1), 1) := by decide +kernel
theorem dX12_player_18 : decode cX12_player 18 = .ok (.ireturn, 1) := by decide +kernel
theorem dX12_player_19 : decode cX12_player 19 = .ok (.iload_n 2, 1) := by decide +kernel
theorem dX12_player_20 : decode cX12_player 20 = .ok (.iconst 5, 1) := by decide +kernel
theorem dX12_player_21 : decode cX12_player 21 = .ok (.if_icmp .ge 16, 3) := by decide +kernel
theorem dX12_player_24 : decode cX12_player 24 = .ok (.aload_n 0, 1) := by decide +kernel
theorem dX12_player_25 : decode cX12_player 25 = .ok (.getfield 7, 3) := by decide +kernel
theorem dX12_player_28 : decode cX12_player 28 = .ok (.iconst 5, 1) := by decide +kernel
theorem dX12_player_29 : decode cX12_player 29 = .ok (.iload_n 1, 1) := by decide +kernel
theorem dX12_player_30 : decode cX12_player 30 = .ok (.imul, 1) := by decide +kernel
theorem dX12_player_31 : decode cX12_player 31 = .ok (.iload_n 2, 1) := by decide +kernel
theorem dX12_player_32 : decode cX12_player 32 = .ok (.iadd, 1) := by decide +kernel
theorem dX12_player_33 : decode cX12_player 33 = .ok (.iaload, 1) := by decide +kernel
theorem dX12_player_34 : decode cX12_player 34 = .ok (.goto 12, 3) := by decide +kernel
theorem dX12_player_37 : decode cX12_player 37 = .ok (.aload_n 0, 1) := by decide +kernel
theorem dX12_player_38 : decode cX12_player 38 = .ok (.getfield 13, 3) := by decide +kernel
theorem dX12_player_41 : decode cX12_player 41 = .ok (.bipush 15, 2) := by decide +kernel
theorem dX12_player_43 : decode cX12_player 43 = .ok (.iload_n 1, 1) := by decide +kernel
theorem dX12_player_44 : decode cX12_player 44 = .ok (.iadd, 1) := by decide +kernel
theorem dX12_player_45 : decode cX12_player 45 = .ok (.iaload, 1) := by decide +kernel
theorem dX12_player_46 : decode cX12_player 46 = .ok (.ireturn, 1) := by decide +kernel
theorem dX12_beatsOf_0 : decode cX12_beatsOf 0 = .ok (.aload_n 0, 1) := by decide +kernel
theorem dX12_beatsOf_1 : decode cX12_beatsOf 1 = .ok (.getfield 7, 3) := by decide +kernel
theorem dX12_beatsOf_4 : decode cX12_beatsOf 4 = .ok (.iconst 5, 1) := by decide +kernel
theorem dX12_beatsOf_5 : decode cX12_beatsOf 5 = .ok (.iload_n 1, 1) := by decide +kernel
theorem dX12_beatsOf_6 : decode cX12_beatsOf 6 = .ok (.imul, 1) := by decide +kernel
theorem dX12_beatsOf_7 : decode cX12_beatsOf 7 = .ok (.iconst 1, 1) := by decide +kernel
theorem dX12_beatsOf_8 : decode cX12_beatsOf 8 = .ok (.iadd, 1) := by decide +kernel
theorem dX12_beatsOf_9 : decode cX12_beatsOf 9 = .ok (.iaload, 1) := by decide +kernel
theorem dX12_beatsOf_10 : decode cX12_beatsOf 10 = .ok (.istore 4, 2) := by decide +kernel
theorem dX12_beatsOf_12 : decode cX12_beatsOf 12 = .ok (.iload_n 2, 1) := by decide +kernel
theorem dX12_beatsOf_13 : decode cX12_beatsOf 13 = .ok (.aload_n 0, 1) := by decide +kernel
theorem dX12_beatsOf_14 : decode cX12_beatsOf 14 = .ok (.getfield 7, 3) := by decide +kernel
theorem dX12_beatsOf_17 : decode cX12_beatsOf 17 = .ok (.iconst 5, 1) := by decide +kernel
theorem dX12_beatsOf_18 : decode cX12_beatsOf 18 = .ok (.iload_n 1, 1) := by decide +kernel
theorem dX12_beatsOf_19 : decode cX12_beatsOf 19 = .ok (.imul, 1) := by decide +kernel
theorem dX12_beatsOf_20 : decode cX12_beatsOf 20 = .ok (.iaload, 1) := by decide +kernel
theorem dX12_beatsOf_21 : decode cX12_beatsOf 21 = .ok (.isub, 1) := by decide +kernel
theorem dX12_beatsOf_22 : decode cX12_beatsOf 22 = .ok (.invokestatic 153, 3) := by decide +kernel
theorem dX12_beatsOf_25 : decode cX12_beatsOf 25 = .ok (.iload 4, 2) := by decide +kernel
theorem dX12_beatsOf_27 : decode cX12_beatsOf 27 = .ok (.iadd, 1) := by decide +kernel
theorem dX12_beatsOf_28 : decode cX12_beatsOf 28 = .ok (.iconst 1, 1) := by decide +kernel
theorem dX12_beatsOf_29 : decode cX12_beatsOf 29 = .ok (.isub, 1) := by decide +kernel
theorem dX12_beatsOf_30 : decode cX12_beatsOf 30 = .ok (.iload 4, 2) := by decide +kernel
theorem dX12_beatsOf_32 : decode cX12_beatsOf 32 = .ok (.idiv, 1) := by decide +kernel
theorem dX12_beatsOf_33 : decode cX12_beatsOf 33 = .ok (.istore 5, 2) := by decide +kernel
theorem dX12_beatsOf_35 : decode cX12_beatsOf 35 = .ok (.iload 5, 2) := by decide +kernel
theorem dX12_beatsOf_37 : decode cX12_beatsOf 37 = .ok (.iload_n 3, 1) := by decide +kernel
theorem dX12_beatsOf_38 : decode cX12_beatsOf 38 = .ok (.if_icmp .le 8, 3) := by decide +kernel
theorem dX12_beatsOf_41 : decode cX12_beatsOf 41 = .ok (.iload 5, 2) := by decide +kernel
theorem dX12_beatsOf_43 : decode cX12_beatsOf 43 = .ok (.goto 4, 3) := by decide +kernel
theorem dX12_beatsOf_46 : decode cX12_beatsOf 46 = .ok (.iload_n 3, 1) := by decide +kernel
theorem dX12_beatsOf_47 : decode cX12_beatsOf 47 = .ok (.ireturn, 1) := by decide +kernel
theorem dX12_called_0 : decode cX12_called 0 = .ok (.aload_n 0, 1) := by decide +kernel
theorem dX12_called_1 : decode cX12_called 1 = .ok (.iload_n 1, 1) := by decide +kernel
theorem dX12_called_2 : decode cX12_called 2 = .ok (.invokevirtual 150, 3) := by decide +kernel
theorem dX12_called_5 : decode cX12_called 5 = .ok (.ifCond .eq 12, 3) := by decide +kernel
theorem dX12_called_8 : decode cX12_called 8 = .ok (.iload_n 2, 1) := by decide +kernel
theorem dX12_called_9 : decode cX12_called 9 = .ok (.iconst 0, 1) := by decide +kernel
theorem dX12_called_10 : decode cX12_called 10 = .ok (.iconst 3, 1) := by decide +kernel
theorem dX12_called_11 : decode cX12_called 11 = .ok (.invokestatic 84, 3) := by decide +kernel
theorem dX12_called_14 : decode cX12_called 14 = .ok (.ifCond .ne 5, 3) := by decide +kernel
theorem dX12_called_17 : decode cX12_called 17 = .ok (.iconst (-1), 1) := by decide +kernel
theorem dX12_called_18 : decode cX12_called 18 = .ok (.ireturn, 1) := by decide +kernel
theorem dX12_called_19 : decode cX12_called 19 = .ok (.iload_n 2, 1) := by decide +kernel
theorem dX12_called_20 : decode cX12_called 20 = .ok (.iconst 3, 1) := by decide +kernel
theorem dX12_called_21 : decode cX12_called 21 = .ok (.if_icmp .ge 16, 3) := by decide +kernel
theorem dX12_called_24 : decode cX12_called 24 = .ok (.aload_n 0, 1) := by decide +kernel
theorem dX12_called_25 : decode cX12_called 25 = .ok (.getfield 13, 3) := by decide +kernel
theorem dX12_called_28 : decode cX12_called 28 = .ok (.iconst 5, 1) := by decide +kernel
theorem dX12_called_29 : decode cX12_called 29 = .ok (.iload_n 2, 1) := by decide +kernel
theorem dX12_called_30 : decode cX12_called 30 = .ok (.imul, 1) := by decide +kernel
theorem dX12_called_31 : decode cX12_called 31 = .ok (.iload_n 1, 1) := by decide +kernel
theorem dX12_called_32 : decode cX12_called 32 = .ok (.iadd, 1) := by decide +kernel
theorem dX12_called_33 : decode cX12_called 33 = .ok (.iaload, 1) := by decide +kernel
theorem dX12_called_34 : decode cX12_called 34 = .ok (.goto 30, 3) := by decide +kernel
theorem dX12_called_37 : decode cX12_called 37 = .ok (.aload_n 0, 1) := by decide +kernel
theorem dX12_called_38 : decode cX12_called 38 = .ok (.aload_n 0, 1) := by decide +kernel
theorem dX12_called_39 : decode cX12_called 39 = .ok (.getfield 13, 3) := by decide +kernel
theorem dX12_called_42 : decode cX12_called 42 = .ok (.iload_n 1, 1) := by decide +kernel
theorem dX12_called_43 : decode cX12_called 43 = .ok (.iaload, 1) := by decide +kernel
theorem dX12_called_44 : decode cX12_called 44 = .ok (.aload_n 0, 1) := by decide +kernel
theorem dX12_called_45 : decode cX12_called 45 = .ok (.getfield 13, 3) := by decide +kernel
theorem dX12_called_48 : decode cX12_called 48 = .ok (.iconst 5, 1) := by decide +kernel
theorem dX12_called_49 : decode cX12_called 49 = .ok (.iload_n 1, 1) := by decide +kernel
theorem dX12_called_50 : decode cX12_called 50 = .ok (.iadd, 1) := by decide +kernel
theorem dX12_called_51 : decode cX12_called 51 = .ok (.iaload, 1) := by decide +kernel
theorem dX12_called_52 : decode cX12_called 52 = .ok (.aload_n 0, 1) := by decide +kernel
theorem dX12_called_53 : decode cX12_called 53 = .ok (.getfield 13, 3) := by decide +kernel
theorem dX12_called_56 : decode cX12_called 56 = .ok (.bipush 10, 2) := by decide +kernel
theorem dX12_called_58 : decode cX12_called 58 = .ok (.iload_n 1, 1) := by decide +kernel
theorem dX12_called_59 : decode cX12_called 59 = .ok (.iadd, 1) := by decide +kernel
theorem dX12_called_60 : decode cX12_called 60 = .ok (.iaload, 1) := by decide +kernel
theorem dX12_called_61 : decode cX12_called 61 = .ok (.invokevirtual 156, 3) := by decide +kernel
theorem dX12_called_64 : decode cX12_called 64 = .ok (.ireturn, 1) := by decide +kernel
theorem dX12_standsOf_0 : decode cX12_standsOf 0 = .ok (.aload_n 0, 1) := by decide +kernel
theorem dX12_standsOf_1 : decode cX12_standsOf 1 = .ok (.getfield 7, 3) := by decide +kernel
theorem dX12_standsOf_4 : decode cX12_standsOf 4 = .ok (.iconst 5, 1) := by decide +kernel
theorem dX12_standsOf_5 : decode cX12_standsOf 5 = .ok (.iload_n 1, 1) := by decide +kernel
theorem dX12_standsOf_6 : decode cX12_standsOf 6 = .ok (.imul, 1) := by decide +kernel
theorem dX12_standsOf_7 : decode cX12_standsOf 7 = .ok (.iaload, 1) := by decide +kernel
theorem dX12_standsOf_8 : decode cX12_standsOf 8 = .ok (.istore 5, 2) := by decide +kernel
theorem dX12_standsOf_10 : decode cX12_standsOf 10 = .ok (.iload 5, 2) := by decide +kernel
theorem dX12_standsOf_12 : decode cX12_standsOf 12 = .ok (.iload_n 3, 1) := by decide +kernel
theorem dX12_standsOf_13 : decode cX12_standsOf 13 = .ok (.if_icmp .lt 7, 3) := by decide +kernel
theorem dX12_standsOf_16 : decode cX12_standsOf 16 = .ok (.iconst 1, 1) := by decide +kernel
theorem dX12_standsOf_17 : decode cX12_standsOf 17 = .ok (.goto 4, 3) := by decide +kernel
theorem dX12_standsOf_20 : decode cX12_standsOf 20 = .ok (.iconst (-1), 1) := by decide +kernel
theorem dX12_standsOf_21 : decode cX12_standsOf 21 = .ok (.istore 6, 2) := by decide +kernel
theorem dX12_standsOf_23 : decode cX12_standsOf 23 = .ok (.aload_n 0, 1) := by decide +kernel
theorem dX12_standsOf_24 : decode cX12_standsOf 24 = .ok (.getfield 7, 3) := by decide +kernel
theorem dX12_standsOf_27 : decode cX12_standsOf 27 = .ok (.iconst 5, 1) := by decide +kernel
theorem dX12_standsOf_28 : decode cX12_standsOf 28 = .ok (.iload_n 1, 1) := by decide +kernel
theorem dX12_standsOf_29 : decode cX12_standsOf 29 = .ok (.imul, 1) := by decide +kernel
theorem dX12_standsOf_30 : decode cX12_standsOf 30 = .ok (.iconst 1, 1) := by decide +kernel
theorem dX12_standsOf_31 : decode cX12_standsOf 31 = .ok (.iadd, 1) := by decide +kernel
theorem dX12_standsOf_32 : decode cX12_standsOf 32 = .ok (.iaload, 1) := by decide +kernel
theorem dX12_standsOf_33 : decode cX12_standsOf 33 = .ok (.istore 7, 2) := by decide +kernel
theorem dX12_standsOf_35 : decode cX12_standsOf 35 = .ok (.iload_n 2, 1) := by decide +kernel
theorem dX12_standsOf_36 : decode cX12_standsOf 36 = .ok (.iconst 2, 1) := by decide +kernel
theorem dX12_standsOf_37 : decode cX12_standsOf 37 = .ok (.if_icmp .ne 43, 3) := by decide +kernel
theorem dX12_standsOf_40 : decode cX12_standsOf 40 = .ok (.iload 5, 2) := by decide +kernel
theorem dX12_standsOf_42 : decode cX12_standsOf 42 = .ok (.iload_n 3, 1) := by decide +kernel
theorem dX12_standsOf_43 : decode cX12_standsOf 43 = .ok (.isub, 1) := by decide +kernel
theorem dX12_standsOf_44 : decode cX12_standsOf 44 = .ok (.invokestatic 153, 3) := by decide +kernel
theorem dX12_standsOf_47 : decode cX12_standsOf 47 = .ok (.istore 8, 2) := by decide +kernel
theorem dX12_standsOf_49 : decode cX12_standsOf 49 = .ok (.iload 7, 2) := by decide +kernel
theorem dX12_standsOf_51 : decode cX12_standsOf 51 = .ok (.iload 4, 2) := by decide +kernel
theorem dX12_standsOf_53 : decode cX12_standsOf 53 = .ok (.imul, 1) := by decide +kernel
theorem dX12_standsOf_54 : decode cX12_standsOf 54 = .ok (.iload 8, 2) := by decide +kernel
theorem dX12_standsOf_56 : decode cX12_standsOf 56 = .ok (.if_icmp .ge 11, 3) := by decide +kernel
theorem dX12_standsOf_59 : decode cX12_standsOf 59 = .ok (.iload 7, 2) := by decide +kernel
theorem dX12_standsOf_61 : decode cX12_standsOf 61 = .ok (.iload 4, 2) := by decide +kernel
theorem dX12_standsOf_63 : decode cX12_standsOf 63 = .ok (.imul, 1) := by decide +kernel
theorem dX12_standsOf_64 : decode cX12_standsOf 64 = .ok (.goto 5, 3) := by decide +kernel
theorem dX12_standsOf_67 : decode cX12_standsOf 67 = .ok (.iload 8, 2) := by decide +kernel
theorem dX12_standsOf_69 : decode cX12_standsOf 69 = .ok (.istore 9, 2) := by decide +kernel
theorem dX12_standsOf_71 : decode cX12_standsOf 71 = .ok (.iload 5, 2) := by decide +kernel
theorem dX12_standsOf_73 : decode cX12_standsOf 73 = .ok (.iload 6, 2) := by decide +kernel
theorem dX12_standsOf_75 : decode cX12_standsOf 75 = .ok (.iload 9, 2) := by decide +kernel
theorem dX12_standsOf_77 : decode cX12_standsOf 77 = .ok (.imul, 1) := by decide +kernel
theorem dX12_standsOf_78 : decode cX12_standsOf 78 = .ok (.isub, 1) := by decide +kernel
theorem dX12_standsOf_79 : decode cX12_standsOf 79 = .ok (.ireturn, 1) := by decide +kernel
theorem dX12_standsOf_80 : decode cX12_standsOf 80 = .ok (.iload 7, 2) := by decide +kernel
theorem dX12_standsOf_82 : decode cX12_standsOf 82 = .ok (.iload_n 2, 1) := by decide +kernel
theorem dX12_standsOf_83 : decode cX12_standsOf 83 = .ok (.iconst 1, 1) := by decide +kernel
theorem dX12_standsOf_84 : decode cX12_standsOf 84 = .ok (.if_icmp .ne 10, 3) := by decide +kernel
theorem dX12_standsOf_87 : decode cX12_standsOf 87 = .ok (.iload 4, 2) := by decide +kernel
theorem dX12_standsOf_89 : decode cX12_standsOf 89 = .ok (.iconst 1, 1) := by decide +kernel
theorem dX12_standsOf_90 : decode cX12_standsOf 90 = .ok (.isub, 1) := by decide +kernel
theorem dX12_standsOf_91 : decode cX12_standsOf 91 = .ok (.goto 5, 3) := by decide +kernel
theorem dX12_standsOf_94 : decode cX12_standsOf 94 = .ok (.iload 4, 2) := by decide +kernel
theorem dX12_standsOf_96 : decode cX12_standsOf 96 = .ok (.imul, 1) := by decide +kernel
theorem dX12_standsOf_97 : decode cX12_standsOf 97 = .ok (.aload_n 0, 1) := by decide +kernel
theorem dX12_standsOf_98 : decode cX12_standsOf 98 = .ok (.getfield 72, 3) := by decide +kernel
theorem dX12_standsOf_101 : decode cX12_standsOf 101 = .ok (.iadd, 1) := by decide +kernel
theorem dX12_standsOf_102 : decode cX12_standsOf 102 = .ok (.istore 8, 2) := by decide +kernel
theorem dX12_standsOf_104 : decode cX12_standsOf 104 = .ok (.iload 5, 2) := by decide +kernel
theorem dX12_standsOf_106 : decode cX12_standsOf 106 = .ok (.iload 6, 2) := by decide +kernel
theorem dX12_standsOf_108 : decode cX12_standsOf 108 = .ok (.iload 8, 2) := by decide +kernel
theorem dX12_standsOf_110 : decode cX12_standsOf 110 = .ok (.imul, 1) := by decide +kernel
theorem dX12_standsOf_111 : decode cX12_standsOf 111 = .ok (.iadd, 1) := by decide +kernel
theorem dX12_standsOf_112 : decode cX12_standsOf 112 = .ok (.istore 9, 2) := by decide +kernel
theorem dX12_standsOf_114 : decode cX12_standsOf 114 = .ok (.iload 9, 2) := by decide +kernel
theorem dX12_standsOf_116 : decode cX12_standsOf 116 = .ok (.ifCond .ge 7, 3) := by decide +kernel
theorem dX12_standsOf_119 : decode cX12_standsOf 119 = .ok (.iconst 0, 1) := by decide +kernel
theorem dX12_standsOf_120 : decode cX12_standsOf 120 = .ok (.goto 21, 3) := by decide +kernel
theorem dX12_standsOf_123 : decode cX12_standsOf 123 = .ok (.iload 9, 2) := by decide +kernel
theorem dX12_standsOf_125 : decode cX12_standsOf 125 = .ok (.aload_n 0, 1) := by decide +kernel
theorem dX12_standsOf_126 : decode cX12_standsOf 126 = .ok (.getfield 68, 3) := by decide +kernel
theorem dX12_standsOf_129 : decode cX12_standsOf 129 = .ok (.if_icmp .le 10, 3) := by decide +kernel
theorem dX12_standsOf_132 : decode cX12_standsOf 132 = .ok (.aload_n 0, 1) := by decide +kernel
theorem dX12_standsOf_133 : decode cX12_standsOf 133 = .ok (.getfield 68, 3) := by decide +kernel
theorem dX12_standsOf_136 : decode cX12_standsOf 136 = .ok (.goto 5, 3) := by decide +kernel
theorem dX12_standsOf_139 : decode cX12_standsOf 139 = .ok (.iload 9, 2) := by decide +kernel
theorem dX12_standsOf_141 : decode cX12_standsOf 141 = .ok (.ireturn, 1) := by decide +kernel
theorem dX12_hides_0 : decode cX12_hides 0 = .ok (.iload_n 3, 1) := by decide +kernel
theorem dX12_hides_1 : decode cX12_hides 1 = .ok (.aload_n 0, 1) := by decide +kernel
theorem dX12_hides_2 : decode cX12_hides 2 = .ok (.getfield 31, 3) := by decide +kernel
theorem dX12_hides_5 : decode cX12_hides 5 = .ok (.iload_n 2, 1) := by decide +kernel
theorem dX12_hides_6 : decode cX12_hides 6 = .ok (.iaload, 1) := by decide +kernel
theorem dX12_hides_7 : decode cX12_hides 7 = .ok (.if_icmp .ge 7, 3) := by decide +kernel
theorem dX12_hides_10 : decode cX12_hides 10 = .ok (.iload_n 3, 1) := by decide +kernel
theorem dX12_hides_11 : decode cX12_hides 11 = .ok (.goto 9, 3) := by decide +kernel
theorem dX12_hides_14 : decode cX12_hides 14 = .ok (.aload_n 0, 1) := by decide +kernel
theorem dX12_hides_15 : decode cX12_hides 15 = .ok (.getfield 31, 3) := by decide +kernel
theorem dX12_hides_18 : decode cX12_hides 18 = .ok (.iload_n 2, 1) := by decide +kernel
theorem dX12_hides_19 : decode cX12_hides 19 = .ok (.iaload, 1) := by decide +kernel
theorem dX12_hides_20 : decode cX12_hides 20 = .ok (.istore 4, 2) := by decide +kernel
theorem dX12_hides_22 : decode cX12_hides 22 = .ok (.iload_n 3, 1) := by decide +kernel
theorem dX12_hides_23 : decode cX12_hides 23 = .ok (.aload_n 0, 1) := by decide +kernel
theorem dX12_hides_24 : decode cX12_hides 24 = .ok (.getfield 31, 3) := by decide +kernel
theorem dX12_hides_27 : decode cX12_hides 27 = .ok (.iload_n 2, 1) := by decide +kernel
theorem dX12_hides_28 : decode cX12_hides 28 = .ok (.iaload, 1) := by decide +kernel
theorem dX12_hides_29 : decode cX12_hides 29 = .ok (.if_icmp .ge 12, 3) := by decide +kernel
theorem dX12_hides_32 : decode cX12_hides 32 = .ok (.aload_n 0, 1) := by decide +kernel
theorem dX12_hides_33 : decode cX12_hides 33 = .ok (.getfield 31, 3) := by decide +kernel
theorem dX12_hides_36 : decode cX12_hides 36 = .ok (.iload_n 2, 1) := by decide +kernel
theorem dX12_hides_37 : decode cX12_hides 37 = .ok (.iaload, 1) := by decide +kernel
theorem dX12_hides_38 : decode cX12_hides 38 = .ok (.goto 4, 3) := by decide +kernel
theorem dX12_hides_41 : decode cX12_hides 41 = .ok (.iload_n 3, 1) := by decide +kernel
theorem dX12_hides_42 : decode cX12_hides 42 = .ok (.istore 5, 2) := by decide +kernel
theorem dX12_hides_44 : decode cX12_hides 44 = .ok (.iconst 0, 1) := by decide +kernel
theorem dX12_hides_45 : decode cX12_hides 45 = .ok (.istore 6, 2) := by decide +kernel
theorem dX12_hides_47 : decode cX12_hides 47 = .ok (.iload 6, 2) := by decide +kernel
theorem dX12_hides_49 : decode cX12_hides 49 = .ok (.aload_n 0, 1) := by decide +kernel
theorem dX12_hides_50 : decode cX12_hides 50 = .ok (.getfield 75, 3) := by decide +kernel
theorem dX12_hides_53 : decode cX12_hides 53 = .ok (.if_icmp .ge 72, 3) := by decide +kernel
theorem dX12_hides_56 : decode cX12_hides 56 = .ok (.iload 6, 2) := by decide +kernel
theorem dX12_hides_58 : decode cX12_hides 58 = .ok (.iload_n 1, 1) := by decide +kernel
theorem dX12_hides_59 : decode cX12_hides 59 = .ok (.if_icmp .eq 60, 3) := by decide +kernel
theorem dX12_hides_62 : decode cX12_hides 62 = .ok (.iload 6, 2) := by decide +kernel
theorem dX12_hides_64 : decode cX12_hides 64 = .ok (.iload_n 2, 1) := by decide +kernel
theorem dX12_hides_65 : decode cX12_hides 65 = .ok (.if_icmp .eq 54, 3) := by decide +kernel
theorem dX12_hides_68 : decode cX12_hides 68 = .ok (.aload_n 0, 1) := by decide +kernel
theorem dX12_hides_69 : decode cX12_hides 69 = .ok (.getfield 7, 3) := by decide +kernel
theorem dX12_hides_72 : decode cX12_hides 72 = .ok (.iconst 5, 1) := by decide +kernel
theorem dX12_hides_73 : decode cX12_hides 73 = .ok (.iload 6, 2) := by decide +kernel
theorem dX12_hides_75 : decode cX12_hides 75 = .ok (.imul, 1) := by decide +kernel
theorem dX12_hides_76 : decode cX12_hides 76 = .ok (.iconst 2, 1) := by decide +kernel
theorem dX12_hides_77 : decode cX12_hides 77 = .ok (.iadd, 1) := by decide +kernel
theorem dX12_hides_78 : decode cX12_hides 78 = .ok (.iaload, 1) := by decide +kernel
theorem dX12_hides_79 : decode cX12_hides 79 = .ok (.aload_n 0, 1) := by decide +kernel
theorem dX12_hides_80 : decode cX12_hides 80 = .ok (.getfield 7, 3) := by decide +kernel
theorem dX12_hides_83 : decode cX12_hides 83 = .ok (.iconst 5, 1) := by decide +kernel
theorem dX12_hides_84 : decode cX12_hides 84 = .ok (.iload_n 2, 1) := by decide +kernel
theorem dX12_hides_85 : decode cX12_hides 85 = .ok (.imul, 1) := by decide +kernel
theorem dX12_hides_86 : decode cX12_hides 86 = .ok (.iconst 2, 1) := by decide +kernel
theorem dX12_hides_87 : decode cX12_hides 87 = .ok (.iadd, 1) := by decide +kernel
theorem dX12_hides_88 : decode cX12_hides 88 = .ok (.iaload, 1) := by decide +kernel
theorem dX12_hides_89 : decode cX12_hides 89 = .ok (.if_icmp .lt 30, 3) := by decide +kernel
theorem dX12_hides_92 : decode cX12_hides 92 = .ok (.aload_n 0, 1) := by decide +kernel
theorem dX12_hides_93 : decode cX12_hides 93 = .ok (.getfield 31, 3) := by decide +kernel
theorem dX12_hides_96 : decode cX12_hides 96 = .ok (.iload 6, 2) := by decide +kernel
theorem dX12_hides_98 : decode cX12_hides 98 = .ok (.iaload, 1) := by decide +kernel
theorem dX12_hides_99 : decode cX12_hides 99 = .ok (.iload 4, 2) := by decide +kernel
theorem dX12_hides_101 : decode cX12_hides 101 = .ok (.if_icmp .le 18, 3) := by decide +kernel
theorem dX12_hides_104 : decode cX12_hides 104 = .ok (.aload_n 0, 1) := by decide +kernel
theorem dX12_hides_105 : decode cX12_hides 105 = .ok (.getfield 31, 3) := by decide +kernel
theorem dX12_hides_108 : decode cX12_hides 108 = .ok (.iload 6, 2) := by decide +kernel
theorem dX12_hides_110 : decode cX12_hides 110 = .ok (.iaload, 1) := by decide +kernel
theorem dX12_hides_111 : decode cX12_hides 111 = .ok (.iload 5, 2) := by decide +kernel
theorem dX12_hides_113 : decode cX12_hides 113 = .ok (.if_icmp .ge 6, 3) := by decide +kernel
theorem dX12_hides_116 : decode cX12_hides 116 = .ok (.iload 6, 2) := by decide +kernel
theorem dX12_hides_118 : decode cX12_hides 118 = .ok (.ireturn, 1) := by decide +kernel
theorem dX12_hides_119 : decode cX12_hides 119 = .ok (.iinc 6 1, 3) := by decide +kernel
theorem dX12_hides_122 : decode cX12_hides 122 = .ok (.goto (-75), 3) := by decide +kernel
theorem dX12_hides_125 : decode cX12_hides 125 = .ok (.bipush (-4), 2) := by decide +kernel
theorem dX12_hides_127 : decode cX12_hides 127 = .ok (.ireturn, 1) := by decide +kernel
theorem dX12_aims_0 : decode cX12_aims 0 = .ok (.aload_n 0, 1) := by decide +kernel
theorem dX12_aims_1 : decode cX12_aims 1 = .ok (.getfield 31, 3) := by decide +kernel
theorem dX12_aims_4 : decode cX12_aims 4 = .ok (.iload_n 3, 1) := by decide +kernel
theorem dX12_aims_5 : decode cX12_aims 5 = .ok (.iaload, 1) := by decide +kernel
theorem dX12_aims_6 : decode cX12_aims 6 = .ok (.iload_n 2, 1) := by decide +kernel
theorem dX12_aims_7 : decode cX12_aims 7 = .ok (.isub, 1) := by decide +kernel
theorem dX12_aims_8 : decode cX12_aims 8 = .ok (.invokestatic 153, 3) := by decide +kernel
theorem dX12_aims_11 : decode cX12_aims 11 = .ok (.istore 4, 2) := by decide +kernel
theorem dX12_aims_13 : decode cX12_aims 13 = .ok (.iload 4, 2) := by decide +kernel
theorem dX12_aims_15 : decode cX12_aims 15 = .ok (.iconst 3, 1) := by decide +kernel
theorem dX12_aims_16 : decode cX12_aims 16 = .ok (.if_icmp .ge 8, 3) := by decide +kernel
theorem dX12_aims_19 : decode cX12_aims 19 = .ok (.iload 4, 2) := by decide +kernel
theorem dX12_aims_21 : decode cX12_aims 21 = .ok (.goto 4, 3) := by decide +kernel
theorem dX12_aims_24 : decode cX12_aims 24 = .ok (.iconst 3, 1) := by decide +kernel
theorem dX12_aims_25 : decode cX12_aims 25 = .ok (.istore 5, 2) := by decide +kernel
theorem dX12_aims_27 : decode cX12_aims 27 = .ok (.aload_n 0, 1) := by decide +kernel
theorem dX12_aims_28 : decode cX12_aims 28 = .ok (.getfield 31, 3) := by decide +kernel
theorem dX12_aims_31 : decode cX12_aims 31 = .ok (.iload_n 3, 1) := by decide +kernel
theorem dX12_aims_32 : decode cX12_aims 32 = .ok (.iaload, 1) := by decide +kernel
theorem dX12_aims_33 : decode cX12_aims 33 = .ok (.iload_n 2, 1) := by decide +kernel
theorem dX12_aims_34 : decode cX12_aims 34 = .ok (.if_icmp .le 10, 3) := by decide +kernel
theorem dX12_aims_37 : decode cX12_aims 37 = .ok (.iload_n 2, 1) := by decide +kernel
theorem dX12_aims_38 : decode cX12_aims 38 = .ok (.iload 5, 2) := by decide +kernel
theorem dX12_aims_40 : decode cX12_aims 40 = .ok (.iadd, 1) := by decide +kernel
theorem dX12_aims_41 : decode cX12_aims 41 = .ok (.goto 7, 3) := by decide +kernel
theorem dX12_aims_44 : decode cX12_aims 44 = .ok (.iload_n 2, 1) := by decide +kernel
theorem dX12_aims_45 : decode cX12_aims 45 = .ok (.iload 5, 2) := by decide +kernel
theorem dX12_aims_47 : decode cX12_aims 47 = .ok (.isub, 1) := by decide +kernel
theorem dX12_aims_48 : decode cX12_aims 48 = .ok (.istore 6, 2) := by decide +kernel
theorem dX12_aims_50 : decode cX12_aims 50 = .ok (.aload_n 0, 1) := by decide +kernel
theorem dX12_aims_51 : decode cX12_aims 51 = .ok (.getfield 7, 3) := by decide +kernel
theorem dX12_aims_54 : decode cX12_aims 54 = .ok (.iconst 5, 1) := by decide +kernel
theorem dX12_aims_55 : decode cX12_aims 55 = .ok (.iload_n 3, 1) := by decide +kernel
theorem dX12_aims_56 : decode cX12_aims 56 = .ok (.imul, 1) := by decide +kernel
theorem dX12_aims_57 : decode cX12_aims 57 = .ok (.iconst 4, 1) := by decide +kernel
theorem dX12_aims_58 : decode cX12_aims 58 = .ok (.iadd, 1) := by decide +kernel
theorem dX12_aims_59 : decode cX12_aims 59 = .ok (.iaload, 1) := by decide +kernel
theorem dX12_aims_60 : decode cX12_aims 60 = .ok (.iconst 3, 1) := by decide +kernel
theorem dX12_aims_61 : decode cX12_aims 61 = .ok (.if_icmp .ne 18, 3) := by decide +kernel
theorem dX12_aims_64 : decode cX12_aims 64 = .ok (.aload_n 0, 1) := by decide +kernel
theorem dX12_aims_65 : decode cX12_aims 65 = .ok (.getfield 7, 3) := by decide +kernel
theorem dX12_aims_68 : decode cX12_aims 68 = .ok (.iconst 5, 1) := by decide +kernel
theorem dX12_aims_69 : decode cX12_aims 69 = .ok (.iload_n 3, 1) := by decide +kernel
theorem dX12_aims_70 : decode cX12_aims 70 = .ok (.imul, 1) := by decide +kernel
theorem dX12_aims_71 : decode cX12_aims 71 = .ok (.iconst 2, 1) := by decide +kernel
theorem dX12_aims_72 : decode cX12_aims 72 = .ok (.iadd, 1) := by decide +kernel
theorem dX12_aims_73 : decode cX12_aims 73 = .ok (.iaload, 1) := by decide +kernel
theorem dX12_aims_74 : decode cX12_aims 74 = .ok (.iconst 2, 1) := by decide +kernel
theorem dX12_aims_75 : decode cX12_aims 75 = .ok (.idiv, 1) := by decide +kernel
theorem dX12_aims_76 : decode cX12_aims 76 = .ok (.goto 13, 3) := by decide +kernel
theorem dX12_aims_79 : decode cX12_aims 79 = .ok (.aload_n 0, 1) := by decide +kernel
theorem dX12_aims_80 : decode cX12_aims 80 = .ok (.getfield 7, 3) := by decide +kernel
theorem dX12_aims_83 : decode cX12_aims 83 = .ok (.iconst 5, 1) := by decide +kernel
theorem dX12_aims_84 : decode cX12_aims 84 = .ok (.iload_n 3, 1) := by decide +kernel
theorem dX12_aims_85 : decode cX12_aims 85 = .ok (.imul, 1) := by decide +kernel
theorem dX12_aims_86 : decode cX12_aims 86 = .ok (.iconst 2, 1) := by decide +kernel
theorem dX12_aims_87 : decode cX12_aims 87 = .ok (.iadd, 1) := by decide +kernel
theorem dX12_aims_88 : decode cX12_aims 88 = .ok (.iaload, 1) := by decide +kernel
theorem dX12_aims_89 : decode cX12_aims 89 = .ok (.istore 7, 2) := by decide +kernel
theorem dX12_aims_91 : decode cX12_aims 91 = .ok (.iload 7, 2) := by decide +kernel
theorem dX12_aims_93 : decode cX12_aims 93 = .ok (.aload_n 0, 1) := by decide +kernel
theorem dX12_aims_94 : decode cX12_aims 94 = .ok (.getfield 7, 3) := by decide +kernel
theorem dX12_aims_97 : decode cX12_aims 97 = .ok (.iconst 5, 1) := by decide +kernel
theorem dX12_aims_98 : decode cX12_aims 98 = .ok (.iload_n 1, 1) := by decide +kernel
theorem dX12_aims_99 : decode cX12_aims 99 = .ok (.imul, 1) := by decide +kernel
theorem dX12_aims_100 : decode cX12_aims 100 = .ok (.iconst 3, 1) := by decide +kernel
theorem dX12_aims_101 : decode cX12_aims 101 = .ok (.iadd, 1) := by decide +kernel
theorem dX12_aims_102 : decode cX12_aims 102 = .ok (.iaload, 1) := by decide +kernel
theorem dX12_aims_103 : decode cX12_aims 103 = .ok (.iadd, 1) := by decide +kernel
theorem dX12_aims_104 : decode cX12_aims 104 = .ok (.iload 4, 2) := by decide +kernel
theorem dX12_aims_106 : decode cX12_aims 106 = .ok (.iload 5, 2) := by decide +kernel
theorem dX12_aims_108 : decode cX12_aims 108 = .ok (.isub, 1) := by decide +kernel
theorem dX12_aims_109 : decode cX12_aims 109 = .ok (.isub, 1) := by decide +kernel
theorem dX12_aims_110 : decode cX12_aims 110 = .ok (.istore 8, 2) := by decide +kernel
theorem dX12_aims_112 : decode cX12_aims 112 = .ok (.iload 8, 2) := by decide +kernel
theorem dX12_aims_114 : decode cX12_aims 114 = .ok (.ifCond .ge 7, 3) := by decide +kernel
theorem dX12_aims_117 : decode cX12_aims 117 = .ok (.iconst 0, 1) := by decide +kernel
theorem dX12_aims_118 : decode cX12_aims 118 = .ok (.goto 17, 3) := by decide +kernel
theorem dX12_aims_121 : decode cX12_aims 121 = .ok (.iload 8, 2) := by decide +kernel
theorem dX12_aims_123 : decode cX12_aims 123 = .ok (.bipush 10, 2) := by decide +kernel
theorem dX12_aims_125 : decode cX12_aims 125 = .ok (.if_icmp .le 8, 3) := by decide +kernel
theorem dX12_aims_128 : decode cX12_aims 128 = .ok (.bipush 10, 2) := by decide +kernel
theorem dX12_aims_130 : decode cX12_aims 130 = .ok (.goto 5, 3) := by decide +kernel
theorem dX12_aims_133 : decode cX12_aims 133 = .ok (.iload 8, 2) := by decide +kernel
theorem dX12_aims_135 : decode cX12_aims 135 = .ok (.istore 8, 2) := by decide +kernel
theorem dX12_aims_137 : decode cX12_aims 137 = .ok (.aload_n 0, 1) := by decide +kernel
theorem dX12_aims_138 : decode cX12_aims 138 = .ok (.getfield 37, 3) := by decide +kernel
theorem dX12_aims_141 : decode cX12_aims 141 = .ok (.iload_n 3, 1) := by decide +kernel
theorem dX12_aims_142 : decode cX12_aims 142 = .ok (.aload_n 0, 1) := by decide +kernel
theorem dX12_aims_143 : decode cX12_aims 143 = .ok (.iload_n 1, 1) := by decide +kernel
theorem dX12_aims_144 : decode cX12_aims 144 = .ok (.iload_n 3, 1) := by decide +kernel
theorem dX12_aims_145 : decode cX12_aims 145 = .ok (.iload 6, 2) := by decide +kernel
theorem dX12_aims_147 : decode cX12_aims 147 = .ok (.invokevirtual 160, 3) := by decide +kernel
theorem dX12_aims_150 : decode cX12_aims 150 = .ok (.iastore, 1) := by decide +kernel
theorem dX12_aims_151 : decode cX12_aims 151 = .ok (.aload_n 0, 1) := by decide +kernel
theorem dX12_aims_152 : decode cX12_aims 152 = .ok (.getfield 34, 3) := by decide +kernel
theorem dX12_aims_155 : decode cX12_aims 155 = .ok (.iload_n 3, 1) := by decide +kernel
theorem dX12_aims_156 : decode cX12_aims 156 = .ok (.aload_n 0, 1) := by decide +kernel
theorem dX12_aims_157 : decode cX12_aims 157 = .ok (.getfield 37, 3) := by decide +kernel
theorem dX12_aims_160 : decode cX12_aims 160 = .ok (.iload_n 3, 1) := by decide +kernel
theorem dX12_aims_161 : decode cX12_aims 161 = .ok (.iaload, 1) := by decide +kernel
theorem dX12_aims_162 : decode cX12_aims 162 = .ok (.bipush (-4), 2) := by decide +kernel
theorem dX12_aims_164 : decode cX12_aims 164 = .ok (.if_icmp .ne 8, 3) := by decide +kernel
theorem dX12_aims_167 : decode cX12_aims 167 = .ok (.iload 8, 2) := by decide +kernel
theorem dX12_aims_169 : decode cX12_aims 169 = .ok (.goto 7, 3) := by decide +kernel
theorem dX12_aims_172 : decode cX12_aims 172 = .ok (.iload 8, 2) := by decide +kernel
theorem dX12_aims_174 : decode cX12_aims 174 = .ok (.iconst 2, 1) := by decide +kernel
theorem dX12_aims_175 : decode cX12_aims 175 = .ok (.idiv, 1) := by decide +kernel
theorem dX12_aims_176 : decode cX12_aims 176 = .ok (.iastore, 1) := by decide +kernel
theorem dX12_aims_177 : decode cX12_aims 177 = .ok (.return_, 1) := by decide +kernel
theorem dX12_goBy_0 : decode cX12_goBy 0 = .ok (.aload_n 0, 1) := by decide +kernel
theorem dX12_goBy_1 : decode cX12_goBy 1 = .ok (.iload_n 1, 1) := by decide +kernel
theorem dX12_goBy_2 : decode cX12_goBy 2 = .ok (.iload_n 2, 1) := by decide +kernel
theorem dX12_goBy_3 : decode cX12_goBy 3 = .ok (.iload_n 3, 1) := by decide +kernel
theorem dX12_goBy_4 : decode cX12_goBy 4 = .ok (.invokevirtual 156, 3) := by decide +kernel
theorem dX12_goBy_7 : decode cX12_goBy 7 = .ok (.istore 4, 2) := by decide +kernel
theorem dX12_goBy_9 : decode cX12_goBy 9 = .ok (.iconst 0, 1) := by decide +kernel
theorem dX12_goBy_10 : decode cX12_goBy 10 = .ok (.istore 5, 2) := by decide +kernel
theorem dX12_goBy_12 : decode cX12_goBy 12 = .ok (.iload 5, 2) := by decide +kernel
theorem dX12_goBy_14 : decode cX12_goBy 14 = .ok (.aload_n 0, 1) := by decide +kernel
theorem dX12_goBy_15 : decode cX12_goBy 15 = .ok (.getfield 75, 3) := by decide +kernel
theorem dX12_goBy_18 : decode cX12_goBy 18 = .ok (.if_icmp .ge 46, 3) := by decide +kernel
theorem dX12_goBy_21 : decode cX12_goBy 21 = .ok (.aload_n 0, 1) := by decide +kernel
theorem dX12_goBy_22 : decode cX12_goBy 22 = .ok (.getfield 31, 3) := by decide +kernel
theorem dX12_goBy_25 : decode cX12_goBy 25 = .ok (.iload 5, 2) := by decide +kernel
theorem dX12_goBy_27 : decode cX12_goBy 27 = .ok (.iload 5, 2) := by decide +kernel
theorem dX12_goBy_29 : decode cX12_goBy 29 = .ok (.iload_n 1, 1) := by decide +kernel
theorem dX12_goBy_30 : decode cX12_goBy 30 = .ok (.if_icmp .ne 7, 3) := by decide +kernel
theorem dX12_goBy_33 : decode cX12_goBy 33 = .ok (.iload_n 2, 1) := by decide +kernel
theorem dX12_goBy_34 : decode cX12_goBy 34 = .ok (.goto 23, 3) := by decide +kernel
theorem dX12_goBy_37 : decode cX12_goBy 37 = .ok (.aload_n 0, 1) := by decide +kernel
theorem dX12_goBy_38 : decode cX12_goBy 38 = .ok (.iload 5, 2) := by decide +kernel
theorem dX12_goBy_40 : decode cX12_goBy 40 = .ok (.aload_n 0, 1) := by decide +kernel
theorem dX12_goBy_41 : decode cX12_goBy 41 = .ok (.getfield 7, 3) := by decide +kernel
theorem dX12_goBy_44 : decode cX12_goBy 44 = .ok (.iconst 5, 1) := by decide +kernel
theorem dX12_goBy_45 : decode cX12_goBy 45 = .ok (.iload 5, 2) := by decide +kernel
theorem dX12_goBy_47 : decode cX12_goBy 47 = .ok (.imul, 1) := by decide +kernel
theorem dX12_goBy_48 : decode cX12_goBy 48 = .ok (.iconst 4, 1) := by decide +kernel
theorem dX12_goBy_49 : decode cX12_goBy 49 = .ok (.iadd, 1) := by decide +kernel
theorem dX12_goBy_50 : decode cX12_goBy 50 = .ok (.iaload, 1) := by decide +kernel
theorem dX12_goBy_51 : decode cX12_goBy 51 = .ok (.iload_n 2, 1) := by decide +kernel
theorem dX12_goBy_52 : decode cX12_goBy 52 = .ok (.iload 4, 2) := by decide +kernel
theorem dX12_goBy_54 : decode cX12_goBy 54 = .ok (.invokevirtual 163, 3) := by decide +kernel
theorem dX12_goBy_57 : decode cX12_goBy 57 = .ok (.iastore, 1) := by decide +kernel
theorem dX12_goBy_58 : decode cX12_goBy 58 = .ok (.iinc 5 1, 3) := by decide +kernel
theorem dX12_goBy_61 : decode cX12_goBy 61 = .ok (.goto (-49), 3) := by decide +kernel
theorem dX12_goBy_64 : decode cX12_goBy 64 = .ok (.aload_n 0, 1) := by decide +kernel
theorem dX12_goBy_65 : decode cX12_goBy 65 = .ok (.bipush (-4), 2) := by decide +kernel
theorem dX12_goBy_67 : decode cX12_goBy 67 = .ok (.putfield 167, 3) := by decide +kernel
theorem dX12_goBy_70 : decode cX12_goBy 70 = .ok (.iconst 0, 1) := by decide +kernel
theorem dX12_goBy_71 : decode cX12_goBy 71 = .ok (.istore 5, 2) := by decide +kernel
theorem dX12_goBy_73 : decode cX12_goBy 73 = .ok (.iload 5, 2) := by decide +kernel
theorem dX12_goBy_75 : decode cX12_goBy 75 = .ok (.aload_n 0, 1) := by decide +kernel
theorem dX12_goBy_76 : decode cX12_goBy 76 = .ok (.getfield 75, 3) := by decide +kernel
theorem dX12_goBy_79 : decode cX12_goBy 79 = .ok (.if_icmp .ge 64, 3) := by decide +kernel
theorem dX12_goBy_82 : decode cX12_goBy 82 = .ok (.iload 5, 2) := by decide +kernel
theorem dX12_goBy_84 : decode cX12_goBy 84 = .ok (.iload_n 1, 1) := by decide +kernel
theorem dX12_goBy_85 : decode cX12_goBy 85 = .ok (.if_icmp .eq 52, 3) := by decide +kernel
theorem dX12_goBy_88 : decode cX12_goBy 88 = .ok (.aload_n 0, 1) := by decide +kernel
theorem dX12_goBy_89 : decode cX12_goBy 89 = .ok (.iload_n 1, 1) := by decide +kernel
theorem dX12_goBy_90 : decode cX12_goBy 90 = .ok (.iload_n 2, 1) := by decide +kernel
theorem dX12_goBy_91 : decode cX12_goBy 91 = .ok (.iload 5, 2) := by decide +kernel
theorem dX12_goBy_93 : decode cX12_goBy 93 = .ok (.invokevirtual 170, 3) := by decide +kernel
theorem dX12_goBy_96 : decode cX12_goBy 96 = .ok (.aload_n 0, 1) := by decide +kernel
theorem dX12_goBy_97 : decode cX12_goBy 97 = .ok (.aload_n 0, 1) := by decide +kernel
theorem dX12_goBy_98 : decode cX12_goBy 98 = .ok (.getfield 167, 3) := by decide +kernel
theorem dX12_goBy_101 : decode cX12_goBy 101 = .ok (.bipush (-4), 2) := by decide +kernel
theorem dX12_goBy_103 : decode cX12_goBy 103 = .ok (.if_icmp .eq 22, 3) := by decide +kernel
theorem dX12_goBy_106 : decode cX12_goBy 106 = .ok (.aload_n 0, 1) := by decide +kernel
theorem dX12_goBy_107 : decode cX12_goBy 107 = .ok (.getfield 34, 3) := by decide +kernel
theorem dX12_goBy_110 : decode cX12_goBy 110 = .ok (.iload 5, 2) := by decide +kernel
theorem dX12_goBy_112 : decode cX12_goBy 112 = .ok (.iaload, 1) := by decide +kernel
theorem dX12_goBy_113 : decode cX12_goBy 113 = .ok (.aload_n 0, 1) := by decide +kernel
theorem dX12_goBy_114 : decode cX12_goBy 114 = .ok (.getfield 34, 3) := by decide +kernel
theorem dX12_goBy_117 : decode cX12_goBy 117 = .ok (.aload_n 0, 1) := by decide +kernel
theorem dX12_goBy_118 : decode cX12_goBy 118 = .ok (.getfield 167, 3) := by decide +kernel
theorem dX12_goBy_121 : decode cX12_goBy 121 = .ok (.iaload, 1) := by decide +kernel
theorem dX12_goBy_122 : decode cX12_goBy 122 = .ok (.if_icmp .le 8, 3) := by decide +kernel
theorem dX12_goBy_125 : decode cX12_goBy 125 = .ok (.iload 5, 2) := by decide +kernel
theorem dX12_goBy_127 : decode cX12_goBy 127 = .ok (.goto 7, 3) := by decide +kernel
theorem dX12_goBy_130 : decode cX12_goBy 130 = .ok (.aload_n 0, 1) := by decide +kernel
theorem dX12_goBy_131 : decode cX12_goBy 131 = .ok (.getfield 167, 3) := by decide +kernel
theorem dX12_goBy_134 : decode cX12_goBy 134 = .ok (.putfield 167, 3) := by decide +kernel
theorem dX12_goBy_137 : decode cX12_goBy 137 = .ok (.iinc 5 1, 3) := by decide +kernel
theorem dX12_goBy_140 : decode cX12_goBy 140 = .ok (.goto (-67), 3) := by decide +kernel
theorem dX12_goBy_143 : decode cX12_goBy 143 = .ok (.return_, 1) := by decide +kernel
theorem dX12_go_0 : decode cX12_go 0 = .ok (.aload_n 0, 1) := by decide +kernel
theorem dX12_go_1 : decode cX12_go 1 = .ok (.aload_n 0, 1) := by decide +kernel
theorem dX12_go_2 : decode cX12_go 2 = .ok (.getfield 13, 3) := by decide +kernel
theorem dX12_go_5 : decode cX12_go 5 = .ok (.iload_n 1, 1) := by decide +kernel
theorem dX12_go_6 : decode cX12_go 6 = .ok (.iaload, 1) := by decide +kernel
theorem dX12_go_7 : decode cX12_go 7 = .ok (.aload_n 0, 1) := by decide +kernel
theorem dX12_go_8 : decode cX12_go 8 = .ok (.getfield 13, 3) := by decide +kernel
theorem dX12_go_11 : decode cX12_go 11 = .ok (.iconst 5, 1) := by decide +kernel
theorem dX12_go_12 : decode cX12_go 12 = .ok (.iload_n 1, 1) := by decide +kernel
theorem dX12_go_13 : decode cX12_go 13 = .ok (.iadd, 1) := by decide +kernel
theorem dX12_go_14 : decode cX12_go 14 = .ok (.iaload, 1) := by decide +kernel
theorem dX12_go_15 : decode cX12_go 15 = .ok (.aload_n 0, 1) := by decide +kernel
theorem dX12_go_16 : decode cX12_go 16 = .ok (.getfield 13, 3) := by decide +kernel
theorem dX12_go_19 : decode cX12_go 19 = .ok (.bipush 10, 2) := by decide +kernel
theorem dX12_go_21 : decode cX12_go 21 = .ok (.iload_n 1, 1) := by decide +kernel
theorem dX12_go_22 : decode cX12_go 22 = .ok (.iadd, 1) := by decide +kernel
theorem dX12_go_23 : decode cX12_go 23 = .ok (.iaload, 1) := by decide +kernel
theorem dX12_go_24 : decode cX12_go 24 = .ok (.invokevirtual 174, 3) := by decide +kernel
theorem dX12_go_27 : decode cX12_go 27 = .ok (.return_, 1) := by decide +kernel
theorem dX12_stands_0 : decode cX12_stands 0 = .ok (.aload_n 0, 1) := by decide +kernel
theorem dX12_stands_1 : decode cX12_stands 1 = .ok (.iload_n 1, 1) := by decide +kernel
theorem dX12_stands_2 : decode cX12_stands 2 = .ok (.invokevirtual 150, 3) := by decide +kernel
theorem dX12_stands_5 : decode cX12_stands 5 = .ok (.ifCond .eq 11, 3) := by decide +kernel
theorem dX12_stands_8 : decode cX12_stands 8 = .ok (.aload_n 0, 1) := by decide +kernel
theorem dX12_stands_9 : decode cX12_stands 9 = .ok (.iload_n 2, 1) := by decide +kernel
theorem dX12_stands_10 : decode cX12_stands 10 = .ok (.invokevirtual 150, 3) := by decide +kernel
theorem dX12_stands_13 : decode cX12_stands 13 = .ok (.ifCond .ne 5, 3) := by decide +kernel
theorem dX12_stands_16 : decode cX12_stands 16 = .ok (.iconst (-1), 1) := by decide +kernel
theorem dX12_stands_17 : decode cX12_stands 17 = .ok (.ireturn, 1) := by decide +kernel
theorem dX12_stands_18 : decode cX12_stands 18 = .ok (.aload_n 0, 1) := by decide +kernel
theorem dX12_stands_19 : decode cX12_stands 19 = .ok (.iload_n 1, 1) := by decide +kernel
theorem dX12_stands_20 : decode cX12_stands 20 = .ok (.invokevirtual 177, 3) := by decide +kernel
theorem dX12_stands_23 : decode cX12_stands 23 = .ok (.aload_n 0, 1) := by decide +kernel
theorem dX12_stands_24 : decode cX12_stands 24 = .ok (.getfield 31, 3) := by decide +kernel
theorem dX12_stands_27 : decode cX12_stands 27 = .ok (.iload_n 2, 1) := by decide +kernel
theorem dX12_stands_28 : decode cX12_stands 28 = .ok (.iaload, 1) := by decide +kernel
theorem dX12_stands_29 : decode cX12_stands 29 = .ok (.ireturn, 1) := by decide +kernel
theorem dX12_areApart_0 : decode cX12_areApart 0 = .ok (.aload_n 0, 1) := by decide +kernel
theorem dX12_areApart_1 : decode cX12_areApart 1 = .ok (.iload_n 1, 1) := by decide +kernel
theorem dX12_areApart_2 : decode cX12_areApart 2 = .ok (.invokevirtual 150, 3) := by decide +kernel
theorem dX12_areApart_5 : decode cX12_areApart 5 = .ok (.ifCond .eq 25, 3) := by decide +kernel
theorem dX12_areApart_8 : decode cX12_areApart 8 = .ok (.aload_n 0, 1) := by decide +kernel
theorem dX12_areApart_9 : decode cX12_areApart 9 = .ok (.iload_n 2, 1) := by decide +kernel
theorem dX12_areApart_10 : decode cX12_areApart 10 = .ok (.invokevirtual 150, 3) := by decide +kernel
theorem dX12_areApart_13 : decode cX12_areApart 13 = .ok (.ifCond .eq 17, 3) := by decide +kernel
theorem dX12_areApart_16 : decode cX12_areApart 16 = .ok (.aload_n 0, 1) := by decide +kernel
theorem dX12_areApart_17 : decode cX12_areApart 17 = .ok (.getfield 13, 3) := by decide +kernel
theorem dX12_areApart_20 : decode cX12_areApart 20 = .ok (.iload_n 1, 1) := by decide +kernel
theorem dX12_areApart_21 : decode cX12_areApart 21 = .ok (.iaload, 1) := by decide +kernel
theorem dX12_areApart_22 : decode cX12_areApart 22 = .ok (.iload_n 2, 1) := by decide +kernel
theorem dX12_areApart_23 : decode cX12_areApart 23 = .ok (.if_icmp .eq 7, 3) := by decide +kernel
theorem dX12_areApart_26 : decode cX12_areApart 26 = .ok (.iconst 1, 1) := by decide +kernel
theorem dX12_areApart_27 : decode cX12_areApart 27 = .ok (.goto 4, 3) := by decide +kernel
theorem dX12_areApart_30 : decode cX12_areApart 30 = .ok (.iconst 0, 1) := by decide +kernel
theorem dX12_areApart_31 : decode cX12_areApart 31 = .ok (.ireturn, 1) := by decide +kernel
theorem dX12_chance_0 : decode cX12_chance 0 = .ok (.aload_n 0, 1) := by decide +kernel
theorem dX12_chance_1 : decode cX12_chance 1 = .ok (.iload_n 1, 1) := by decide +kernel
theorem dX12_chance_2 : decode cX12_chance 2 = .ok (.iload_n 2, 1) := by decide +kernel
theorem dX12_chance_3 : decode cX12_chance 3 = .ok (.invokevirtual 181, 3) := by decide +kernel
theorem dX12_chance_6 : decode cX12_chance 6 = .ok (.ifCond .ne 5, 3) := by decide +kernel
theorem dX12_chance_9 : decode cX12_chance 9 = .ok (.iconst (-1), 1) := by decide +kernel
theorem dX12_chance_10 : decode cX12_chance 10 = .ok (.ireturn, 1) := by decide +kernel
theorem dX12_chance_11 : decode cX12_chance 11 = .ok (.aload_n 0, 1) := by decide +kernel
theorem dX12_chance_12 : decode cX12_chance 12 = .ok (.iload_n 1, 1) := by decide +kernel
theorem dX12_chance_13 : decode cX12_chance 13 = .ok (.invokevirtual 177, 3) := by decide +kernel
theorem dX12_chance_16 : decode cX12_chance 16 = .ok (.aload_n 0, 1) := by decide +kernel
theorem dX12_chance_17 : decode cX12_chance 17 = .ok (.getfield 34, 3) := by decide +kernel
theorem dX12_chance_20 : decode cX12_chance 20 = .ok (.iload_n 2, 1) := by decide +kernel
theorem dX12_chance_21 : decode cX12_chance 21 = .ok (.iaload, 1) := by decide +kernel
theorem dX12_chance_22 : decode cX12_chance 22 = .ok (.ireturn, 1) := by decide +kernel
theorem dX12_thrown_0 : decode cX12_thrown 0 = .ok (.aload_n 0, 1) := by decide +kernel
theorem dX12_thrown_1 : decode cX12_thrown 1 = .ok (.iload_n 1, 1) := by decide +kernel
theorem dX12_thrown_2 : decode cX12_thrown 2 = .ok (.invokevirtual 150, 3) := by decide +kernel
theorem dX12_thrown_5 : decode cX12_thrown 5 = .ok (.ifCond .eq 12, 3) := by decide +kernel
theorem dX12_thrown_8 : decode cX12_thrown 8 = .ok (.iload_n 2, 1) := by decide +kernel
theorem dX12_thrown_9 : decode cX12_thrown 9 = .ok (.iconst 0, 1) := by decide +kernel
theorem dX12_thrown_10 : decode cX12_thrown 10 = .ok (.iconst 1, 1) := by decide +kernel
theorem dX12_thrown_11 : decode cX12_thrown 11 = .ok (.invokestatic 84, 3) := by decide +kernel
theorem dX12_thrown_14 : decode cX12_thrown 14 = .ok (.ifCond .ne 5, 3) := by decide +kernel
theorem dX12_thrown_17 : decode cX12_thrown 17 = .ok (.iconst (-1), 1) := by decide +kernel
theorem dX12_thrown_18 : decode cX12_thrown 18 = .ok (.ireturn, 1) := by decide +kernel
theorem dX12_thrown_19 : decode cX12_thrown 19 = .ok (.aload_n 0, 1) := by decide +kernel
theorem dX12_thrown_20 : decode cX12_thrown 20 = .ok (.iload_n 1, 1) := by decide +kernel
theorem dX12_thrown_21 : decode cX12_thrown 21 = .ok (.invokevirtual 177, 3) := by decide +kernel
theorem dX12_thrown_24 : decode cX12_thrown 24 = .ok (.iload_n 2, 1) := by decide +kernel
theorem dX12_thrown_25 : decode cX12_thrown 25 = .ok (.ifCond .ne 10, 3) := by decide +kernel
theorem dX12_thrown_28 : decode cX12_thrown 28 = .ok (.aload_n 0, 1) := by decide +kernel
theorem dX12_thrown_29 : decode cX12_thrown 29 = .ok (.getfield 167, 3) := by decide +kernel
theorem dX12_thrown_32 : decode cX12_thrown 32 = .ok (.goto 12, 3) := by decide +kernel
theorem dX12_thrown_35 : decode cX12_thrown 35 = .ok (.aload_n 0, 1) := by decide +kernel
theorem dX12_thrown_36 : decode cX12_thrown 36 = .ok (.getfield 34, 3) := by decide +kernel
theorem dX12_thrown_39 : decode cX12_thrown 39 = .ok (.aload_n 0, 1) := by decide +kernel
theorem dX12_thrown_40 : decode cX12_thrown 40 = .ok (.getfield 167, 3) := by decide +kernel
theorem dX12_thrown_43 : decode cX12_thrown 43 = .ok (.iaload, 1) := by decide +kernel
theorem dX12_thrown_44 : decode cX12_thrown 44 = .ok (.ireturn, 1) := by decide +kernel
theorem dX12_hidden_0 : decode cX12_hidden 0 = .ok (.aload_n 0, 1) := by decide +kernel
theorem dX12_hidden_1 : decode cX12_hidden 1 = .ok (.iload_n 1, 1) := by decide +kernel
theorem dX12_hidden_2 : decode cX12_hidden 2 = .ok (.iload_n 2, 1) := by decide +kernel
theorem dX12_hidden_3 : decode cX12_hidden 3 = .ok (.invokevirtual 181, 3) := by decide +kernel
theorem dX12_hidden_6 : decode cX12_hidden 6 = .ok (.ifCond .ne 5, 3) := by decide +kernel
theorem dX12_hidden_9 : decode cX12_hidden 9 = .ok (.iconst (-1), 1) := by decide +kernel
theorem dX12_hidden_10 : decode cX12_hidden 10 = .ok (.ireturn, 1) := by decide +kernel
theorem dX12_hidden_11 : decode cX12_hidden 11 = .ok (.aload_n 0, 1) := by decide +kernel
theorem dX12_hidden_12 : decode cX12_hidden 12 = .ok (.iload_n 1, 1) := by decide +kernel
theorem dX12_hidden_13 : decode cX12_hidden 13 = .ok (.invokevirtual 177, 3) := by decide +kernel
theorem dX12_hidden_16 : decode cX12_hidden 16 = .ok (.aload_n 0, 1) := by decide +kernel
theorem dX12_hidden_17 : decode cX12_hidden 17 = .ok (.getfield 37, 3) := by decide +kernel
theorem dX12_hidden_20 : decode cX12_hidden 20 = .ok (.iload_n 2, 1) := by decide +kernel
theorem dX12_hidden_21 : decode cX12_hidden 21 = .ok (.iaload, 1) := by decide +kernel
theorem dX12_hidden_22 : decode cX12_hidden 22 = .ok (.ireturn, 1) := by decide +kernel
theorem dX12_safe_0 : decode cX12_safe 0 = .ok (.aload_n 0, 1) := by decide +kernel
theorem dX12_safe_1 : decode cX12_safe 1 = .ok (.iload_n 1, 1) := by decide +kernel
theorem dX12_safe_2 : decode cX12_safe 2 = .ok (.invokevirtual 150, 3) := by decide +kernel
theorem dX12_safe_5 : decode cX12_safe 5 = .ok (.ifCond .eq 12, 3) := by decide +kernel
theorem dX12_safe_8 : decode cX12_safe 8 = .ok (.iload_n 2, 1) := by decide +kernel
theorem dX12_safe_9 : decode cX12_safe 9 = .ok (.iconst 0, 1) := by decide +kernel
theorem dX12_safe_10 : decode cX12_safe 10 = .ok (.iconst 3, 1) := by decide +kernel
theorem dX12_safe_11 : decode cX12_safe 11 = .ok (.invokestatic 84, 3) := by decide +kernel
theorem dX12_safe_14 : decode cX12_safe 14 = .ok (.ifCond .ne 5, 3) := by decide +kernel
theorem dX12_safe_17 : decode cX12_safe 17 = .ok (.iconst (-1), 1) := by decide +kernel
theorem dX12_safe_18 : decode cX12_safe 18 = .ok (.ireturn, 1) := by decide +kernel
theorem dX12_safe_19 : decode cX12_safe 19 = .ok (.aload_n 0, 1) := by decide +kernel
theorem dX12_safe_20 : decode cX12_safe 20 = .ok (.getfield 40, 3) := by decide +kernel
theorem dX12_safe_23 : decode cX12_safe 23 = .ok (.iconst 0, 1) := by decide +kernel
theorem dX12_safe_24 : decode cX12_safe 24 = .ok (.bipush (-4), 2) := by decide +kernel
theorem dX12_safe_26 : decode cX12_safe 26 = .ok (.iastore, 1) := by decide +kernel
theorem dX12_safe_27 : decode cX12_safe 27 = .ok (.iconst 0, 1) := by decide +kernel
theorem dX12_safe_28 : decode cX12_safe 28 = .ok (.istore_n 3, 1) := by decide +kernel
theorem dX12_safe_29 : decode cX12_safe 29 = .ok (.iload_n 3, 1) := by decide +kernel
theorem dX12_safe_30 : decode cX12_safe 30 = .ok (.aload_n 0, 1) := by decide +kernel
theorem dX12_safe_31 : decode cX12_safe 31 = .ok (.getfield 75, 3) := by decide +kernel
theorem dX12_safe_34 : decode cX12_safe 34 = .ok (.if_icmp .ge 200, 3) := by decide +kernel
theorem dX12_safe_37 : decode cX12_safe 37 = .ok (.iconst 0, 1) := by decide +kernel
theorem dX12_safe_38 : decode cX12_safe 38 = .ok (.istore 4, 2) := by decide +kernel
theorem dX12_safe_40 : decode cX12_safe 40 = .ok (.iload_n 3, 1) := by decide +kernel
theorem dX12_safe_41 : decode cX12_safe 41 = .ok (.iload_n 1, 1) := by decide +kernel
theorem dX12_safe_42 : decode cX12_safe 42 = .ok (.if_icmp .eq 186, 3) := by decide +kernel
theorem dX12_safe_45 : decode cX12_safe 45 = .ok (.iload 4, 2) := by decide +kernel
theorem dX12_safe_47 : decode cX12_safe 47 = .ok (.bipush 9, 2) := by decide +kernel
theorem dX12_safe_49 : decode cX12_safe 49 = .ok (.aload_n 0, 1) := by decide +kernel
theorem dX12_safe_50 : decode cX12_safe 50 = .ok (.getfield 68, 3) := by decide +kernel
theorem dX12_safe_53 : decode cX12_safe 53 = .ok (.iconst 1, 1) := by decide +kernel
theorem dX12_safe_54 : decode cX12_safe 54 = .ok (.iadd, 1) := by decide +kernel
theorem dX12_safe_55 : decode cX12_safe 55 = .ok (.imul, 1) := by decide +kernel
theorem dX12_safe_56 : decode cX12_safe 56 = .ok (.if_icmp .ge 172, 3) := by decide +kernel
theorem dX12_safe_59 : decode cX12_safe 59 = .ok (.aload_n 0, 1) := by decide +kernel
theorem dX12_safe_60 : decode cX12_safe 60 = .ok (.iload_n 3, 1) := by decide +kernel
theorem dX12_safe_61 : decode cX12_safe 61 = .ok (.iload 4, 2) := by decide +kernel
theorem dX12_safe_63 : decode cX12_safe 63 = .ok (.bipush 9, 2) := by decide +kernel
theorem dX12_safe_65 : decode cX12_safe 65 = .ok (.idiv, 1) := by decide +kernel
theorem dX12_safe_66 : decode cX12_safe 66 = .ok (.iconst 1, 1) := by decide +kernel
theorem dX12_safe_67 : decode cX12_safe 67 = .ok (.iload 4, 2) := by decide +kernel
theorem dX12_safe_69 : decode cX12_safe 69 = .ok (.bipush 9, 2) := by decide +kernel
theorem dX12_safe_71 : decode cX12_safe 71 = .ok (.irem, 1) := by decide +kernel
theorem dX12_safe_72 : decode cX12_safe 72 = .ok (.iadd, 1) := by decide +kernel
theorem dX12_safe_73 : decode cX12_safe 73 = .ok (.invokevirtual 174, 3) := by decide +kernel
theorem dX12_safe_76 : decode cX12_safe 76 = .ok (.aload_n 0, 1) := by decide +kernel
theorem dX12_safe_77 : decode cX12_safe 77 = .ok (.getfield 167, 3) := by decide +kernel
theorem dX12_safe_80 : decode cX12_safe 80 = .ok (.iload_n 1, 1) := by decide +kernel
theorem dX12_safe_81 : decode cX12_safe 81 = .ok (.if_icmp .eq 36, 3) := by decide +kernel
theorem dX12_safe_84 : decode cX12_safe 84 = .ok (.aload_n 0, 1) := by decide +kernel
theorem dX12_safe_85 : decode cX12_safe 85 = .ok (.getfield 40, 3) := by decide +kernel
theorem dX12_safe_88 : decode cX12_safe 88 = .ok (.iconst 0, 1) := by decide +kernel
theorem dX12_safe_89 : decode cX12_safe 89 = .ok (.iaload, 1) := by decide +kernel
theorem dX12_safe_90 : decode cX12_safe 90 = .ok (.bipush (-4), 2) := by decide +kernel
theorem dX12_safe_92 : decode cX12_safe 92 = .ok (.if_icmp .eq 21, 3) := by decide +kernel
theorem dX12_safe_95 : decode cX12_safe 95 = .ok (.aload_n 0, 1) := by decide +kernel
theorem dX12_safe_96 : decode cX12_safe 96 = .ok (.getfield 34, 3) := by decide +kernel
theorem dX12_safe_99 : decode cX12_safe 99 = .ok (.aload_n 0, 1) := by decide +kernel
theorem dX12_safe_100 : decode cX12_safe 100 = .ok (.getfield 167, 3) := by decide +kernel
theorem dX12_safe_103 : decode cX12_safe 103 = .ok (.iaload, 1) := by decide +kernel
theorem dX12_safe_104 : decode cX12_safe 104 = .ok (.aload_n 0, 1) := by decide +kernel
theorem dX12_safe_105 : decode cX12_safe 105 = .ok (.getfield 40, 3) := by decide +kernel
theorem dX12_safe_108 : decode cX12_safe 108 = .ok (.iconst 3, 1) := by decide +kernel
theorem dX12_safe_109 : decode cX12_safe 109 = .ok (.iaload, 1) := by decide +kernel
theorem dX12_safe_110 : decode cX12_safe 110 = .ok (.if_icmp .ge 7, 3) := by decide +kernel
theorem dX12_safe_113 : decode cX12_safe 113 = .ok (.iconst 1, 1) := by decide +kernel
theorem dX12_safe_114 : decode cX12_safe 114 = .ok (.goto 4, 3) := by decide +kernel
theorem dX12_safe_117 : decode cX12_safe 117 = .ok (.iconst 0, 1) := by decide +kernel
theorem dX12_safe_118 : decode cX12_safe 118 = .ok (.istore 5, 2) := by decide +kernel
theorem dX12_safe_120 : decode cX12_safe 120 = .ok (.aload_n 0, 1) := by decide +kernel
theorem dX12_safe_121 : decode cX12_safe 121 = .ok (.getfield 40, 3) := by decide +kernel
theorem dX12_safe_124 : decode cX12_safe 124 = .ok (.iconst 0, 1) := by decide +kernel
theorem dX12_safe_125 : decode cX12_safe 125 = .ok (.iload 5, 2) := by decide +kernel
theorem dX12_safe_127 : decode cX12_safe 127 = .ok (.ifCond .eq 7, 3) := by decide +kernel
theorem dX12_safe_130 : decode cX12_safe 130 = .ok (.iload_n 3, 1) := by decide +kernel
theorem dX12_safe_131 : decode cX12_safe 131 = .ok (.goto 9, 3) := by decide +kernel
theorem dX12_safe_134 : decode cX12_safe 134 = .ok (.aload_n 0, 1) := by decide +kernel
theorem dX12_safe_135 : decode cX12_safe 135 = .ok (.getfield 40, 3) := by decide +kernel
theorem dX12_safe_138 : decode cX12_safe 138 = .ok (.iconst 0, 1) := by decide +kernel
theorem dX12_safe_139 : decode cX12_safe 139 = .ok (.iaload, 1) := by decide +kernel
theorem dX12_safe_140 : decode cX12_safe 140 = .ok (.iastore, 1) := by decide +kernel
theorem dX12_safe_141 : decode cX12_safe 141 = .ok (.aload_n 0, 1) := by decide +kernel
theorem dX12_safe_142 : decode cX12_safe 142 = .ok (.getfield 40, 3) := by decide +kernel
theorem dX12_safe_145 : decode cX12_safe 145 = .ok (.iconst 1, 1) := by decide +kernel
theorem dX12_safe_146 : decode cX12_safe 146 = .ok (.iload 5, 2) := by decide +kernel
theorem dX12_safe_148 : decode cX12_safe 148 = .ok (.ifCond .eq 11, 3) := by decide +kernel
theorem dX12_safe_151 : decode cX12_safe 151 = .ok (.iload 4, 2) := by decide +kernel
theorem dX12_safe_153 : decode cX12_safe 153 = .ok (.bipush 9, 2) := by decide +kernel
theorem dX12_safe_155 : decode cX12_safe 155 = .ok (.idiv, 1) := by decide +kernel
theorem dX12_safe_156 : decode cX12_safe 156 = .ok (.goto 9, 3) := by decide +kernel
theorem dX12_safe_159 : decode cX12_safe 159 = .ok (.aload_n 0, 1) := by decide +kernel
theorem dX12_safe_160 : decode cX12_safe 160 = .ok (.getfield 40, 3) := by decide +kernel
theorem dX12_safe_163 : decode cX12_safe 163 = .ok (.iconst 1, 1) := by decide +kernel
theorem dX12_safe_164 : decode cX12_safe 164 = .ok (.iaload, 1) := by decide +kernel
theorem dX12_safe_165 : decode cX12_safe 165 = .ok (.iastore, 1) := by decide +kernel
theorem dX12_safe_166 : decode cX12_safe 166 = .ok (.aload_n 0, 1) := by decide +kernel
theorem dX12_safe_167 : decode cX12_safe 167 = .ok (.getfield 40, 3) := by decide +kernel
theorem dX12_safe_170 : decode cX12_safe 170 = .ok (.iconst 2, 1) := by decide +kernel
theorem dX12_safe_171 : decode cX12_safe 171 = .ok (.iload 5, 2) := by decide +kernel
theorem dX12_safe_173 : decode cX12_safe 173 = .ok (.ifCond .eq 13, 3) := by decide +kernel
theorem dX12_safe_176 : decode cX12_safe 176 = .ok (.iconst 1, 1) := by decide +kernel
theorem dX12_safe_177 : decode cX12_safe 177 = .ok (.iload 4, 2) := by decide +kernel
theorem dX12_safe_179 : decode cX12_safe 179 = .ok (.bipush 9, 2) := by decide +kernel
theorem dX12_safe_181 : decode cX12_safe 181 = .ok (.irem, 1) := by decide +kernel
theorem dX12_safe_182 : decode cX12_safe 182 = .ok (.iadd, 1) := by decide +kernel
theorem dX12_safe_183 : decode cX12_safe 183 = .ok (.goto 9, 3) := by decide +kernel
theorem dX12_safe_186 : decode cX12_safe 186 = .ok (.aload_n 0, 1) := by decide +kernel
theorem dX12_safe_187 : decode cX12_safe 187 = .ok (.getfield 40, 3) := by decide +kernel
theorem dX12_safe_190 : decode cX12_safe 190 = .ok (.iconst 2, 1) := by decide +kernel
theorem dX12_safe_191 : decode cX12_safe 191 = .ok (.iaload, 1) := by decide +kernel
theorem dX12_safe_192 : decode cX12_safe 192 = .ok (.iastore, 1) := by decide +kernel
theorem dX12_safe_193 : decode cX12_safe 193 = .ok (.aload_n 0, 1) := by decide +kernel
theorem dX12_safe_194 : decode cX12_safe 194 = .ok (.getfield 40, 3) := by decide +kernel
theorem dX12_safe_197 : decode cX12_safe 197 = .ok (.iconst 3, 1) := by decide +kernel
theorem dX12_safe_198 : decode cX12_safe 198 = .ok (.iload 5, 2) := by decide +kernel
theorem dX12_safe_200 : decode cX12_safe 200 = .ok (.ifCond .eq 15, 3) := by decide +kernel
theorem dX12_safe_203 : decode cX12_safe 203 = .ok (.aload_n 0, 1) := by decide +kernel
theorem dX12_safe_204 : decode cX12_safe 204 = .ok (.getfield 34, 3) := by decide +kernel
theorem dX12_safe_207 : decode cX12_safe 207 = .ok (.aload_n 0, 1) := by decide +kernel
theorem dX12_safe_208 : decode cX12_safe 208 = .ok (.getfield 167, 3) := by decide +kernel
theorem dX12_safe_211 : decode cX12_safe 211 = .ok (.iaload, 1) := by decide +kernel
theorem dX12_safe_212 : decode cX12_safe 212 = .ok (.goto 9, 3) := by decide +kernel
theorem dX12_safe_215 : decode cX12_safe 215 = .ok (.aload_n 0, 1) := by decide +kernel
theorem dX12_safe_216 : decode cX12_safe 216 = .ok (.getfield 40, 3) := by decide +kernel
theorem dX12_safe_219 : decode cX12_safe 219 = .ok (.iconst 3, 1) := by decide +kernel
theorem dX12_safe_220 : decode cX12_safe 220 = .ok (.iaload, 1) := by decide +kernel
theorem dX12_safe_221 : decode cX12_safe 221 = .ok (.iastore, 1) := by decide +kernel
theorem dX12_safe_222 : decode cX12_safe 222 = .ok (.iinc 4 1, 3) := by decide +kernel
theorem dX12_safe_225 : decode cX12_safe 225 = .ok (.goto (-185), 3) := by decide +kernel
theorem dX12_safe_228 : decode cX12_safe 228 = .ok (.iinc 3 1, 3) := by decide +kernel
theorem dX12_safe_231 : decode cX12_safe 231 = .ok (.goto (-202), 3) := by decide +kernel
theorem dX12_safe_234 : decode cX12_safe 234 = .ok (.aload_n 0, 1) := by decide +kernel
theorem dX12_safe_235 : decode cX12_safe 235 = .ok (.getfield 40, 3) := by decide +kernel
theorem dX12_safe_238 : decode cX12_safe 238 = .ok (.iconst 0, 1) := by decide +kernel
theorem dX12_safe_239 : decode cX12_safe 239 = .ok (.iaload, 1) := by decide +kernel
theorem dX12_safe_240 : decode cX12_safe 240 = .ok (.bipush (-4), 2) := by decide +kernel
theorem dX12_safe_242 : decode cX12_safe 242 = .ok (.if_icmp .ne 8, 3) := by decide +kernel
theorem dX12_safe_245 : decode cX12_safe 245 = .ok (.bipush (-4), 2) := by decide +kernel
theorem dX12_safe_247 : decode cX12_safe 247 = .ok (.goto 9, 3) := by decide +kernel
theorem dX12_safe_250 : decode cX12_safe 250 = .ok (.aload_n 0, 1) := by decide +kernel
theorem dX12_safe_251 : decode cX12_safe 251 = .ok (.getfield 40, 3) := by decide +kernel
theorem dX12_safe_254 : decode cX12_safe 254 = .ok (.iload_n 2, 1) := by decide +kernel
theorem dX12_safe_255 : decode cX12_safe 255 = .ok (.iaload, 1) := by decide +kernel
theorem dX12_safe_256 : decode cX12_safe 256 = .ok (.ireturn, 1) := by decide +kernel
theorem dX12_run_0 : decode cX12_run 0 = .ok (.aload_n 0, 1) := by decide +kernel
theorem dX12_run_1 : decode cX12_run 1 = .ok (.iload_n 1, 1) := by decide +kernel
theorem dX12_run_2 : decode cX12_run 2 = .ok (.iload_n 2, 1) := by decide +kernel
theorem dX12_run_3 : decode cX12_run 3 = .ok (.invokevirtual 181, 3) := by decide +kernel
theorem dX12_run_6 : decode cX12_run 6 = .ok (.ifCond .eq 12, 3) := by decide +kernel
theorem dX12_run_9 : decode cX12_run 9 = .ok (.iload_n 3, 1) := by decide +kernel
theorem dX12_run_10 : decode cX12_run 10 = .ok (.iconst 0, 1) := by decide +kernel
theorem dX12_run_11 : decode cX12_run 11 = .ok (.iconst 1, 1) := by decide +kernel
theorem dX12_run_12 : decode cX12_run 12 = .ok (.invokestatic 84, 3) := by decide +kernel
theorem dX12_run_15 : decode cX12_run 15 = .ok (.ifCond .ne 5, 3) := by decide +kernel
theorem dX12_run_18 : decode cX12_run 18 = .ok (.iconst (-1), 1) := by decide +kernel
theorem dX12_run_19 : decode cX12_run 19 = .ok (.ireturn, 1) := by decide +kernel
theorem dX12_run_20 : decode cX12_run 20 = .ok (.aload_n 0, 1) := by decide +kernel
theorem dX12_run_21 : decode cX12_run 21 = .ok (.getfield 7, 3) := by decide +kernel
theorem dX12_run_24 : decode cX12_run 24 = .ok (.iconst 5, 1) := by decide +kernel
theorem dX12_run_25 : decode cX12_run 25 = .ok (.iload_n 2, 1) := by decide +kernel
theorem dX12_run_26 : decode cX12_run 26 = .ok (.imul, 1) := by decide +kernel
theorem dX12_run_27 : decode cX12_run 27 = .ok (.iconst 4, 1) := by decide +kernel
theorem dX12_run_28 : decode cX12_run 28 = .ok (.iadd, 1) := by decide +kernel
theorem dX12_run_29 : decode cX12_run 29 = .ok (.iaload, 1) := by decide +kernel
theorem dX12_run_30 : decode cX12_run 30 = .ok (.istore 4, 2) := by decide +kernel
theorem dX12_run_32 : decode cX12_run 32 = .ok (.bipush (-4), 2) := by decide +kernel
theorem dX12_run_34 : decode cX12_run 34 = .ok (.istore 5, 2) := by decide +kernel
theorem dX12_run_36 : decode cX12_run 36 = .ok (.iconst 0, 1) := by decide +kernel
theorem dX12_run_37 : decode cX12_run 37 = .ok (.istore 6, 2) := by decide +kernel
theorem dX12_run_39 : decode cX12_run 39 = .ok (.iconst 0, 1) := by decide +kernel
theorem dX12_run_40 : decode cX12_run 40 = .ok (.istore 7, 2) := by decide +kernel
theorem dX12_run_42 : decode cX12_run 42 = .ok (.iload 7, 2) := by decide +kernel
theorem dX12_run_44 : decode cX12_run 44 = .ok (.iconst 3, 1) := by decide +kernel
theorem dX12_run_45 : decode cX12_run 45 = .ok (.if_icmp .gt 95, 3) := by decide +kernel
theorem dX12_run_48 : decode cX12_run 48 = .ok (.aload_n 0, 1) := by decide +kernel
theorem dX12_run_49 : decode cX12_run 49 = .ok (.getfield 7, 3) := by decide +kernel
theorem dX12_run_52 : decode cX12_run 52 = .ok (.iconst 5, 1) := by decide +kernel
theorem dX12_run_53 : decode cX12_run 53 = .ok (.iload_n 2, 1) := by decide +kernel
theorem dX12_run_54 : decode cX12_run 54 = .ok (.imul, 1) := by decide +kernel
theorem dX12_run_55 : decode cX12_run 55 = .ok (.iconst 4, 1) := by decide +kernel
theorem dX12_run_56 : decode cX12_run 56 = .ok (.iadd, 1) := by decide +kernel
theorem dX12_run_57 : decode cX12_run 57 = .ok (.iload 7, 2) := by decide +kernel
theorem dX12_run_59 : decode cX12_run 59 = .ok (.iastore, 1) := by decide +kernel
theorem dX12_run_60 : decode cX12_run 60 = .ok (.aload_n 0, 1) := by decide +kernel
theorem dX12_run_61 : decode cX12_run 61 = .ok (.iload_n 1, 1) := by decide +kernel
theorem dX12_run_62 : decode cX12_run 62 = .ok (.invokevirtual 177, 3) := by decide +kernel
theorem dX12_run_65 : decode cX12_run 65 = .ok (.aload_n 0, 1) := by decide +kernel
theorem dX12_run_66 : decode cX12_run 66 = .ok (.getfield 167, 3) := by decide +kernel
theorem dX12_run_69 : decode cX12_run 69 = .ok (.iload_n 2, 1) := by decide +kernel
theorem dX12_run_70 : decode cX12_run 70 = .ok (.if_icmp .ne 12, 3) := by decide +kernel
theorem dX12_run_73 : decode cX12_run 73 = .ok (.aload_n 0, 1) := by decide +kernel
theorem dX12_run_74 : decode cX12_run 74 = .ok (.getfield 34, 3) := by decide +kernel
theorem dX12_run_77 : decode cX12_run 77 = .ok (.iload_n 2, 1) := by decide +kernel
theorem dX12_run_78 : decode cX12_run 78 = .ok (.iaload, 1) := by decide +kernel
theorem dX12_run_79 : decode cX12_run 79 = .ok (.goto 4, 3) := by decide +kernel
theorem dX12_run_82 : decode cX12_run 82 = .ok (.iconst 0, 1) := by decide +kernel
theorem dX12_run_83 : decode cX12_run 83 = .ok (.istore 8, 2) := by decide +kernel
theorem dX12_run_85 : decode cX12_run 85 = .ok (.iload 5, 2) := by decide +kernel
theorem dX12_run_87 : decode cX12_run 87 = .ok (.bipush (-4), 2) := by decide +kernel
theorem dX12_run_89 : decode cX12_run 89 = .ok (.if_icmp .eq 10, 3) := by decide +kernel
theorem dX12_run_92 : decode cX12_run 92 = .ok (.iload 8, 2) := by decide +kernel
theorem dX12_run_94 : decode cX12_run 94 = .ok (.iload 6, 2) := by decide +kernel
theorem dX12_run_96 : decode cX12_run 96 = .ok (.if_icmp .ge 7, 3) := by decide +kernel
theorem dX12_run_99 : decode cX12_run 99 = .ok (.iconst 1, 1) := by decide +kernel
theorem dX12_run_100 : decode cX12_run 100 = .ok (.goto 4, 3) := by decide +kernel
theorem dX12_run_103 : decode cX12_run 103 = .ok (.iconst 0, 1) := by decide +kernel
theorem dX12_run_104 : decode cX12_run 104 = .ok (.istore 9, 2) := by decide +kernel
theorem dX12_run_106 : decode cX12_run 106 = .ok (.iload 9, 2) := by decide +kernel
theorem dX12_run_108 : decode cX12_run 108 = .ok (.ifCond .eq 8, 3) := by decide +kernel
theorem dX12_run_111 : decode cX12_run 111 = .ok (.iload 7, 2) := by decide +kernel
theorem dX12_run_113 : decode cX12_run 113 = .ok (.goto 5, 3) := by decide +kernel
theorem dX12_run_116 : decode cX12_run 116 = .ok (.iload 5, 2) := by decide +kernel
theorem dX12_run_118 : decode cX12_run 118 = .ok (.istore 5, 2) := by decide +kernel
theorem dX12_run_120 : decode cX12_run 120 = .ok (.iload 9, 2) := by decide +kernel
theorem dX12_run_122 : decode cX12_run 122 = .ok (.ifCond .eq 8, 3) := by decide +kernel
theorem dX12_run_125 : decode cX12_run 125 = .ok (.iload 8, 2) := by decide +kernel
theorem dX12_run_127 : decode cX12_run 127 = .ok (.goto 5, 3) := by decide +kernel
theorem dX12_run_130 : decode cX12_run 130 = .ok (.iload 6, 2) := by decide +kernel
theorem dX12_run_132 : decode cX12_run 132 = .ok (.istore 6, 2) := by decide +kernel
theorem dX12_run_134 : decode cX12_run 134 = .ok (.iinc 7 1, 3) := by decide +kernel
theorem dX12_run_137 : decode cX12_run 137 = .ok (.goto (-95), 3) := by decide +kernel
theorem dX12_run_140 : decode cX12_run 140 = .ok (.aload_n 0, 1) := by decide +kernel
theorem dX12_run_141 : decode cX12_run 141 = .ok (.getfield 7, 3) := by decide +kernel
theorem dX12_run_144 : decode cX12_run 144 = .ok (.iconst 5, 1) := by decide +kernel
theorem dX12_run_145 : decode cX12_run 145 = .ok (.iload_n 2, 1) := by decide +kernel
theorem dX12_run_146 : decode cX12_run 146 = .ok (.imul, 1) := by decide +kernel
theorem dX12_run_147 : decode cX12_run 147 = .ok (.iconst 4, 1) := by decide +kernel
theorem dX12_run_148 : decode cX12_run 148 = .ok (.iadd, 1) := by decide +kernel
theorem dX12_run_149 : decode cX12_run 149 = .ok (.iload 4, 2) := by decide +kernel
theorem dX12_run_151 : decode cX12_run 151 = .ok (.iastore, 1) := by decide +kernel
theorem dX12_run_152 : decode cX12_run 152 = .ok (.iload_n 3, 1) := by decide +kernel
theorem dX12_run_153 : decode cX12_run 153 = .ok (.ifCond .ne 8, 3) := by decide +kernel
theorem dX12_run_156 : decode cX12_run 156 = .ok (.iload 5, 2) := by decide +kernel
theorem dX12_run_158 : decode cX12_run 158 = .ok (.goto 5, 3) := by decide +kernel
theorem dX12_run_161 : decode cX12_run 161 = .ok (.iload 6, 2) := by decide +kernel
theorem dX12_run_163 : decode cX12_run 163 = .ok (.ireturn, 1) := by decide +kernel
theorem dX12_codeOf_0 : decode cX12_codeOf 0 = .ok (.iconst 0, 1) := by decide +kernel
theorem dX12_codeOf_1 : decode cX12_codeOf 1 = .ok (.istore_n 1, 1) := by decide +kernel
theorem dX12_codeOf_2 : decode cX12_codeOf 2 = .ok (.aload_n 0, 1) := by decide +kernel
theorem dX12_codeOf_3 : decode cX12_codeOf 3 = .ok (.getfield 75, 3) := by decide +kernel
theorem dX12_codeOf_6 : decode cX12_codeOf 6 = .ok (.iconst 1, 1) := by decide +kernel
theorem dX12_codeOf_7 : decode cX12_codeOf 7 = .ok (.isub, 1) := by decide +kernel
theorem dX12_codeOf_8 : decode cX12_codeOf 8 = .ok (.istore_n 2, 1) := by decide +kernel
theorem dX12_codeOf_9 : decode cX12_codeOf 9 = .ok (.iload_n 2, 1) := by decide +kernel
theorem dX12_codeOf_10 : decode cX12_codeOf 10 = .ok (.ifCond .lt 23, 3) := by decide +kernel
theorem dX12_codeOf_13 : decode cX12_codeOf 13 = .ok (.iconst 4, 1) := by decide +kernel
theorem dX12_codeOf_14 : decode cX12_codeOf 14 = .ok (.iload_n 1, 1) := by decide +kernel
theorem dX12_codeOf_15 : decode cX12_codeOf 15 = .ok (.imul, 1) := by decide +kernel
theorem dX12_codeOf_16 : decode cX12_codeOf 16 = .ok (.aload_n 0, 1) := by decide +kernel
theorem dX12_codeOf_17 : decode cX12_codeOf 17 = .ok (.getfield 13, 3) := by decide +kernel
theorem dX12_codeOf_20 : decode cX12_codeOf 20 = .ok (.bipush 15, 2) := by decide +kernel
theorem dX12_codeOf_22 : decode cX12_codeOf 22 = .ok (.iload_n 2, 1) := by decide +kernel
theorem dX12_codeOf_23 : decode cX12_codeOf 23 = .ok (.iadd, 1) := by decide +kernel
theorem dX12_codeOf_24 : decode cX12_codeOf 24 = .ok (.iaload, 1) := by decide +kernel
theorem dX12_codeOf_25 : decode cX12_codeOf 25 = .ok (.iadd, 1) := by decide +kernel
theorem dX12_codeOf_26 : decode cX12_codeOf 26 = .ok (.istore_n 1, 1) := by decide +kernel
theorem dX12_codeOf_27 : decode cX12_codeOf 27 = .ok (.iinc 2 (-1), 3) := by decide +kernel
theorem dX12_codeOf_30 : decode cX12_codeOf 30 = .ok (.goto (-21), 3) := by decide +kernel
theorem dX12_codeOf_33 : decode cX12_codeOf 33 = .ok (.iload_n 1, 1) := by decide +kernel
theorem dX12_codeOf_34 : decode cX12_codeOf 34 = .ok (.ireturn, 1) := by decide +kernel
theorem dX12_left_0 : decode cX12_left 0 = .ok (.iconst 3, 1) := by decide +kernel
theorem dX12_left_1 : decode cX12_left 1 = .ok (.aload_n 0, 1) := by decide +kernel
theorem dX12_left_2 : decode cX12_left 2 = .ok (.getfield 75, 3) := by decide +kernel
theorem dX12_left_5 : decode cX12_left 5 = .ok (.imul, 1) := by decide +kernel
theorem dX12_left_6 : decode cX12_left 6 = .ok (.iconst 1, 1) := by decide +kernel
theorem dX12_left_7 : decode cX12_left 7 = .ok (.iadd, 1) := by decide +kernel
theorem dX12_left_8 : decode cX12_left 8 = .ok (.istore_n 2, 1) := by decide +kernel
theorem dX12_left_9 : decode cX12_left 9 = .ok (.iload_n 1, 1) := by decide +kernel
theorem dX12_left_10 : decode cX12_left 10 = .ok (.istore_n 3, 1) := by decide +kernel
theorem dX12_left_11 : decode cX12_left 11 = .ok (.iload_n 3, 1) := by decide +kernel
theorem dX12_left_12 : decode cX12_left 12 = .ok (.ifCond .le 16, 3) := by decide +kernel
theorem dX12_left_15 : decode cX12_left 15 = .ok (.iload_n 2, 1) := by decide +kernel
theorem dX12_left_16 : decode cX12_left 16 = .ok (.iload_n 3, 1) := by decide +kernel
theorem dX12_left_17 : decode cX12_left 17 = .ok (.iconst 4, 1) := by decide +kernel
theorem dX12_left_18 : decode cX12_left 18 = .ok (.irem, 1) := by decide +kernel
theorem dX12_left_19 : decode cX12_left 19 = .ok (.isub, 1) := by decide +kernel
theorem dX12_left_20 : decode cX12_left 20 = .ok (.istore_n 2, 1) := by decide +kernel
theorem dX12_left_21 : decode cX12_left 21 = .ok (.iload_n 3, 1) := by decide +kernel
theorem dX12_left_22 : decode cX12_left 22 = .ok (.iconst 4, 1) := by decide +kernel
theorem dX12_left_23 : decode cX12_left 23 = .ok (.idiv, 1) := by decide +kernel
theorem dX12_left_24 : decode cX12_left 24 = .ok (.istore_n 3, 1) := by decide +kernel
theorem dX12_left_25 : decode cX12_left 25 = .ok (.goto (-14), 3) := by decide +kernel
theorem dX12_left_28 : decode cX12_left 28 = .ok (.iload_n 2, 1) := by decide +kernel
theorem dX12_left_29 : decode cX12_left 29 = .ok (.ireturn, 1) := by decide +kernel
theorem dX12_then_0 : decode cX12_then 0 = .ok (.iload_n 1, 1) := by decide +kernel
theorem dX12_then_1 : decode cX12_then 1 = .ok (.iconst 2, 1) := by decide +kernel
theorem dX12_then_2 : decode cX12_then 2 = .ok (.iload_n 2, 1) := by decide +kernel
theorem dX12_then_3 : decode cX12_then 3 = .ok (.imul, 1) := by decide +kernel
theorem dX12_then_4 : decode cX12_then 4 = .ok (.ishr, 1) := by decide +kernel
theorem dX12_then_5 : decode cX12_then 5 = .ok (.iconst 3, 1) := by decide +kernel
theorem dX12_then_6 : decode cX12_then 6 = .ok (.iand, 1) := by decide +kernel
theorem dX12_then_7 : decode cX12_then 7 = .ok (.iconst 3, 1) := by decide +kernel
theorem dX12_then_8 : decode cX12_then 8 = .ok (.if_icmp .ne 7, 3) := by decide +kernel
theorem dX12_then_11 : decode cX12_then 11 = .ok (.iconst 1, 1) := by decide +kernel
theorem dX12_then_12 : decode cX12_then 12 = .ok (.goto 4, 3) := by decide +kernel
theorem dX12_then_15 : decode cX12_then 15 = .ok (.iconst 0, 1) := by decide +kernel
theorem dX12_then_16 : decode cX12_then 16 = .ok (.istore 4, 2) := by decide +kernel
theorem dX12_then_18 : decode cX12_then 18 = .ok (.iload 4, 2) := by decide +kernel
theorem dX12_then_20 : decode cX12_then 20 = .ok (.ifCond .eq 25, 3) := by decide +kernel
theorem dX12_then_23 : decode cX12_then 23 = .ok (.iload_n 3, 1) := by decide +kernel
theorem dX12_then_24 : decode cX12_then 24 = .ok (.iload_n 2, 1) := by decide +kernel
theorem dX12_then_25 : decode cX12_then 25 = .ok (.if_icmp .ne 18, 3) := by decide +kernel
theorem dX12_then_28 : decode cX12_then 28 = .ok (.aload_n 0, 1) := by decide +kernel
theorem dX12_then_29 : decode cX12_then 29 = .ok (.getfield 43, 3) := by decide +kernel
theorem dX12_then_32 : decode cX12_then 32 = .ok (.aload_n 0, 1) := by decide +kernel
theorem dX12_then_33 : decode cX12_then 33 = .ok (.iload_n 1, 1) := by decide +kernel
theorem dX12_then_34 : decode cX12_then 34 = .ok (.invokevirtual 185, 3) := by decide +kernel
theorem dX12_then_37 : decode cX12_then 37 = .ok (.iconst 1, 1) := by decide +kernel
theorem dX12_then_38 : decode cX12_then 38 = .ok (.isub, 1) := by decide +kernel
theorem dX12_then_39 : decode cX12_then 39 = .ok (.laload, 1) := by decide +kernel
theorem dX12_then_40 : decode cX12_then 40 = .ok (.goto 4, 3) := by decide +kernel
theorem dX12_then_43 : decode cX12_then 43 = .ok (.lconst 0, 1) := by decide +kernel
theorem dX12_then_44 : decode cX12_then 44 = .ok (.lreturn, 1) := by decide +kernel
theorem dX12_then_45 : decode cX12_then 45 = .ok (.aload_n 0, 1) := by decide +kernel
theorem dX12_then_46 : decode cX12_then 46 = .ok (.getfield 47, 3) := by decide +kernel
theorem dX12_then_49 : decode cX12_then 49 = .ok (.iconst 5, 1) := by decide +kernel
theorem dX12_then_50 : decode cX12_then 50 = .ok (.iload_n 1, 1) := by decide +kernel
theorem dX12_then_51 : decode cX12_then 51 = .ok (.iconst 1, 1) := by decide +kernel
theorem dX12_then_52 : decode cX12_then 52 = .ok (.iconst 2, 1) := by decide +kernel
theorem dX12_then_53 : decode cX12_then 53 = .ok (.iload_n 2, 1) := by decide +kernel
theorem dX12_then_54 : decode cX12_then 54 = .ok (.imul, 1) := by decide +kernel
theorem dX12_then_55 : decode cX12_then 55 = .ok (.ishl, 1) := by decide +kernel
theorem dX12_then_56 : decode cX12_then 56 = .ok (.iadd, 1) := by decide +kernel
theorem dX12_then_57 : decode cX12_then 57 = .ok (.imul, 1) := by decide +kernel
theorem dX12_then_58 : decode cX12_then 58 = .ok (.iload_n 2, 1) := by decide +kernel
theorem dX12_then_59 : decode cX12_then 59 = .ok (.iadd, 1) := by decide +kernel
theorem dX12_then_60 : decode cX12_then 60 = .ok (.laload, 1) := by decide +kernel
theorem dX12_then_61 : decode cX12_then 61 = .ok (.lreturn, 1) := by decide +kernel
theorem dX12_findParts_0 : decode cX12_findParts 0 = .ok (.iconst 0, 1) := by decide +kernel
theorem dX12_findParts_1 : decode cX12_findParts 1 = .ok (.istore_n 2, 1) := by decide +kernel
theorem dX12_findParts_2 : decode cX12_findParts 2 = .ok (.iload_n 2, 1) := by decide +kernel
theorem dX12_findParts_3 : decode cX12_findParts 3 = .ok (.aload_n 0, 1) := by decide +kernel
theorem dX12_findParts_4 : decode cX12_findParts 4 = .ok (.getfield 75, 3) := by decide +kernel
theorem dX12_findParts_7 : decode cX12_findParts 7 = .ok (.if_icmp .ge 39, 3) := by decide +kernel
theorem dX12_findParts_10 : decode cX12_findParts 10 = .ok (.aload_n 0, 1) := by decide +kernel
theorem dX12_findParts_11 : decode cX12_findParts 11 = .ok (.iload_n 2, 1) := by decide +kernel
theorem dX12_findParts_12 : decode cX12_findParts 12 = .ok (.invokevirtual 177, 3) := by decide +kernel
theorem dX12_findParts_15 : decode cX12_findParts 15 = .ok (.aload_n 0, 1) := by decide +kernel
theorem dX12_findParts_16 : decode cX12_findParts 16 = .ok (.getfield 50, 3) := by decide +kernel
theorem dX12_findParts_19 : decode cX12_findParts 19 = .ok (.iload_n 2, 1) := by decide +kernel
theorem dX12_findParts_20 : decode cX12_findParts 20 = .ok (.aload_n 0, 1) := by decide +kernel
theorem dX12_findParts_21 : decode cX12_findParts 21 = .ok (.getfield 167, 3) := by decide +kernel
theorem dX12_findParts_24 : decode cX12_findParts 24 = .ok (.iastore, 1) := by decide +kernel
theorem dX12_findParts_25 : decode cX12_findParts 25 = .ok (.aload_n 0, 1) := by decide +kernel
theorem dX12_findParts_26 : decode cX12_findParts 26 = .ok (.getfield 53, 3) := by decide +kernel
theorem dX12_findParts_29 : decode cX12_findParts 29 = .ok (.iload_n 2, 1) := by decide +kernel
theorem dX12_findParts_30 : decode cX12_findParts 30 = .ok (.aload_n 0, 1) := by decide +kernel
theorem dX12_findParts_31 : decode cX12_findParts 31 = .ok (.getfield 34, 3) := by decide +kernel
theorem dX12_findParts_34 : decode cX12_findParts 34 = .ok (.aload_n 0, 1) := by decide +kernel
theorem dX12_findParts_35 : decode cX12_findParts 35 = .ok (.getfield 167, 3) := by decide +kernel
theorem dX12_findParts_38 : decode cX12_findParts 38 = .ok (.iaload, 1) := by decide +kernel
theorem dX12_findParts_39 : decode cX12_findParts 39 = .ok (.iastore, 1) := by decide +kernel
theorem dX12_findParts_40 : decode cX12_findParts 40 = .ok (.iinc 2 1, 3) := by decide +kernel
theorem dX12_findParts_43 : decode cX12_findParts 43 = .ok (.goto (-41), 3) := by decide +kernel
theorem dX12_findParts_46 : decode cX12_findParts 46 = .ok (.iconst 1, 1) := by decide +kernel
theorem dX12_findParts_47 : decode cX12_findParts 47 = .ok (.iconst 2, 1) := by decide +kernel
theorem dX12_findParts_48 : decode cX12_findParts 48 = .ok (.aload_n 0, 1) := by decide +kernel
theorem dX12_findParts_49 : decode cX12_findParts 49 = .ok (.getfield 75, 3) := by decide +kernel
theorem dX12_findParts_52 : decode cX12_findParts 52 = .ok (.imul, 1) := by decide +kernel
theorem dX12_findParts_53 : decode cX12_findParts 53 = .ok (.ishl, 1) := by decide +kernel
theorem dX12_findParts_54 : decode cX12_findParts 54 = .ok (.iconst 1, 1) := by decide +kernel
theorem dX12_findParts_55 : decode cX12_findParts 55 = .ok (.isub, 1) := by decide +kernel
theorem dX12_findParts_56 : decode cX12_findParts 56 = .ok (.istore_n 2, 1) := by decide +kernel
theorem dX12_findParts_57 : decode cX12_findParts 57 = .ok (.iload_n 2, 1) := by decide +kernel
theorem dX12_findParts_58 : decode cX12_findParts 58 = .ok (.ifCond .lt 112, 3) := by decide +kernel
theorem dX12_findParts_61 : decode cX12_findParts 61 = .ok (.iconst 0, 1) := by decide +kernel
theorem dX12_findParts_62 : decode cX12_findParts 62 = .ok (.istore_n 3, 1) := by decide +kernel
theorem dX12_findParts_63 : decode cX12_findParts 63 = .ok (.iload_n 3, 1) := by decide +kernel
theorem dX12_findParts_64 : decode cX12_findParts 64 = .ok (.aload_n 0, 1) := by decide +kernel
theorem dX12_findParts_65 : decode cX12_findParts 65 = .ok (.getfield 75, 3) := by decide +kernel
theorem dX12_findParts_68 : decode cX12_findParts 68 = .ok (.if_icmp .ge 96, 3) := by decide +kernel
theorem dX12_findParts_71 : decode cX12_findParts 71 = .ok (.iload_n 1, 1) := by decide +kernel
theorem dX12_findParts_72 : decode cX12_findParts 72 = .ok (.bipush (-4), 2) := by decide +kernel
theorem dX12_findParts_74 : decode cX12_findParts 74 = .ok (.if_icmp .ne 16, 3) := by decide +kernel
theorem dX12_findParts_77 : decode cX12_findParts 77 = .ok (.aload_n 0, 1) := by decide +kernel
theorem dX12_findParts_78 : decode cX12_findParts 78 = .ok (.getfield 43, 3) := by decide +kernel
theorem dX12_findParts_81 : decode cX12_findParts 81 = .ok (.aload_n 0, 1) := by decide +kernel
theorem dX12_findParts_82 : decode cX12_findParts 82 = .ok (.iload_n 2, 1) := by decide +kernel
theorem dX12_findParts_83 : decode cX12_findParts 83 = .ok (.invokevirtual 185, 3) := by decide +kernel
theorem dX12_findParts_86 : decode cX12_findParts 86 = .ok (.laload, 1) := by decide +kernel
theorem dX12_findParts_87 : decode cX12_findParts 87 = .ok (.goto 4, 3) := by decide +kernel
theorem dX12_findParts_90 : decode cX12_findParts 90 = .ok (.lconst 0, 1) := by decide +kernel
theorem dX12_findParts_91 : decode cX12_findParts 91 = .ok (.lstore 4, 2) := by decide +kernel
theorem dX12_findParts_93 : decode cX12_findParts 93 = .ok (.lload 4, 2) := by decide +kernel
theorem dX12_findParts_95 : decode cX12_findParts 95 = .ok (.aload_n 0, 1) := by decide +kernel
theorem dX12_findParts_96 : decode cX12_findParts 96 = .ok (.getfield 53, 3) := by decide +kernel
theorem dX12_findParts_99 : decode cX12_findParts 99 = .ok (.iload_n 3, 1) := by decide +kernel
theorem dX12_findParts_100 : decode cX12_findParts 100 = .ok (.iaload, 1) := by decide +kernel
theorem dX12_findParts_101 : decode cX12_findParts 101 = .ok (.i2l, 1) := by decide +kernel
theorem dX12_findParts_102 : decode cX12_findParts 102 = .ok (.aload_n 0, 1) := by decide +kernel
theorem dX12_findParts_103 : decode cX12_findParts 103 = .ok (.iload_n 2, 1) := by decide +kernel
theorem dX12_findParts_104 : decode cX12_findParts 104 = .ok (.aload_n 0, 1) := by decide +kernel
theorem dX12_findParts_105 : decode cX12_findParts 105 = .ok (.getfield 50, 3) := by decide +kernel
theorem dX12_findParts_108 : decode cX12_findParts 108 = .ok (.iload_n 3, 1) := by decide +kernel
theorem dX12_findParts_109 : decode cX12_findParts 109 = .ok (.iaload, 1) := by decide +kernel
theorem dX12_findParts_110 : decode cX12_findParts 110 = .ok (.iload_n 1, 1) := by decide +kernel
theorem dX12_findParts_111 : decode cX12_findParts 111 = .ok (.invokevirtual 188, 3) := by decide +kernel
theorem dX12_findParts_114 : decode cX12_findParts 114 = .ok (.lmul, 1) := by decide +kernel
theorem dX12_findParts_115 : decode cX12_findParts 115 = .ok (.ladd, 1) := by decide +kernel
theorem dX12_findParts_116 : decode cX12_findParts 116 = .ok (.lstore 4, 2) := by decide +kernel
theorem dX12_findParts_118 : decode cX12_findParts 118 = .ok (.lload 4, 2) := by decide +kernel
theorem dX12_findParts_120 : decode cX12_findParts 120 = .ok (.bipush 10, 2) := by decide +kernel
theorem dX12_findParts_122 : decode cX12_findParts 122 = .ok (.aload_n 0, 1) := by decide +kernel
theorem dX12_findParts_123 : decode cX12_findParts 123 = .ok (.getfield 53, 3) := by decide +kernel
theorem dX12_findParts_126 : decode cX12_findParts 126 = .ok (.iload_n 3, 1) := by decide +kernel
theorem dX12_findParts_127 : decode cX12_findParts 127 = .ok (.iaload, 1) := by decide +kernel
theorem dX12_findParts_128 : decode cX12_findParts 128 = .ok (.isub, 1) := by decide +kernel
theorem dX12_findParts_129 : decode cX12_findParts 129 = .ok (.i2l, 1) := by decide +kernel
theorem dX12_findParts_130 : decode cX12_findParts 130 = .ok (.aload_n 0, 1) := by decide +kernel
theorem dX12_findParts_131 : decode cX12_findParts 131 = .ok (.iload_n 2, 1) := by decide +kernel
theorem dX12_findParts_132 : decode cX12_findParts 132 = .ok (.aload_n 0, 1) := by decide +kernel
theorem dX12_findParts_133 : decode cX12_findParts 133 = .ok (.getfield 13, 3) := by decide +kernel
theorem dX12_findParts_136 : decode cX12_findParts 136 = .ok (.iload_n 3, 1) := by decide +kernel
theorem dX12_findParts_137 : decode cX12_findParts 137 = .ok (.iaload, 1) := by decide +kernel
theorem dX12_findParts_138 : decode cX12_findParts 138 = .ok (.iload_n 1, 1) := by decide +kernel
theorem dX12_findParts_139 : decode cX12_findParts 139 = .ok (.invokevirtual 188, 3) := by decide +kernel
theorem dX12_findParts_142 : decode cX12_findParts 142 = .ok (.lmul, 1) := by decide +kernel
theorem dX12_findParts_143 : decode cX12_findParts 143 = .ok (.ladd, 1) := by decide +kernel
theorem dX12_findParts_144 : decode cX12_findParts 144 = .ok (.lstore 4, 2) := by decide +kernel
theorem dX12_findParts_146 : decode cX12_findParts 146 = .ok (.aload_n 0, 1) := by decide +kernel
theorem dX12_findParts_147 : decode cX12_findParts 147 = .ok (.getfield 47, 3) := by decide +kernel
theorem dX12_findParts_150 : decode cX12_findParts 150 = .ok (.iconst 5, 1) := by decide +kernel
theorem dX12_findParts_151 : decode cX12_findParts 151 = .ok (.iload_n 2, 1) := by decide +kernel
theorem dX12_findParts_152 : decode cX12_findParts 152 = .ok (.imul, 1) := by decide +kernel
theorem dX12_findParts_153 : decode cX12_findParts 153 = .ok (.iload_n 3, 1) := by decide +kernel
theorem dX12_findParts_154 : decode cX12_findParts 154 = .ok (.iadd, 1) := by decide +kernel
theorem dX12_findParts_155 : decode cX12_findParts 155 = .ok (.lload 4, 2) := by decide +kernel
theorem dX12_findParts_157 : decode cX12_findParts 157 = .ok (.lastore, 1) := by decide +kernel
theorem dX12_findParts_158 : decode cX12_findParts 158 = .ok (.iinc 3 1, 3) := by decide +kernel
theorem dX12_findParts_161 : decode cX12_findParts 161 = .ok (.goto (-98), 3) := by decide +kernel
theorem dX12_findParts_164 : decode cX12_findParts 164 = .ok (.iinc 2 (-1), 3) := by decide +kernel
theorem dX12_findParts_167 : decode cX12_findParts 167 = .ok (.goto (-110), 3) := by decide +kernel
theorem dX12_findParts_170 : decode cX12_findParts 170 = .ok (.return_, 1) := by decide +kernel
theorem dX12_part_0 : decode cX12_part 0 = .ok (.aload_n 0, 1) := by decide +kernel
theorem dX12_part_1 : decode cX12_part 1 = .ok (.invokevirtual 192, 3) := by decide +kernel
theorem dX12_part_4 : decode cX12_part 4 = .ok (.istore_n 3, 1) := by decide +kernel
theorem dX12_part_5 : decode cX12_part 5 = .ok (.aload_n 0, 1) := by decide +kernel
theorem dX12_part_6 : decode cX12_part 6 = .ok (.getfield 47, 3) := by decide +kernel
theorem dX12_part_9 : decode cX12_part 9 = .ok (.iconst 5, 1) := by decide +kernel
theorem dX12_part_10 : decode cX12_part 10 = .ok (.iload_n 3, 1) := by decide +kernel
theorem dX12_part_11 : decode cX12_part 11 = .ok (.imul, 1) := by decide +kernel
theorem dX12_part_12 : decode cX12_part 12 = .ok (.iload_n 1, 1) := by decide +kernel
theorem dX12_part_13 : decode cX12_part 13 = .ok (.iadd, 1) := by decide +kernel
theorem dX12_part_14 : decode cX12_part 14 = .ok (.laload, 1) := by decide +kernel
theorem dX12_part_15 : decode cX12_part 15 = .ok (.lstore 4, 2) := by decide +kernel
theorem dX12_part_17 : decode cX12_part 17 = .ok (.aload_n 0, 1) := by decide +kernel
theorem dX12_part_18 : decode cX12_part 18 = .ok (.getfield 43, 3) := by decide +kernel
theorem dX12_part_21 : decode cX12_part 21 = .ok (.aload_n 0, 1) := by decide +kernel
theorem dX12_part_22 : decode cX12_part 22 = .ok (.iload_n 3, 1) := by decide +kernel
theorem dX12_part_23 : decode cX12_part 23 = .ok (.invokevirtual 185, 3) := by decide +kernel
theorem dX12_part_26 : decode cX12_part 26 = .ok (.laload, 1) := by decide +kernel
theorem dX12_part_27 : decode cX12_part 27 = .ok (.lstore 6, 2) := by decide +kernel
theorem dX12_part_29 : decode cX12_part 29 = .ok (.lload 4, 2) := by decide +kernel
theorem dX12_part_31 : decode cX12_part 31 = .ok (.lstore 8, 2) := by decide +kernel
theorem dX12_part_33 : decode cX12_part 33 = .ok (.lload 6, 2) := by decide +kernel
theorem dX12_part_35 : decode cX12_part 35 = .ok (.lstore 10, 2) := by decide +kernel
theorem dX12_part_37 : decode cX12_part 37 = .ok (.lload 10, 2) := by decide +kernel
theorem dX12_part_39 : decode cX12_part 39 = .ok (.lconst 0, 1) := by decide +kernel
theorem dX12_part_40 : decode cX12_part 40 = .ok (.lcmp, 1) := by decide +kernel
theorem dX12_part_41 : decode cX12_part 41 = .ok (.ifCond .eq 21, 3) := by decide +kernel
theorem dX12_part_44 : decode cX12_part 44 = .ok (.lload 8, 2) := by decide +kernel
theorem dX12_part_46 : decode cX12_part 46 = .ok (.lload 10, 2) := by decide +kernel
theorem dX12_part_48 : decode cX12_part 48 = .ok (.lrem, 1) := by decide +kernel
theorem dX12_part_49 : decode cX12_part 49 = .ok (.lstore 12, 2) := by decide +kernel
theorem dX12_part_51 : decode cX12_part 51 = .ok (.lload 10, 2) := by decide +kernel
theorem dX12_part_53 : decode cX12_part 53 = .ok (.lstore 8, 2) := by decide +kernel
theorem dX12_part_55 : decode cX12_part 55 = .ok (.lload 12, 2) := by decide +kernel
theorem dX12_part_57 : decode cX12_part 57 = .ok (.lstore 10, 2) := by decide +kernel
theorem dX12_part_59 : decode cX12_part 59 = .ok (.goto (-22), 3) := by decide +kernel
theorem dX12_part_62 : decode cX12_part 62 = .ok (.iload_n 2, 1) := by decide +kernel
theorem dX12_part_63 : decode cX12_part 63 = .ok (.ifCond .ne 8, 3) := by decide +kernel
theorem dX12_part_66 : decode cX12_part 66 = .ok (.lload 4, 2) := by decide +kernel
theorem dX12_part_68 : decode cX12_part 68 = .ok (.goto 5, 3) := by decide +kernel
theorem dX12_part_71 : decode cX12_part 71 = .ok (.lload 6, 2) := by decide +kernel
theorem dX12_part_73 : decode cX12_part 73 = .ok (.lload 8, 2) := by decide +kernel
theorem dX12_part_75 : decode cX12_part 75 = .ok (.ldiv, 1) := by decide +kernel
theorem dX12_part_76 : decode cX12_part 76 = .ok (.lreturn, 1) := by decide +kernel
theorem dX12_first_0 : decode cX12_first 0 = .ok (.aload_n 0, 1) := by decide +kernel
theorem dX12_first_1 : decode cX12_first 1 = .ok (.iload_n 1, 1) := by decide +kernel
theorem dX12_first_2 : decode cX12_first 2 = .ok (.invokevirtual 150, 3) := by decide +kernel
theorem dX12_first_5 : decode cX12_first 5 = .ok (.ifCond .eq 20, 3) := by decide +kernel
theorem dX12_first_8 : decode cX12_first 8 = .ok (.aload_n 0, 1) := by decide +kernel
theorem dX12_first_9 : decode cX12_first 9 = .ok (.iload_n 2, 1) := by decide +kernel
theorem dX12_first_10 : decode cX12_first 10 = .ok (.invokevirtual 150, 3) := by decide +kernel
theorem dX12_first_13 : decode cX12_first 13 = .ok (.ifCond .eq 12, 3) := by decide +kernel
theorem dX12_first_16 : decode cX12_first 16 = .ok (.iload_n 3, 1) := by decide +kernel
theorem dX12_first_17 : decode cX12_first 17 = .ok (.iconst 0, 1) := by decide +kernel
theorem dX12_first_18 : decode cX12_first 18 = .ok (.iconst 1, 1) := by decide +kernel
theorem dX12_first_19 : decode cX12_first 19 = .ok (.invokestatic 84, 3) := by decide +kernel
theorem dX12_first_22 : decode cX12_first 22 = .ok (.ifCond .ne 7, 3) := by decide +kernel
theorem dX12_first_25 : decode cX12_first 25 = .ok (.ldc2_w 195, 3) := by decide +kernel
theorem dX12_first_28 : decode cX12_first 28 = .ok (.lreturn, 1) := by decide +kernel
theorem dX12_first_29 : decode cX12_first 29 = .ok (.aload_n 0, 1) := by decide +kernel
theorem dX12_first_30 : decode cX12_first 30 = .ok (.iload_n 2, 1) := by decide +kernel
theorem dX12_first_31 : decode cX12_first 31 = .ok (.invokevirtual 197, 3) := by decide +kernel
theorem dX12_first_34 : decode cX12_first 34 = .ok (.aload_n 0, 1) := by decide +kernel
theorem dX12_first_35 : decode cX12_first 35 = .ok (.iload_n 1, 1) := by decide +kernel
theorem dX12_first_36 : decode cX12_first 36 = .ok (.iload_n 3, 1) := by decide +kernel
theorem dX12_first_37 : decode cX12_first 37 = .ok (.invokevirtual 200, 3) := by decide +kernel
theorem dX12_first_40 : decode cX12_first 40 = .ok (.lreturn, 1) := by decide +kernel
theorem dX12_rounds_0 : decode cX12_rounds 0 = .ok (.aload_n 0, 1) := by decide +kernel
theorem dX12_rounds_1 : decode cX12_rounds 1 = .ok (.iload_n 1, 1) := by decide +kernel
theorem dX12_rounds_2 : decode cX12_rounds 2 = .ok (.invokevirtual 150, 3) := by decide +kernel
theorem dX12_rounds_5 : decode cX12_rounds 5 = .ok (.ifCond .eq 12, 3) := by decide +kernel
theorem dX12_rounds_8 : decode cX12_rounds 8 = .ok (.iload_n 2, 1) := by decide +kernel
theorem dX12_rounds_9 : decode cX12_rounds 9 = .ok (.iconst 0, 1) := by decide +kernel
theorem dX12_rounds_10 : decode cX12_rounds 10 = .ok (.iconst 1, 1) := by decide +kernel
theorem dX12_rounds_11 : decode cX12_rounds 11 = .ok (.invokestatic 84, 3) := by decide +kernel
theorem dX12_rounds_14 : decode cX12_rounds 14 = .ok (.ifCond .ne 7, 3) := by decide +kernel
theorem dX12_rounds_17 : decode cX12_rounds 17 = .ok (.ldc2_w 195, 3) := by decide +kernel
theorem dX12_rounds_20 : decode cX12_rounds 20 = .ok (.lreturn, 1) := by decide +kernel
theorem dX12_rounds_21 : decode cX12_rounds 21 = .ok (.aload_n 0, 1) := by decide +kernel
theorem dX12_rounds_22 : decode cX12_rounds 22 = .ok (.bipush (-4), 2) := by decide +kernel
theorem dX12_rounds_24 : decode cX12_rounds 24 = .ok (.invokevirtual 197, 3) := by decide +kernel
theorem dX12_rounds_27 : decode cX12_rounds 27 = .ok (.aload_n 0, 1) := by decide +kernel
theorem dX12_rounds_28 : decode cX12_rounds 28 = .ok (.iload_n 1, 1) := by decide +kernel
theorem dX12_rounds_29 : decode cX12_rounds 29 = .ok (.iload_n 2, 1) := by decide +kernel
theorem dX12_rounds_30 : decode cX12_rounds 30 = .ok (.invokevirtual 200, 3) := by decide +kernel
theorem dX12_rounds_33 : decode cX12_rounds 33 = .ok (.lreturn, 1) := by decide +kernel
theorem dX12_knows_0 : decode cX12_knows 0 = .ok (.aload_n 0, 1) := by decide +kernel
theorem dX12_knows_1 : decode cX12_knows 1 = .ok (.getfield 144, 3) := by decide +kernel
theorem dX12_knows_4 : decode cX12_knows 4 = .ok (.bipush 8, 2) := by decide +kernel
theorem dX12_knows_6 : decode cX12_knows 6 = .ok (.if_icmp .ne 41, 3) := by decide +kernel
theorem dX12_knows_9 : decode cX12_knows 9 = .ok (.iconst 0, 1) := by decide +kernel
theorem dX12_knows_10 : decode cX12_knows 10 = .ok (.istore_n 2, 1) := by decide +kernel
theorem dX12_knows_11 : decode cX12_knows 11 = .ok (.iload_n 2, 1) := by decide +kernel
theorem dX12_knows_12 : decode cX12_knows 12 = .ok (.bipush 35, 2) := by decide +kernel
theorem dX12_knows_14 : decode cX12_knows 14 = .ok (.if_icmp .ge 23, 3) := by decide +kernel
theorem dX12_knows_17 : decode cX12_knows 17 = .ok (.aload_n 0, 1) := by decide +kernel
theorem dX12_knows_18 : decode cX12_knows 18 = .ok (.getfield 56, 3) := by decide +kernel
theorem dX12_knows_21 : decode cX12_knows 21 = .ok (.iload_n 2, 1) := by decide +kernel
theorem dX12_knows_22 : decode cX12_knows 22 = .ok (.aload_n 0, 1) := by decide +kernel
theorem dX12_knows_23 : decode cX12_knows 23 = .ok (.getfield 56, 3) := by decide +kernel
theorem dX12_knows_26 : decode cX12_knows 26 = .ok (.iload_n 2, 1) := by decide +kernel
theorem dX12_knows_27 : decode cX12_knows 27 = .ok (.iconst 5, 1) := by decide +kernel
theorem dX12_knows_28 : decode cX12_knows 28 = .ok (.iadd, 1) := by decide +kernel
theorem dX12_knows_29 : decode cX12_knows 29 = .ok (.iaload, 1) := by decide +kernel
theorem dX12_knows_30 : decode cX12_knows 30 = .ok (.iastore, 1) := by decide +kernel
theorem dX12_knows_31 : decode cX12_knows 31 = .ok (.iinc 2 1, 3) := by decide +kernel
theorem dX12_knows_34 : decode cX12_knows 34 = .ok (.goto (-23), 3) := by decide +kernel
theorem dX12_knows_37 : decode cX12_knows 37 = .ok (.aload_n 0, 1) := by decide +kernel
theorem dX12_knows_38 : decode cX12_knows 38 = .ok (.dup, 1) := by decide +kernel
theorem dX12_knows_39 : decode cX12_knows 39 = .ok (.getfield 144, 3) := by decide +kernel
theorem dX12_knows_42 : decode cX12_knows 42 = .ok (.iconst 1, 1) := by decide +kernel
theorem dX12_knows_43 : decode cX12_knows 43 = .ok (.isub, 1) := by decide +kernel
theorem dX12_knows_44 : decode cX12_knows 44 = .ok (.putfield 144, 3) := by decide +kernel
theorem dX12_knows_47 : decode cX12_knows 47 = .ok (.aload_n 0, 1) := by decide +kernel
theorem dX12_knows_48 : decode cX12_knows 48 = .ok (.getfield 56, 3) := by decide +kernel
theorem dX12_knows_51 : decode cX12_knows 51 = .ok (.iconst 5, 1) := by decide +kernel
theorem dX12_knows_52 : decode cX12_knows 52 = .ok (.aload_n 0, 1) := by decide +kernel
theorem dX12_knows_53 : decode cX12_knows 53 = .ok (.getfield 144, 3) := by decide +kernel
theorem dX12_knows_56 : decode cX12_knows 56 = .ok (.imul, 1) := by decide +kernel
theorem dX12_knows_57 : decode cX12_knows 57 = .ok (.iload_n 1, 1) := by decide +kernel
theorem dX12_knows_58 : decode cX12_knows 58 = .ok (.iastore, 1) := by decide +kernel
theorem dX12_knows_59 : decode cX12_knows 59 = .ok (.iconst 0, 1) := by decide +kernel
theorem dX12_knows_60 : decode cX12_knows 60 = .ok (.istore_n 2, 1) := by decide +kernel
theorem dX12_knows_61 : decode cX12_knows 61 = .ok (.iload_n 2, 1) := by decide +kernel
theorem dX12_knows_62 : decode cX12_knows 62 = .ok (.iconst 4, 1) := by decide +kernel
theorem dX12_knows_63 : decode cX12_knows 63 = .ok (.if_icmp .ge 34, 3) := by decide +kernel
theorem dX12_knows_66 : decode cX12_knows 66 = .ok (.aload_n 0, 1) := by decide +kernel
theorem dX12_knows_67 : decode cX12_knows 67 = .ok (.getfield 56, 3) := by decide +kernel
theorem dX12_knows_70 : decode cX12_knows 70 = .ok (.iconst 5, 1) := by decide +kernel
theorem dX12_knows_71 : decode cX12_knows 71 = .ok (.aload_n 0, 1) := by decide +kernel
theorem dX12_knows_72 : decode cX12_knows 72 = .ok (.getfield 144, 3) := by decide +kernel
theorem dX12_knows_75 : decode cX12_knows 75 = .ok (.imul, 1) := by decide +kernel
theorem dX12_knows_76 : decode cX12_knows 76 = .ok (.iconst 1, 1) := by decide +kernel
theorem dX12_knows_77 : decode cX12_knows 77 = .ok (.iadd, 1) := by decide +kernel
theorem dX12_knows_78 : decode cX12_knows 78 = .ok (.iload_n 2, 1) := by decide +kernel
theorem dX12_knows_79 : decode cX12_knows 79 = .ok (.iadd, 1) := by decide +kernel
theorem dX12_knows_80 : decode cX12_knows 80 = .ok (.aload_n 0, 1) := by decide +kernel
theorem dX12_knows_81 : decode cX12_knows 81 = .ok (.getfield 13, 3) := by decide +kernel
theorem dX12_knows_84 : decode cX12_knows 84 = .ok (.iconst 5, 1) := by decide +kernel
theorem dX12_knows_85 : decode cX12_knows 85 = .ok (.iload_n 2, 1) := by decide +kernel
theorem dX12_knows_86 : decode cX12_knows 86 = .ok (.imul, 1) := by decide +kernel
theorem dX12_knows_87 : decode cX12_knows 87 = .ok (.iload_n 1, 1) := by decide +kernel
theorem dX12_knows_88 : decode cX12_knows 88 = .ok (.iadd, 1) := by decide +kernel
theorem dX12_knows_89 : decode cX12_knows 89 = .ok (.iaload, 1) := by decide +kernel
theorem dX12_knows_90 : decode cX12_knows 90 = .ok (.iastore, 1) := by decide +kernel
theorem dX12_knows_91 : decode cX12_knows 91 = .ok (.iinc 2 1, 3) := by decide +kernel
theorem dX12_knows_94 : decode cX12_knows 94 = .ok (.goto (-33), 3) := by decide +kernel
theorem dX12_knows_97 : decode cX12_knows 97 = .ok (.aload_n 0, 1) := by decide +kernel
theorem dX12_knows_98 : decode cX12_knows 98 = .ok (.dup, 1) := by decide +kernel
theorem dX12_knows_99 : decode cX12_knows 99 = .ok (.getfield 144, 3) := by decide +kernel
theorem dX12_knows_102 : decode cX12_knows 102 = .ok (.iconst 1, 1) := by decide +kernel
theorem dX12_knows_103 : decode cX12_knows 103 = .ok (.iadd, 1) := by decide +kernel
theorem dX12_knows_104 : decode cX12_knows 104 = .ok (.putfield 144, 3) := by decide +kernel
theorem dX12_knows_107 : decode cX12_knows 107 = .ok (.return_, 1) := by decide +kernel
theorem dX12_call_0 : decode cX12_call 0 = .ok (.aload_n 0, 1) := by decide +kernel
theorem dX12_call_1 : decode cX12_call 1 = .ok (.iload_n 1, 1) := by decide +kernel
theorem dX12_call_2 : decode cX12_call 2 = .ok (.invokevirtual 150, 3) := by decide +kernel
theorem dX12_call_5 : decode cX12_call 5 = .ok (.ifCond .eq 39, 3) := by decide +kernel
theorem dX12_call_8 : decode cX12_call 8 = .ok (.aload_n 0, 1) := by decide +kernel
theorem dX12_call_9 : decode cX12_call 9 = .ok (.iload_n 2, 1) := by decide +kernel
theorem dX12_call_10 : decode cX12_call 10 = .ok (.invokevirtual 150, 3) := by decide +kernel
theorem dX12_call_13 : decode cX12_call 13 = .ok (.ifCond .eq 31, 3) := by decide +kernel
theorem dX12_call_16 : decode cX12_call 16 = .ok (.iload_n 1, 1) := by decide +kernel
theorem dX12_call_17 : decode cX12_call 17 = .ok (.iload_n 2, 1) := by decide +kernel
theorem dX12_call_18 : decode cX12_call 18 = .ok (.if_icmp .eq 26, 3) := by decide +kernel
theorem dX12_call_21 : decode cX12_call 21 = .ok (.iload_n 3, 1) := by decide +kernel
theorem dX12_call_22 : decode cX12_call 22 = .ok (.iconst 0, 1) := by decide +kernel
theorem dX12_call_23 : decode cX12_call 23 = .ok (.aload_n 0, 1) := by decide +kernel
theorem dX12_call_24 : decode cX12_call 24 = .ok (.getfield 68, 3) := by decide +kernel
theorem dX12_call_27 : decode cX12_call 27 = .ok (.invokestatic 84, 3) := by decide +kernel
theorem dX12_call_30 : decode cX12_call 30 = .ok (.ifCond .eq 14, 3) := by decide +kernel
theorem dX12_call_33 : decode cX12_call 33 = .ok (.iload 4, 2) := by decide +kernel
theorem dX12_call_35 : decode cX12_call 35 = .ok (.iconst 1, 1) := by decide +kernel
theorem dX12_call_36 : decode cX12_call 36 = .ok (.bipush 9, 2) := by decide +kernel
theorem dX12_call_38 : decode cX12_call 38 = .ok (.invokestatic 84, 3) := by decide +kernel
theorem dX12_call_41 : decode cX12_call 41 = .ok (.ifCond .ne 5, 3) := by decide +kernel
theorem dX12_call_44 : decode cX12_call 44 = .ok (.iconst (-1), 1) := by decide +kernel
theorem dX12_call_45 : decode cX12_call 45 = .ok (.ireturn, 1) := by decide +kernel
theorem dX12_call_46 : decode cX12_call 46 = .ok (.aload_n 0, 1) := by decide +kernel
theorem dX12_call_47 : decode cX12_call 47 = .ok (.iload_n 1, 1) := by decide +kernel
theorem dX12_call_48 : decode cX12_call 48 = .ok (.invokevirtual 204, 3) := by decide +kernel
theorem dX12_call_51 : decode cX12_call 51 = .ok (.aload_n 0, 1) := by decide +kernel
theorem dX12_call_52 : decode cX12_call 52 = .ok (.getfield 13, 3) := by decide +kernel
theorem dX12_call_55 : decode cX12_call 55 = .ok (.iload_n 1, 1) := by decide +kernel
theorem dX12_call_56 : decode cX12_call 56 = .ok (.iload_n 2, 1) := by decide +kernel
theorem dX12_call_57 : decode cX12_call 57 = .ok (.iastore, 1) := by decide +kernel
theorem dX12_call_58 : decode cX12_call 58 = .ok (.aload_n 0, 1) := by decide +kernel
theorem dX12_call_59 : decode cX12_call 59 = .ok (.getfield 13, 3) := by decide +kernel
theorem dX12_call_62 : decode cX12_call 62 = .ok (.iconst 5, 1) := by decide +kernel
theorem dX12_call_63 : decode cX12_call 63 = .ok (.iload_n 1, 1) := by decide +kernel
theorem dX12_call_64 : decode cX12_call 64 = .ok (.iadd, 1) := by decide +kernel
theorem dX12_call_65 : decode cX12_call 65 = .ok (.iload_n 3, 1) := by decide +kernel
theorem dX12_call_66 : decode cX12_call 66 = .ok (.iastore, 1) := by decide +kernel
theorem dX12_call_67 : decode cX12_call 67 = .ok (.aload_n 0, 1) := by decide +kernel
theorem dX12_call_68 : decode cX12_call 68 = .ok (.getfield 13, 3) := by decide +kernel
theorem dX12_call_71 : decode cX12_call 71 = .ok (.bipush 10, 2) := by decide +kernel
theorem dX12_call_73 : decode cX12_call 73 = .ok (.iload_n 1, 1) := by decide +kernel
theorem dX12_call_74 : decode cX12_call 74 = .ok (.iadd, 1) := by decide +kernel
theorem dX12_call_75 : decode cX12_call 75 = .ok (.iload 4, 2) := by decide +kernel
theorem dX12_call_77 : decode cX12_call 77 = .ok (.iastore, 1) := by decide +kernel
theorem dX12_call_78 : decode cX12_call 78 = .ok (.aload_n 0, 1) := by decide +kernel
theorem dX12_call_79 : decode cX12_call 79 = .ok (.getfield 144, 3) := by decide +kernel
theorem dX12_call_82 : decode cX12_call 82 = .ok (.ireturn, 1) := by decide +kernel
theorem dX12_letters_0 : decode cX12_letters 0 = .ok (.aload_n 0, 1) := by decide +kernel
theorem dX12_letters_1 : decode cX12_letters 1 = .ok (.iload_n 1, 1) := by decide +kernel
theorem dX12_letters_2 : decode cX12_letters 2 = .ok (.invokevirtual 150, 3) := by decide +kernel
theorem dX12_letters_5 : decode cX12_letters 5 = .ok (.ifCond .eq 12, 3) := by decide +kernel
theorem dX12_letters_8 : decode cX12_letters 8 = .ok (.iload_n 2, 1) := by decide +kernel
theorem dX12_letters_9 : decode cX12_letters 9 = .ok (.iconst 0, 1) := by decide +kernel
theorem dX12_letters_10 : decode cX12_letters 10 = .ok (.iconst 3, 1) := by decide +kernel
theorem dX12_letters_11 : decode cX12_letters 11 = .ok (.invokestatic 84, 3) := by decide +kernel
theorem dX12_letters_14 : decode cX12_letters 14 = .ok (.ifCond .ne 5, 3) := by decide +kernel
theorem dX12_letters_17 : decode cX12_letters 17 = .ok (.iconst (-1), 1) := by decide +kernel
theorem dX12_letters_18 : decode cX12_letters 18 = .ok (.ireturn, 1) := by decide +kernel
theorem dX12_letters_19 : decode cX12_letters 19 = .ok (.aload_n 0, 1) := by decide +kernel
theorem dX12_letters_20 : decode cX12_letters 20 = .ok (.iload_n 1, 1) := by decide +kernel
theorem dX12_letters_21 : decode cX12_letters 21 = .ok (.invokevirtual 204, 3) := by decide +kernel
theorem dX12_letters_24 : decode cX12_letters 24 = .ok (.aload_n 0, 1) := by decide +kernel
theorem dX12_letters_25 : decode cX12_letters 25 = .ok (.getfield 13, 3) := by decide +kernel
theorem dX12_letters_28 : decode cX12_letters 28 = .ok (.bipush 15, 2) := by decide +kernel
theorem dX12_letters_30 : decode cX12_letters 30 = .ok (.iload_n 1, 1) := by decide +kernel
theorem dX12_letters_31 : decode cX12_letters 31 = .ok (.iadd, 1) := by decide +kernel
theorem dX12_letters_32 : decode cX12_letters 32 = .ok (.iaload, 1) := by decide +kernel
theorem dX12_letters_33 : decode cX12_letters 33 = .ok (.istore_n 3, 1) := by decide +kernel
theorem dX12_letters_34 : decode cX12_letters 34 = .ok (.aload_n 0, 1) := by decide +kernel
theorem dX12_letters_35 : decode cX12_letters 35 = .ok (.getfield 13, 3) := by decide +kernel
theorem dX12_letters_38 : decode cX12_letters 38 = .ok (.bipush 15, 2) := by decide +kernel
theorem dX12_letters_40 : decode cX12_letters 40 = .ok (.iload_n 1, 1) := by decide +kernel
theorem dX12_letters_41 : decode cX12_letters 41 = .ok (.iadd, 1) := by decide +kernel
theorem dX12_letters_42 : decode cX12_letters 42 = .ok (.iload_n 2, 1) := by decide +kernel
theorem dX12_letters_43 : decode cX12_letters 43 = .ok (.iastore, 1) := by decide +kernel
theorem dX12_letters_44 : decode cX12_letters 44 = .ok (.iload_n 3, 1) := by decide +kernel
theorem dX12_letters_45 : decode cX12_letters 45 = .ok (.ireturn, 1) := by decide +kernel
theorem dX12_undo_0 : decode cX12_undo 0 = .ok (.aload_n 0, 1) := by decide +kernel
theorem dX12_undo_1 : decode cX12_undo 1 = .ok (.getfield 144, 3) := by decide +kernel
theorem dX12_undo_4 : decode cX12_undo 4 = .ok (.ifCond .ne 6, 3) := by decide +kernel
theorem dX12_undo_7 : decode cX12_undo 7 = .ok (.bipush (-2), 2) := by decide +kernel
theorem dX12_undo_9 : decode cX12_undo 9 = .ok (.ireturn, 1) := by decide +kernel
theorem dX12_undo_10 : decode cX12_undo 10 = .ok (.aload_n 0, 1) := by decide +kernel
theorem dX12_undo_11 : decode cX12_undo 11 = .ok (.dup, 1) := by decide +kernel
theorem dX12_undo_12 : decode cX12_undo 12 = .ok (.getfield 144, 3) := by decide +kernel
theorem dX12_undo_15 : decode cX12_undo 15 = .ok (.iconst 1, 1) := by decide +kernel
theorem dX12_undo_16 : decode cX12_undo 16 = .ok (.isub, 1) := by decide +kernel
theorem dX12_undo_17 : decode cX12_undo 17 = .ok (.putfield 144, 3) := by decide +kernel
theorem dX12_undo_20 : decode cX12_undo 20 = .ok (.aload_n 0, 1) := by decide +kernel
theorem dX12_undo_21 : decode cX12_undo 21 = .ok (.getfield 56, 3) := by decide +kernel
theorem dX12_undo_24 : decode cX12_undo 24 = .ok (.iconst 5, 1) := by decide +kernel
theorem dX12_undo_25 : decode cX12_undo 25 = .ok (.aload_n 0, 1) := by decide +kernel
theorem dX12_undo_26 : decode cX12_undo 26 = .ok (.getfield 144, 3) := by decide +kernel
theorem dX12_undo_29 : decode cX12_undo 29 = .ok (.imul, 1) := by decide +kernel
theorem dX12_undo_30 : decode cX12_undo 30 = .ok (.iaload, 1) := by decide +kernel
theorem dX12_undo_31 : decode cX12_undo 31 = .ok (.istore_n 1, 1) := by decide +kernel
theorem dX12_undo_32 : decode cX12_undo 32 = .ok (.iconst 0, 1) := by decide +kernel
theorem dX12_undo_33 : decode cX12_undo 33 = .ok (.istore_n 2, 1) := by decide +kernel
theorem dX12_undo_34 : decode cX12_undo 34 = .ok (.iload_n 2, 1) := by decide +kernel
theorem dX12_undo_35 : decode cX12_undo 35 = .ok (.iconst 4, 1) := by decide +kernel
theorem dX12_undo_36 : decode cX12_undo 36 = .ok (.if_icmp .ge 34, 3) := by decide +kernel
theorem dX12_undo_39 : decode cX12_undo 39 = .ok (.aload_n 0, 1) := by decide +kernel
theorem dX12_undo_40 : decode cX12_undo 40 = .ok (.getfield 13, 3) := by decide +kernel
theorem dX12_undo_43 : decode cX12_undo 43 = .ok (.iconst 5, 1) := by decide +kernel
theorem dX12_undo_44 : decode cX12_undo 44 = .ok (.iload_n 2, 1) := by decide +kernel
theorem dX12_undo_45 : decode cX12_undo 45 = .ok (.imul, 1) := by decide +kernel
theorem dX12_undo_46 : decode cX12_undo 46 = .ok (.iload_n 1, 1) := by decide +kernel
theorem dX12_undo_47 : decode cX12_undo 47 = .ok (.iadd, 1) := by decide +kernel
theorem dX12_undo_48 : decode cX12_undo 48 = .ok (.aload_n 0, 1) := by decide +kernel
theorem dX12_undo_49 : decode cX12_undo 49 = .ok (.getfield 56, 3) := by decide +kernel
theorem dX12_undo_52 : decode cX12_undo 52 = .ok (.iconst 5, 1) := by decide +kernel
theorem dX12_undo_53 : decode cX12_undo 53 = .ok (.aload_n 0, 1) := by decide +kernel
theorem dX12_undo_54 : decode cX12_undo 54 = .ok (.getfield 144, 3) := by decide +kernel
theorem dX12_undo_57 : decode cX12_undo 57 = .ok (.imul, 1) := by decide +kernel
theorem dX12_undo_58 : decode cX12_undo 58 = .ok (.iconst 1, 1) := by decide +kernel
theorem dX12_undo_59 : decode cX12_undo 59 = .ok (.iadd, 1) := by decide +kernel
theorem dX12_undo_60 : decode cX12_undo 60 = .ok (.iload_n 2, 1) := by decide +kernel
theorem dX12_undo_61 : decode cX12_undo 61 = .ok (.iadd, 1) := by decide +kernel
theorem dX12_undo_62 : decode cX12_undo 62 = .ok (.iaload, 1) := by decide +kernel
theorem dX12_undo_63 : decode cX12_undo 63 = .ok (.iastore, 1) := by decide +kernel
theorem dX12_undo_64 : decode cX12_undo 64 = .ok (.iinc 2 1, 3) := by decide +kernel
theorem dX12_undo_67 : decode cX12_undo 67 = .ok (.goto (-33), 3) := by decide +kernel
theorem dX12_undo_70 : decode cX12_undo 70 = .ok (.aload_n 0, 1) := by decide +kernel
theorem dX12_undo_71 : decode cX12_undo 71 = .ok (.getfield 144, 3) := by decide +kernel
theorem dX12_undo_74 : decode cX12_undo 74 = .ok (.ireturn, 1) := by decide +kernel
theorem dX12_seen_0 : decode cX12_seen 0 = .ok (.aload_n 0, 1) := by decide +kernel
theorem dX12_seen_1 : decode cX12_seen 1 = .ok (.iload_n 1, 1) := by decide +kernel
theorem dX12_seen_2 : decode cX12_seen 2 = .ok (.invokevirtual 150, 3) := by decide +kernel
theorem dX12_seen_5 : decode cX12_seen 5 = .ok (.ifCond .eq 23, 3) := by decide +kernel
theorem dX12_seen_8 : decode cX12_seen 8 = .ok (.aload_n 0, 1) := by decide +kernel
theorem dX12_seen_9 : decode cX12_seen 9 = .ok (.iload_n 2, 1) := by decide +kernel
theorem dX12_seen_10 : decode cX12_seen 10 = .ok (.invokevirtual 150, 3) := by decide +kernel
theorem dX12_seen_13 : decode cX12_seen 13 = .ok (.ifCond .eq 15, 3) := by decide +kernel
theorem dX12_seen_16 : decode cX12_seen 16 = .ok (.iload_n 3, 1) := by decide +kernel
theorem dX12_seen_17 : decode cX12_seen 17 = .ok (.iconst 0, 1) := by decide +kernel
theorem dX12_seen_18 : decode cX12_seen 18 = .ok (.aload_n 0, 1) := by decide +kernel
theorem dX12_seen_19 : decode cX12_seen 19 = .ok (.getfield 68, 3) := by decide +kernel
theorem dX12_seen_22 : decode cX12_seen 22 = .ok (.invokestatic 84, 3) := by decide +kernel
theorem dX12_seen_25 : decode cX12_seen 25 = .ok (.ifCond .ne 5, 3) := by decide +kernel
theorem dX12_seen_28 : decode cX12_seen 28 = .ok (.iconst (-1), 1) := by decide +kernel
theorem dX12_seen_29 : decode cX12_seen 29 = .ok (.ireturn, 1) := by decide +kernel
theorem dX12_seen_30 : decode cX12_seen 30 = .ok (.aload_n 0, 1) := by decide +kernel
theorem dX12_seen_31 : decode cX12_seen 31 = .ok (.getfield 141, 3) := by decide +kernel
theorem dX12_seen_34 : decode cX12_seen 34 = .ok (.bipush 8, 2) := by decide +kernel
theorem dX12_seen_36 : decode cX12_seen 36 = .ok (.if_icmp .ne 6, 3) := by decide +kernel
theorem dX12_seen_39 : decode cX12_seen 39 = .ok (.bipush (-3), 2) := by decide +kernel
theorem dX12_seen_41 : decode cX12_seen 41 = .ok (.ireturn, 1) := by decide +kernel
theorem dX12_seen_42 : decode cX12_seen 42 = .ok (.aload_n 0, 1) := by decide +kernel
theorem dX12_seen_43 : decode cX12_seen 43 = .ok (.getfield 59, 3) := by decide +kernel
theorem dX12_seen_46 : decode cX12_seen 46 = .ok (.iconst 3, 1) := by decide +kernel
theorem dX12_seen_47 : decode cX12_seen 47 = .ok (.aload_n 0, 1) := by decide +kernel
theorem dX12_seen_48 : decode cX12_seen 48 = .ok (.getfield 141, 3) := by decide +kernel
theorem dX12_seen_51 : decode cX12_seen 51 = .ok (.imul, 1) := by decide +kernel
theorem dX12_seen_52 : decode cX12_seen 52 = .ok (.iload_n 1, 1) := by decide +kernel
theorem dX12_seen_53 : decode cX12_seen 53 = .ok (.iastore, 1) := by decide +kernel
theorem dX12_seen_54 : decode cX12_seen 54 = .ok (.aload_n 0, 1) := by decide +kernel
theorem dX12_seen_55 : decode cX12_seen 55 = .ok (.getfield 59, 3) := by decide +kernel
theorem dX12_seen_58 : decode cX12_seen 58 = .ok (.iconst 3, 1) := by decide +kernel
theorem dX12_seen_59 : decode cX12_seen 59 = .ok (.aload_n 0, 1) := by decide +kernel
theorem dX12_seen_60 : decode cX12_seen 60 = .ok (.getfield 141, 3) := by decide +kernel
theorem dX12_seen_63 : decode cX12_seen 63 = .ok (.imul, 1) := by decide +kernel
theorem dX12_seen_64 : decode cX12_seen 64 = .ok (.iconst 1, 1) := by decide +kernel
theorem dX12_seen_65 : decode cX12_seen 65 = .ok (.iadd, 1) := by decide +kernel
theorem dX12_seen_66 : decode cX12_seen 66 = .ok (.iload_n 2, 1) := by decide +kernel
theorem dX12_seen_67 : decode cX12_seen 67 = .ok (.iastore, 1) := by decide +kernel
theorem dX12_seen_68 : decode cX12_seen 68 = .ok (.aload_n 0, 1) := by decide +kernel
theorem dX12_seen_69 : decode cX12_seen 69 = .ok (.getfield 59, 3) := by decide +kernel
theorem dX12_seen_72 : decode cX12_seen 72 = .ok (.iconst 3, 1) := by decide +kernel
theorem dX12_seen_73 : decode cX12_seen 73 = .ok (.aload_n 0, 1) := by decide +kernel
theorem dX12_seen_74 : decode cX12_seen 74 = .ok (.getfield 141, 3) := by decide +kernel
theorem dX12_seen_77 : decode cX12_seen 77 = .ok (.imul, 1) := by decide +kernel
theorem dX12_seen_78 : decode cX12_seen 78 = .ok (.iconst 2, 1) := by decide +kernel
theorem dX12_seen_79 : decode cX12_seen 79 = .ok (.iadd, 1) := by decide +kernel
theorem dX12_seen_80 : decode cX12_seen 80 = .ok (.iload_n 3, 1) := by decide +kernel
theorem dX12_seen_81 : decode cX12_seen 81 = .ok (.iastore, 1) := by decide +kernel
theorem dX12_seen_82 : decode cX12_seen 82 = .ok (.aload_n 0, 1) := by decide +kernel
theorem dX12_seen_83 : decode cX12_seen 83 = .ok (.dup, 1) := by decide +kernel
theorem dX12_seen_84 : decode cX12_seen 84 = .ok (.getfield 141, 3) := by decide +kernel
theorem dX12_seen_87 : decode cX12_seen 87 = .ok (.iconst 1, 1) := by decide +kernel
theorem dX12_seen_88 : decode cX12_seen 88 = .ok (.iadd, 1) := by decide +kernel
theorem dX12_seen_89 : decode cX12_seen 89 = .ok (.putfield 141, 3) := by decide +kernel
theorem dX12_seen_92 : decode cX12_seen 92 = .ok (.aload_n 0, 1) := by decide +kernel
theorem dX12_seen_93 : decode cX12_seen 93 = .ok (.getfield 141, 3) := by decide +kernel
theorem dX12_seen_96 : decode cX12_seen 96 = .ok (.ireturn, 1) := by decide +kernel
theorem dX12_forget_0 : decode cX12_forget 0 = .ok (.aload_n 0, 1) := by decide +kernel
theorem dX12_forget_1 : decode cX12_forget 1 = .ok (.getfield 141, 3) := by decide +kernel
theorem dX12_forget_4 : decode cX12_forget 4 = .ok (.istore_n 1, 1) := by decide +kernel
theorem dX12_forget_5 : decode cX12_forget 5 = .ok (.aload_n 0, 1) := by decide +kernel
theorem dX12_forget_6 : decode cX12_forget 6 = .ok (.iconst 0, 1) := by decide +kernel
theorem dX12_forget_7 : decode cX12_forget 7 = .ok (.putfield 141, 3) := by decide +kernel
theorem dX12_forget_10 : decode cX12_forget 10 = .ok (.iload_n 1, 1) := by decide +kernel
theorem dX12_forget_11 : decode cX12_forget 11 = .ok (.ireturn, 1) := by decide +kernel
theorem dX12_kinds_0 : decode cX12_kinds 0 = .ok (.aload_n 0, 1) := by decide +kernel
theorem dX12_kinds_1 : decode cX12_kinds 1 = .ok (.iload_n 1, 1) := by decide +kernel
theorem dX12_kinds_2 : decode cX12_kinds 2 = .ok (.invokevirtual 150, 3) := by decide +kernel
theorem dX12_kinds_5 : decode cX12_kinds 5 = .ok (.ifCond .ne 5, 3) := by decide +kernel
theorem dX12_kinds_8 : decode cX12_kinds 8 = .ok (.iconst (-1), 1) := by decide +kernel
theorem dX12_kinds_9 : decode cX12_kinds 9 = .ok (.ireturn, 1) := by decide +kernel
theorem dX12_kinds_10 : decode cX12_kinds 10 = .ok (.bipush 15, 2) := by decide +kernel
theorem dX12_kinds_12 : decode cX12_kinds 12 = .ok (.istore_n 2, 1) := by decide +kernel
theorem dX12_kinds_13 : decode cX12_kinds 13 = .ok (.iconst 0, 1) := by decide +kernel
theorem dX12_kinds_14 : decode cX12_kinds 14 = .ok (.istore_n 3, 1) := by decide +kernel
theorem dX12_kinds_15 : decode cX12_kinds 15 = .ok (.iload_n 3, 1) := by decide +kernel
theorem dX12_kinds_16 : decode cX12_kinds 16 = .ok (.aload_n 0, 1) := by decide +kernel
theorem dX12_kinds_17 : decode cX12_kinds 17 = .ok (.getfield 141, 3) := by decide +kernel
theorem dX12_kinds_20 : decode cX12_kinds 20 = .ok (.if_icmp .ge 152, 3) := by decide +kernel
theorem dX12_kinds_23 : decode cX12_kinds 23 = .ok (.aload_n 0, 1) := by decide +kernel
theorem dX12_kinds_24 : decode cX12_kinds 24 = .ok (.getfield 59, 3) := by decide +kernel
theorem dX12_kinds_27 : decode cX12_kinds 27 = .ok (.iconst 3, 1) := by decide +kernel
theorem dX12_kinds_28 : decode cX12_kinds 28 = .ok (.iload_n 3, 1) := by decide +kernel
theorem dX12_kinds_29 : decode cX12_kinds 29 = .ok (.imul, 1) := by decide +kernel
theorem dX12_kinds_30 : decode cX12_kinds 30 = .ok (.iaload, 1) := by decide +kernel
theorem dX12_kinds_31 : decode cX12_kinds 31 = .ok (.istore 4, 2) := by decide +kernel
theorem dX12_kinds_33 : decode cX12_kinds 33 = .ok (.aload_n 0, 1) := by decide +kernel
theorem dX12_kinds_34 : decode cX12_kinds 34 = .ok (.aload_n 0, 1) := by decide +kernel
theorem dX12_kinds_35 : decode cX12_kinds 35 = .ok (.getfield 13, 3) := by decide +kernel
theorem dX12_kinds_38 : decode cX12_kinds 38 = .ok (.iload 4, 2) := by decide +kernel
theorem dX12_kinds_40 : decode cX12_kinds 40 = .ok (.iaload, 1) := by decide +kernel
theorem dX12_kinds_41 : decode cX12_kinds 41 = .ok (.aload_n 0, 1) := by decide +kernel
theorem dX12_kinds_42 : decode cX12_kinds 42 = .ok (.getfield 13, 3) := by decide +kernel
theorem dX12_kinds_45 : decode cX12_kinds 45 = .ok (.iconst 5, 1) := by decide +kernel
theorem dX12_kinds_46 : decode cX12_kinds 46 = .ok (.iload 4, 2) := by decide +kernel
theorem dX12_kinds_48 : decode cX12_kinds 48 = .ok (.iadd, 1) := by decide +kernel
theorem dX12_kinds_49 : decode cX12_kinds 49 = .ok (.iaload, 1) := by decide +kernel
theorem dX12_kinds_50 : decode cX12_kinds 50 = .ok (.aload_n 0, 1) := by decide +kernel
theorem dX12_kinds_51 : decode cX12_kinds 51 = .ok (.getfield 13, 3) := by decide +kernel
theorem dX12_kinds_54 : decode cX12_kinds 54 = .ok (.bipush 10, 2) := by decide +kernel
theorem dX12_kinds_56 : decode cX12_kinds 56 = .ok (.iload 4, 2) := by decide +kernel
theorem dX12_kinds_58 : decode cX12_kinds 58 = .ok (.iadd, 1) := by decide +kernel
theorem dX12_kinds_59 : decode cX12_kinds 59 = .ok (.iaload, 1) := by decide +kernel
theorem dX12_kinds_60 : decode cX12_kinds 60 = .ok (.invokevirtual 156, 3) := by decide +kernel
theorem dX12_kinds_63 : decode cX12_kinds 63 = .ok (.istore 5, 2) := by decide +kernel
theorem dX12_kinds_65 : decode cX12_kinds 65 = .ok (.iconst 0, 1) := by decide +kernel
theorem dX12_kinds_66 : decode cX12_kinds 66 = .ok (.istore 6, 2) := by decide +kernel
theorem dX12_kinds_68 : decode cX12_kinds 68 = .ok (.iload 6, 2) := by decide +kernel
theorem dX12_kinds_70 : decode cX12_kinds 70 = .ok (.iconst 3, 1) := by decide +kernel
theorem dX12_kinds_71 : decode cX12_kinds 71 = .ok (.if_icmp .gt 95, 3) := by decide +kernel
theorem dX12_kinds_74 : decode cX12_kinds 74 = .ok (.aload_n 0, 1) := by decide +kernel
theorem dX12_kinds_75 : decode cX12_kinds 75 = .ok (.getfield 13, 3) := by decide +kernel
theorem dX12_kinds_78 : decode cX12_kinds 78 = .ok (.iload 4, 2) := by decide +kernel
theorem dX12_kinds_80 : decode cX12_kinds 80 = .ok (.iaload, 1) := by decide +kernel
theorem dX12_kinds_81 : decode cX12_kinds 81 = .ok (.iload_n 1, 1) := by decide +kernel
theorem dX12_kinds_82 : decode cX12_kinds 82 = .ok (.if_icmp .ne 15, 3) := by decide +kernel
theorem dX12_kinds_85 : decode cX12_kinds 85 = .ok (.aload_n 0, 1) := by decide +kernel
theorem dX12_kinds_86 : decode cX12_kinds 86 = .ok (.getfield 13, 3) := by decide +kernel
theorem dX12_kinds_89 : decode cX12_kinds 89 = .ok (.iconst 5, 1) := by decide +kernel
theorem dX12_kinds_90 : decode cX12_kinds 90 = .ok (.iload 4, 2) := by decide +kernel
theorem dX12_kinds_92 : decode cX12_kinds 92 = .ok (.iadd, 1) := by decide +kernel
theorem dX12_kinds_93 : decode cX12_kinds 93 = .ok (.iaload, 1) := by decide +kernel
theorem dX12_kinds_94 : decode cX12_kinds 94 = .ok (.goto 21, 3) := by decide +kernel
theorem dX12_kinds_97 : decode cX12_kinds 97 = .ok (.aload_n 0, 1) := by decide +kernel
theorem dX12_kinds_98 : decode cX12_kinds 98 = .ok (.iload_n 1, 1) := by decide +kernel
theorem dX12_kinds_99 : decode cX12_kinds 99 = .ok (.iload 6, 2) := by decide +kernel
theorem dX12_kinds_101 : decode cX12_kinds 101 = .ok (.aload_n 0, 1) := by decide +kernel
theorem dX12_kinds_102 : decode cX12_kinds 102 = .ok (.getfield 13, 3) := by decide +kernel
theorem dX12_kinds_105 : decode cX12_kinds 105 = .ok (.iconst 5, 1) := by decide +kernel
theorem dX12_kinds_106 : decode cX12_kinds 106 = .ok (.iload 4, 2) := by decide +kernel
theorem dX12_kinds_108 : decode cX12_kinds 108 = .ok (.iadd, 1) := by decide +kernel
theorem dX12_kinds_109 : decode cX12_kinds 109 = .ok (.iaload, 1) := by decide +kernel
theorem dX12_kinds_110 : decode cX12_kinds 110 = .ok (.iload 5, 2) := by decide +kernel
theorem dX12_kinds_112 : decode cX12_kinds 112 = .ok (.invokevirtual 163, 3) := by decide +kernel
theorem dX12_kinds_115 : decode cX12_kinds 115 = .ok (.istore 7, 2) := by decide +kernel
theorem dX12_kinds_117 : decode cX12_kinds 117 = .ok (.iload_n 2, 1) := by decide +kernel
theorem dX12_kinds_118 : decode cX12_kinds 118 = .ok (.aload_n 0, 1) := by decide +kernel
theorem dX12_kinds_119 : decode cX12_kinds 119 = .ok (.getfield 59, 3) := by decide +kernel
theorem dX12_kinds_122 : decode cX12_kinds 122 = .ok (.iconst 3, 1) := by decide +kernel
theorem dX12_kinds_123 : decode cX12_kinds 123 = .ok (.iload_n 3, 1) := by decide +kernel
theorem dX12_kinds_124 : decode cX12_kinds 124 = .ok (.imul, 1) := by decide +kernel
theorem dX12_kinds_125 : decode cX12_kinds 125 = .ok (.iconst 1, 1) := by decide +kernel
theorem dX12_kinds_126 : decode cX12_kinds 126 = .ok (.iadd, 1) := by decide +kernel
theorem dX12_kinds_127 : decode cX12_kinds 127 = .ok (.iaload, 1) := by decide +kernel
theorem dX12_kinds_128 : decode cX12_kinds 128 = .ok (.iload_n 1, 1) := by decide +kernel
theorem dX12_kinds_129 : decode cX12_kinds 129 = .ok (.if_icmp .ne 27, 3) := by decide +kernel
theorem dX12_kinds_132 : decode cX12_kinds 132 = .ok (.iload 7, 2) := by decide +kernel
theorem dX12_kinds_134 : decode cX12_kinds 134 = .ok (.aload_n 0, 1) := by decide +kernel
theorem dX12_kinds_135 : decode cX12_kinds 135 = .ok (.getfield 59, 3) := by decide +kernel
theorem dX12_kinds_138 : decode cX12_kinds 138 = .ok (.iconst 3, 1) := by decide +kernel
theorem dX12_kinds_139 : decode cX12_kinds 139 = .ok (.iload_n 3, 1) := by decide +kernel
theorem dX12_kinds_140 : decode cX12_kinds 140 = .ok (.imul, 1) := by decide +kernel
theorem dX12_kinds_141 : decode cX12_kinds 141 = .ok (.iconst 2, 1) := by decide +kernel
theorem dX12_kinds_142 : decode cX12_kinds 142 = .ok (.iadd, 1) := by decide +kernel
theorem dX12_kinds_143 : decode cX12_kinds 143 = .ok (.iaload, 1) := by decide +kernel
theorem dX12_kinds_144 : decode cX12_kinds 144 = .ok (.if_icmp .eq 12, 3) := by decide +kernel
theorem dX12_kinds_147 : decode cX12_kinds 147 = .ok (.iconst 1, 1) := by decide +kernel
theorem dX12_kinds_148 : decode cX12_kinds 148 = .ok (.iload 6, 2) := by decide +kernel
theorem dX12_kinds_150 : decode cX12_kinds 150 = .ok (.ishl, 1) := by decide +kernel
theorem dX12_kinds_151 : decode cX12_kinds 151 = .ok (.iconst (-1), 1) := by decide +kernel
theorem dX12_kinds_152 : decode cX12_kinds 152 = .ok (.ixor, 1) := by decide +kernel
theorem dX12_kinds_153 : decode cX12_kinds 153 = .ok (.goto 5, 3) := by decide +kernel
theorem dX12_kinds_156 : decode cX12_kinds 156 = .ok (.bipush 15, 2) := by decide +kernel
theorem dX12_kinds_158 : decode cX12_kinds 158 = .ok (.iand, 1) := by decide +kernel
theorem dX12_kinds_159 : decode cX12_kinds 159 = .ok (.istore_n 2, 1) := by decide +kernel
theorem dX12_kinds_160 : decode cX12_kinds 160 = .ok (.iinc 6 1, 3) := by decide +kernel
theorem dX12_kinds_163 : decode cX12_kinds 163 = .ok (.goto (-95), 3) := by decide +kernel
theorem dX12_kinds_166 : decode cX12_kinds 166 = .ok (.iinc 3 1, 3) := by decide +kernel
theorem dX12_kinds_169 : decode cX12_kinds 169 = .ok (.goto (-154), 3) := by decide +kernel
theorem dX12_kinds_172 : decode cX12_kinds 172 = .ok (.iload_n 2, 1) := by decide +kernel
theorem dX12_kinds_173 : decode cX12_kinds 173 = .ok (.ireturn, 1) := by decide +kernel
theorem dX12_afternoon_0 : decode cX12_afternoon 0 = .ok (.iload_n 1, 1) := by decide +kernel
theorem dX12_afternoon_1 : decode cX12_afternoon 1 = .ok (.iconst 0, 1) := by decide +kernel
theorem dX12_afternoon_2 : decode cX12_afternoon 2 = .ok (.sipush 9999, 3) := by decide +kernel
theorem dX12_afternoon_5 : decode cX12_afternoon 5 = .ok (.invokestatic 84, 3) := by decide +kernel
theorem dX12_afternoon_8 : decode cX12_afternoon 8 = .ok (.ifCond .eq 12, 3) := by decide +kernel
theorem dX12_afternoon_11 : decode cX12_afternoon 11 = .ok (.iload_n 2, 1) := by decide +kernel
theorem dX12_afternoon_12 : decode cX12_afternoon 12 = .ok (.iconst 0, 1) := by decide +kernel
theorem dX12_afternoon_13 : decode cX12_afternoon 13 = .ok (.iconst 1, 1) := by decide +kernel
theorem dX12_afternoon_14 : decode cX12_afternoon 14 = .ok (.invokestatic 84, 3) := by decide +kernel
theorem dX12_afternoon_17 : decode cX12_afternoon 17 = .ok (.ifCond .ne 5, 3) := by decide +kernel
theorem dX12_afternoon_20 : decode cX12_afternoon 20 = .ok (.iconst (-1), 1) := by decide +kernel
theorem dX12_afternoon_21 : decode cX12_afternoon 21 = .ok (.ireturn, 1) := by decide +kernel
theorem dX12_afternoon_22 : decode cX12_afternoon 22 = .ok (.iconst 0, 1) := by decide +kernel
theorem dX12_afternoon_23 : decode cX12_afternoon 23 = .ok (.istore_n 3, 1) := by decide +kernel
theorem dX12_afternoon_24 : decode cX12_afternoon 24 = .ok (.iload_n 3, 1) := by decide +kernel
theorem dX12_afternoon_25 : decode cX12_afternoon 25 = .ok (.aload_n 0, 1) := by decide +kernel
theorem dX12_afternoon_26 : decode cX12_afternoon 26 = .ok (.getfield 75, 3) := by decide +kernel
theorem dX12_afternoon_29 : decode cX12_afternoon 29 = .ok (.if_icmp .ge 24, 3) := by decide +kernel
theorem dX12_afternoon_32 : decode cX12_afternoon 32 = .ok (.aload_n 0, 1) := by decide +kernel
theorem dX12_afternoon_33 : decode cX12_afternoon 33 = .ok (.getfield 62, 3) := by decide +kernel
theorem dX12_afternoon_36 : decode cX12_afternoon 36 = .ok (.iload_n 3, 1) := by decide +kernel
theorem dX12_afternoon_37 : decode cX12_afternoon 37 = .ok (.aload_n 0, 1) := by decide +kernel
theorem dX12_afternoon_38 : decode cX12_afternoon 38 = .ok (.getfield 13, 3) := by decide +kernel
theorem dX12_afternoon_41 : decode cX12_afternoon 41 = .ok (.bipush 15, 2) := by decide +kernel
theorem dX12_afternoon_43 : decode cX12_afternoon 43 = .ok (.iload_n 3, 1) := by decide +kernel
theorem dX12_afternoon_44 : decode cX12_afternoon 44 = .ok (.iadd, 1) := by decide +kernel
theorem dX12_afternoon_45 : decode cX12_afternoon 45 = .ok (.iaload, 1) := by decide +kernel
theorem dX12_afternoon_46 : decode cX12_afternoon 46 = .ok (.iastore, 1) := by decide +kernel
theorem dX12_afternoon_47 : decode cX12_afternoon 47 = .ok (.iinc 3 1, 3) := by decide +kernel
theorem dX12_afternoon_50 : decode cX12_afternoon 50 = .ok (.goto (-26), 3) := by decide +kernel
theorem dX12_afternoon_53 : decode cX12_afternoon 53 = .ok (.iconst 0, 1) := by decide +kernel
theorem dX12_afternoon_54 : decode cX12_afternoon 54 = .ok (.istore_n 3, 1) := by decide +kernel
theorem dX12_afternoon_55 : decode cX12_afternoon 55 = .ok (.iconst 0, 1) := by decide +kernel
theorem dX12_afternoon_56 : decode cX12_afternoon 56 = .ok (.istore 4, 2) := by decide +kernel
theorem dX12_afternoon_58 : decode cX12_afternoon 58 = .ok (.aload_n 0, 1) := by decide +kernel
theorem dX12_afternoon_59 : decode cX12_afternoon 59 = .ok (.getfield 62, 3) := by decide +kernel
theorem dX12_afternoon_62 : decode cX12_afternoon 62 = .ok (.iload_n 3, 1) := by decide +kernel
theorem dX12_afternoon_63 : decode cX12_afternoon 63 = .ok (.iaload, 1) := by decide +kernel
theorem dX12_afternoon_64 : decode cX12_afternoon 64 = .ok (.iconst 4, 1) := by decide +kernel
theorem dX12_afternoon_65 : decode cX12_afternoon 65 = .ok (.if_icmp .ge 95, 3) := by decide +kernel
theorem dX12_afternoon_68 : decode cX12_afternoon 68 = .ok (.aload_n 0, 1) := by decide +kernel
theorem dX12_afternoon_69 : decode cX12_afternoon 69 = .ok (.iload_n 3, 1) := by decide +kernel
theorem dX12_afternoon_70 : decode cX12_afternoon 70 = .ok (.invokevirtual 177, 3) := by decide +kernel
theorem dX12_afternoon_73 : decode cX12_afternoon 73 = .ok (.ldc2_w 207, 3) := by decide +kernel
theorem dX12_afternoon_76 : decode cX12_afternoon 76 = .ok (.iload_n 1, 1) := by decide +kernel
theorem dX12_afternoon_77 : decode cX12_afternoon 77 = .ok (.i2l, 1) := by decide +kernel
theorem dX12_afternoon_78 : decode cX12_afternoon 78 = .ok (.lmul, 1) := by decide +kernel
theorem dX12_afternoon_79 : decode cX12_afternoon 79 = .ok (.ldc2_w 209, 3) := by decide +kernel
theorem dX12_afternoon_82 : decode cX12_afternoon 82 = .ok (.iload 4, 2) := by decide +kernel
theorem dX12_afternoon_84 : decode cX12_afternoon 84 = .ok (.i2l, 1) := by decide +kernel
theorem dX12_afternoon_85 : decode cX12_afternoon 85 = .ok (.lmul, 1) := by decide +kernel
theorem dX12_afternoon_86 : decode cX12_afternoon 86 = .ok (.ladd, 1) := by decide +kernel
theorem dX12_afternoon_87 : decode cX12_afternoon 87 = .ok (.lconst 1, 1) := by decide +kernel
theorem dX12_afternoon_88 : decode cX12_afternoon 88 = .ok (.ladd, 1) := by decide +kernel
theorem dX12_afternoon_89 : decode cX12_afternoon 89 = .ok (.lstore 5, 2) := by decide +kernel
theorem dX12_afternoon_91 : decode cX12_afternoon 91 = .ok (.lload 5, 2) := by decide +kernel
theorem dX12_afternoon_93 : decode cX12_afternoon 93 = .ok (.lload 5, 2) := by decide +kernel
theorem dX12_afternoon_95 : decode cX12_afternoon 95 = .ok (.lmul, 1) := by decide +kernel
theorem dX12_afternoon_96 : decode cX12_afternoon 96 = .ok (.ldc2_w 211, 3) := by decide +kernel
theorem dX12_afternoon_99 : decode cX12_afternoon 99 = .ok (.lrem, 1) := by decide +kernel
theorem dX12_afternoon_100 : decode cX12_afternoon 100 = .ok (.ldc2_w 82, 3) := by decide +kernel
theorem dX12_afternoon_103 : decode cX12_afternoon 103 = .ok (.lrem, 1) := by decide +kernel
theorem dX12_afternoon_104 : decode cX12_afternoon 104 = .ok (.aload_n 0, 1) := by decide +kernel
theorem dX12_afternoon_105 : decode cX12_afternoon 105 = .ok (.getfield 34, 3) := by decide +kernel
theorem dX12_afternoon_108 : decode cX12_afternoon 108 = .ok (.aload_n 0, 1) := by decide +kernel
theorem dX12_afternoon_109 : decode cX12_afternoon 109 = .ok (.getfield 167, 3) := by decide +kernel
theorem dX12_afternoon_112 : decode cX12_afternoon 112 = .ok (.iaload, 1) := by decide +kernel
theorem dX12_afternoon_113 : decode cX12_afternoon 113 = .ok (.i2l, 1) := by decide +kernel
theorem dX12_afternoon_114 : decode cX12_afternoon 114 = .ok (.lcmp, 1) := by decide +kernel
theorem dX12_afternoon_115 : decode cX12_afternoon 115 = .ok (.ifCond .ge 7, 3) := by decide +kernel
theorem dX12_afternoon_118 : decode cX12_afternoon 118 = .ok (.iconst 1, 1) := by decide +kernel
theorem dX12_afternoon_119 : decode cX12_afternoon 119 = .ok (.goto 4, 3) := by decide +kernel
theorem dX12_afternoon_122 : decode cX12_afternoon 122 = .ok (.iconst 0, 1) := by decide +kernel
theorem dX12_afternoon_123 : decode cX12_afternoon 123 = .ok (.istore 7, 2) := by decide +kernel
theorem dX12_afternoon_125 : decode cX12_afternoon 125 = .ok (.iload 7, 2) := by decide +kernel
theorem dX12_afternoon_127 : decode cX12_afternoon 127 = .ok (.ifCond .eq 10, 3) := by decide +kernel
theorem dX12_afternoon_130 : decode cX12_afternoon 130 = .ok (.aload_n 0, 1) := by decide +kernel
theorem dX12_afternoon_131 : decode cX12_afternoon 131 = .ok (.getfield 167, 3) := by decide +kernel
theorem dX12_afternoon_134 : decode cX12_afternoon 134 = .ok (.goto 9, 3) := by decide +kernel
theorem dX12_afternoon_137 : decode cX12_afternoon 137 = .ok (.aload_n 0, 1) := by decide +kernel
theorem dX12_afternoon_138 : decode cX12_afternoon 138 = .ok (.getfield 13, 3) := by decide +kernel
theorem dX12_afternoon_141 : decode cX12_afternoon 141 = .ok (.iload_n 3, 1) := by decide +kernel
theorem dX12_afternoon_142 : decode cX12_afternoon 142 = .ok (.iaload, 1) := by decide +kernel
theorem dX12_afternoon_143 : decode cX12_afternoon 143 = .ok (.istore_n 3, 1) := by decide +kernel
theorem dX12_afternoon_144 : decode cX12_afternoon 144 = .ok (.aload_n 0, 1) := by decide +kernel
theorem dX12_afternoon_145 : decode cX12_afternoon 145 = .ok (.getfield 62, 3) := by decide +kernel
theorem dX12_afternoon_148 : decode cX12_afternoon 148 = .ok (.iload_n 3, 1) := by decide +kernel
theorem dX12_afternoon_149 : decode cX12_afternoon 149 = .ok (.dup2, 1) := by decide +kernel
theorem dX12_afternoon_150 : decode cX12_afternoon 150 = .ok (.iaload, 1) := by decide +kernel
theorem dX12_afternoon_151 : decode cX12_afternoon 151 = .ok (.iconst 1, 1) := by decide +kernel
theorem dX12_afternoon_152 : decode cX12_afternoon 152 = .ok (.iadd, 1) := by decide +kernel
theorem dX12_afternoon_153 : decode cX12_afternoon 153 = .ok (.iastore, 1) := by decide +kernel
theorem dX12_afternoon_154 : decode cX12_afternoon 154 = .ok (.iinc 4 1, 3) := by decide +kernel
theorem dX12_afternoon_157 : decode cX12_afternoon 157 = .ok (.goto (-99), 3) := by decide +kernel
theorem dX12_afternoon_160 : decode cX12_afternoon 160 = .ok (.iload_n 2, 1) := by decide +kernel
theorem dX12_afternoon_161 : decode cX12_afternoon 161 = .ok (.ifCond .ne 7, 3) := by decide +kernel
theorem dX12_afternoon_164 : decode cX12_afternoon 164 = .ok (.iload_n 3, 1) := by decide +kernel
theorem dX12_afternoon_165 : decode cX12_afternoon 165 = .ok (.goto 5, 3) := by decide +kernel
theorem dX12_afternoon_168 : decode cX12_afternoon 168 = .ok (.iload 4, 2) := by decide +kernel
theorem dX12_afternoon_170 : decode cX12_afternoon 170 = .ok (.ireturn, 1) := by decide +kernel
theorem dX12_keep_0 : decode cX12_keep 0 = .ok (.aload_n 0, 1) := by decide +kernel
theorem dX12_keep_1 : decode cX12_keep 1 = .ok (.getfield 147, 3) := by decide +kernel
theorem dX12_keep_4 : decode cX12_keep 4 = .ok (.iconst 2, 1) := by decide +kernel
theorem dX12_keep_5 : decode cX12_keep 5 = .ok (.if_icmp .ne 6, 3) := by decide +kernel
theorem dX12_keep_8 : decode cX12_keep 8 = .ok (.bipush (-3), 2) := by decide +kernel
theorem dX12_keep_10 : decode cX12_keep 10 = .ok (.ireturn, 1) := by decide +kernel
theorem dX12_keep_11 : decode cX12_keep 11 = .ok (.iconst 0, 1) := by decide +kernel
theorem dX12_keep_12 : decode cX12_keep 12 = .ok (.istore_n 1, 1) := by decide +kernel
theorem dX12_keep_13 : decode cX12_keep 13 = .ok (.iload_n 1, 1) := by decide +kernel
theorem dX12_keep_14 : decode cX12_keep 14 = .ok (.bipush 20, 2) := by decide +kernel
theorem dX12_keep_16 : decode cX12_keep 16 = .ok (.if_icmp .ge 29, 3) := by decide +kernel
theorem dX12_keep_19 : decode cX12_keep 19 = .ok (.aload_n 0, 1) := by decide +kernel
theorem dX12_keep_20 : decode cX12_keep 20 = .ok (.getfield 65, 3) := by decide +kernel
theorem dX12_keep_23 : decode cX12_keep 23 = .ok (.bipush 20, 2) := by decide +kernel
theorem dX12_keep_25 : decode cX12_keep 25 = .ok (.aload_n 0, 1) := by decide +kernel
theorem dX12_keep_26 : decode cX12_keep 26 = .ok (.getfield 147, 3) := by decide +kernel
theorem dX12_keep_29 : decode cX12_keep 29 = .ok (.imul, 1) := by decide +kernel
theorem dX12_keep_30 : decode cX12_keep 30 = .ok (.iload_n 1, 1) := by decide +kernel
theorem dX12_keep_31 : decode cX12_keep 31 = .ok (.iadd, 1) := by decide +kernel
theorem dX12_keep_32 : decode cX12_keep 32 = .ok (.aload_n 0, 1) := by decide +kernel
theorem dX12_keep_33 : decode cX12_keep 33 = .ok (.getfield 13, 3) := by decide +kernel
theorem dX12_keep_36 : decode cX12_keep 36 = .ok (.iload_n 1, 1) := by decide +kernel
theorem dX12_keep_37 : decode cX12_keep 37 = .ok (.iaload, 1) := by decide +kernel
theorem dX12_keep_38 : decode cX12_keep 38 = .ok (.iastore, 1) := by decide +kernel
theorem dX12_keep_39 : decode cX12_keep 39 = .ok (.iinc 1 1, 3) := by decide +kernel
theorem dX12_keep_42 : decode cX12_keep 42 = .ok (.goto (-29), 3) := by decide +kernel
theorem dX12_keep_45 : decode cX12_keep 45 = .ok (.aload_n 0, 1) := by decide +kernel
theorem dX12_keep_46 : decode cX12_keep 46 = .ok (.dup, 1) := by decide +kernel
theorem dX12_keep_47 : decode cX12_keep 47 = .ok (.getfield 147, 3) := by decide +kernel
theorem dX12_keep_50 : decode cX12_keep 50 = .ok (.iconst 1, 1) := by decide +kernel
theorem dX12_keep_51 : decode cX12_keep 51 = .ok (.iadd, 1) := by decide +kernel
theorem dX12_keep_52 : decode cX12_keep 52 = .ok (.putfield 147, 3) := by decide +kernel
theorem dX12_keep_55 : decode cX12_keep 55 = .ok (.aload_n 0, 1) := by decide +kernel
theorem dX12_keep_56 : decode cX12_keep 56 = .ok (.getfield 147, 3) := by decide +kernel
theorem dX12_keep_59 : decode cX12_keep 59 = .ok (.ireturn, 1) := by decide +kernel
theorem dX12_back_0 : decode cX12_back 0 = .ok (.aload_n 0, 1) := by decide +kernel
theorem dX12_back_1 : decode cX12_back 1 = .ok (.getfield 147, 3) := by decide +kernel
theorem dX12_back_4 : decode cX12_back 4 = .ok (.ifCond .ne 6, 3) := by decide +kernel
theorem dX12_back_7 : decode cX12_back 7 = .ok (.bipush (-2), 2) := by decide +kernel
theorem dX12_back_9 : decode cX12_back 9 = .ok (.ireturn, 1) := by decide +kernel
theorem dX12_back_10 : decode cX12_back 10 = .ok (.aload_n 0, 1) := by decide +kernel
theorem dX12_back_11 : decode cX12_back 11 = .ok (.dup, 1) := by decide +kernel
theorem dX12_back_12 : decode cX12_back 12 = .ok (.getfield 147, 3) := by decide +kernel
theorem dX12_back_15 : decode cX12_back 15 = .ok (.iconst 1, 1) := by decide +kernel
theorem dX12_back_16 : decode cX12_back 16 = .ok (.isub, 1) := by decide +kernel
theorem dX12_back_17 : decode cX12_back 17 = .ok (.putfield 147, 3) := by decide +kernel
theorem dX12_back_20 : decode cX12_back 20 = .ok (.iconst 0, 1) := by decide +kernel
theorem dX12_back_21 : decode cX12_back 21 = .ok (.istore_n 1, 1) := by decide +kernel
theorem dX12_back_22 : decode cX12_back 22 = .ok (.iload_n 1, 1) := by decide +kernel
theorem dX12_back_23 : decode cX12_back 23 = .ok (.bipush 20, 2) := by decide +kernel
theorem dX12_back_25 : decode cX12_back 25 = .ok (.if_icmp .ge 29, 3) := by decide +kernel
theorem dX12_back_28 : decode cX12_back 28 = .ok (.aload_n 0, 1) := by decide +kernel
theorem dX12_back_29 : decode cX12_back 29 = .ok (.getfield 13, 3) := by decide +kernel
theorem dX12_back_32 : decode cX12_back 32 = .ok (.iload_n 1, 1) := by decide +kernel
theorem dX12_back_33 : decode cX12_back 33 = .ok (.aload_n 0, 1) := by decide +kernel
theorem dX12_back_34 : decode cX12_back 34 = .ok (.getfield 65, 3) := by decide +kernel
theorem dX12_back_37 : decode cX12_back 37 = .ok (.bipush 20, 2) := by decide +kernel
theorem dX12_back_39 : decode cX12_back 39 = .ok (.aload_n 0, 1) := by decide +kernel
theorem dX12_back_40 : decode cX12_back 40 = .ok (.getfield 147, 3) := by decide +kernel
theorem dX12_back_43 : decode cX12_back 43 = .ok (.imul, 1) := by decide +kernel
theorem dX12_back_44 : decode cX12_back 44 = .ok (.iload_n 1, 1) := by decide +kernel
theorem dX12_back_45 : decode cX12_back 45 = .ok (.iadd, 1) := by decide +kernel
theorem dX12_back_46 : decode cX12_back 46 = .ok (.iaload, 1) := by decide +kernel
theorem dX12_back_47 : decode cX12_back 47 = .ok (.iastore, 1) := by decide +kernel
theorem dX12_back_48 : decode cX12_back 48 = .ok (.iinc 1 1, 3) := by decide +kernel
theorem dX12_back_51 : decode cX12_back 51 = .ok (.goto (-29), 3) := by decide +kernel
theorem dX12_back_54 : decode cX12_back 54 = .ok (.aload_n 0, 1) := by decide +kernel
theorem dX12_back_55 : decode cX12_back 55 = .ok (.iconst 0, 1) := by decide +kernel
theorem dX12_back_56 : decode cX12_back 56 = .ok (.putfield 144, 3) := by decide +kernel
theorem dX12_back_59 : decode cX12_back 59 = .ok (.aload_n 0, 1) := by decide +kernel
theorem dX12_back_60 : decode cX12_back 60 = .ok (.getfield 147, 3) := by decide +kernel
theorem dX12_back_63 : decode cX12_back 63 = .ok (.ireturn, 1) := by decide +kernel
theorem dX12_count_0 : decode cX12_count 0 = .ok (.iload_n 1, 1) := by decide +kernel
theorem dX12_count_1 : decode cX12_count 1 = .ok (.tableswitch 78 0 6 #[43, 48, 53, 58, 63, 68, 73], 43) := by decide +kernel
theorem dX12_count_44 : decode cX12_count 44 = .ok (.aload_n 0, 1) := by decide +kernel
theorem dX12_count_45 : decode cX12_count 45 = .ok (.getfield 75, 3) := by decide +kernel
theorem dX12_count_48 : decode cX12_count 48 = .ok (.ireturn, 1) := by decide +kernel
theorem dX12_count_49 : decode cX12_count 49 = .ok (.aload_n 0, 1) := by decide +kernel
theorem dX12_count_50 : decode cX12_count 50 = .ok (.getfield 68, 3) := by decide +kernel
theorem dX12_count_53 : decode cX12_count 53 = .ok (.ireturn, 1) := by decide +kernel
theorem dX12_count_54 : decode cX12_count 54 = .ok (.aload_n 0, 1) := by decide +kernel
theorem dX12_count_55 : decode cX12_count 55 = .ok (.getfield 72, 3) := by decide +kernel
theorem dX12_count_58 : decode cX12_count 58 = .ok (.ireturn, 1) := by decide +kernel
theorem dX12_count_59 : decode cX12_count 59 = .ok (.aload_n 0, 1) := by decide +kernel
theorem dX12_count_60 : decode cX12_count 60 = .ok (.getfield 141, 3) := by decide +kernel
theorem dX12_count_63 : decode cX12_count 63 = .ok (.ireturn, 1) := by decide +kernel
theorem dX12_count_64 : decode cX12_count 64 = .ok (.aload_n 0, 1) := by decide +kernel
theorem dX12_count_65 : decode cX12_count 65 = .ok (.getfield 144, 3) := by decide +kernel
theorem dX12_count_68 : decode cX12_count 68 = .ok (.ireturn, 1) := by decide +kernel
theorem dX12_count_69 : decode cX12_count 69 = .ok (.aload_n 0, 1) := by decide +kernel
theorem dX12_count_70 : decode cX12_count 70 = .ok (.getfield 147, 3) := by decide +kernel
theorem dX12_count_73 : decode cX12_count 73 = .ok (.ireturn, 1) := by decide +kernel
theorem dX12_count_74 : decode cX12_count 74 = .ok (.aload_n 0, 1) := by decide +kernel
theorem dX12_count_75 : decode cX12_count 75 = .ok (.getfield 88, 3) := by decide +kernel
theorem dX12_count_78 : decode cX12_count 78 = .ok (.ireturn, 1) := by decide +kernel
theorem dX12_count_79 : decode cX12_count 79 = .ok (.iconst (-1), 1) := by decide +kernel
theorem dX12_count_80 : decode cX12_count 80 = .ok (.ireturn, 1) := by decide +kernel
theorem dJ9_abs_0f7a4_0 : decode cJ9_abs_0f7a4 0 = .ok (.iload_n 0, 1) := by decide +kernel
theorem dJ9_abs_0f7a4_1 : decode cJ9_abs_0f7a4 1 = .ok (.ifCond .ge 8, 3) := by decide +kernel
theorem dJ9_abs_0f7a4_4 : decode cJ9_abs_0f7a4 4 = .ok (.iload_n 0, 1) := by decide +kernel
theorem dJ9_abs_0f7a4_5 : decode cJ9_abs_0f7a4 5 = .ok (.ineg, 1) := by decide +kernel
theorem dJ9_abs_0f7a4_6 : decode cJ9_abs_0f7a4 6 = .ok (.goto 4, 3) := by decide +kernel
theorem dJ9_abs_0f7a4_9 : decode cJ9_abs_0f7a4 9 = .ok (.iload_n 0, 1) := by decide +kernel
theorem dJ9_abs_0f7a4_10 : decode cJ9_abs_0f7a4 10 = .ok (.ireturn, 1) := by decide +kernel
theorem dJ9_max_7cf53_0 : decode cJ9_max_7cf53 0 = .ok (.iload_n 0, 1) := by decide +kernel
theorem dJ9_max_7cf53_1 : decode cJ9_max_7cf53 1 = .ok (.iload_n 1, 1) := by decide +kernel
theorem dJ9_max_7cf53_2 : decode cJ9_max_7cf53 2 = .ok (.if_icmp .lt 7, 3) := by decide +kernel
theorem dJ9_max_7cf53_5 : decode cJ9_max_7cf53 5 = .ok (.iload_n 0, 1) := by decide +kernel
theorem dJ9_max_7cf53_6 : decode cJ9_max_7cf53 6 = .ok (.goto 4, 3) := by decide +kernel
theorem dJ9_max_7cf53_9 : decode cJ9_max_7cf53 9 = .ok (.iload_n 1, 1) := by decide +kernel
theorem dJ9_max_7cf53_10 : decode cJ9_max_7cf53 10 = .ok (.ireturn, 1) := by decide +kernel
theorem dJ9_min_7cf53_0 : decode cJ9_min_7cf53 0 = .ok (.iload_n 0, 1) := by decide +kernel
theorem dJ9_min_7cf53_1 : decode cJ9_min_7cf53 1 = .ok (.iload_n 1, 1) := by decide +kernel
theorem dJ9_min_7cf53_2 : decode cJ9_min_7cf53 2 = .ok (.if_icmp .gt 7, 3) := by decide +kernel
theorem dJ9_min_7cf53_5 : decode cJ9_min_7cf53 5 = .ok (.iload_n 0, 1) := by decide +kernel
theorem dJ9_min_7cf53_6 : decode cJ9_min_7cf53 6 = .ok (.goto 4, 3) := by decide +kernel
theorem dJ9_min_7cf53_9 : decode cJ9_min_7cf53 9 = .ok (.iload_n 1, 1) := by decide +kernel
theorem dJ9_min_7cf53_10 : decode cJ9_min_7cf53 10 = .ok (.ireturn, 1) := by decide +kernel
theorem dJ7_fill_d0a16_0 : decode cJ7_fill_d0a16 0 = .ok (.iconst 0, 1) := by decide +kernel
theorem dJ7_fill_d0a16_1 : decode cJ7_fill_d0a16 1 = .ok (.istore_n 3, 1) := by decide +kernel
theorem dJ7_fill_d0a16_2 : decode cJ7_fill_d0a16 2 = .ok (.aload_n 0, 1) := by decide +kernel
theorem dJ7_fill_d0a16_3 : decode cJ7_fill_d0a16 3 = .ok (.arraylength, 1) := by decide +kernel
theorem dJ7_fill_d0a16_4 : decode cJ7_fill_d0a16 4 = .ok (.istore 4, 2) := by decide +kernel
theorem dJ7_fill_d0a16_6 : decode cJ7_fill_d0a16 6 = .ok (.iload_n 3, 1) := by decide +kernel
theorem dJ7_fill_d0a16_7 : decode cJ7_fill_d0a16 7 = .ok (.iload 4, 2) := by decide +kernel
theorem dJ7_fill_d0a16_9 : decode cJ7_fill_d0a16 9 = .ok (.if_icmp .ge 13, 3) := by decide +kernel
theorem dJ7_fill_d0a16_12 : decode cJ7_fill_d0a16 12 = .ok (.aload_n 0, 1) := by decide +kernel
theorem dJ7_fill_d0a16_13 : decode cJ7_fill_d0a16 13 = .ok (.iload_n 3, 1) := by decide +kernel
theorem dJ7_fill_d0a16_14 : decode cJ7_fill_d0a16 14 = .ok (.lload_n 1, 1) := by decide +kernel
theorem dJ7_fill_d0a16_15 : decode cJ7_fill_d0a16 15 = .ok (.lastore, 1) := by decide +kernel
theorem dJ7_fill_d0a16_16 : decode cJ7_fill_d0a16 16 = .ok (.iinc 3 1, 3) := by decide +kernel
theorem dJ7_fill_d0a16_19 : decode cJ7_fill_d0a16 19 = .ok (.goto (-13), 3) := by decide +kernel
theorem dJ7_fill_d0a16_22 : decode cJ7_fill_d0a16 22 = .ok (.return_, 1) := by decide +kernel
theorem dL_law_0 : decode cL_law 0 = .ok (.new 7, 3) := by decide +kernel
theorem dL_law_3 : decode cL_law 3 = .ok (.dup, 1) := by decide +kernel
theorem dL_law_4 : decode cL_law 4 = .ok (.invokespecial 9, 3) := by decide +kernel
theorem dL_law_7 : decode cL_law 7 = .ok (.astore_n 1, 1) := by decide +kernel
theorem dL_law_8 : decode cL_law 8 = .ok (.new 10, 3) := by decide +kernel
theorem dL_law_11 : decode cL_law 11 = .ok (.dup, 1) := by decide +kernel
theorem dL_law_12 : decode cL_law 12 = .ok (.invokespecial 12, 3) := by decide +kernel
theorem dL_law_15 : decode cL_law 15 = .ok (.astore_n 2, 1) := by decide +kernel
theorem dL_law_16 : decode cL_law 16 = .ok (.iconst 0, 1) := by decide +kernel
theorem dL_law_17 : decode cL_law 17 = .ok (.istore_n 3, 1) := by decide +kernel
theorem dL_law_18 : decode cL_law 18 = .ok (.iload_n 3, 1) := by decide +kernel
theorem dL_law_19 : decode cL_law 19 = .ok (.aload_n 0, 1) := by decide +kernel
theorem dL_law_20 : decode cL_law 20 = .ok (.arraylength, 1) := by decide +kernel
theorem dL_law_21 : decode cL_law 21 = .ok (.iconst 5, 1) := by decide +kernel
theorem dL_law_22 : decode cL_law 22 = .ok (.isub, 1) := by decide +kernel
theorem dL_law_23 : decode cL_law 23 = .ok (.if_icmp .gt 841, 3) := by decide +kernel
theorem dL_law_26 : decode cL_law 26 = .ok (.aload_n 0, 1) := by decide +kernel
theorem dL_law_27 : decode cL_law 27 = .ok (.iload_n 3, 1) := by decide +kernel
theorem dL_law_28 : decode cL_law 28 = .ok (.iaload, 1) := by decide +kernel
theorem dL_law_29 : decode cL_law 29 = .ok (.bipush 31, 2) := by decide +kernel
theorem dL_law_31 : decode cL_law 31 = .ok (.iand, 1) := by decide +kernel
theorem dL_law_32 : decode cL_law 32 = .ok (.tableswitch 826 0 23 #[112, 175, 188, 201, 214, 247, 280, 313, 346, 379, 412, 445, 488, 532, 566, 619, 652, 665, 708, 721, 744, 777, 790, 803], 112) := by decide +kernel
theorem dL_law_144 : decode cL_law 144 = .ok (.aload_n 1, 1) := by decide +kernel
theorem dL_law_145 : decode cL_law 145 = .ok (.aload_n 0, 1) := by decide +kernel
theorem dL_law_146 : decode cL_law 146 = .ok (.iload_n 3, 1) := by decide +kernel
theorem dL_law_147 : decode cL_law 147 = .ok (.iconst 1, 1) := by decide +kernel
theorem dL_law_148 : decode cL_law 148 = .ok (.iadd, 1) := by decide +kernel
theorem dL_law_149 : decode cL_law 149 = .ok (.iaload, 1) := by decide +kernel
theorem dL_law_150 : decode cL_law 150 = .ok (.aload_n 0, 1) := by decide +kernel
theorem dL_law_151 : decode cL_law 151 = .ok (.iload_n 3, 1) := by decide +kernel
theorem dL_law_152 : decode cL_law 152 = .ok (.iconst 2, 1) := by decide +kernel
theorem dL_law_153 : decode cL_law 153 = .ok (.iadd, 1) := by decide +kernel
theorem dL_law_154 : decode cL_law 154 = .ok (.iaload, 1) := by decide +kernel
theorem dL_law_155 : decode cL_law 155 = .ok (.i2l, 1) := by decide +kernel
theorem dL_law_156 : decode cL_law 156 = .ok (.bipush 32, 2) := by decide +kernel
theorem dL_law_158 : decode cL_law 158 = .ok (.lshl, 1) := by decide +kernel
theorem dL_law_159 : decode cL_law 159 = .ok (.aload_n 0, 1) := by decide +kernel
theorem dL_law_160 : decode cL_law 160 = .ok (.iload_n 3, 1) := by decide +kernel
theorem dL_law_161 : decode cL_law 161 = .ok (.iconst 3, 1) := by decide +kernel
theorem dL_law_162 : decode cL_law 162 = .ok (.iadd, 1) := by decide +kernel
theorem dL_law_163 : decode cL_law 163 = .ok (.iaload, 1) := by decide +kernel
theorem dL_law_164 : decode cL_law 164 = .ok (.i2l, 1) := by decide +kernel
theorem dL_law_165 : decode cL_law 165 = .ok (.ldc2_w 13, 3) := by decide +kernel
theorem dL_law_168 : decode cL_law 168 = .ok (.land, 1) := by decide +kernel
theorem dL_law_169 : decode cL_law 169 = .ok (.lor, 1) := by decide +kernel
theorem dL_law_170 : decode cL_law 170 = .ok (.invokevirtual 15, 3) := by decide +kernel
theorem dL_law_173 : decode cL_law 173 = .ok (.aload_n 2, 1) := by decide +kernel
theorem dL_law_174 : decode cL_law 174 = .ok (.aload_n 0, 1) := by decide +kernel
theorem dL_law_175 : decode cL_law 175 = .ok (.iload_n 3, 1) := by decide +kernel
theorem dL_law_176 : decode cL_law 176 = .ok (.iconst 1, 1) := by decide +kernel
theorem dL_law_177 : decode cL_law 177 = .ok (.iadd, 1) := by decide +kernel
theorem dL_law_178 : decode cL_law 178 = .ok (.iaload, 1) := by decide +kernel
theorem dL_law_179 : decode cL_law 179 = .ok (.aload_n 0, 1) := by decide +kernel
theorem dL_law_180 : decode cL_law 180 = .ok (.iload_n 3, 1) := by decide +kernel
theorem dL_law_181 : decode cL_law 181 = .ok (.iconst 2, 1) := by decide +kernel
theorem dL_law_182 : decode cL_law 182 = .ok (.iadd, 1) := by decide +kernel
theorem dL_law_183 : decode cL_law 183 = .ok (.iaload, 1) := by decide +kernel
theorem dL_law_184 : decode cL_law 184 = .ok (.i2l, 1) := by decide +kernel
theorem dL_law_185 : decode cL_law 185 = .ok (.bipush 32, 2) := by decide +kernel
theorem dL_law_187 : decode cL_law 187 = .ok (.lshl, 1) := by decide +kernel
theorem dL_law_188 : decode cL_law 188 = .ok (.aload_n 0, 1) := by decide +kernel
theorem dL_law_189 : decode cL_law 189 = .ok (.iload_n 3, 1) := by decide +kernel
theorem dL_law_190 : decode cL_law 190 = .ok (.iconst 3, 1) := by decide +kernel
theorem dL_law_191 : decode cL_law 191 = .ok (.iadd, 1) := by decide +kernel
theorem dL_law_192 : decode cL_law 192 = .ok (.iaload, 1) := by decide +kernel
theorem dL_law_193 : decode cL_law 193 = .ok (.i2l, 1) := by decide +kernel
theorem dL_law_194 : decode cL_law 194 = .ok (.ldc2_w 13, 3) := by decide +kernel
theorem dL_law_197 : decode cL_law 197 = .ok (.land, 1) := by decide +kernel
theorem dL_law_198 : decode cL_law 198 = .ok (.lor, 1) := by decide +kernel
theorem dL_law_199 : decode cL_law 199 = .ok (.invokevirtual 19, 3) := by decide +kernel
theorem dL_law_202 : decode cL_law 202 = .ok (.if_icmp .eq 656, 3) := by decide +kernel
theorem dL_law_205 : decode cL_law 205 = .ok (.iconst 0, 1) := by decide +kernel
theorem dL_law_206 : decode cL_law 206 = .ok (.ireturn, 1) := by decide +kernel
theorem dL_law_207 : decode cL_law 207 = .ok (.aload_n 1, 1) := by decide +kernel
theorem dL_law_208 : decode cL_law 208 = .ok (.invokevirtual 20, 3) := by decide +kernel
theorem dL_law_211 : decode cL_law 211 = .ok (.aload_n 2, 1) := by decide +kernel
theorem dL_law_212 : decode cL_law 212 = .ok (.invokevirtual 24, 3) := by decide +kernel
theorem dL_law_215 : decode cL_law 215 = .ok (.if_icmp .eq 643, 3) := by decide +kernel
theorem dL_law_218 : decode cL_law 218 = .ok (.iconst 0, 1) := by decide +kernel
theorem dL_law_219 : decode cL_law 219 = .ok (.ireturn, 1) := by decide +kernel
theorem dL_law_220 : decode cL_law 220 = .ok (.aload_n 1, 1) := by decide +kernel
theorem dL_law_221 : decode cL_law 221 = .ok (.invokevirtual 25, 3) := by decide +kernel
theorem dL_law_224 : decode cL_law 224 = .ok (.aload_n 2, 1) := by decide +kernel
theorem dL_law_225 : decode cL_law 225 = .ok (.invokevirtual 28, 3) := by decide +kernel
theorem dL_law_228 : decode cL_law 228 = .ok (.if_icmp .eq 630, 3) := by decide +kernel
theorem dL_law_231 : decode cL_law 231 = .ok (.iconst 0, 1) := by decide +kernel
theorem dL_law_232 : decode cL_law 232 = .ok (.ireturn, 1) := by decide +kernel
theorem dL_law_233 : decode cL_law 233 = .ok (.aload_n 1, 1) := by decide +kernel
theorem dL_law_234 : decode cL_law 234 = .ok (.invokevirtual 29, 3) := by decide +kernel
theorem dL_law_237 : decode cL_law 237 = .ok (.aload_n 2, 1) := by decide +kernel
theorem dL_law_238 : decode cL_law 238 = .ok (.invokevirtual 32, 3) := by decide +kernel
theorem dL_law_241 : decode cL_law 241 = .ok (.if_icmp .eq 617, 3) := by decide +kernel
theorem dL_law_244 : decode cL_law 244 = .ok (.iconst 0, 1) := by decide +kernel
theorem dL_law_245 : decode cL_law 245 = .ok (.ireturn, 1) := by decide +kernel
theorem dL_law_246 : decode cL_law 246 = .ok (.aload_n 1, 1) := by decide +kernel
theorem dL_law_247 : decode cL_law 247 = .ok (.aload_n 0, 1) := by decide +kernel
theorem dL_law_248 : decode cL_law 248 = .ok (.iload_n 3, 1) := by decide +kernel
theorem dL_law_249 : decode cL_law 249 = .ok (.iconst 1, 1) := by decide +kernel
theorem dL_law_250 : decode cL_law 250 = .ok (.iadd, 1) := by decide +kernel
theorem dL_law_251 : decode cL_law 251 = .ok (.iaload, 1) := by decide +kernel
theorem dL_law_252 : decode cL_law 252 = .ok (.aload_n 0, 1) := by decide +kernel
theorem dL_law_253 : decode cL_law 253 = .ok (.iload_n 3, 1) := by decide +kernel
theorem dL_law_254 : decode cL_law 254 = .ok (.iconst 2, 1) := by decide +kernel
theorem dL_law_255 : decode cL_law 255 = .ok (.iadd, 1) := by decide +kernel
theorem dL_law_256 : decode cL_law 256 = .ok (.iaload, 1) := by decide +kernel
theorem dL_law_257 : decode cL_law 257 = .ok (.invokevirtual 33, 3) := by decide +kernel
theorem dL_law_260 : decode cL_law 260 = .ok (.aload_n 2, 1) := by decide +kernel
theorem dL_law_261 : decode cL_law 261 = .ok (.aload_n 0, 1) := by decide +kernel
theorem dL_law_262 : decode cL_law 262 = .ok (.iload_n 3, 1) := by decide +kernel
theorem dL_law_263 : decode cL_law 263 = .ok (.iconst 1, 1) := by decide +kernel
theorem dL_law_264 : decode cL_law 264 = .ok (.iadd, 1) := by decide +kernel
theorem dL_law_265 : decode cL_law 265 = .ok (.iaload, 1) := by decide +kernel
theorem dL_law_266 : decode cL_law 266 = .ok (.aload_n 0, 1) := by decide +kernel
theorem dL_law_267 : decode cL_law 267 = .ok (.iload_n 3, 1) := by decide +kernel
theorem dL_law_268 : decode cL_law 268 = .ok (.iconst 2, 1) := by decide +kernel
theorem dL_law_269 : decode cL_law 269 = .ok (.iadd, 1) := by decide +kernel
theorem dL_law_270 : decode cL_law 270 = .ok (.iaload, 1) := by decide +kernel
theorem dL_law_271 : decode cL_law 271 = .ok (.invokevirtual 37, 3) := by decide +kernel
theorem dL_law_274 : decode cL_law 274 = .ok (.if_icmp .eq 584, 3) := by decide +kernel
theorem dL_law_277 : decode cL_law 277 = .ok (.iconst 0, 1) := by decide +kernel
theorem dL_law_278 : decode cL_law 278 = .ok (.ireturn, 1) := by decide +kernel
theorem dL_law_279 : decode cL_law 279 = .ok (.aload_n 1, 1) := by decide +kernel
theorem dL_law_280 : decode cL_law 280 = .ok (.aload_n 0, 1) := by decide +kernel
theorem dL_law_281 : decode cL_law 281 = .ok (.iload_n 3, 1) := by decide +kernel
theorem dL_law_282 : decode cL_law 282 = .ok (.iconst 1, 1) := by decide +kernel
theorem dL_law_283 : decode cL_law 283 = .ok (.iadd, 1) := by decide +kernel
theorem dL_law_284 : decode cL_law 284 = .ok (.iaload, 1) := by decide +kernel
theorem dL_law_285 : decode cL_law 285 = .ok (.aload_n 0, 1) := by decide +kernel
theorem dL_law_286 : decode cL_law 286 = .ok (.iload_n 3, 1) := by decide +kernel
theorem dL_law_287 : decode cL_law 287 = .ok (.iconst 2, 1) := by decide +kernel
theorem dL_law_288 : decode cL_law 288 = .ok (.iadd, 1) := by decide +kernel
theorem dL_law_289 : decode cL_law 289 = .ok (.iaload, 1) := by decide +kernel
theorem dL_law_290 : decode cL_law 290 = .ok (.invokevirtual 38, 3) := by decide +kernel
theorem dL_law_293 : decode cL_law 293 = .ok (.aload_n 2, 1) := by decide +kernel
theorem dL_law_294 : decode cL_law 294 = .ok (.aload_n 0, 1) := by decide +kernel
theorem dL_law_295 : decode cL_law 295 = .ok (.iload_n 3, 1) := by decide +kernel
theorem dL_law_296 : decode cL_law 296 = .ok (.iconst 1, 1) := by decide +kernel
theorem dL_law_297 : decode cL_law 297 = .ok (.iadd, 1) := by decide +kernel
theorem dL_law_298 : decode cL_law 298 = .ok (.iaload, 1) := by decide +kernel
theorem dL_law_299 : decode cL_law 299 = .ok (.aload_n 0, 1) := by decide +kernel
theorem dL_law_300 : decode cL_law 300 = .ok (.iload_n 3, 1) := by decide +kernel
theorem dL_law_301 : decode cL_law 301 = .ok (.iconst 2, 1) := by decide +kernel
theorem dL_law_302 : decode cL_law 302 = .ok (.iadd, 1) := by decide +kernel
theorem dL_law_303 : decode cL_law 303 = .ok (.iaload, 1) := by decide +kernel
theorem dL_law_304 : decode cL_law 304 = .ok (.invokevirtual 41, 3) := by decide +kernel
theorem dL_law_307 : decode cL_law 307 = .ok (.if_icmp .eq 551, 3) := by decide +kernel
theorem dL_law_310 : decode cL_law 310 = .ok (.iconst 0, 1) := by decide +kernel
theorem dL_law_311 : decode cL_law 311 = .ok (.ireturn, 1) := by decide +kernel
theorem dL_law_312 : decode cL_law 312 = .ok (.aload_n 1, 1) := by decide +kernel
theorem dL_law_313 : decode cL_law 313 = .ok (.aload_n 0, 1) := by decide +kernel
theorem dL_law_314 : decode cL_law 314 = .ok (.iload_n 3, 1) := by decide +kernel
theorem dL_law_315 : decode cL_law 315 = .ok (.iconst 1, 1) := by decide +kernel
theorem dL_law_316 : decode cL_law 316 = .ok (.iadd, 1) := by decide +kernel
theorem dL_law_317 : decode cL_law 317 = .ok (.iaload, 1) := by decide +kernel
theorem dL_law_318 : decode cL_law 318 = .ok (.aload_n 0, 1) := by decide +kernel
theorem dL_law_319 : decode cL_law 319 = .ok (.iload_n 3, 1) := by decide +kernel
theorem dL_law_320 : decode cL_law 320 = .ok (.iconst 2, 1) := by decide +kernel
theorem dL_law_321 : decode cL_law 321 = .ok (.iadd, 1) := by decide +kernel
theorem dL_law_322 : decode cL_law 322 = .ok (.iaload, 1) := by decide +kernel
theorem dL_law_323 : decode cL_law 323 = .ok (.invokevirtual 42, 3) := by decide +kernel
theorem dL_law_326 : decode cL_law 326 = .ok (.aload_n 2, 1) := by decide +kernel
theorem dL_law_327 : decode cL_law 327 = .ok (.aload_n 0, 1) := by decide +kernel
theorem dL_law_328 : decode cL_law 328 = .ok (.iload_n 3, 1) := by decide +kernel
theorem dL_law_329 : decode cL_law 329 = .ok (.iconst 1, 1) := by decide +kernel
theorem dL_law_330 : decode cL_law 330 = .ok (.iadd, 1) := by decide +kernel
theorem dL_law_331 : decode cL_law 331 = .ok (.iaload, 1) := by decide +kernel
theorem dL_law_332 : decode cL_law 332 = .ok (.aload_n 0, 1) := by decide +kernel
theorem dL_law_333 : decode cL_law 333 = .ok (.iload_n 3, 1) := by decide +kernel
theorem dL_law_334 : decode cL_law 334 = .ok (.iconst 2, 1) := by decide +kernel
theorem dL_law_335 : decode cL_law 335 = .ok (.iadd, 1) := by decide +kernel
theorem dL_law_336 : decode cL_law 336 = .ok (.iaload, 1) := by decide +kernel
theorem dL_law_337 : decode cL_law 337 = .ok (.invokevirtual 45, 3) := by decide +kernel
theorem dL_law_340 : decode cL_law 340 = .ok (.if_icmp .eq 518, 3) := by decide +kernel
theorem dL_law_343 : decode cL_law 343 = .ok (.iconst 0, 1) := by decide +kernel
theorem dL_law_344 : decode cL_law 344 = .ok (.ireturn, 1) := by decide +kernel
theorem dL_law_345 : decode cL_law 345 = .ok (.aload_n 1, 1) := by decide +kernel
theorem dL_law_346 : decode cL_law 346 = .ok (.aload_n 0, 1) := by decide +kernel
theorem dL_law_347 : decode cL_law 347 = .ok (.iload_n 3, 1) := by decide +kernel
theorem dL_law_348 : decode cL_law 348 = .ok (.iconst 1, 1) := by decide +kernel
theorem dL_law_349 : decode cL_law 349 = .ok (.iadd, 1) := by decide +kernel
theorem dL_law_350 : decode cL_law 350 = .ok (.iaload, 1) := by decide +kernel
theorem dL_law_351 : decode cL_law 351 = .ok (.aload_n 0, 1) := by decide +kernel
theorem dL_law_352 : decode cL_law 352 = .ok (.iload_n 3, 1) := by decide +kernel
theorem dL_law_353 : decode cL_law 353 = .ok (.iconst 2, 1) := by decide +kernel
theorem dL_law_354 : decode cL_law 354 = .ok (.iadd, 1) := by decide +kernel
theorem dL_law_355 : decode cL_law 355 = .ok (.iaload, 1) := by decide +kernel
theorem dL_law_356 : decode cL_law 356 = .ok (.invokevirtual 46, 3) := by decide +kernel
theorem dL_law_359 : decode cL_law 359 = .ok (.aload_n 2, 1) := by decide +kernel
theorem dL_law_360 : decode cL_law 360 = .ok (.aload_n 0, 1) := by decide +kernel
theorem dL_law_361 : decode cL_law 361 = .ok (.iload_n 3, 1) := by decide +kernel
theorem dL_law_362 : decode cL_law 362 = .ok (.iconst 1, 1) := by decide +kernel
theorem dL_law_363 : decode cL_law 363 = .ok (.iadd, 1) := by decide +kernel
theorem dL_law_364 : decode cL_law 364 = .ok (.iaload, 1) := by decide +kernel
theorem dL_law_365 : decode cL_law 365 = .ok (.aload_n 0, 1) := by decide +kernel
theorem dL_law_366 : decode cL_law 366 = .ok (.iload_n 3, 1) := by decide +kernel
theorem dL_law_367 : decode cL_law 367 = .ok (.iconst 2, 1) := by decide +kernel
theorem dL_law_368 : decode cL_law 368 = .ok (.iadd, 1) := by decide +kernel
theorem dL_law_369 : decode cL_law 369 = .ok (.iaload, 1) := by decide +kernel
theorem dL_law_370 : decode cL_law 370 = .ok (.invokevirtual 49, 3) := by decide +kernel
theorem dL_law_373 : decode cL_law 373 = .ok (.if_icmp .eq 485, 3) := by decide +kernel
theorem dL_law_376 : decode cL_law 376 = .ok (.iconst 0, 1) := by decide +kernel
theorem dL_law_377 : decode cL_law 377 = .ok (.ireturn, 1) := by decide +kernel
theorem dL_law_378 : decode cL_law 378 = .ok (.aload_n 1, 1) := by decide +kernel
theorem dL_law_379 : decode cL_law 379 = .ok (.aload_n 0, 1) := by decide +kernel
theorem dL_law_380 : decode cL_law 380 = .ok (.iload_n 3, 1) := by decide +kernel
theorem dL_law_381 : decode cL_law 381 = .ok (.iconst 1, 1) := by decide +kernel
theorem dL_law_382 : decode cL_law 382 = .ok (.iadd, 1) := by decide +kernel
theorem dL_law_383 : decode cL_law 383 = .ok (.iaload, 1) := by decide +kernel
theorem dL_law_384 : decode cL_law 384 = .ok (.aload_n 0, 1) := by decide +kernel
theorem dL_law_385 : decode cL_law 385 = .ok (.iload_n 3, 1) := by decide +kernel
theorem dL_law_386 : decode cL_law 386 = .ok (.iconst 2, 1) := by decide +kernel
theorem dL_law_387 : decode cL_law 387 = .ok (.iadd, 1) := by decide +kernel
theorem dL_law_388 : decode cL_law 388 = .ok (.iaload, 1) := by decide +kernel
theorem dL_law_389 : decode cL_law 389 = .ok (.invokevirtual 50, 3) := by decide +kernel
theorem dL_law_392 : decode cL_law 392 = .ok (.aload_n 2, 1) := by decide +kernel
theorem dL_law_393 : decode cL_law 393 = .ok (.aload_n 0, 1) := by decide +kernel
theorem dL_law_394 : decode cL_law 394 = .ok (.iload_n 3, 1) := by decide +kernel
theorem dL_law_395 : decode cL_law 395 = .ok (.iconst 1, 1) := by decide +kernel
theorem dL_law_396 : decode cL_law 396 = .ok (.iadd, 1) := by decide +kernel
theorem dL_law_397 : decode cL_law 397 = .ok (.iaload, 1) := by decide +kernel
theorem dL_law_398 : decode cL_law 398 = .ok (.aload_n 0, 1) := by decide +kernel
theorem dL_law_399 : decode cL_law 399 = .ok (.iload_n 3, 1) := by decide +kernel
theorem dL_law_400 : decode cL_law 400 = .ok (.iconst 2, 1) := by decide +kernel
theorem dL_law_401 : decode cL_law 401 = .ok (.iadd, 1) := by decide +kernel
theorem dL_law_402 : decode cL_law 402 = .ok (.iaload, 1) := by decide +kernel
theorem dL_law_403 : decode cL_law 403 = .ok (.invokevirtual 53, 3) := by decide +kernel
theorem dL_law_406 : decode cL_law 406 = .ok (.if_icmp .eq 452, 3) := by decide +kernel
theorem dL_law_409 : decode cL_law 409 = .ok (.iconst 0, 1) := by decide +kernel
theorem dL_law_410 : decode cL_law 410 = .ok (.ireturn, 1) := by decide +kernel
theorem dL_law_411 : decode cL_law 411 = .ok (.aload_n 1, 1) := by decide +kernel
theorem dL_law_412 : decode cL_law 412 = .ok (.aload_n 0, 1) := by decide +kernel
theorem dL_law_413 : decode cL_law 413 = .ok (.iload_n 3, 1) := by decide +kernel
theorem dL_law_414 : decode cL_law 414 = .ok (.iconst 1, 1) := by decide +kernel
theorem dL_law_415 : decode cL_law 415 = .ok (.iadd, 1) := by decide +kernel
theorem dL_law_416 : decode cL_law 416 = .ok (.iaload, 1) := by decide +kernel
theorem dL_law_417 : decode cL_law 417 = .ok (.aload_n 0, 1) := by decide +kernel
theorem dL_law_418 : decode cL_law 418 = .ok (.iload_n 3, 1) := by decide +kernel
theorem dL_law_419 : decode cL_law 419 = .ok (.iconst 2, 1) := by decide +kernel
theorem dL_law_420 : decode cL_law 420 = .ok (.iadd, 1) := by decide +kernel
theorem dL_law_421 : decode cL_law 421 = .ok (.iaload, 1) := by decide +kernel
theorem dL_law_422 : decode cL_law 422 = .ok (.invokevirtual 54, 3) := by decide +kernel
theorem dL_law_425 : decode cL_law 425 = .ok (.aload_n 2, 1) := by decide +kernel
theorem dL_law_426 : decode cL_law 426 = .ok (.aload_n 0, 1) := by decide +kernel
theorem dL_law_427 : decode cL_law 427 = .ok (.iload_n 3, 1) := by decide +kernel
theorem dL_law_428 : decode cL_law 428 = .ok (.iconst 1, 1) := by decide +kernel
theorem dL_law_429 : decode cL_law 429 = .ok (.iadd, 1) := by decide +kernel
theorem dL_law_430 : decode cL_law 430 = .ok (.iaload, 1) := by decide +kernel
theorem dL_law_431 : decode cL_law 431 = .ok (.aload_n 0, 1) := by decide +kernel
theorem dL_law_432 : decode cL_law 432 = .ok (.iload_n 3, 1) := by decide +kernel
theorem dL_law_433 : decode cL_law 433 = .ok (.iconst 2, 1) := by decide +kernel
theorem dL_law_434 : decode cL_law 434 = .ok (.iadd, 1) := by decide +kernel
theorem dL_law_435 : decode cL_law 435 = .ok (.iaload, 1) := by decide +kernel
theorem dL_law_436 : decode cL_law 436 = .ok (.invokevirtual 57, 3) := by decide +kernel
theorem dL_law_439 : decode cL_law 439 = .ok (.if_icmp .eq 419, 3) := by decide +kernel
theorem dL_law_442 : decode cL_law 442 = .ok (.iconst 0, 1) := by decide +kernel
theorem dL_law_443 : decode cL_law 443 = .ok (.ireturn, 1) := by decide +kernel
theorem dL_law_444 : decode cL_law 444 = .ok (.aload_n 1, 1) := by decide +kernel
theorem dL_law_445 : decode cL_law 445 = .ok (.aload_n 0, 1) := by decide +kernel
theorem dL_law_446 : decode cL_law 446 = .ok (.iload_n 3, 1) := by decide +kernel
theorem dL_law_447 : decode cL_law 447 = .ok (.iconst 1, 1) := by decide +kernel
theorem dL_law_448 : decode cL_law 448 = .ok (.iadd, 1) := by decide +kernel
theorem dL_law_449 : decode cL_law 449 = .ok (.iaload, 1) := by decide +kernel
theorem dL_law_450 : decode cL_law 450 = .ok (.aload_n 0, 1) := by decide +kernel
theorem dL_law_451 : decode cL_law 451 = .ok (.iload_n 3, 1) := by decide +kernel
theorem dL_law_452 : decode cL_law 452 = .ok (.iconst 2, 1) := by decide +kernel
theorem dL_law_453 : decode cL_law 453 = .ok (.iadd, 1) := by decide +kernel
theorem dL_law_454 : decode cL_law 454 = .ok (.iaload, 1) := by decide +kernel
theorem dL_law_455 : decode cL_law 455 = .ok (.invokevirtual 58, 3) := by decide +kernel
theorem dL_law_458 : decode cL_law 458 = .ok (.aload_n 2, 1) := by decide +kernel
theorem dL_law_459 : decode cL_law 459 = .ok (.aload_n 0, 1) := by decide +kernel
theorem dL_law_460 : decode cL_law 460 = .ok (.iload_n 3, 1) := by decide +kernel
theorem dL_law_461 : decode cL_law 461 = .ok (.iconst 1, 1) := by decide +kernel
theorem dL_law_462 : decode cL_law 462 = .ok (.iadd, 1) := by decide +kernel
theorem dL_law_463 : decode cL_law 463 = .ok (.iaload, 1) := by decide +kernel
theorem dL_law_464 : decode cL_law 464 = .ok (.aload_n 0, 1) := by decide +kernel
theorem dL_law_465 : decode cL_law 465 = .ok (.iload_n 3, 1) := by decide +kernel
theorem dL_law_466 : decode cL_law 466 = .ok (.iconst 2, 1) := by decide +kernel
theorem dL_law_467 : decode cL_law 467 = .ok (.iadd, 1) := by decide +kernel
theorem dL_law_468 : decode cL_law 468 = .ok (.iaload, 1) := by decide +kernel
theorem dL_law_469 : decode cL_law 469 = .ok (.invokevirtual 61, 3) := by decide +kernel
theorem dL_law_472 : decode cL_law 472 = .ok (.if_icmp .eq 386, 3) := by decide +kernel
theorem dL_law_475 : decode cL_law 475 = .ok (.iconst 0, 1) := by decide +kernel
theorem dL_law_476 : decode cL_law 476 = .ok (.ireturn, 1) := by decide +kernel
theorem dL_law_477 : decode cL_law 477 = .ok (.aload_n 1, 1) := by decide +kernel
theorem dL_law_478 : decode cL_law 478 = .ok (.aload_n 0, 1) := by decide +kernel
theorem dL_law_479 : decode cL_law 479 = .ok (.iload_n 3, 1) := by decide +kernel
theorem dL_law_480 : decode cL_law 480 = .ok (.iconst 1, 1) := by decide +kernel
theorem dL_law_481 : decode cL_law 481 = .ok (.iadd, 1) := by decide +kernel
theorem dL_law_482 : decode cL_law 482 = .ok (.iaload, 1) := by decide +kernel
theorem dL_law_483 : decode cL_law 483 = .ok (.aload_n 0, 1) := by decide +kernel
theorem dL_law_484 : decode cL_law 484 = .ok (.iload_n 3, 1) := by decide +kernel
theorem dL_law_485 : decode cL_law 485 = .ok (.iconst 2, 1) := by decide +kernel
theorem dL_law_486 : decode cL_law 486 = .ok (.iadd, 1) := by decide +kernel
theorem dL_law_487 : decode cL_law 487 = .ok (.iaload, 1) := by decide +kernel
theorem dL_law_488 : decode cL_law 488 = .ok (.aload_n 0, 1) := by decide +kernel
theorem dL_law_489 : decode cL_law 489 = .ok (.iload_n 3, 1) := by decide +kernel
theorem dL_law_490 : decode cL_law 490 = .ok (.iconst 3, 1) := by decide +kernel
theorem dL_law_491 : decode cL_law 491 = .ok (.iadd, 1) := by decide +kernel
theorem dL_law_492 : decode cL_law 492 = .ok (.iaload, 1) := by decide +kernel
theorem dL_law_493 : decode cL_law 493 = .ok (.invokevirtual 62, 3) := by decide +kernel
theorem dL_law_496 : decode cL_law 496 = .ok (.aload_n 2, 1) := by decide +kernel
theorem dL_law_497 : decode cL_law 497 = .ok (.aload_n 0, 1) := by decide +kernel
theorem dL_law_498 : decode cL_law 498 = .ok (.iload_n 3, 1) := by decide +kernel
theorem dL_law_499 : decode cL_law 499 = .ok (.iconst 1, 1) := by decide +kernel
theorem dL_law_500 : decode cL_law 500 = .ok (.iadd, 1) := by decide +kernel
theorem dL_law_501 : decode cL_law 501 = .ok (.iaload, 1) := by decide +kernel
theorem dL_law_502 : decode cL_law 502 = .ok (.aload_n 0, 1) := by decide +kernel
theorem dL_law_503 : decode cL_law 503 = .ok (.iload_n 3, 1) := by decide +kernel
theorem dL_law_504 : decode cL_law 504 = .ok (.iconst 2, 1) := by decide +kernel
theorem dL_law_505 : decode cL_law 505 = .ok (.iadd, 1) := by decide +kernel
theorem dL_law_506 : decode cL_law 506 = .ok (.iaload, 1) := by decide +kernel
theorem dL_law_507 : decode cL_law 507 = .ok (.aload_n 0, 1) := by decide +kernel
theorem dL_law_508 : decode cL_law 508 = .ok (.iload_n 3, 1) := by decide +kernel
theorem dL_law_509 : decode cL_law 509 = .ok (.iconst 3, 1) := by decide +kernel
theorem dL_law_510 : decode cL_law 510 = .ok (.iadd, 1) := by decide +kernel
theorem dL_law_511 : decode cL_law 511 = .ok (.iaload, 1) := by decide +kernel
theorem dL_law_512 : decode cL_law 512 = .ok (.invokevirtual 66, 3) := by decide +kernel
theorem dL_law_515 : decode cL_law 515 = .ok (.if_icmp .eq 343, 3) := by decide +kernel
theorem dL_law_518 : decode cL_law 518 = .ok (.iconst 0, 1) := by decide +kernel
theorem dL_law_519 : decode cL_law 519 = .ok (.ireturn, 1) := by decide +kernel
theorem dL_law_520 : decode cL_law 520 = .ok (.aload_n 1, 1) := by decide +kernel
theorem dL_law_521 : decode cL_law 521 = .ok (.aload_n 0, 1) := by decide +kernel
theorem dL_law_522 : decode cL_law 522 = .ok (.iload_n 3, 1) := by decide +kernel
theorem dL_law_523 : decode cL_law 523 = .ok (.iconst 1, 1) := by decide +kernel
theorem dL_law_524 : decode cL_law 524 = .ok (.iadd, 1) := by decide +kernel
theorem dL_law_525 : decode cL_law 525 = .ok (.iaload, 1) := by decide +kernel
theorem dL_law_526 : decode cL_law 526 = .ok (.aload_n 0, 1) := by decide +kernel
theorem dL_law_527 : decode cL_law 527 = .ok (.iload_n 3, 1) := by decide +kernel
theorem dL_law_528 : decode cL_law 528 = .ok (.iconst 2, 1) := by decide +kernel
theorem dL_law_529 : decode cL_law 529 = .ok (.iadd, 1) := by decide +kernel
theorem dL_law_530 : decode cL_law 530 = .ok (.iaload, 1) := by decide +kernel
theorem dL_law_531 : decode cL_law 531 = .ok (.aload_n 0, 1) := by decide +kernel
theorem dL_law_532 : decode cL_law 532 = .ok (.iload_n 3, 1) := by decide +kernel
theorem dL_law_533 : decode cL_law 533 = .ok (.iconst 3, 1) := by decide +kernel
theorem dL_law_534 : decode cL_law 534 = .ok (.iadd, 1) := by decide +kernel
theorem dL_law_535 : decode cL_law 535 = .ok (.iaload, 1) := by decide +kernel
theorem dL_law_536 : decode cL_law 536 = .ok (.invokevirtual 67, 3) := by decide +kernel
theorem dL_law_539 : decode cL_law 539 = .ok (.aload_n 2, 1) := by decide +kernel
theorem dL_law_540 : decode cL_law 540 = .ok (.aload_n 0, 1) := by decide +kernel
theorem dL_law_541 : decode cL_law 541 = .ok (.iload_n 3, 1) := by decide +kernel
theorem dL_law_542 : decode cL_law 542 = .ok (.iconst 1, 1) := by decide +kernel
theorem dL_law_543 : decode cL_law 543 = .ok (.iadd, 1) := by decide +kernel
theorem dL_law_544 : decode cL_law 544 = .ok (.iaload, 1) := by decide +kernel
theorem dL_law_545 : decode cL_law 545 = .ok (.aload_n 0, 1) := by decide +kernel
theorem dL_law_546 : decode cL_law 546 = .ok (.iload_n 3, 1) := by decide +kernel
theorem dL_law_547 : decode cL_law 547 = .ok (.iconst 2, 1) := by decide +kernel
theorem dL_law_548 : decode cL_law 548 = .ok (.iadd, 1) := by decide +kernel
theorem dL_law_549 : decode cL_law 549 = .ok (.iaload, 1) := by decide +kernel
theorem dL_law_550 : decode cL_law 550 = .ok (.aload_n 0, 1) := by decide +kernel
theorem dL_law_551 : decode cL_law 551 = .ok (.iload_n 3, 1) := by decide +kernel
theorem dL_law_552 : decode cL_law 552 = .ok (.iconst 3, 1) := by decide +kernel
theorem dL_law_553 : decode cL_law 553 = .ok (.iadd, 1) := by decide +kernel
theorem dL_law_554 : decode cL_law 554 = .ok (.iaload, 1) := by decide +kernel
theorem dL_law_555 : decode cL_law 555 = .ok (.invokevirtual 71, 3) := by decide +kernel
theorem dL_law_558 : decode cL_law 558 = .ok (.lcmp, 1) := by decide +kernel
theorem dL_law_559 : decode cL_law 559 = .ok (.ifCond .eq 299, 3) := by decide +kernel
theorem dL_law_562 : decode cL_law 562 = .ok (.iconst 0, 1) := by decide +kernel
theorem dL_law_563 : decode cL_law 563 = .ok (.ireturn, 1) := by decide +kernel
theorem dL_law_564 : decode cL_law 564 = .ok (.aload_n 1, 1) := by decide +kernel
theorem dL_law_565 : decode cL_law 565 = .ok (.aload_n 0, 1) := by decide +kernel
theorem dL_law_566 : decode cL_law 566 = .ok (.iload_n 3, 1) := by decide +kernel
theorem dL_law_567 : decode cL_law 567 = .ok (.iconst 1, 1) := by decide +kernel
theorem dL_law_568 : decode cL_law 568 = .ok (.iadd, 1) := by decide +kernel
theorem dL_law_569 : decode cL_law 569 = .ok (.iaload, 1) := by decide +kernel
theorem dL_law_570 : decode cL_law 570 = .ok (.aload_n 0, 1) := by decide +kernel
theorem dL_law_571 : decode cL_law 571 = .ok (.iload_n 3, 1) := by decide +kernel
theorem dL_law_572 : decode cL_law 572 = .ok (.iconst 2, 1) := by decide +kernel
theorem dL_law_573 : decode cL_law 573 = .ok (.iadd, 1) := by decide +kernel
theorem dL_law_574 : decode cL_law 574 = .ok (.iaload, 1) := by decide +kernel
theorem dL_law_575 : decode cL_law 575 = .ok (.invokevirtual 72, 3) := by decide +kernel
theorem dL_law_578 : decode cL_law 578 = .ok (.aload_n 2, 1) := by decide +kernel
theorem dL_law_579 : decode cL_law 579 = .ok (.aload_n 0, 1) := by decide +kernel
theorem dL_law_580 : decode cL_law 580 = .ok (.iload_n 3, 1) := by decide +kernel
theorem dL_law_581 : decode cL_law 581 = .ok (.iconst 1, 1) := by decide +kernel
theorem dL_law_582 : decode cL_law 582 = .ok (.iadd, 1) := by decide +kernel
theorem dL_law_583 : decode cL_law 583 = .ok (.iaload, 1) := by decide +kernel
theorem dL_law_584 : decode cL_law 584 = .ok (.aload_n 0, 1) := by decide +kernel
theorem dL_law_585 : decode cL_law 585 = .ok (.iload_n 3, 1) := by decide +kernel
theorem dL_law_586 : decode cL_law 586 = .ok (.iconst 2, 1) := by decide +kernel
theorem dL_law_587 : decode cL_law 587 = .ok (.iadd, 1) := by decide +kernel
theorem dL_law_588 : decode cL_law 588 = .ok (.iaload, 1) := by decide +kernel
theorem dL_law_589 : decode cL_law 589 = .ok (.invokevirtual 76, 3) := by decide +kernel
theorem dL_law_592 : decode cL_law 592 = .ok (.lcmp, 1) := by decide +kernel
theorem dL_law_593 : decode cL_law 593 = .ok (.ifCond .eq 265, 3) := by decide +kernel
theorem dL_law_596 : decode cL_law 596 = .ok (.iconst 0, 1) := by decide +kernel
theorem dL_law_597 : decode cL_law 597 = .ok (.ireturn, 1) := by decide +kernel
theorem dL_law_598 : decode cL_law 598 = .ok (.aload_n 1, 1) := by decide +kernel
theorem dL_law_599 : decode cL_law 599 = .ok (.aload_n 0, 1) := by decide +kernel
theorem dL_law_600 : decode cL_law 600 = .ok (.iload_n 3, 1) := by decide +kernel
theorem dL_law_601 : decode cL_law 601 = .ok (.iconst 1, 1) := by decide +kernel
theorem dL_law_602 : decode cL_law 602 = .ok (.iadd, 1) := by decide +kernel
theorem dL_law_603 : decode cL_law 603 = .ok (.iaload, 1) := by decide +kernel
theorem dL_law_604 : decode cL_law 604 = .ok (.aload_n 0, 1) := by decide +kernel
theorem dL_law_605 : decode cL_law 605 = .ok (.iload_n 3, 1) := by decide +kernel
theorem dL_law_606 : decode cL_law 606 = .ok (.iconst 2, 1) := by decide +kernel
theorem dL_law_607 : decode cL_law 607 = .ok (.iadd, 1) := by decide +kernel
theorem dL_law_608 : decode cL_law 608 = .ok (.iaload, 1) := by decide +kernel
theorem dL_law_609 : decode cL_law 609 = .ok (.aload_n 0, 1) := by decide +kernel
theorem dL_law_610 : decode cL_law 610 = .ok (.iload_n 3, 1) := by decide +kernel
theorem dL_law_611 : decode cL_law 611 = .ok (.iconst 3, 1) := by decide +kernel
theorem dL_law_612 : decode cL_law 612 = .ok (.iadd, 1) := by decide +kernel
theorem dL_law_613 : decode cL_law 613 = .ok (.iaload, 1) := by decide +kernel
theorem dL_law_614 : decode cL_law 614 = .ok (.aload_n 0, 1) := by decide +kernel
theorem dL_law_615 : decode cL_law 615 = .ok (.iload_n 3, 1) := by decide +kernel
theorem dL_law_616 : decode cL_law 616 = .ok (.iconst 4, 1) := by decide +kernel
theorem dL_law_617 : decode cL_law 617 = .ok (.iadd, 1) := by decide +kernel
theorem dL_law_618 : decode cL_law 618 = .ok (.iaload, 1) := by decide +kernel
theorem dL_law_619 : decode cL_law 619 = .ok (.invokevirtual 77, 3) := by decide +kernel
theorem dL_law_622 : decode cL_law 622 = .ok (.aload_n 2, 1) := by decide +kernel
theorem dL_law_623 : decode cL_law 623 = .ok (.aload_n 0, 1) := by decide +kernel
theorem dL_law_624 : decode cL_law 624 = .ok (.iload_n 3, 1) := by decide +kernel
theorem dL_law_625 : decode cL_law 625 = .ok (.iconst 1, 1) := by decide +kernel
theorem dL_law_626 : decode cL_law 626 = .ok (.iadd, 1) := by decide +kernel
theorem dL_law_627 : decode cL_law 627 = .ok (.iaload, 1) := by decide +kernel
theorem dL_law_628 : decode cL_law 628 = .ok (.aload_n 0, 1) := by decide +kernel
theorem dL_law_629 : decode cL_law 629 = .ok (.iload_n 3, 1) := by decide +kernel
theorem dL_law_630 : decode cL_law 630 = .ok (.iconst 2, 1) := by decide +kernel
theorem dL_law_631 : decode cL_law 631 = .ok (.iadd, 1) := by decide +kernel
theorem dL_law_632 : decode cL_law 632 = .ok (.iaload, 1) := by decide +kernel
theorem dL_law_633 : decode cL_law 633 = .ok (.aload_n 0, 1) := by decide +kernel
theorem dL_law_634 : decode cL_law 634 = .ok (.iload_n 3, 1) := by decide +kernel
theorem dL_law_635 : decode cL_law 635 = .ok (.iconst 3, 1) := by decide +kernel
theorem dL_law_636 : decode cL_law 636 = .ok (.iadd, 1) := by decide +kernel
theorem dL_law_637 : decode cL_law 637 = .ok (.iaload, 1) := by decide +kernel
theorem dL_law_638 : decode cL_law 638 = .ok (.aload_n 0, 1) := by decide +kernel
theorem dL_law_639 : decode cL_law 639 = .ok (.iload_n 3, 1) := by decide +kernel
theorem dL_law_640 : decode cL_law 640 = .ok (.iconst 4, 1) := by decide +kernel
theorem dL_law_641 : decode cL_law 641 = .ok (.iadd, 1) := by decide +kernel
theorem dL_law_642 : decode cL_law 642 = .ok (.iaload, 1) := by decide +kernel
theorem dL_law_643 : decode cL_law 643 = .ok (.invokevirtual 81, 3) := by decide +kernel
theorem dL_law_646 : decode cL_law 646 = .ok (.if_icmp .eq 212, 3) := by decide +kernel
theorem dL_law_649 : decode cL_law 649 = .ok (.iconst 0, 1) := by decide +kernel
theorem dL_law_650 : decode cL_law 650 = .ok (.ireturn, 1) := by decide +kernel
theorem dL_law_651 : decode cL_law 651 = .ok (.aload_n 1, 1) := by decide +kernel
theorem dL_law_652 : decode cL_law 652 = .ok (.aload_n 0, 1) := by decide +kernel
theorem dL_law_653 : decode cL_law 653 = .ok (.iload_n 3, 1) := by decide +kernel
theorem dL_law_654 : decode cL_law 654 = .ok (.iconst 1, 1) := by decide +kernel
theorem dL_law_655 : decode cL_law 655 = .ok (.iadd, 1) := by decide +kernel
theorem dL_law_656 : decode cL_law 656 = .ok (.iaload, 1) := by decide +kernel
theorem dL_law_657 : decode cL_law 657 = .ok (.aload_n 0, 1) := by decide +kernel
theorem dL_law_658 : decode cL_law 658 = .ok (.iload_n 3, 1) := by decide +kernel
theorem dL_law_659 : decode cL_law 659 = .ok (.iconst 2, 1) := by decide +kernel
theorem dL_law_660 : decode cL_law 660 = .ok (.iadd, 1) := by decide +kernel
theorem dL_law_661 : decode cL_law 661 = .ok (.iaload, 1) := by decide +kernel
theorem dL_law_662 : decode cL_law 662 = .ok (.invokevirtual 82, 3) := by decide +kernel
theorem dL_law_665 : decode cL_law 665 = .ok (.aload_n 2, 1) := by decide +kernel
theorem dL_law_666 : decode cL_law 666 = .ok (.aload_n 0, 1) := by decide +kernel
theorem dL_law_667 : decode cL_law 667 = .ok (.iload_n 3, 1) := by decide +kernel
theorem dL_law_668 : decode cL_law 668 = .ok (.iconst 1, 1) := by decide +kernel
theorem dL_law_669 : decode cL_law 669 = .ok (.iadd, 1) := by decide +kernel
theorem dL_law_670 : decode cL_law 670 = .ok (.iaload, 1) := by decide +kernel
theorem dL_law_671 : decode cL_law 671 = .ok (.aload_n 0, 1) := by decide +kernel
theorem dL_law_672 : decode cL_law 672 = .ok (.iload_n 3, 1) := by decide +kernel
theorem dL_law_673 : decode cL_law 673 = .ok (.iconst 2, 1) := by decide +kernel
theorem dL_law_674 : decode cL_law 674 = .ok (.iadd, 1) := by decide +kernel
theorem dL_law_675 : decode cL_law 675 = .ok (.iaload, 1) := by decide +kernel
theorem dL_law_676 : decode cL_law 676 = .ok (.invokevirtual 85, 3) := by decide +kernel
theorem dL_law_679 : decode cL_law 679 = .ok (.if_icmp .eq 179, 3) := by decide +kernel
theorem dL_law_682 : decode cL_law 682 = .ok (.iconst 0, 1) := by decide +kernel
theorem dL_law_683 : decode cL_law 683 = .ok (.ireturn, 1) := by decide +kernel
theorem dL_law_684 : decode cL_law 684 = .ok (.aload_n 1, 1) := by decide +kernel
theorem dL_law_685 : decode cL_law 685 = .ok (.invokevirtual 86, 3) := by decide +kernel
theorem dL_law_688 : decode cL_law 688 = .ok (.aload_n 2, 1) := by decide +kernel
theorem dL_law_689 : decode cL_law 689 = .ok (.invokevirtual 89, 3) := by decide +kernel
theorem dL_law_692 : decode cL_law 692 = .ok (.if_icmp .eq 166, 3) := by decide +kernel
theorem dL_law_695 : decode cL_law 695 = .ok (.iconst 0, 1) := by decide +kernel
theorem dL_law_696 : decode cL_law 696 = .ok (.ireturn, 1) := by decide +kernel
theorem dL_law_697 : decode cL_law 697 = .ok (.aload_n 1, 1) := by decide +kernel
theorem dL_law_698 : decode cL_law 698 = .ok (.aload_n 0, 1) := by decide +kernel
theorem dL_law_699 : decode cL_law 699 = .ok (.iload_n 3, 1) := by decide +kernel
theorem dL_law_700 : decode cL_law 700 = .ok (.iconst 1, 1) := by decide +kernel
theorem dL_law_701 : decode cL_law 701 = .ok (.iadd, 1) := by decide +kernel
theorem dL_law_702 : decode cL_law 702 = .ok (.iaload, 1) := by decide +kernel
theorem dL_law_703 : decode cL_law 703 = .ok (.aload_n 0, 1) := by decide +kernel
theorem dL_law_704 : decode cL_law 704 = .ok (.iload_n 3, 1) := by decide +kernel
theorem dL_law_705 : decode cL_law 705 = .ok (.iconst 2, 1) := by decide +kernel
theorem dL_law_706 : decode cL_law 706 = .ok (.iadd, 1) := by decide +kernel
theorem dL_law_707 : decode cL_law 707 = .ok (.iaload, 1) := by decide +kernel
theorem dL_law_708 : decode cL_law 708 = .ok (.aload_n 0, 1) := by decide +kernel
theorem dL_law_709 : decode cL_law 709 = .ok (.iload_n 3, 1) := by decide +kernel
theorem dL_law_710 : decode cL_law 710 = .ok (.iconst 3, 1) := by decide +kernel
theorem dL_law_711 : decode cL_law 711 = .ok (.iadd, 1) := by decide +kernel
theorem dL_law_712 : decode cL_law 712 = .ok (.iaload, 1) := by decide +kernel
theorem dL_law_713 : decode cL_law 713 = .ok (.invokevirtual 90, 3) := by decide +kernel
theorem dL_law_716 : decode cL_law 716 = .ok (.aload_n 2, 1) := by decide +kernel
theorem dL_law_717 : decode cL_law 717 = .ok (.aload_n 0, 1) := by decide +kernel
theorem dL_law_718 : decode cL_law 718 = .ok (.iload_n 3, 1) := by decide +kernel
theorem dL_law_719 : decode cL_law 719 = .ok (.iconst 1, 1) := by decide +kernel
theorem dL_law_720 : decode cL_law 720 = .ok (.iadd, 1) := by decide +kernel
theorem dL_law_721 : decode cL_law 721 = .ok (.iaload, 1) := by decide +kernel
theorem dL_law_722 : decode cL_law 722 = .ok (.aload_n 0, 1) := by decide +kernel
theorem dL_law_723 : decode cL_law 723 = .ok (.iload_n 3, 1) := by decide +kernel
theorem dL_law_724 : decode cL_law 724 = .ok (.iconst 2, 1) := by decide +kernel
theorem dL_law_725 : decode cL_law 725 = .ok (.iadd, 1) := by decide +kernel
theorem dL_law_726 : decode cL_law 726 = .ok (.iaload, 1) := by decide +kernel
theorem dL_law_727 : decode cL_law 727 = .ok (.aload_n 0, 1) := by decide +kernel
theorem dL_law_728 : decode cL_law 728 = .ok (.iload_n 3, 1) := by decide +kernel
theorem dL_law_729 : decode cL_law 729 = .ok (.iconst 3, 1) := by decide +kernel
theorem dL_law_730 : decode cL_law 730 = .ok (.iadd, 1) := by decide +kernel
theorem dL_law_731 : decode cL_law 731 = .ok (.iaload, 1) := by decide +kernel
theorem dL_law_732 : decode cL_law 732 = .ok (.invokevirtual 93, 3) := by decide +kernel
theorem dL_law_735 : decode cL_law 735 = .ok (.if_icmp .eq 123, 3) := by decide +kernel
theorem dL_law_738 : decode cL_law 738 = .ok (.iconst 0, 1) := by decide +kernel
theorem dL_law_739 : decode cL_law 739 = .ok (.ireturn, 1) := by decide +kernel
theorem dL_law_740 : decode cL_law 740 = .ok (.aload_n 1, 1) := by decide +kernel
theorem dL_law_741 : decode cL_law 741 = .ok (.invokevirtual 94, 3) := by decide +kernel
theorem dL_law_744 : decode cL_law 744 = .ok (.aload_n 2, 1) := by decide +kernel
theorem dL_law_745 : decode cL_law 745 = .ok (.invokevirtual 97, 3) := by decide +kernel
theorem dL_law_748 : decode cL_law 748 = .ok (.if_icmp .eq 110, 3) := by decide +kernel
theorem dL_law_751 : decode cL_law 751 = .ok (.iconst 0, 1) := by decide +kernel
theorem dL_law_752 : decode cL_law 752 = .ok (.ireturn, 1) := by decide +kernel
theorem dL_law_753 : decode cL_law 753 = .ok (.aload_n 1, 1) := by decide +kernel
theorem dL_law_754 : decode cL_law 754 = .ok (.aload_n 0, 1) := by decide +kernel
theorem dL_law_755 : decode cL_law 755 = .ok (.iload_n 3, 1) := by decide +kernel
theorem dL_law_756 : decode cL_law 756 = .ok (.iconst 1, 1) := by decide +kernel
theorem dL_law_757 : decode cL_law 757 = .ok (.iadd, 1) := by decide +kernel
theorem dL_law_758 : decode cL_law 758 = .ok (.iaload, 1) := by decide +kernel
theorem dL_law_759 : decode cL_law 759 = .ok (.invokevirtual 98, 3) := by decide +kernel
theorem dL_law_762 : decode cL_law 762 = .ok (.aload_n 2, 1) := by decide +kernel
theorem dL_law_763 : decode cL_law 763 = .ok (.aload_n 0, 1) := by decide +kernel
theorem dL_law_764 : decode cL_law 764 = .ok (.iload_n 3, 1) := by decide +kernel
theorem dL_law_765 : decode cL_law 765 = .ok (.iconst 1, 1) := by decide +kernel
theorem dL_law_766 : decode cL_law 766 = .ok (.iadd, 1) := by decide +kernel
theorem dL_law_767 : decode cL_law 767 = .ok (.iaload, 1) := by decide +kernel
theorem dL_law_768 : decode cL_law 768 = .ok (.invokevirtual 102, 3) := by decide +kernel
theorem dL_law_771 : decode cL_law 771 = .ok (.if_icmp .eq 87, 3) := by decide +kernel
theorem dL_law_774 : decode cL_law 774 = .ok (.iconst 0, 1) := by decide +kernel
theorem dL_law_775 : decode cL_law 775 = .ok (.ireturn, 1) := by decide +kernel
theorem dL_law_776 : decode cL_law 776 = .ok (.aload_n 1, 1) := by decide +kernel
theorem dL_law_777 : decode cL_law 777 = .ok (.aload_n 0, 1) := by decide +kernel
theorem dL_law_778 : decode cL_law 778 = .ok (.iload_n 3, 1) := by decide +kernel
theorem dL_law_779 : decode cL_law 779 = .ok (.iconst 1, 1) := by decide +kernel
theorem dL_law_780 : decode cL_law 780 = .ok (.iadd, 1) := by decide +kernel
theorem dL_law_781 : decode cL_law 781 = .ok (.iaload, 1) := by decide +kernel
theorem dL_law_782 : decode cL_law 782 = .ok (.aload_n 0, 1) := by decide +kernel
theorem dL_law_783 : decode cL_law 783 = .ok (.iload_n 3, 1) := by decide +kernel
theorem dL_law_784 : decode cL_law 784 = .ok (.iconst 2, 1) := by decide +kernel
theorem dL_law_785 : decode cL_law 785 = .ok (.iadd, 1) := by decide +kernel
theorem dL_law_786 : decode cL_law 786 = .ok (.iaload, 1) := by decide +kernel
theorem dL_law_787 : decode cL_law 787 = .ok (.invokevirtual 103, 3) := by decide +kernel
theorem dL_law_790 : decode cL_law 790 = .ok (.aload_n 2, 1) := by decide +kernel
theorem dL_law_791 : decode cL_law 791 = .ok (.aload_n 0, 1) := by decide +kernel
theorem dL_law_792 : decode cL_law 792 = .ok (.iload_n 3, 1) := by decide +kernel
theorem dL_law_793 : decode cL_law 793 = .ok (.iconst 1, 1) := by decide +kernel
theorem dL_law_794 : decode cL_law 794 = .ok (.iadd, 1) := by decide +kernel
theorem dL_law_795 : decode cL_law 795 = .ok (.iaload, 1) := by decide +kernel
theorem dL_law_796 : decode cL_law 796 = .ok (.aload_n 0, 1) := by decide +kernel
theorem dL_law_797 : decode cL_law 797 = .ok (.iload_n 3, 1) := by decide +kernel
theorem dL_law_798 : decode cL_law 798 = .ok (.iconst 2, 1) := by decide +kernel
theorem dL_law_799 : decode cL_law 799 = .ok (.iadd, 1) := by decide +kernel
theorem dL_law_800 : decode cL_law 800 = .ok (.iaload, 1) := by decide +kernel
theorem dL_law_801 : decode cL_law 801 = .ok (.invokevirtual 106, 3) := by decide +kernel
theorem dL_law_804 : decode cL_law 804 = .ok (.if_icmp .eq 54, 3) := by decide +kernel
theorem dL_law_807 : decode cL_law 807 = .ok (.iconst 0, 1) := by decide +kernel
theorem dL_law_808 : decode cL_law 808 = .ok (.ireturn, 1) := by decide +kernel
theorem dL_law_809 : decode cL_law 809 = .ok (.aload_n 1, 1) := by decide +kernel
theorem dL_law_810 : decode cL_law 810 = .ok (.invokevirtual 107, 3) := by decide +kernel
theorem dL_law_813 : decode cL_law 813 = .ok (.aload_n 2, 1) := by decide +kernel
theorem dL_law_814 : decode cL_law 814 = .ok (.invokevirtual 110, 3) := by decide +kernel
theorem dL_law_817 : decode cL_law 817 = .ok (.if_icmp .eq 41, 3) := by decide +kernel
theorem dL_law_820 : decode cL_law 820 = .ok (.iconst 0, 1) := by decide +kernel
theorem dL_law_821 : decode cL_law 821 = .ok (.ireturn, 1) := by decide +kernel
theorem dL_law_822 : decode cL_law 822 = .ok (.aload_n 1, 1) := by decide +kernel
theorem dL_law_823 : decode cL_law 823 = .ok (.invokevirtual 111, 3) := by decide +kernel
theorem dL_law_826 : decode cL_law 826 = .ok (.aload_n 2, 1) := by decide +kernel
theorem dL_law_827 : decode cL_law 827 = .ok (.invokevirtual 114, 3) := by decide +kernel
theorem dL_law_830 : decode cL_law 830 = .ok (.if_icmp .eq 28, 3) := by decide +kernel
theorem dL_law_833 : decode cL_law 833 = .ok (.iconst 0, 1) := by decide +kernel
theorem dL_law_834 : decode cL_law 834 = .ok (.ireturn, 1) := by decide +kernel
theorem dL_law_835 : decode cL_law 835 = .ok (.aload_n 1, 1) := by decide +kernel
theorem dL_law_836 : decode cL_law 836 = .ok (.aload_n 0, 1) := by decide +kernel
theorem dL_law_837 : decode cL_law 837 = .ok (.iload_n 3, 1) := by decide +kernel
theorem dL_law_838 : decode cL_law 838 = .ok (.iconst 1, 1) := by decide +kernel
theorem dL_law_839 : decode cL_law 839 = .ok (.iadd, 1) := by decide +kernel
theorem dL_law_840 : decode cL_law 840 = .ok (.iaload, 1) := by decide +kernel
theorem dL_law_841 : decode cL_law 841 = .ok (.invokevirtual 115, 3) := by decide +kernel
theorem dL_law_844 : decode cL_law 844 = .ok (.aload_n 2, 1) := by decide +kernel
theorem dL_law_845 : decode cL_law 845 = .ok (.aload_n 0, 1) := by decide +kernel
theorem dL_law_846 : decode cL_law 846 = .ok (.iload_n 3, 1) := by decide +kernel
theorem dL_law_847 : decode cL_law 847 = .ok (.iconst 1, 1) := by decide +kernel
theorem dL_law_848 : decode cL_law 848 = .ok (.iadd, 1) := by decide +kernel
theorem dL_law_849 : decode cL_law 849 = .ok (.iaload, 1) := by decide +kernel
theorem dL_law_850 : decode cL_law 850 = .ok (.invokevirtual 118, 3) := by decide +kernel
theorem dL_law_853 : decode cL_law 853 = .ok (.if_icmp .eq 5, 3) := by decide +kernel
theorem dL_law_856 : decode cL_law 856 = .ok (.iconst 0, 1) := by decide +kernel
theorem dL_law_857 : decode cL_law 857 = .ok (.ireturn, 1) := by decide +kernel
theorem dL_law_858 : decode cL_law 858 = .ok (.iinc 3 5, 3) := by decide +kernel
theorem dL_law_861 : decode cL_law 861 = .ok (.goto (-843), 3) := by decide +kernel
theorem dL_law_864 : decode cL_law 864 = .ok (.iconst 1, 1) := by decide +kernel
theorem dL_law_865 : decode cL_law 865 = .ok (.ireturn, 1) := by decide +kernel
end
section
/-! THE FRAME: a method as a function over a small memory. The class's and the reference's objects have numbers 0, 1, .. in the order in which they are made;
    'ba_S' is what never changes once they are made (references, kinds, how many, how many slots), 'ba_M' what their whole numbers are (int and long fields and elements). -/
abbrev ba_M : Type := (Nat → Nat → Int32) × (Nat → Nat → Int64)
abbrev ba_S : Type := (Nat → Nat → Option Nat) × (Nat → Nat × Nat) × Nat × Nat
def gI (m : ba_M) (o k : Nat) : Int32 := m.1 o k
def gL (m : ba_M) (o k : Nat) : Int64 := m.2 o k
def wI (m : ba_M) (o k : Nat) (x : Int32) : ba_M := (fun a b => if a = o ∧ b = k then x else m.1 a b, m.2)
def wL (m : ba_M) (o k : Nat) (x : Int64) : ba_M := (m.1, fun a b => if a = o ∧ b = k then x else m.2 a b)
def gR (S : ba_S) (o k : Nat) : Option Nat := S.1 o k
def kT (S : ba_S) (o : Nat) : Nat := (S.2.1 o).1
def kL (S : ba_S) (o : Nat) : Nat := (S.2.1 o).2
def nN (S : ba_S) : Nat := S.2.2.1
def nS (S : ba_S) : Nat := S.2.2.2
def ck (S : ba_S) (o t : Nat) : Bool := decide (o < nN S) && (kT S o == t)
theorem ck_i {S : ba_S} {o t : Nat} (h : ck S o t = true) : o < nN S ∧ kT S o = t := by
  simpa [ck] using h
/-! abstract values: an int, a long, a reference (an object's number, or null), the law's script -/
abbrev ba_A : Type := Int32 ⊕ Int64 ⊕ Option Nat ⊕ Unit
abbrev aI (x : Int32) : ba_A := .inl x
abbrev aJ (x : Int64) : ba_A := .inr (.inl x)
abbrev aR (r : Option Nat) : ba_A := .inr (.inr (.inl r))
abbrev aX : ba_A := .inr (.inr (.inr ()))
def b2i : Bool → Int32
  | true => 1
  | false => 0
def cv (base b : Nat) : ba_A → Value
  | .inl x => .int x
  | .inr (.inl x) => .long x
  | .inr (.inr (.inl none)) => .null
  | .inr (.inr (.inl (some a))) => .ref (base + a)
  | .inr (.inr (.inr ())) => .ref b
def a2 : ba_A → Bool
  | .inr (.inl _) => true
  | _ => false
def ac : ba_A → Nat
  | .inr (.inl _) => 2
  | _ => 1
theorem cv_ac (base b : Nat) (v : ba_A) : (cv base b v).category = ac v := by
  rcases v with x | x | (_ | a) | x <;> rfl
theorem cv_a2 (base b : Nat) {v : ba_A} (h : a2 v = false) : (cv base b v).category = 1 := by
  rcases v with x | x | (_ | a) | x <;> first | rfl | cases h
theorem cv_sum (base b : Nat) (st : List ba_A) : ((st.map (cv base b)).map fun v => v.category).sum = (st.map ac).sum := by
  induction st with
  | nil => rfl
  | cons v l ih => simp only [List.map_cons, List.sum_cons, ih, cv_ac]
theorem cv_R (base b : Nat) (r : Option Nat) : cv base b (aR r) = va_rf (r.map (base + ·)) := by cases r <;> rfl
/-! locals -/
def Lg : List (Option ba_A) → Nat → Option ba_A
  | [], _ => none
  | a :: _, 0 => a
  | _ :: l, n + 1 => Lg l n
def Ls : List (Option ba_A) → Nat → Option ba_A → List (Option ba_A)
  | [], _, _ => []
  | _ :: l, 0, v => v :: l
  | a :: l, n + 1, v => a :: Ls l n v
def Ln : List (Option ba_A) → Nat → Bool
  | _, 0 => true
  | L, i + 1 => match Lg L i with
    | some v => !a2 v
    | none => true
theorem Lg_s (L : List (Option ba_A)) (i j : Nat) (w : Option ba_A) {v : ba_A} (h : Lg (Ls L i w) j = some v) : (j = i ∧ w = some v) ∨ (j ≠ i ∧ Lg L j = some v) := by
  induction L generalizing i j with
  | nil => simp [Ls, Lg] at h
  | cons a l ih =>
    cases i with
    | zero =>
      cases j with
      | zero => exact Or.inl ⟨rfl, by simpa [Ls, Lg] using h⟩
      | succ j => exact Or.inr ⟨by omega, by simpa [Ls, Lg] using h⟩
    | succ i =>
      cases j with
      | zero => exact Or.inr ⟨by omega, by simpa [Ls, Lg] using h⟩
      | succ j =>
        rcases ih i j (by simpa [Ls, Lg] using h) with ⟨h1, h2⟩ | ⟨h1, h2⟩
        · exact Or.inl ⟨by omega, h2⟩
        · exact Or.inr ⟨by omega, by simpa [Lg] using h2⟩
def Le (base b : Nat) : Nat → List (Option ba_A) → List (Nat × Value)
  | _, [] => []
  | i, some v :: l => (i, cv base b v) :: Le base b (i + 1) l
  | i, none :: l => Le base b (i + 1) l
theorem Le_in {base b : Nat} {L : List (Option ba_A)} {i : Nat} {q : Nat × Value} : q ∈ Le base b i L ↔ ∃ j v, q.1 = i + j ∧ Lg L j = some v ∧ q.2 = cv base b v := by
  induction L generalizing i with
  | nil => simp [Le, Lg]
  | cons a l ih =>
    have tl : (∃ j v, q.1 = i + 1 + j ∧ Lg l j = some v ∧ q.2 = cv base b v) ↔ ∃ j v, q.1 = i + (j + 1) ∧ Lg (a :: l) (j + 1) = some v ∧ q.2 = cv base b v := by
      constructor
      · rintro ⟨j, v, h1, h2, h3⟩
        exact ⟨j, v, by omega, by simpa [Lg] using h2, h3⟩
      · rintro ⟨j, v, h1, h2, h3⟩
        exact ⟨j, v, by omega, by simpa [Lg] using h2, h3⟩
    cases a with
    | none =>
      simp only [Le, ih, tl]
      constructor
      · rintro ⟨j, v, h⟩
        exact ⟨j + 1, v, h⟩
      · rintro ⟨j, v, h1, h2, h3⟩
        cases j with
        | zero => simp [Lg] at h2
        | succ j => exact ⟨j, v, h1, h2, h3⟩
    | some w =>
      simp only [Le, List.mem_cons, ih, tl]
      constructor
      · rintro (h | ⟨j, v, h⟩)
        · exact ⟨0, w, by rw [h]; rfl, rfl, by rw [h]⟩
        · exact ⟨j + 1, v, h⟩
      · rintro ⟨j, v, h1, h2, h3⟩
        cases j with
        | zero =>
          simp only [Lg, Option.some.injEq] at h2
          subst h2
          exact Or.inl (Prod.ext (by simpa using h1) h3)
        | succ j => exact Or.inr ⟨j, v, h1, h2, h3⟩
def LH (base b nL : Nat) (ls : Array Slot) (L : List (Option ba_A)) : Prop := lv_has ls nL (Le base b 0 L)
theorem LH.in {base b : Nat} {L : List (Option ba_A)} {i : Nat} {v : ba_A} (hl : Lg L i = some v) : (i, cv base b v) ∈ Le base b 0 L := Le_in.mpr ⟨i, v, by simp, hl, rfl⟩
theorem LH.get {base b nL : Nat} {ls : Array Slot} {L : List (Option ba_A)} (h : LH base b nL ls L) {i : Nat} {v : ba_A} (hl : Lg L i = some v) : ls[i]? = some (.val (cv base b v)) := h.2.2 _ (LH.in hl)
theorem LH.mem {base b nL : Nat} {ls : Array Slot} {L : List (Option ba_A)} {lv : List (Nat × Value)} (h : lv_has ls nL lv) (hs : ∀ i v, Lg L i = some v → (i, cv base b v) ∈ lv) : LH base b nL ls L := by
  refine ⟨h.1, h.2.1, fun q hq => ?_⟩
  obtain ⟨j, v, h1, h2, h3⟩ := Le_in.mp hq
  have := hs j v h2
  rw [Nat.zero_add] at h1
  rw [← h1, ← h3] at this
  exact h.2.2 q this
theorem LH.s1 {base b nL i : Nat} {ls : Array Slot} {L : List (Option ba_A)} {v : ba_A} {lv : List (Nat × Value)} (hn : Ln L i = true)
    (hv : lv = (i, cv base b v) :: (Le base b 0 L).filter (fun q => !(q.1 == i) && !(q.1 + 1 == i && q.2.category == 2))) (h : lv_has ls nL lv) : LH base b nL ls (Ls L i (some v)) := by
  subst hv
  refine LH.mem h fun j w hw => ?_
  rcases Lg_s L i j _ hw with ⟨h1, h2⟩ | ⟨h1, h2⟩
  · cases h2
    rw [h1]
    exact List.mem_cons_self
  · refine List.mem_cons_of_mem _ (List.mem_filter.mpr ⟨LH.in h2, ?_⟩)
    have e1 : (j == i) = false := by simpa using h1
    rw [e1]
    by_cases hj : j + 1 = i
    · subst hj
      have : a2 w = false := by simpa [Ln, h2] using hn
      simp [cv_a2 base b this]
    · have e2 : (j + 1 == i) = false := by simpa using hj
      simp [e2]
theorem LH.s2 {base b nL i : Nat} {ls : Array Slot} {L : List (Option ba_A)} {v : ba_A} {lv : List (Nat × Value)} (hn : Ln L i = true)
    (hv : lv = (i, cv base b v) :: (Le base b 0 L).filter (fun q => !(q.1 == i) && (!(q.1 == i + 1) && !(q.1 + 1 == i && q.2.category == 2)))) (h : lv_has ls nL lv) : LH base b nL ls (Ls (Ls L (i + 1) none) i (some v)) := by
  subst hv
  refine LH.mem h fun j w hw => ?_
  rcases Lg_s _ i j _ hw with ⟨h1, h2⟩ | ⟨h1, h2⟩
  · cases h2
    rw [h1]
    exact List.mem_cons_self
  · rcases Lg_s L (i + 1) j _ h2 with ⟨h3, h4⟩ | ⟨h3, h4⟩
    · cases h4
    · refine List.mem_cons_of_mem _ (List.mem_filter.mpr ⟨LH.in h4, ?_⟩)
      have e1 : (j == i) = false := by simpa using h1
      have e3 : (j == i + 1) = false := by simpa using h3
      rw [e1, e3]
      by_cases hj : j + 1 = i
      · subst hj
        have : a2 w = false := by simpa [Ln, h4] using hn
        simp [cv_a2 base b this]
      · have e2 : (j + 1 == i) = false := by simpa using hj
        simp [e2]
/-- fewer known locals -/
def Lw : List (Option ba_A) → List (Option ba_A) → Prop
  | _, [] => True
  | [], _ :: _ => False
  | _ :: L, none :: L' => Lw L L'
  | a :: L, some v :: L' => a = some v ∧ Lw L L'
theorem Lw_g {L L' : List (Option ba_A)} (h : Lw L L') {i : Nat} {v : ba_A} (hv : Lg L' i = some v) : Lg L i = some v := by
  induction L' generalizing L i with
  | nil => simp [Lg] at hv
  | cons a l ih =>
    cases L with
    | nil => exact h.elim
    | cons x L =>
      cases a with
      | none =>
        cases i with
        | zero => simp [Lg] at hv
        | succ i => exact ih (L := L) h hv
      | some w =>
        obtain ⟨h1, h2⟩ : x = some w ∧ Lw L l := h
        cases i with
        | zero => simpa [Lg, h1] using hv
        | succ i => exact ih (L := L) h2 hv
theorem LH.weak {base b nL : Nat} {ls : Array Slot} {L L' : List (Option ba_A)} (h : LH base b nL ls L) (hw : Lw L L') : LH base b nL ls L' := LH.mem h fun _ _ hv => LH.in (Lw_g hw hv)
/-- a method's first locals -/
def La : List ba_A → List (Option ba_A)
  | [] => []
  | v :: l => if a2 v then some v :: none :: La l else some v :: La l
theorem La_in (base b : Nat) (as : List ba_A) : ∀ (n i : Nat) (v : ba_A), Lg (La as) i = some v → (n + i, cv base b v) ∈ lv_args n (as.map (cv base b)) := by
  induction as with
  | nil => intro n i v h; simp [La, Lg] at h
  | cons a l ih =>
    intro n i v h
    simp only [List.map_cons, lv_args, List.mem_cons]
    by_cases ha : a2 a = true
    · have hc : (cv base b a).category = 2 := by rcases a with x | x | x | x <;> first | rfl | cases ha
      simp only [La, ha, if_true] at h
      match i, h with
      | 0, h => simp only [Lg, Option.some.injEq] at h; subst h; exact Or.inl rfl
      | 1, h => simp [Lg] at h
      | i + 2, h =>
        right
        have := ih (n + 2) i v (by simpa [Lg] using h)
        rw [if_pos hc]
        rw [show n + (i + 2) = n + 2 + i by omega]
        exact this
    · have ha : a2 a = false := by simpa using ha
      have hc : ¬ (cv base b a).category = 2 := by rw [cv_a2 base b ha]; decide
      simp only [La, ha] at h
      match i, h with
      | 0, h => simp [Lg] at h; subst h; exact Or.inl rfl
      | i + 1, h =>
        right
        have := ih (n + 1) i v (by simpa [Lg] using h)
        rw [if_neg hc]
        rw [show n + (i + 1) = n + 1 + i by omega]
        exact this
theorem Lg_app (l : List (Option ba_A)) (n : Nat) : ∀ (i : Nat) (v : ba_A), Lg (l ++ List.replicate n none) i = some v → Lg l i = some v := by
  induction l with
  | nil =>
    intro i v h
    exfalso
    induction n generalizing i with
    | zero => simp [Lg] at h
    | succ n ih => cases i with
      | zero => simp [List.replicate_succ, Lg] at h
      | succ i => exact ih i (by simpa [List.replicate_succ, Lg] using h)
  | cons a l ih =>
    intro i v h
    cases i with
    | zero => simpa [Lg] using h
    | succ i => exact ih i v (by simpa [Lg] using h)
end
section
/-! the world: the cells of the objects 0, 1, .. at base, base + 1, .. -/
abbrev ba_G : Type := ClassId × ClassId × ClassId × ClassId
def fY : Nat → Nat → FieldType
  | 0 => tyX0 | 1 => tyX1 | 2 => tyX2 | 3 => tyX3 | 4 => tyX4 | 5 => tyX6 | 6 => tyX7 | 7 => tyX8 | 8 => tyX9 | 9 => tyX10 | 10 => tyX11 | _ => tyX12
def fc : FieldType → Nat
  | .long => 1
  | .object _ => 2
  | .array _ => 2
  | _ => 0
def nF (t : Nat) : Nat := ((vwCl[t]?).map (fun q => q.2.2)).getD 0
def RPl : String := "BallAndName$Player"
def RTo : String := "BallAndName$Told"
def tyl (G : ba_G) : List (ClassId × FieldType) := [(G.1, .int), (G.2.1, .long), (G.2.2.1, .object RX2), (G.2.2.2, .object RX10)]
def fV (base : Nat) (S : ba_S) (m : ba_M) (o : Nat) : Nat → Nat → Value
  | 0, k => .int (gI m o k)
  | 1, k => .long (gL m o k)
  | _, k => va_rf ((gR S o k).map (base + ·))
def oF (base : Nat) (S : ba_S) (m : ba_M) (o t : Nat) : List Value := (List.range (nF t)).map fun k => fV base S m o (fc (fY t k)) k
def cE (base : Nat) (G : ba_G) (S : ba_S) (m : ba_M) (o : Nat) : va_E :=
  if kT S o = 20 then .inl (G.1, kL S o, .inl (fun j => gI m o j))
  else if kT S o = 21 then .inl (G.2.1, kL S o, .inr (.inl (fun j => gL m o j)))
  else if kT S o = 22 then .inl (G.2.2.1, kL S o, .inr (.inr (.inr (.inr (fun j => (gR S o j).map (base + ·))))))
  else if kT S o = 23 then .inl (G.2.2.2, kL S o, .inr (.inr (.inr (.inr (fun j => (gR S o j).map (base + ·))))))
  else .inr (kT S o, oF base S m o (kT S o))
def wls (base : Nat) (G : ba_G) (S : ba_S) (m : ba_M) : va_W := (List.range (nN S)).map fun o => (base + o, cE base G S m o)
def Wd (D : va_G) (G : ba_G) (base : Nat) (S : ba_S) (m : ba_M) (H : Heap) : Prop := va_P D vwCl (wls base G S m) H ∧ H.size = base + nN S
theorem wls_at {base : Nat} {G : ba_G} {S : ba_S} {m : ba_M} {o : Nat} (h : o < nN S) : (wls base G S m)[o]? = some (base + o, cE base G S m o) := by
  simp [wls, List.getElem?_map, List.getElem?_range h]
theorem wls_len {base : Nat} {G : ba_G} {S : ba_S} {m : ba_M} : (wls base G S m).length = nN S := by simp [wls]
theorem wls_D {base : Nat} {G : ba_G} {S : ba_S} {m : ba_M} : va_D (fun a => base ≤ a) (wls base G S m) := by
  have key : ∀ (k : Nat) (q : Nat × va_E), (wls base G S m)[k]? = some q → q.1 = base + k := by
    intro k q h
    have hk : k < nN S := by
      have := (List.getElem?_eq_some_iff.mp h).1
      rwa [wls_len] at this
    rw [wls_at hk] at h
    cases h
    rfl
  refine ⟨fun i j p q hi hj h => ?_, fun k q h => ?_⟩
  · rw [key i p hi, key j q hj] at h
    omega
  · rw [key k q h]
    exact Nat.le_add_right _ _
theorem wls_set {base : Nat} {G : ba_G} {S S' : ba_S} {m m' : ba_M} {o : Nat} {e : va_E} (hn : nN S' = nN S) (he : o < nN S → cE base G S' m' o = e) (hc : ∀ a, a ≠ o → cE base G S' m' a = cE base G S m a) : (wls base G S m).set o (base + o, e) = wls base G S' m' := by
  apply List.ext_getElem?
  intro k
  by_cases hk : k < nN S
  · rw [wls_at (S := S') (by rw [hn]; exact hk)]
    by_cases hko : k = o
    · subst hko
      rw [List.getElem?_set_self (by rw [wls_len]; exact hk), he hk]
    · rw [List.getElem?_set_ne (Ne.symm hko), wls_at hk, hc k hko]
  · rw [List.getElem?_eq_none (by rw [List.length_set, wls_len]; omega), List.getElem?_eq_none (by rw [wls_len, hn]; omega)]
/-- what a cell is, by its kind -/
theorem cE_i {base : Nat} {G : ba_G} {S : ba_S} {m : ba_M} {o : Nat} (h : kT S o = 20) : cE base G S m o = .inl (G.1, kL S o, .inl (fun j => gI m o j)) := by simp [cE, h]
theorem cE_l {base : Nat} {G : ba_G} {S : ba_S} {m : ba_M} {o : Nat} (h : kT S o = 21) : cE base G S m o = .inl (G.2.1, kL S o, .inr (.inl (fun j => gL m o j))) := by simp [cE, h]
theorem cE_p {base : Nat} {G : ba_G} {S : ba_S} {m : ba_M} {o : Nat} (h : kT S o = 22) : cE base G S m o = .inl (G.2.2.1, kL S o, .inr (.inr (.inr (.inr (fun j => (gR S o j).map (base + ·)))))) := by simp [cE, h]
theorem cE_t {base : Nat} {G : ba_G} {S : ba_S} {m : ba_M} {o : Nat} (h : kT S o = 23) : cE base G S m o = .inl (G.2.2.2, kL S o, .inr (.inr (.inr (.inr (fun j => (gR S o j).map (base + ·)))))) := by simp [cE, h]
theorem cE_o {base : Nat} {G : ba_G} {S : ba_S} {m : ba_M} {o t : Nat} (h : kT S o = t) (ht : t < 12) : cE base G S m o = .inr (t, oF base S m o t) := by
  subst h
  unfold cE
  rw [if_neg (by omega), if_neg (by omega), if_neg (by omega), if_neg (by omega)]
theorem oF_at {base : Nat} {S : ba_S} {m : ba_M} {o t k : Nat} (h : k < nF t) : (oF base S m o t)[k]? = some (fV base S m o (fc (fY t k)) k) := by
  simp [oF, List.getElem?_map, List.getElem?_range h]
theorem oF_len {base : Nat} {S : ba_S} {m : ba_M} {o t : Nat} : (oF base S m o t).length = nF t := by simp [oF]
theorem oF_set {base : Nat} {S S' : ba_S} {m m' : ba_M} {o t k : Nat} {v : Value} (hv : k < nF t → fV base S' m' o (fc (fY t k)) k = v) (hc : ∀ j, j ≠ k → fV base S' m' o (fc (fY t j)) j = fV base S m o (fc (fY t j)) j) : (oF base S m o t).set k v = oF base S' m' o t := by
  apply List.ext_getElem?
  intro j
  by_cases hj : j < nF t
  · rw [oF_at (S := S') hj]
    by_cases h : j = k
    · subst h
      rw [List.getElem?_set_self (by rw [oF_len]; exact hj), hv hj]
    · rw [List.getElem?_set_ne (Ne.symm h), oF_at hj, hc j h]
  · rw [List.getElem?_eq_none (by rw [List.length_set, oF_len]; omega), List.getElem?_eq_none (by rw [oF_len]; omega)]
theorem fV_of {base : Nat} {S S' : ba_S} {m m' : ba_M} {o k c : Nat} (h1 : gI m' o k = gI m o k) (h2 : gL m' o k = gL m o k) (h3 : gR S' o k = gR S o k) : fV base S' m' o c k = fV base S m o c k := by
  match c with
  | 0 => simp [fV, h1]
  | 1 => simp [fV, h2]
  | c + 2 => simp [fV, h3]
theorem oF_of {base : Nat} {S S' : ba_S} {m m' : ba_M} {o t : Nat} (h1 : ∀ k, gI m' o k = gI m o k) (h2 : ∀ k, gL m' o k = gL m o k) (h3 : ∀ k, gR S' o k = gR S o k) : oF base S' m' o t = oF base S m o t := by
  unfold oF
  exact List.map_congr_left fun k _ => fV_of (h1 k) (h2 k) (h3 k)
theorem cE_of {base : Nat} {G : ba_G} {S S' : ba_S} {m m' : ba_M} {o : Nat} (h0 : S'.2.1 o = S.2.1 o) (h1 : ∀ k, gI m' o k = gI m o k) (h2 : ∀ k, gL m' o k = gL m o k) (h3 : ∀ k, gR S' o k = gR S o k) : cE base G S' m' o = cE base G S m o := by
  have e1 : kT S' o = kT S o := by simp [kT, h0]
  have e2 : kL S' o = kL S o := by simp [kL, h0]
  unfold cE
  simp only [e1, e2, h1, h2, h3, oF_of h1 h2 h3]
theorem gI_s (m : ba_M) (o k : Nat) (x : Int32) : gI (wI m o k x) o k = x := by simp [gI, wI]
theorem gI_n (m : ba_M) (o k a j : Nat) (x : Int32) (h : ¬ (a = o ∧ j = k)) : gI (wI m o k x) a j = gI m a j := by simp only [gI, wI]; rw [if_neg h]
theorem gI_wI (m : ba_M) (o k a j : Nat) (x : Int32) : gI (wI m o k x) a j = if a = o ∧ j = k then x else gI m a j := rfl
theorem gL_wL (m : ba_M) (o k a j : Nat) (x : Int64) : gL (wL m o k x) a j = if a = o ∧ j = k then x else gL m a j := rfl
theorem gL_wI (m : ba_M) (o k a j : Nat) (x : Int32) : gL (wI m o k x) a j = gL m a j := rfl
theorem gI_wL (m : ba_M) (o k a j : Nat) (x : Int64) : gI (wL m o k x) a j = gI m a j := rfl
/-! the judgement -/
abbrev ba_Y (ρ : Type) : Type := ByteArray × String × Nat × Instr × Nat × Nat × Bool × Option (Nat × (Nat → Int32)) × (ρ → Option ba_A × ba_S × ba_M)
abbrev yC {ρ : Type} (Y : ba_Y ρ) : ByteArray := Y.1
abbrev yO {ρ : Type} (Y : ba_Y ρ) : String := Y.2.1
abbrev yN {ρ : Type} (Y : ba_Y ρ) : Nat := Y.2.2.1
abbrev yR {ρ : Type} (Y : ba_Y ρ) : Instr := Y.2.2.2.1
abbrev yF {ρ : Type} (Y : ba_Y ρ) : Nat := Y.2.2.2.2.1
abbrev yL {ρ : Type} (Y : ba_Y ρ) : Nat := Y.2.2.2.2.2.1
abbrev yI {ρ : Type} (Y : ba_Y ρ) : Bool := Y.2.2.2.2.2.2.1
abbrev yX {ρ : Type} (Y : ba_Y ρ) : Option (Nat × (Nat → Int32)) := Y.2.2.2.2.2.2.2.1
abbrev yE {ρ : Type} (Y : ba_Y ρ) : ρ → Option ba_A × ba_S × ba_M := Y.2.2.2.2.2.2.2.2
/-- what is not carried by the words: calls into a nest mate, and the classes of the two arrays of references -/
def ba_nest : Cond → Bool
  | .methodLinkNest .. => true
  | _ => false
def TB (U : State) : Prop := (∀ w ∈ lw_tbl, ba_nest w = true → w.before #[] U = true) ∧ va_AO RX2 U ∧ va_AO RX10 U
theorem TB.warm {s U : State} (hW : s.WarmedH U.vm) (h : TB s) : TB U := by
  refine ⟨fun w hw hn => ?_, h.2.1.moved hW.alike, h.2.2.moved hW.alike⟩
  have h1 := h.1 w hw hn
  cases w <;> first | (simp [ba_nest] at hn; done) | exact va_Nw.warmM hW h1
theorem TB.same {u U : State} (hv : u.vm = U.vm) (h : TB u) : TB U := by
  refine ⟨fun w hw hn => ?_, va_AO.moved (by rw [hv]; exact Vm.Alike.refl _) h.2.1, va_AO.moved (by rw [hv]; exact Vm.Alike.refl _) h.2.2⟩
  have h1 := h.1 w hw hn
  cases w <;> first | (simp [ba_nest] at hn; done) | exact va_Nw.same rfl hv h1
def CX {ρ : Type} (Y : ba_Y ρ) (p : Program) (R : Room) (s : State) (mid : MethodId) (args : Array Value) (meth : Method) (c : Code) (H0 : Heap) (D : va_G) (G : ba_G) (base b : Nat) : Prop :=
  p.tables.exec = Jvm.exec ∧ c.code = yC Y ∧ c.maxLocals = yN Y ∧ s.vm.findClass (yO Y) = some mid.cls ∧ (∀ w ∈ lw_tbl, goodWord w = true → w.before args s = true) ∧ yF Y ≤ R.frames ∧ yL Y ≤ R.locals ∧ (va_K D vwCl (tyl G) s ∧ TB s) ∧ base ≤ H0.size ∧ (yI Y = true → meth.name = "<init>") ∧ ∀ L xs, yX Y = some (L, xs) → va_X b L xs s H0 ∧ b < H0.size ∧ b < base
def EN {ρ : Type} (Y : ba_Y ρ) (q : ρ) (p : Program) (l : Launch) (e : Env) (R : Room) (s : State) (mid : MethodId) (args : Array Value) (below : List Frame) (meth : Method) (c : Code) (H0 : Heap) (D : va_G) (G : ba_G) (base b n0 s0 : Nat) (Q : State → Prop) : Prop :=
  nN (yE Y q).2.1 - n0 ≤ R.cells ∧ nS (yE Y q).2.1 - s0 ≤ R.slots ∧ ∀ (H1 : Heap) (locs1 : List Loc) (ls1 : Array Slot) (pc1 : Nat), Wd D G base (yE Y q).2.1 (yE Y q).2.2 H1 → va_S (fun a => base ≤ a) H0 H1 locs1 → decode (yC Y) pc1 = .ok (yR Y, 1) →
    W p l e R s mid args below meth c H1 locs1 (nN (yE Y q).2.1 - n0) (nS (yE Y q).2.1 - s0) Q (F0 mid pc1 ls1 ((yE Y q).1.toList.map (cv base b)))
def AW {ρ : Type} (Y : ba_Y ρ) (pc : Nat) (L : List (Option ba_A)) (st : List ba_A) (S : ba_S) (m : ba_M) (o : Option ρ) : Prop :=
  ∀ q, o = some q → (nN S ≤ nN (yE Y q).2.1 ∧ nS S ≤ nS (yE Y q).2.1) ∧
    ∀ (p : Program) (l : Launch) (e : Env) (R : Room) (s : State) (mid : MethodId) (args : Array Value) (below : List Frame) (meth : Method) (c : Code) (H0 : Heap) (D : va_G) (G : ba_G) (base b n0 s0 : Nat) (Q : State → Prop),
      CX Y p R s mid args meth c H0 D G base b → EN Y q p l e R s mid args below meth c H0 D G base b n0 s0 Q → ∀ (H : Heap) (locs : List Loc) (ls : Array Slot), Wd D G base S m H → va_S (fun a => base ≤ a) H0 H locs → LH base b (yN Y) ls L → n0 ≤ nN S → s0 ≤ nS S →
        W p l e R s mid args below meth c H locs (nN S - n0) (nS S - s0) Q (F0 mid pc ls (st.map (cv base b)))
section AWS
variable {ρ : Type} {Y : ba_Y ρ} {pc : Nat} {L : List (Option ba_A)} {st : List ba_A} {S : ba_S} {m : ba_M} {o : Option ρ}
theorem AW.none : AW Y pc L st S m (none : Option ρ) := fun _ h => by cases h
/-- one instruction that leaves the memory as it is -/
theorem AW.step {pc' : Nat} {L' : List (Option ba_A)} {st' : List ba_A} (k : AW Y pc' L' st' S m o)
    (h : ∀ (p : Program) (l : Launch) (e : Env) (R : Room) (s : State) (mid : MethodId) (args : Array Value) (below : List Frame) (meth : Method) (c : Code) (H0 : Heap) (D : va_G) (G : ba_G) (base b cells slots : Nat) (Q : State → Prop) (H : Heap) (locs : List Loc) (ls : Array Slot),
      CX Y p R s mid args meth c H0 D G base b → Wd D G base S m H → va_S (fun a => base ≤ a) H0 H locs → LH base b (yN Y) ls L →
      (∀ ls', LH base b (yN Y) ls' L' → W p l e R s mid args below meth c H locs cells slots Q (F0 mid pc' ls' (st'.map (cv base b)))) → W p l e R s mid args below meth c H locs cells slots Q (F0 mid pc ls (st.map (cv base b)))) : AW Y pc L st S m o := by
  intro q hq
  obtain ⟨h1, h2⟩ := k q hq
  refine ⟨h1, ?_⟩
  intro p l e R s mid args below meth c H0 D G base b n0 s0 Q X E H locs ls hW hS hL hn hs
  exact h p l e R s mid args below meth c H0 D G base b _ _ Q H locs ls X hW hS hL (fun ls' hL' => h2 p l e R s mid args below meth c H0 D G base b n0 s0 Q X E H locs ls' hW hS hL' hn hs)
theorem AW.weak {L' : List (Option ba_A)} (hw : Lw L L') (k : AW Y pc L' st S m o) : AW Y pc L st S m o :=
  k.step fun p l e R s mid args below meth c H0 D G base b cells slots Q H locs ls X hW hS hL kk => kk ls (hL.weak hw)
theorem AW.if {c : Prop} [Decidable c] {o1 o2 : Option ρ} (h1 : c → AW Y pc L st S m o1) (h2 : ¬ c → AW Y pc L st S m o2) : AW Y pc L st S m (if c then o1 else o2) := by
  by_cases h : c
  · rw [if_pos h]; exact h1 h
  · rw [if_neg h]; exact h2 h
theorem AW.ret {q : ρ} {v : Option ba_A} (hd : decode (yC Y) pc = .ok (yR Y, 1)) (he : yE Y q = (v, S, m)) (hs : v.toList = st) : AW Y pc L st S m (some q) := by
  intro q' hq
  cases hq
  rw [he]
  refine ⟨⟨Nat.le_refl _, Nat.le_refl _⟩, ?_⟩
  intro p l e R s mid args below meth c H0 D G base b n0 s0 Q X E H locs ls hW hS hL hn hs'
  have := E.2.2 H locs ls pc (by rw [he]; exact hW) hS hd
  rw [he] at this
  dsimp only at this
  rw [hs] at this
  exact this
end AWS
end
section
section AWR
variable {ρ : Type} {Y : ba_Y ρ} {pc : Nat} {L : List (Option ba_A)} {st : List ba_A} {S : ba_S} {m : ba_M} {o : Option ρ}
theorem a_iconst {n : Int} {v : Int32} (hd : decode (yC Y) pc = .ok (.iconst n, 1)) (hv : Int32.ofInt n = v) (k : AW Y (pc + 1) L (aI v :: st) S m o) : AW Y pc L (st) S m o :=
  k.step fun p l e R s mid args below meth c H0 D G base b cells slots Q H locs ls X hW hS hL kk => lv_iconst X.1 X.2.1 hd hv (kk ls hL)
theorem a_bipush {n : Int} {v : Int32} (hd : decode (yC Y) pc = .ok (.bipush n, 2)) (hv : (Int8.ofInt n).toInt32 = v) (k : AW Y (pc + 2) L (aI v :: st) S m o) : AW Y pc L (st) S m o :=
  k.step fun p l e R s mid args below meth c H0 D G base b cells slots Q H locs ls X hW hS hL kk => lv_bipush X.1 X.2.1 hd hv (kk ls hL)
theorem a_sipush {n : Int} {v : Int32} (hd : decode (yC Y) pc = .ok (.sipush n, 3)) (hv : (Int16.ofInt n).toInt32 = v) (k : AW Y (pc + 3) L (aI v :: st) S m o) : AW Y pc L (st) S m o :=
  k.step fun p l e R s mid args below meth c H0 D G base b cells slots Q H locs ls X hW hS hL kk => lv_sipush X.1 X.2.1 hd hv (kk ls hL)
theorem a_lconst {n : Fin 2} {v : Int64} (hd : decode (yC Y) pc = .ok (.lconst n, 1)) (hv : Int64.ofNat (n : Nat) = v) (k : AW Y (pc + 1) L (aJ v :: st) S m o) : AW Y pc L (st) S m o :=
  k.step fun p l e R s mid args below meth c H0 D G base b cells slots Q H locs ls X hW hS hL kk => lv_lconst X.1 X.2.1 hd hv (kk ls hL)
theorem a_aconst_null  (hd : decode (yC Y) pc = .ok (.aconst_null, 1))  (k : AW Y (pc + 1) L (aR none :: st) S m o) : AW Y pc L (st) S m o :=
  k.step fun p l e R s mid args below meth c H0 D G base b cells slots Q H locs ls X hW hS hL kk => lv_null X.1 X.2.1 hd  (kk ls hL)
theorem a_iload_n {n : Fin 4} {x : Int32} (hd : decode (yC Y) pc = .ok (.iload_n n, 1)) (hl : Lg L n = some (aI x)) (k : AW Y (pc + 1) L (aI x :: st) S m o) : AW Y pc L (st) S m o :=
  k.step fun p l e R s mid args below meth c H0 D G base b cells slots Q H locs ls X hW hS hL kk => lv_iload_n X.1 X.2.1 hd rfl (hL.get hl) (kk ls hL)
theorem a_iload {i : Nat} {x : Int32} (hd : decode (yC Y) pc = .ok (.iload i, 2)) (hl : Lg L i = some (aI x)) (k : AW Y (pc + 2) L (aI x :: st) S m o) : AW Y pc L (st) S m o :=
  k.step fun p l e R s mid args below meth c H0 D G base b cells slots Q H locs ls X hW hS hL kk => lv_iload X.1 X.2.1 hd (hL.get hl) (kk ls hL)
theorem a_lload_n {n : Fin 4} {x : Int64} (hd : decode (yC Y) pc = .ok (.lload_n n, 1)) (hl : Lg L n = some (aJ x)) (k : AW Y (pc + 1) L (aJ x :: st) S m o) : AW Y pc L (st) S m o :=
  k.step fun p l e R s mid args below meth c H0 D G base b cells slots Q H locs ls X hW hS hL kk => lv_lload_n X.1 X.2.1 hd rfl (hL.get hl) (kk ls hL)
theorem a_lload {i : Nat} {x : Int64} (hd : decode (yC Y) pc = .ok (.lload i, 2)) (hl : Lg L i = some (aJ x)) (k : AW Y (pc + 2) L (aJ x :: st) S m o) : AW Y pc L (st) S m o :=
  k.step fun p l e R s mid args below meth c H0 D G base b cells slots Q H locs ls X hW hS hL kk => lv_lload X.1 X.2.1 hd (hL.get hl) (kk ls hL)
theorem a_iadd {x y : Int32} (hd : decode (yC Y) pc = .ok (.iadd, 1))  (k : AW Y (pc + 1) L (aI (x + y) :: st) S m o) : AW Y pc L (aI y :: aI x :: st) S m o :=
  k.step fun p l e R s mid args below meth c H0 D G base b cells slots Q H locs ls X hW hS hL kk => lv_iadd X.1 X.2.1 hd  (kk ls hL)
theorem a_isub {x y : Int32} (hd : decode (yC Y) pc = .ok (.isub, 1))  (k : AW Y (pc + 1) L (aI (x - y) :: st) S m o) : AW Y pc L (aI y :: aI x :: st) S m o :=
  k.step fun p l e R s mid args below meth c H0 D G base b cells slots Q H locs ls X hW hS hL kk => lv_isub X.1 X.2.1 hd  (kk ls hL)
theorem a_imul {x y : Int32} (hd : decode (yC Y) pc = .ok (.imul, 1))  (k : AW Y (pc + 1) L (aI (x * y) :: st) S m o) : AW Y pc L (aI y :: aI x :: st) S m o :=
  k.step fun p l e R s mid args below meth c H0 D G base b cells slots Q H locs ls X hW hS hL kk => lv_imul X.1 X.2.1 hd  (kk ls hL)
theorem a_iand {x y : Int32} (hd : decode (yC Y) pc = .ok (.iand, 1))  (k : AW Y (pc + 1) L (aI (x &&& y) :: st) S m o) : AW Y pc L (aI y :: aI x :: st) S m o :=
  k.step fun p l e R s mid args below meth c H0 D G base b cells slots Q H locs ls X hW hS hL kk => lv_iand X.1 X.2.1 hd  (kk ls hL)
theorem a_ior {x y : Int32} (hd : decode (yC Y) pc = .ok (.ior, 1))  (k : AW Y (pc + 1) L (aI (x ||| y) :: st) S m o) : AW Y pc L (aI y :: aI x :: st) S m o :=
  k.step fun p l e R s mid args below meth c H0 D G base b cells slots Q H locs ls X hW hS hL kk => lv_ior X.1 X.2.1 hd  (kk ls hL)
theorem a_ixor {x y : Int32} (hd : decode (yC Y) pc = .ok (.ixor, 1))  (k : AW Y (pc + 1) L (aI (x ^^^ y) :: st) S m o) : AW Y pc L (aI y :: aI x :: st) S m o :=
  k.step fun p l e R s mid args below meth c H0 D G base b cells slots Q H locs ls X hW hS hL kk => lv_ixor X.1 X.2.1 hd  (kk ls hL)
theorem a_ishl {x y : Int32} (hd : decode (yC Y) pc = .ok (.ishl, 1))  (k : AW Y (pc + 1) L (aI (x <<< (y &&& 31)) :: st) S m o) : AW Y pc L (aI y :: aI x :: st) S m o :=
  k.step fun p l e R s mid args below meth c H0 D G base b cells slots Q H locs ls X hW hS hL kk => lv_ishl X.1 X.2.1 hd  (kk ls hL)
theorem a_ishr {x y : Int32} (hd : decode (yC Y) pc = .ok (.ishr, 1))  (k : AW Y (pc + 1) L (aI (x >>> (y &&& 31)) :: st) S m o) : AW Y pc L (aI y :: aI x :: st) S m o :=
  k.step fun p l e R s mid args below meth c H0 D G base b cells slots Q H locs ls X hW hS hL kk => lv_ishr X.1 X.2.1 hd  (kk ls hL)
theorem a_ineg {x : Int32} (hd : decode (yC Y) pc = .ok (.ineg, 1))  (k : AW Y (pc + 1) L (aI (-x) :: st) S m o) : AW Y pc L (aI x :: st) S m o :=
  k.step fun p l e R s mid args below meth c H0 D G base b cells slots Q H locs ls X hW hS hL kk => lv_ineg X.1 X.2.1 hd  (kk ls hL)
theorem a_ladd {x y : Int64} (hd : decode (yC Y) pc = .ok (.ladd, 1))  (k : AW Y (pc + 1) L (aJ (x + y) :: st) S m o) : AW Y pc L (aJ y :: aJ x :: st) S m o :=
  k.step fun p l e R s mid args below meth c H0 D G base b cells slots Q H locs ls X hW hS hL kk => lv_ladd X.1 X.2.1 hd  (kk ls hL)
theorem a_lsub {x y : Int64} (hd : decode (yC Y) pc = .ok (.lsub, 1))  (k : AW Y (pc + 1) L (aJ (x - y) :: st) S m o) : AW Y pc L (aJ y :: aJ x :: st) S m o :=
  k.step fun p l e R s mid args below meth c H0 D G base b cells slots Q H locs ls X hW hS hL kk => lv_lsub X.1 X.2.1 hd  (kk ls hL)
theorem a_lmul {x y : Int64} (hd : decode (yC Y) pc = .ok (.lmul, 1))  (k : AW Y (pc + 1) L (aJ (x * y) :: st) S m o) : AW Y pc L (aJ y :: aJ x :: st) S m o :=
  k.step fun p l e R s mid args below meth c H0 D G base b cells slots Q H locs ls X hW hS hL kk => lv_lmul X.1 X.2.1 hd  (kk ls hL)
theorem a_land {x y : Int64} (hd : decode (yC Y) pc = .ok (.land, 1))  (k : AW Y (pc + 1) L (aJ (x &&& y) :: st) S m o) : AW Y pc L (aJ y :: aJ x :: st) S m o :=
  k.step fun p l e R s mid args below meth c H0 D G base b cells slots Q H locs ls X hW hS hL kk => lv_land X.1 X.2.1 hd  (kk ls hL)
theorem a_lor {x y : Int64} (hd : decode (yC Y) pc = .ok (.lor, 1))  (k : AW Y (pc + 1) L (aJ (x ||| y) :: st) S m o) : AW Y pc L (aJ y :: aJ x :: st) S m o :=
  k.step fun p l e R s mid args below meth c H0 D G base b cells slots Q H locs ls X hW hS hL kk => lv_lor X.1 X.2.1 hd  (kk ls hL)
theorem a_lshl {x : Int64} {y : Int32} (hd : decode (yC Y) pc = .ok (.lshl, 1))  (k : AW Y (pc + 1) L (aJ (x <<< (y.toInt64 &&& 63)) :: st) S m o) : AW Y pc L (aI y :: aJ x :: st) S m o :=
  k.step fun p l e R s mid args below meth c H0 D G base b cells slots Q H locs ls X hW hS hL kk => lv_lshl X.1 X.2.1 hd rfl (kk ls hL)
theorem a_lshr {x : Int64} {y : Int32} (hd : decode (yC Y) pc = .ok (.lshr, 1))  (k : AW Y (pc + 1) L (aJ (x >>> (y.toInt64 &&& 63)) :: st) S m o) : AW Y pc L (aI y :: aJ x :: st) S m o :=
  k.step fun p l e R s mid args below meth c H0 D G base b cells slots Q H locs ls X hW hS hL kk => lv_lshr X.1 X.2.1 hd rfl (kk ls hL)
theorem a_lushr {x : Int64} {y : Int32} (hd : decode (yC Y) pc = .ok (.lushr, 1))  (k : AW Y (pc + 1) L (aJ (x.toUInt64 >>> (y.toInt64.toUInt64 &&& Int64.toUInt64 63)).toInt64 :: st) S m o) : AW Y pc L (aI y :: aJ x :: st) S m o :=
  k.step fun p l e R s mid args below meth c H0 D G base b cells slots Q H locs ls X hW hS hL kk => lv_lushr X.1 X.2.1 hd rfl (kk ls hL)
theorem a_i2l {x : Int32} (hd : decode (yC Y) pc = .ok (.i2l, 1))  (k : AW Y (pc + 1) L (aJ x.toInt64 :: st) S m o) : AW Y pc L (aI x :: st) S m o :=
  k.step fun p l e R s mid args below meth c H0 D G base b cells slots Q H locs ls X hW hS hL kk => lv_i2l X.1 X.2.1 hd rfl (kk ls hL)
theorem a_l2i {x : Int64} (hd : decode (yC Y) pc = .ok (.l2i, 1))  (k : AW Y (pc + 1) L (aI x.toInt32 :: st) S m o) : AW Y pc L (aJ x :: st) S m o :=
  k.step fun p l e R s mid args below meth c H0 D G base b cells slots Q H locs ls X hW hS hL kk => lv_l2i X.1 X.2.1 hd rfl (kk ls hL)
theorem a_lcmp {x y : Int64} (hd : decode (yC Y) pc = .ok (.lcmp, 1))  (k : AW Y (pc + 1) L (aI (lg_cmp x y) :: st) S m o) : AW Y pc L (aJ y :: aJ x :: st) S m o :=
  k.step fun p l e R s mid args below meth c H0 D G base b cells slots Q H locs ls X hW hS hL kk => W.lcmp X.1 X.2.1 hd  (kk ls hL)
theorem a_dup {v : ba_A} (hd : decode (yC Y) pc = .ok (.dup, 1)) (hv : a2 v = false) (k : AW Y (pc + 1) L (v :: v :: st) S m o) : AW Y pc L (v :: st) S m o :=
  k.step fun p l e R s mid args below meth c H0 D G base b cells slots Q H locs ls X hW hS hL kk => lv_dup X.1 X.2.1 hd (cv_a2 base b hv) (kk ls hL)
theorem a_pop {v : ba_A} (hd : decode (yC Y) pc = .ok (.pop, 1)) (hv : a2 v = false) (k : AW Y (pc + 1) L (st) S m o) : AW Y pc L (v :: st) S m o :=
  k.step fun p l e R s mid args below meth c H0 D G base b cells slots Q H locs ls X hW hS hL kk => lv_pop X.1 X.2.1 hd (cv_a2 base b hv) (kk ls hL)
theorem a_dup2 {v w : ba_A} (hd : decode (yC Y) pc = .ok (.dup2, 1)) (hv : a2 v = false) (hw : a2 w = false) (k : AW Y (pc + 1) L (v :: w :: v :: w :: st) S m o) : AW Y pc L (v :: w :: st) S m o :=
  k.step fun p l e R s mid args below meth c H0 D G base b cells slots Q H locs ls X hW hS hL kk => lv_dup2_11 X.1 X.2.1 hd (cv_a2 base b hv) (cv_a2 base b hw) (kk ls hL)
theorem a_dup2J {x : Int64} (hd : decode (yC Y) pc = .ok (.dup2, 1))  (k : AW Y (pc + 1) L (aJ x :: aJ x :: st) S m o) : AW Y pc L (aJ x :: st) S m o :=
  k.step fun p l e R s mid args below meth c H0 D G base b cells slots Q H locs ls X hW hS hL kk => lv_dup2_2 X.1 X.2.1 hd rfl (kk ls hL)
theorem a_goto {off : Int} {tgt : Nat} (hd : decode (yC Y) pc = .ok (.goto off, 3)) (ht : (pc : Int) + off = (tgt : Int)) (k : AW Y tgt L (st) S m o) : AW Y pc L (st) S m o :=
  k.step fun p l e R s mid args below meth c H0 D G base b cells slots Q H locs ls X hW hS hL kk => lv_goto X.1 X.2.1 hd ht (kk ls hL)
theorem a_istore_n {n : Fin 4} {x : Int32} (hd : decode (yC Y) pc = .ok (.istore_n n, 1)) (hn : decide ((n : Nat) < yN Y) = true) (hl : Ln L n = true) (k : AW Y (pc + 1) (Ls L n (some (aI x))) st S m o) : AW Y pc L (aI x :: st) S m o :=
  k.step fun p l e R s mid args below meth c H0 D G base b cells slots Q H locs ls X hW hS hL kk => lv_istore_n X.1 X.2.1 hd rfl hL (of_decide_eq_true hn) rfl (fun ls' h => kk ls' (LH.s1 (base := base) (b := b) hl rfl h))
theorem a_istore {n : Nat} {x : Int32} (hd : decode (yC Y) pc = .ok (.istore n, 2)) (hn : decide ((n : Nat) < yN Y) = true) (hl : Ln L n = true) (k : AW Y (pc + 2) (Ls L n (some (aI x))) st S m o) : AW Y pc L (aI x :: st) S m o :=
  k.step fun p l e R s mid args below meth c H0 D G base b cells slots Q H locs ls X hW hS hL kk => lv_istore X.1 X.2.1 hd  hL (of_decide_eq_true hn) rfl (fun ls' h => kk ls' (LH.s1 (base := base) (b := b) hl rfl h))
theorem a_lstore_n {n : Fin 4} {x : Int64} (hd : decode (yC Y) pc = .ok (.lstore_n n, 1)) (hn : decide ((n : Nat) + 1 < yN Y) = true) (hl : Ln L n = true) (k : AW Y (pc + 1) (Ls (Ls L (n + 1) none) n (some (aJ x))) st S m o) : AW Y pc L (aJ x :: st) S m o :=
  k.step fun p l e R s mid args below meth c H0 D G base b cells slots Q H locs ls X hW hS hL kk => lv_lstore_n X.1 X.2.1 hd rfl hL (of_decide_eq_true hn) rfl (fun ls' h => kk ls' (LH.s2 (base := base) (b := b) hl rfl h))
theorem a_lstore {n : Nat} {x : Int64} (hd : decode (yC Y) pc = .ok (.lstore n, 2)) (hn : decide ((n : Nat) + 1 < yN Y) = true) (hl : Ln L n = true) (k : AW Y (pc + 2) (Ls (Ls L (n + 1) none) n (some (aJ x))) st S m o) : AW Y pc L (aJ x :: st) S m o :=
  k.step fun p l e R s mid args below meth c H0 D G base b cells slots Q H locs ls X hW hS hL kk => lv_lstore X.1 X.2.1 hd  hL (of_decide_eq_true hn) rfl (fun ls' h => kk ls' (LH.s2 (base := base) (b := b) hl rfl h))
theorem a_astore_n' {n : Fin 4} {x : Nat} (hd : decode (yC Y) pc = .ok (.astore_n n, 1)) (hn : decide ((n : Nat) < yN Y) = true) (hl : Ln L n = true) (k : AW Y (pc + 1) (Ls L n (some (aR (some x)))) st S m o) : AW Y pc L (aR (some x) :: st) S m o :=
  k.step fun p l e R s mid args below meth c H0 D G base b cells slots Q H locs ls X hW hS hL kk => lv_astore_n X.1 X.2.1 hd rfl hL (of_decide_eq_true hn) rfl (fun ls' h => kk ls' (LH.s1 (base := base) (b := b) hl rfl h))
theorem a_astore' {n : Nat} {x : Nat} (hd : decode (yC Y) pc = .ok (.astore n, 2)) (hn : decide ((n : Nat) < yN Y) = true) (hl : Ln L n = true) (k : AW Y (pc + 2) (Ls L n (some (aR (some x)))) st S m o) : AW Y pc L (aR (some x) :: st) S m o :=
  k.step fun p l e R s mid args below meth c H0 D G base b cells slots Q H locs ls X hW hS hL kk => lv_astore X.1 X.2.1 hd  hL (of_decide_eq_true hn) rfl (fun ls' h => kk ls' (LH.s1 (base := base) (b := b) hl rfl h))
theorem a_astore_nN {n : Fin 4} (hd : decode (yC Y) pc = .ok (.astore_n n, 1)) (hn : decide ((n : Nat) < yN Y) = true) (hl : Ln L n = true) (k : AW Y (pc + 1) (Ls L n (some (aR none))) st S m o) : AW Y pc L (aR none :: st) S m o :=
  k.step fun p l e R s mid args below meth c H0 D G base b cells slots Q H locs ls X hW hS hL kk => lv_astore_nN X.1 X.2.1 hd rfl hL (of_decide_eq_true hn) rfl (fun ls' h => kk ls' (LH.s1 (base := base) (b := b) hl rfl h))
theorem a_astoreN {n : Nat} (hd : decode (yC Y) pc = .ok (.astore n, 2)) (hn : decide ((n : Nat) < yN Y) = true) (hl : Ln L n = true) (k : AW Y (pc + 2) (Ls L n (some (aR none))) st S m o) : AW Y pc L (aR none :: st) S m o :=
  k.step fun p l e R s mid args below meth c H0 D G base b cells slots Q H locs ls X hW hS hL kk => lv_astoreN X.1 X.2.1 hd  hL (of_decide_eq_true hn) rfl (fun ls' h => kk ls' (LH.s1 (base := base) (b := b) hl rfl h))
theorem a_astore_n {n : Fin 4} {r : Option Nat} (hd : decode (yC Y) pc = .ok (.astore_n n, 1)) (hn : decide ((n : Nat) < yN Y) = true) (hl : Ln L n = true) (k : AW Y (pc + 1) (Ls L n (some (aR r))) st S m o) : AW Y pc L (aR r :: st) S m o := by
  cases r with
  | none => exact a_astore_nN hd hn hl k
  | some x => exact a_astore_n' hd hn hl k
theorem a_astore {n : Nat} {r : Option Nat} (hd : decode (yC Y) pc = .ok (.astore n, 2)) (hn : decide ((n : Nat) < yN Y) = true) (hl : Ln L n = true) (k : AW Y (pc + 2) (Ls L n (some (aR r))) st S m o) : AW Y pc L (aR r :: st) S m o := by
  cases r with
  | none => exact a_astoreN hd hn hl k
  | some x => exact a_astore' hd hn hl k
theorem a_aload_n1 {n : Fin 4} {x : Nat} (hd : decode (yC Y) pc = .ok (.aload_n n, 1)) (hl : Lg L n = some (aR (some x))) (k : AW Y (pc + 1) L (aR (some x) :: st) S m o) : AW Y pc L (st) S m o :=
  k.step fun p l e R s mid args below meth c H0 D G base b cells slots Q H locs ls X hW hS hL kk => lv_aload_n X.1 X.2.1 hd rfl (hL.get hl) (kk ls hL)
theorem a_aload_nN {n : Fin 4} (hd : decode (yC Y) pc = .ok (.aload_n n, 1)) (hl : Lg L n = some (aR none)) (k : AW Y (pc + 1) L (aR none :: st) S m o) : AW Y pc L (st) S m o :=
  k.step fun p l e R s mid args below meth c H0 D G base b cells slots Q H locs ls X hW hS hL kk => lv_aload_nN X.1 X.2.1 hd rfl (hL.get hl) (kk ls hL)
theorem a_aload_nX {n : Fin 4} (hd : decode (yC Y) pc = .ok (.aload_n n, 1)) (hl : Lg L n = some aX) (k : AW Y (pc + 1) L (aX :: st) S m o) : AW Y pc L (st) S m o :=
  k.step fun p l e R s mid args below meth c H0 D G base b cells slots Q H locs ls X hW hS hL kk => lv_aload_n X.1 X.2.1 hd rfl (hL.get hl) (kk ls hL)
theorem a_aload1 {i : Nat} {x : Nat} (hd : decode (yC Y) pc = .ok (.aload i, 2)) (hl : Lg L i = some (aR (some x))) (k : AW Y (pc + 2) L (aR (some x) :: st) S m o) : AW Y pc L (st) S m o :=
  k.step fun p l e R s mid args below meth c H0 D G base b cells slots Q H locs ls X hW hS hL kk => lv_aload X.1 X.2.1 hd (hL.get hl) (kk ls hL)
theorem a_aloadN {i : Nat} (hd : decode (yC Y) pc = .ok (.aload i, 2)) (hl : Lg L i = some (aR none)) (k : AW Y (pc + 2) L (aR none :: st) S m o) : AW Y pc L (st) S m o :=
  k.step fun p l e R s mid args below meth c H0 D G base b cells slots Q H locs ls X hW hS hL kk => lv_aloadN X.1 X.2.1 hd (hL.get hl) (kk ls hL)
theorem a_aload_n {n : Fin 4} {r : Option Nat} (hd : decode (yC Y) pc = .ok (.aload_n n, 1)) (hl : Lg L n = some (aR r)) (k : AW Y (pc + 1) L (aR r :: st) S m o) : AW Y pc L st S m o := by
  cases r with
  | none => exact a_aload_nN hd hl k
  | some x => exact a_aload_n1 hd hl k
theorem a_aload {i : Nat} {r : Option Nat} (hd : decode (yC Y) pc = .ok (.aload i, 2)) (hl : Lg L i = some (aR r)) (k : AW Y (pc + 2) L (aR r :: st) S m o) : AW Y pc L st S m o := by
  cases r with
  | none => exact a_aloadN hd hl k
  | some x => exact a_aload1 hd hl k
theorem a_iinc {i : Nat} {n : Int} {x v : Int32} (hd : decode (yC Y) pc = .ok (.iinc i n, 3)) (hl : Lg L i = some (aI x)) (hv : Int32.ofInt n = v) (hn : decide (i < yN Y) = true) (hL2 : Ln L i = true) (k : AW Y (pc + 3) (Ls L i (some (aI (x + v)))) st S m o) : AW Y pc L st S m o :=
  k.step fun p l e R s mid args below meth c H0 D G base b cells slots Q H locs ls X hW hS hL kk => by
    obtain ⟨j, hj⟩ := List.getElem?_of_mem (LH.in (base := base) (b := b) hl)
    exact lv_iinc (v := x + v) X.1 X.2.1 hd hL hj (by rw [hv]) (of_decide_eq_true hn) rfl (fun ls' h => kk ls' (LH.s1 (base := base) (b := b) hL2 rfl h))
theorem a_idiv {x y : Int32} (hd : decode (yC Y) pc = .ok (.idiv, 1)) (k : AW Y (pc + 1) L (aI (x / y) :: st) S m o) : AW Y pc L (aI y :: aI x :: st) S m (if y = 0 then none else o) :=
  AW.if (fun _ => AW.none) fun hz => k.step fun p l e R s mid args below meth c H0 D G base b cells slots Q H locs ls X hW hS hL kk => lv_idiv X.1 X.2.1 hd hz (kk ls hL)
theorem a_irem {x y : Int32} (hd : decode (yC Y) pc = .ok (.irem, 1)) (k : AW Y (pc + 1) L (aI (x - x / y * y) :: st) S m o) : AW Y pc L (aI y :: aI x :: st) S m (if y = 0 then none else o) :=
  AW.if (fun _ => AW.none) fun hz => k.step fun p l e R s mid args below meth c H0 D G base b cells slots Q H locs ls X hW hS hL kk => lv_irem X.1 X.2.1 hd hz (kk ls hL)
theorem a_ldiv {x y : Int64} (hd : decode (yC Y) pc = .ok (.ldiv, 1)) (k : AW Y (pc + 1) L (aJ (x / y) :: st) S m o) : AW Y pc L (aJ y :: aJ x :: st) S m (if y = 0 then none else o) :=
  AW.if (fun _ => AW.none) fun hz => k.step fun p l e R s mid args below meth c H0 D G base b cells slots Q H locs ls X hW hS hL kk => lv_ldiv X.1 X.2.1 hd hz (kk ls hL)
theorem a_lrem {x y : Int64} (hd : decode (yC Y) pc = .ok (.lrem, 1)) (k : AW Y (pc + 1) L (aJ (x - x / y * y) :: st) S m o) : AW Y pc L (aJ y :: aJ x :: st) S m (if y = 0 then none else o) :=
  AW.if (fun _ => AW.none) fun hz => k.step fun p l e R s mid args below meth c H0 D G base b cells slots Q H locs ls X hW hS hL kk => lv_lrem X.1 X.2.1 hd hz (kk ls hL)
theorem a_ilt {x y : Int32} {off : Int} {tgt : Nat} {o1 o2 : Option ρ} (hd : decode (yC Y) pc = .ok (.if_icmp .lt off, 3)) (ht : (pc : Int) + off = (tgt : Int)) (k1 : x < y → AW Y tgt L st S m o1) (k2 : ¬ (x < y) → AW Y (pc + 3) L st S m o2) : AW Y pc L (aI y :: aI x :: st) S m (if x < y then o1 else o2) :=
  AW.if (fun h => (k1 h).step fun p l e R s mid args below meth c H0 D G base b cells slots Q H locs ls X hW hS hL kk => lv_icmp_lt X.1 X.2.1 hd ht (fun _ => kk ls hL) (fun h' => absurd h h')) (fun h => (k2 h).step fun p l e R s mid args below meth c H0 D G base b cells slots Q H locs ls X hW hS hL kk => lv_icmp_lt X.1 X.2.1 hd ht (fun h' => absurd h' h) (fun _ => kk ls hL))
theorem a_ile {x y : Int32} {off : Int} {tgt : Nat} {o1 o2 : Option ρ} (hd : decode (yC Y) pc = .ok (.if_icmp .le off, 3)) (ht : (pc : Int) + off = (tgt : Int)) (k1 : x ≤ y → AW Y tgt L st S m o1) (k2 : ¬ (x ≤ y) → AW Y (pc + 3) L st S m o2) : AW Y pc L (aI y :: aI x :: st) S m (if x ≤ y then o1 else o2) :=
  AW.if (fun h => (k1 h).step fun p l e R s mid args below meth c H0 D G base b cells slots Q H locs ls X hW hS hL kk => lv_icmp_le X.1 X.2.1 hd ht (fun _ => kk ls hL) (fun h' => absurd h h')) (fun h => (k2 h).step fun p l e R s mid args below meth c H0 D G base b cells slots Q H locs ls X hW hS hL kk => lv_icmp_le X.1 X.2.1 hd ht (fun h' => absurd h' h) (fun _ => kk ls hL))
theorem a_igt {x y : Int32} {off : Int} {tgt : Nat} {o1 o2 : Option ρ} (hd : decode (yC Y) pc = .ok (.if_icmp .gt off, 3)) (ht : (pc : Int) + off = (tgt : Int)) (k1 : y < x → AW Y tgt L st S m o1) (k2 : ¬ (y < x) → AW Y (pc + 3) L st S m o2) : AW Y pc L (aI y :: aI x :: st) S m (if y < x then o1 else o2) :=
  AW.if (fun h => (k1 h).step fun p l e R s mid args below meth c H0 D G base b cells slots Q H locs ls X hW hS hL kk => lv_icmp_gt X.1 X.2.1 hd ht (fun _ => kk ls hL) (fun h' => absurd h h')) (fun h => (k2 h).step fun p l e R s mid args below meth c H0 D G base b cells slots Q H locs ls X hW hS hL kk => lv_icmp_gt X.1 X.2.1 hd ht (fun h' => absurd h' h) (fun _ => kk ls hL))
theorem a_ige {x y : Int32} {off : Int} {tgt : Nat} {o1 o2 : Option ρ} (hd : decode (yC Y) pc = .ok (.if_icmp .ge off, 3)) (ht : (pc : Int) + off = (tgt : Int)) (k1 : y ≤ x → AW Y tgt L st S m o1) (k2 : ¬ (y ≤ x) → AW Y (pc + 3) L st S m o2) : AW Y pc L (aI y :: aI x :: st) S m (if y ≤ x then o1 else o2) :=
  AW.if (fun h => (k1 h).step fun p l e R s mid args below meth c H0 D G base b cells slots Q H locs ls X hW hS hL kk => lv_icmp_ge X.1 X.2.1 hd ht (fun _ => kk ls hL) (fun h' => absurd h h')) (fun h => (k2 h).step fun p l e R s mid args below meth c H0 D G base b cells slots Q H locs ls X hW hS hL kk => lv_icmp_ge X.1 X.2.1 hd ht (fun h' => absurd h' h) (fun _ => kk ls hL))
theorem a_ieq {x y : Int32} {off : Int} {tgt : Nat} {o1 o2 : Option ρ} (hd : decode (yC Y) pc = .ok (.if_icmp .eq off, 3)) (ht : (pc : Int) + off = (tgt : Int)) (k1 : x = y → AW Y tgt L st S m o1) (k2 : ¬ (x = y) → AW Y (pc + 3) L st S m o2) : AW Y pc L (aI y :: aI x :: st) S m (if x = y then o1 else o2) :=
  AW.if (fun h => (k1 h).step fun p l e R s mid args below meth c H0 D G base b cells slots Q H locs ls X hW hS hL kk => lv_icmp_eq X.1 X.2.1 hd ht (fun _ => kk ls hL) (fun h' => absurd h h')) (fun h => (k2 h).step fun p l e R s mid args below meth c H0 D G base b cells slots Q H locs ls X hW hS hL kk => lv_icmp_eq X.1 X.2.1 hd ht (fun h' => absurd h' h) (fun _ => kk ls hL))
theorem a_zlt {x : Int32} {off : Int} {tgt : Nat} {o1 o2 : Option ρ} (hd : decode (yC Y) pc = .ok (.ifCond .lt off, 3)) (ht : (pc : Int) + off = (tgt : Int)) (k1 : x < 0 → AW Y tgt L st S m o1) (k2 : ¬ (x < 0) → AW Y (pc + 3) L st S m o2) : AW Y pc L (aI x :: st) S m (if x < 0 then o1 else o2) :=
  AW.if (fun h => (k1 h).step fun p l e R s mid args below meth c H0 D G base b cells slots Q H locs ls X hW hS hL kk => lv_if_lt X.1 X.2.1 hd ht (fun _ => kk ls hL) (fun h' => absurd h h')) (fun h => (k2 h).step fun p l e R s mid args below meth c H0 D G base b cells slots Q H locs ls X hW hS hL kk => lv_if_lt X.1 X.2.1 hd ht (fun h' => absurd h' h) (fun _ => kk ls hL))
theorem a_zle {x : Int32} {off : Int} {tgt : Nat} {o1 o2 : Option ρ} (hd : decode (yC Y) pc = .ok (.ifCond .le off, 3)) (ht : (pc : Int) + off = (tgt : Int)) (k1 : x ≤ 0 → AW Y tgt L st S m o1) (k2 : ¬ (x ≤ 0) → AW Y (pc + 3) L st S m o2) : AW Y pc L (aI x :: st) S m (if x ≤ 0 then o1 else o2) :=
  AW.if (fun h => (k1 h).step fun p l e R s mid args below meth c H0 D G base b cells slots Q H locs ls X hW hS hL kk => lv_if_le X.1 X.2.1 hd ht (fun _ => kk ls hL) (fun h' => absurd h h')) (fun h => (k2 h).step fun p l e R s mid args below meth c H0 D G base b cells slots Q H locs ls X hW hS hL kk => lv_if_le X.1 X.2.1 hd ht (fun h' => absurd h' h) (fun _ => kk ls hL))
theorem a_zgt {x : Int32} {off : Int} {tgt : Nat} {o1 o2 : Option ρ} (hd : decode (yC Y) pc = .ok (.ifCond .gt off, 3)) (ht : (pc : Int) + off = (tgt : Int)) (k1 : 0 < x → AW Y tgt L st S m o1) (k2 : ¬ (0 < x) → AW Y (pc + 3) L st S m o2) : AW Y pc L (aI x :: st) S m (if 0 < x then o1 else o2) :=
  AW.if (fun h => (k1 h).step fun p l e R s mid args below meth c H0 D G base b cells slots Q H locs ls X hW hS hL kk => lv_if_gt X.1 X.2.1 hd ht (fun _ => kk ls hL) (fun h' => absurd h h')) (fun h => (k2 h).step fun p l e R s mid args below meth c H0 D G base b cells slots Q H locs ls X hW hS hL kk => lv_if_gt X.1 X.2.1 hd ht (fun h' => absurd h' h) (fun _ => kk ls hL))
theorem a_zge {x : Int32} {off : Int} {tgt : Nat} {o1 o2 : Option ρ} (hd : decode (yC Y) pc = .ok (.ifCond .ge off, 3)) (ht : (pc : Int) + off = (tgt : Int)) (k1 : 0 ≤ x → AW Y tgt L st S m o1) (k2 : ¬ (0 ≤ x) → AW Y (pc + 3) L st S m o2) : AW Y pc L (aI x :: st) S m (if 0 ≤ x then o1 else o2) :=
  AW.if (fun h => (k1 h).step fun p l e R s mid args below meth c H0 D G base b cells slots Q H locs ls X hW hS hL kk => lv_if_ge X.1 X.2.1 hd ht (fun _ => kk ls hL) (fun h' => absurd h h')) (fun h => (k2 h).step fun p l e R s mid args below meth c H0 D G base b cells slots Q H locs ls X hW hS hL kk => lv_if_ge X.1 X.2.1 hd ht (fun h' => absurd h' h) (fun _ => kk ls hL))
theorem a_zeq {x : Int32} {off : Int} {tgt : Nat} {o1 o2 : Option ρ} (hd : decode (yC Y) pc = .ok (.ifCond .eq off, 3)) (ht : (pc : Int) + off = (tgt : Int)) (k1 : x = 0 → AW Y tgt L st S m o1) (k2 : ¬ (x = 0) → AW Y (pc + 3) L st S m o2) : AW Y pc L (aI x :: st) S m (if x = 0 then o1 else o2) :=
  AW.if (fun h => (k1 h).step fun p l e R s mid args below meth c H0 D G base b cells slots Q H locs ls X hW hS hL kk => lv_if_eq X.1 X.2.1 hd ht (fun _ => kk ls hL) (fun h' => absurd h h')) (fun h => (k2 h).step fun p l e R s mid args below meth c H0 D G base b cells slots Q H locs ls X hW hS hL kk => lv_if_eq X.1 X.2.1 hd ht (fun h' => absurd h' h) (fun _ => kk ls hL))
theorem a_ine {x y : Int32} {off : Int} {tgt : Nat} {o1 o2 : Option ρ} (hd : decode (yC Y) pc = .ok (.if_icmp .ne off, 3)) (ht : (pc : Int) + off = (tgt : Int)) (k1 : ¬ (x = y) → AW Y tgt L st S m o1) (k2 : x = y → AW Y (pc + 3) L st S m o2) : AW Y pc L (aI y :: aI x :: st) S m (if x = y then o2 else o1) :=
  AW.if (fun h => (k2 h).step fun p l e R s mid args below meth c H0 D G base b cells slots Q H locs ls X hW hS hL kk => lv_icmp_ne X.1 X.2.1 hd ht (fun h' => absurd h h') (fun _ => kk ls hL)) (fun h => (k1 h).step fun p l e R s mid args below meth c H0 D G base b cells slots Q H locs ls X hW hS hL kk => lv_icmp_ne X.1 X.2.1 hd ht (fun _ => kk ls hL) (fun h' => absurd h' h))
theorem a_zne {x : Int32} {off : Int} {tgt : Nat} {o1 o2 : Option ρ} (hd : decode (yC Y) pc = .ok (.ifCond .ne off, 3)) (ht : (pc : Int) + off = (tgt : Int)) (k1 : ¬ (x = 0) → AW Y tgt L st S m o1) (k2 : x = 0 → AW Y (pc + 3) L st S m o2) : AW Y pc L (aI x :: st) S m (if x = 0 then o2 else o1) :=
  AW.if (fun h => (k2 h).step fun p l e R s mid args below meth c H0 D G base b cells slots Q H locs ls X hW hS hL kk => lv_if_ne X.1 X.2.1 hd ht (fun h' => absurd h h') (fun _ => kk ls hL)) (fun h => (k1 h).step fun p l e R s mid args below meth c H0 D G base b cells slots Q H locs ls X hW hS hL kk => lv_if_ne X.1 X.2.1 hd ht (fun _ => kk ls hL) (fun h' => absurd h' h))
theorem a_beq {z : Bool} {off : Int} {tgt : Nat} {o1 o2 : Option ρ} (hd : decode (yC Y) pc = .ok (.ifCond .eq off, 3)) (ht : (pc : Int) + off = (tgt : Int)) (k1 : z = false → AW Y tgt L st S m o2) (k2 : z = true → AW Y (pc + 3) L st S m o1) : AW Y pc L (aI (b2i z) :: st) S m (if z = true then o1 else o2) :=
  AW.if (fun h => (k2 h).step fun p l e R s mid args below meth c H0 D G base b cells slots Q H locs ls X hW hS hL kk => lv_if_eq X.1 X.2.1 hd ht (fun h' => absurd h' (by rw [h]; decide)) (fun _ => kk ls hL)) (fun h => (k1 (by simpa using h)).step fun p l e R s mid args below meth c H0 D G base b cells slots Q H locs ls X hW hS hL kk => lv_if_eq X.1 X.2.1 hd ht (fun _ => kk ls hL) (fun h' => absurd (by rw [show z = false by simpa using h]; decide) h'))
theorem a_bne {z : Bool} {off : Int} {tgt : Nat} {o1 o2 : Option ρ} (hd : decode (yC Y) pc = .ok (.ifCond .ne off, 3)) (ht : (pc : Int) + off = (tgt : Int)) (k1 : z = true → AW Y tgt L st S m o1) (k2 : z = false → AW Y (pc + 3) L st S m o2) : AW Y pc L (aI (b2i z) :: st) S m (if z = true then o1 else o2) :=
  AW.if (fun h => (k1 h).step fun p l e R s mid args below meth c H0 D G base b cells slots Q H locs ls X hW hS hL kk => lv_if_ne X.1 X.2.1 hd ht (fun _ => kk ls hL) (fun h' => absurd h' (by rw [h]; decide))) (fun h => (k2 (by simpa using h)).step fun p l e R s mid args below meth c H0 D G base b cells slots Q H locs ls X hW hS hL kk => lv_if_ne X.1 X.2.1 hd ht (fun h' => absurd (by rw [show z = false by simpa using h]; decide) h') (fun _ => kk ls hL))
def oN {α β : Type} (x : Option α) (n : β) (f : α → β) : β := match x with
  | none => n
  | some a => f a
theorem a_ifnull {x : Option Nat} {off : Int} {tgt : Nat} {o1 : Option ρ} {o2 : Nat → Option ρ} (hd : decode (yC Y) pc = .ok (.ifnull off, 3)) (ht : (pc : Int) + off = (tgt : Int)) (k1 : x = none → AW Y tgt L st S m o1) (k2 : ∀ a, x = some a → AW Y (pc + 3) L st S m (o2 a)) : AW Y pc L (aR x :: st) S m (oN x o1 o2) := by
  cases x with
  | none => exact (k1 rfl).step fun p l e R s mid args below meth c H0 D G base b cells slots Q H locs ls X hW hS hL kk => lv_ifnullN X.1 X.2.1 hd ht (kk ls hL)
  | some a => exact (k2 a rfl).step fun p l e R s mid args below meth c H0 D G base b cells slots Q H locs ls X hW hS hL kk => lv_ifnull X.1 X.2.1 hd (kk ls hL)
theorem a_ifnonnull {x : Option Nat} {off : Int} {tgt : Nat} {o1 : Option ρ} {o2 : Nat → Option ρ} (hd : decode (yC Y) pc = .ok (.ifnonnull off, 3)) (ht : (pc : Int) + off = (tgt : Int)) (k1 : x = none → AW Y (pc + 3) L st S m o1) (k2 : ∀ a, x = some a → AW Y tgt L st S m (o2 a)) : AW Y pc L (aR x :: st) S m (oN x o1 o2) := by
  cases x with
  | none => exact (k1 rfl).step fun p l e R s mid args below meth c H0 D G base b cells slots Q H locs ls X hW hS hL kk => lv_ifnonnullN X.1 X.2.1 hd (kk ls hL)
  | some a => exact (k2 a rfl).step fun p l e R s mid args below meth c H0 D G base b cells slots Q H locs ls X hW hS hL kk => lv_ifnonnull X.1 X.2.1 hd ht (kk ls hL)
theorem a_tabIn {dflt lo hi : Int} {offs : Array Int} {len : Nat} {x : Int32} {off : Int} {tgt : Nat} (hd : decode (yC Y) pc = .ok (.tableswitch dflt lo hi offs, len)) (h1 : ¬ x.toInt < lo) (h2 : ¬ hi < x.toInt) (ho : offs[(x.toInt - lo).toNat]? = some off) (ht : (pc : Int) + off = (tgt : Int)) (k : AW Y tgt L st S m o) : AW Y pc L (aI x :: st) S m o :=
  k.step fun p l e R s mid args below meth c H0 D G base b cells slots Q H locs ls X hW hS hL kk => lv_tableIn X.1 X.2.1 hd h1 h2 ho ht (kk ls hL)
theorem a_tabOut {dflt lo hi : Int} {offs : Array Int} {len : Nat} {x : Int32} {tgt : Nat} (hd : decode (yC Y) pc = .ok (.tableswitch dflt lo hi offs, len)) (h : x.toInt < lo ∨ hi < x.toInt) (ht : (pc : Int) + dflt = (tgt : Int)) (k : AW Y tgt L st S m o) : AW Y pc L (aI x :: st) S m o :=
  k.step fun p l e R s mid args below meth c H0 D G base b cells slots Q H locs ls X hW hS hL kk => lv_tableOut X.1 X.2.1 hd h ht (kk ls hL)
theorem a_look {dflt : Int} {ps : Array (Int × Int)} {len : Nat} {x : Int32} {off : Int} {tgt : Nat} (hd : decode (yC Y) pc = .ok (.lookupswitch dflt ps, len)) (hp : (ps.toList.zip (ps.toList.drop 1)).all (fun (a, next) => a.1 < next.1) = true) (ho : Op.lookupswitch.offset ps.toList dflt x.toInt = off) (ht : (pc : Int) + off = (tgt : Int)) (k : AW Y tgt L st S m o) : AW Y pc L (aI x :: st) S m o :=
  k.step fun p l e R s mid args below meth c H0 D G base b cells slots Q H locs ls X hW hS hL kk => lv_lookup X.1 X.2.1 hd hp ho ht (kk ls hL)
end AWR
end
section
/-! the memory's instructions, with the heap's size (the kit's rows, and the size beside) -/
section BW
variable {p : Program} {l : Launch} {e : Env} {R : Room} {s : State} {m : MethodId} {args : Array Value} {below : List Frame} {meth : Method} {c : Code} {H : Heap} {locs : List Loc} {cells slots : Nat} {Q : State → Prop}
variable {cc : ByteArray} {pc : Nat} {ls : Array Slot} {rest : List Value} {D : va_G} {cl : List vw_C} {A : Nat → Prop} {a : Nat} {tys : List (ClassId × FieldType)} {ws : va_W} {H0 : Heap}
theorem bw_put (hexec : p.tables.exec = Jvm.exec) (hb : c.code = cc) {own C : String} {T : u_T} {N ci index : Nat} {Ts : List Cond} (hts : ∀ w ∈ Ts, w.before args s = true) (hin : ∀ w ∈ u_ws C T N, w ∈ Ts) (ty0 : Nat → FieldType) (hty : ∀ k, k < N → parseFieldDescriptor (T k).2.2.1 = some (ty0 k)) (hnm : ∀ a, a < N → ∀ b, b < N → a ≠ b → (T a).2.1 ≠ (T b).2.1) (hown : s.vm.findClass own = some m.cls) (hK : va_K D cl tys s) (hP : va_P D cl ws H) (hD : va_D A ws) (hS0 : va_S A H0 H locs) (q0 : Nat) {fs : List Value} (he : ws[q0]? = some (a, .inr (ci, fs))) (hc : cl[ci]? = some (C, T, N)) (k : Nat) (hk : k < N) (hlink : (Cond.fieldLink own index (T k).1 (T k).2.1 (T k).2.2.1).before args s = true) (hfin : (T k).2.2.2 = false) {ty : FieldType} {v : Value} (hd : parseFieldDescriptor (T k).2.2.1 = some ty) (hn : narrow ty v = v) (hfit : fits ty v = true) (hl : k < fs.length)
    (hdg : decode cc pc = .ok (.putfield index, 3)) (kk : ∀ (H1 : Heap) (locs1 : List Loc), H1.size = H.size → va_P D cl (ws.set q0 (a, .inr (ci, fs.set k v))) H1 → va_S A H0 H1 locs1 → W p l e R s m args below meth c H1 locs1 cells slots Q (F0 m (pc + 3) ls rest)) : W p l e R s m args below meth c H locs cells slots Q (F0 m pc ls (v :: .ref a :: rest)) := by
  have hap := va_apart (own := own) hts hin ty0 hty hnm hK hc
  obtain ⟨r, h1, cell, q1, q2, q3, q4⟩ := hP q0 _ he
  have hr : r = (C, T, N) := Option.some.inj (h1.symm.trans hc)
  subst hr
  obtain ⟨hS, hfc, kC, hkC, hkind⟩ := hK.1 ci _ hc
  obtain ⟨cf, kf, fi, f, hi, hsl⟩ := hS k hk
  have hlay := hts _ (hin _ (u_in_lay hk))
  unfold u_lay at hlay
  rw [if_neg (by rw [hfin]; decide)] at hlay
  have hst := (u_facts hfc hkC (u_lays hts hin hk) hi).1
  have h6 := u_store hfc hkC hkind hlay hi hd hn hfit
  refine W.putK hexec hb (f := f) ⟨hown, hlink, ⟨_, _, _, hi⟩, hst⟩ (by rw [q2]; exact h6) q1 q3 (by rw [hsl]; exact k2_hasslot (q4 k hk)) rfl rfl hdg fun H' e1 e2 e3 => ?_
  rw [hsl] at e1 ⊢
  exact kk H' _ e2 (hP.set hD he ⟨_, hc, t_OB.to (V := updV (vp_V fs) k v) ⟨_, e1, q2, q3, t_set q4 hap hk v⟩ (fun j _ => vp_updV_set hl v j)⟩ e3) (hS0.put e2 e3 (hD.2 q0 _ he))
theorem bw_putF (hexec : p.tables.exec = Jvm.exec) (hb : c.code = cc) {own C : String} {T : u_T} {N ci index : Nat} {Ts : List Cond} (hts : ∀ w ∈ Ts, w.before args s = true) (hin : ∀ w ∈ u_ws C T N, w ∈ Ts) (ty0 : Nat → FieldType) (hty : ∀ k, k < N → parseFieldDescriptor (T k).2.2.1 = some (ty0 k)) (hnm : ∀ a, a < N → ∀ b, b < N → a ≠ b → (T a).2.1 ≠ (T b).2.1) (hown : s.vm.findClass own = some m.cls) (hK : va_K D cl tys s) (hP : va_P D cl ws H) (hD : va_D A ws) (hS0 : va_S A H0 H locs) (q0 : Nat) {fs : List Value} (he : ws[q0]? = some (a, .inr (ci, fs))) (hc : cl[ci]? = some (C, T, N)) (k : Nat) (hk : k < N) (hlink : (Cond.fieldLink own index (T k).1 (T k).2.1 (T k).2.2.1).before args s = true) (hfin : (T k).2.2.2 = true) (hin2 : meth.name = "<init>") (hdecl : (T k).1 = own) {ty : FieldType} {v : Value} (hd : parseFieldDescriptor (T k).2.2.1 = some ty) (hn : narrow ty v = v) (hfit : fits ty v = true) (hl : k < fs.length)
    (hdg : decode cc pc = .ok (.putfield index, 3)) (kk : ∀ (H1 : Heap) (locs1 : List Loc), H1.size = H.size → va_P D cl (ws.set q0 (a, .inr (ci, fs.set k v))) H1 → va_S A H0 H1 locs1 → W p l e R s m args below meth c H1 locs1 cells slots Q (F0 m (pc + 3) ls rest)) : W p l e R s m args below meth c H locs cells slots Q (F0 m pc ls (v :: .ref a :: rest)) := by
  have hap := va_apart (own := own) hts hin ty0 hty hnm hK hc
  obtain ⟨r, h1, cell, q1, q2, q3, q4⟩ := hP q0 _ he
  have hr : r = (C, T, N) := Option.some.inj (h1.symm.trans hc)
  subst hr
  obtain ⟨hS, hfc, kC, hkC, hkind⟩ := hK.1 ci _ hc
  obtain ⟨cf, kf, fi, f, hi, hsl⟩ := hS k hk
  have hlay := hts _ (hin _ (u_in_lay hk))
  unfold u_lay at hlay
  rw [if_pos hfin] at hlay
  have hst := (u_facts hfc hkC (u_lays hts hin hk) hi).1
  have hcf : m.cls = cf := by
    obtain ⟨_, _, c', _, _, _, -, -, hf', -, -, -, hown2, -⟩ := Cond.laysFinal_spec hlay
    have e1 : c' = cf := by have := hi.symm.trans hf'; simp at this; exact this.1.symm
    rw [hdecl] at hown2
    rw [← e1]; exact Option.some.inj (hown.symm.trans hown2)
  have h6 := u_fits hfc hkC hkind (Or.inr hlay) hi hd hn hfit
  refine W.putFinK hexec hb hown hlink hi hst hcf hin2 (by rw [q2]; exact h6) q1 q3 (by rw [hsl]; exact k2_hasslot (q4 k hk)) rfl rfl hdg fun H' e1 e2 e3 => ?_
  rw [hsl] at e1 ⊢
  exact kk H' _ e2 (hP.set hD he ⟨_, hc, t_OB.to (V := updV (vp_V fs) k v) ⟨_, e1, q2, q3, t_set q4 hap hk v⟩ (fun j _ => vp_updV_set hl v j)⟩ e3) (hS0.put e2 e3 (hD.2 q0 _ he))
theorem bw_iast (hexec : p.tables.exec = Jvm.exec) (hb : c.code = cc) (hK : va_K D cl tys s) (hP : va_P D cl ws H) (hD : va_D A ws) (hS : va_S A H0 H locs) (q0 t0 : Nat) {cA : ClassId} {n : Nat} {f : Nat → Int32} (ha : ws[q0]? = some (a, .inl (cA, n, .inl f))) (ht : tys[t0]? = some (cA, .int)) {i : Int32} {x : Int32} (hin : vp_in i n) (hdg : decode cc pc = .ok (.iastore, 1))
    (kk : ∀ (H1 : Heap) (locs1 : List Loc), H1.size = H.size → va_P D cl (ws.set q0 (a, .inl (cA, n, .inl (upd f i.toNatClampNeg x)))) H1 → va_S A H0 H1 locs1 → W p l e R s m args below meth c H1 locs1 cells slots Q (F0 m (pc + 1) ls rest)) : W p l e R s m args below meth c H locs cells slots Q (F0 m pc ls (.int x :: .int i :: .ref a :: rest)) := by
  refine W.iast hexec hb (hP q0 _ ha) ((hK.2 t0 _ ht).1 n (fun j => .int (f j))) (fun q => by cases q) (by show ¬ (i < 0 ∨ (arrV _ _ _).slots.size ≤ _); rw [arrV_size]; exact hin) rfl rfl hdg fun H1 e z oq => ?_
  refine kk H1 _ z (hP.set hD ha ?_ oq) (hS.put z oq (hD.2 q0 _ ha))
  show H1[a]? = some (vp_cell _ _)
  rw [e]
  rw [vp_cell_i, vp_cell_i, arrV_store]
  congr 2
  funext q
  by_cases hq : q = i.toNatClampNeg
  · subst hq
    simp [updV, upd]
  · simp [updV, upd, hq]
theorem bw_last (hexec : p.tables.exec = Jvm.exec) (hb : c.code = cc) (hK : va_K D cl tys s) (hP : va_P D cl ws H) (hD : va_D A ws) (hS : va_S A H0 H locs) (q0 t0 : Nat) {cA : ClassId} {n : Nat} {f : Nat → Int64} (ha : ws[q0]? = some (a, .inl (cA, n, .inr (.inl f)))) (ht : tys[t0]? = some (cA, .long)) {i : Int32} {x : Int64} (hin : vp_in i n) (hdg : decode cc pc = .ok (.lastore, 1))
    (kk : ∀ (H1 : Heap) (locs1 : List Loc), H1.size = H.size → va_P D cl (ws.set q0 (a, .inl (cA, n, .inr (.inl (vp_updL f i.toNatClampNeg x))))) H1 → va_S A H0 H1 locs1 → W p l e R s m args below meth c H1 locs1 cells slots Q (F0 m (pc + 1) ls rest)) : W p l e R s m args below meth c H locs cells slots Q (F0 m pc ls (.long x :: .int i :: .ref a :: rest)) := by
  refine W.last hexec hb (hP q0 _ ha) ((hK.2 t0 _ ht).1 n (fun j => .long (f j))) (fun q => by cases q) (by show ¬ (i < 0 ∨ (arrV _ _ _).slots.size ≤ _); rw [arrV_size]; exact hin) rfl rfl hdg fun H1 e z oq => ?_
  refine kk H1 _ z (hP.set hD ha ?_ oq) (hS.put z oq (hD.2 q0 _ ha))
  show H1[a]? = some (vp_cell _ _)
  rw [e]
  rw [vp_cell_l, vp_cell_l, arrV_store]
  congr 2
  funext q
  by_cases hq : q = i.toNatClampNeg
  · subst hq
    simp [updV, vp_updL]
  · simp [updV, vp_updL, hq]
theorem bw_astq (hexec : p.tables.exec = Jvm.exec) (hb : c.code = cc) (hK : va_K D cl tys s) (hP : va_P D cl ws H) (hD : va_D A ws) (hS : va_S A H0 H locs) (q0 t0 qk ci : Nat) {cA : ClassId} {r : vw_C} {n v : Nat} {vs : List Value} {f : Nat → Option Nat} (ha : ws[q0]? = some (a, .inl (cA, n, .inr (.inr (.inr (.inr f)))))) (ht : tys[t0]? = some (cA, .object r.1)) (hv : ws[qk]? = some (v, .inr (ci, vs))) (hc : cl[ci]? = some r) {i : Int32} (hin : vp_in i n) (hdg : decode cc pc = .ok (.aastore, 1))
    (kk : ∀ (H1 : Heap) (locs1 : List Loc), H1.size = H.size → va_P D cl (ws.set q0 (a, .inl (cA, n, .inr (.inr (.inr (.inr (va_up f i.toNatClampNeg (some v)))))))) H1 → va_S A H0 H1 locs1 → W p l e R s m args below meth c H1 locs1 cells slots Q (F0 m (pc + 1) ls rest)) : W p l e R s m args below meth c H locs cells slots Q (F0 m pc ls (.ref v :: .int i :: .ref a :: rest)) := by
  have hlt : i.toNatClampNeg < n := Nat.not_le.mp fun q => hin (Or.inr q)
  have h0 : ¬ i < 0 := fun q => hin (Or.inl q)
  obtain ⟨r', hr', cellV, g1, g2, g3, -⟩ := hP qk _ hv
  have hcls := (hK.1 ci r hc).2
  obtain ⟨kA, comp, k1, k2, k3, -⟩ := (hK.2 t0 _ ht).2
  have hcomp : comp = D.1 ci := Option.some.inj (k3.symm.trans hcls.1)
  subst hcomp
  obtain ⟨kC, hkC, -⟩ := hcls.2
  refine W.aast hexec hb (hP q0 _ ha) (fun q h => by cases h) (fun h => by cases h) k1 k2 rfl hkC ⟨h0, by show _ < (arrV _ _ _).slots.size; rw [arrV_size]; exact hlt⟩ g1 (fun q h => by rw [g3] at h; cases h) (by rw [g2]; exact hkC) (by rw [g2]; exact va_assign hcls) rfl rfl hdg fun H1 e z oq => ?_
  refine kk H1 _ z (hP.set hD ha ?_ oq) (hS.put z oq (hD.2 q0 _ ha))
  show H1[a]? = some (vp_cell _ _)
  rw [e]
  rw [vp_cell_q, vp_cell_q, arrV_store]
  congr 2
  funext q
  by_cases hq : q = i.toNatClampNeg
  · subst hq
    simp [updV, va_up, va_rf]
  · simp [updV, va_up, hq]
theorem bw_new (hexec : p.tables.exec = Jvm.exec) (hb : c.code = cc) {own C : String} {T : u_T} {N ci index : Nat} {Ts : List Cond} (hts : ∀ w ∈ Ts, w.before args s = true) (hin : ∀ w ∈ u_ws C T N, w ∈ Ts) (ty : Nat → FieldType) (hty : ∀ k, k < N → parseFieldDescriptor (T k).2.2.1 = some (ty k)) (hown : s.vm.findClass own = some m.cls) (hcl : (Cond.classLink own index C).before args s = true) (hinst : (Cond.instantiable C N).before args s = true) (hini : (Cond.initialized C).before args s = true)
    (hK : va_K D cl tys s) (hP : va_P D cl ws H) (hS : va_S A H0 H locs) (hc : cl[ci]? = some (C, T, N)) {fs : List Value} (hfs : ∀ j, j < N → defaultValue (ty j) = vp_V fs j) (hcells : cells + 1 ≤ R.cells) (hslots : slots + N ≤ R.slots) (hdg : decode cc pc = .ok (.new index, 3))
    (kk : ∀ (H1 : Heap), H1.size = H.size + 1 → va_P D cl (ws ++ [(H.size, .inr (ci, fs))]) H1 → va_S A H0 H1 locs →
      W p l e R s m args below meth c H1 locs (cells + 1) (slots + N) Q (F0 m (pc + 3) ls (.ref H.size :: rest))) : W p l e R s m args below meth c H locs cells slots Q (F0 m pc ls rest) := by
  have hKn := hK.1 ci _ hc
  refine W.newcK hexec hb hown hcl hinst hini rfl hdg hcells hslots hKn.2.1 rfl fun H1 kC hkC e1 z1 o1 => ?_
  have hk : ∀ (k : Nat) (x : Nat × va_E), ws[k]? = some x → H1[x.1]? = H[x.1]? := fun k x hx => o1 x.1 ((hP k x hx).lt)
  refine kk H1 z1 ((hP.kept hk).app (fun k x hx => ?_)) ⟨Nat.le_trans hS.1 (by omega), fun x h1 h2 => (o1 x (Nat.lt_of_lt_of_le h1 hS.1)).trans (hS.2.1 x h1 h2), hS.2.2⟩
  have hz : k < 1 := (List.getElem?_eq_some_iff.mp hx).1
  rw [show k = 0 by omega] at hx
  cases hx
  exact ⟨_, hc, (u_born ty hts hin hKn hkC e1 hty).to hfs⟩
theorem bw_newa (hexec : p.tables.exec = Jvm.exec) (hb : c.code = cc) {atype : ArrayType} (harr : (Cond.arrayClass (newarray.typeOf atype)).before args s = true) {ty : FieldType} (hty : newarray.typeOf atype = ty) (hP : va_P D cl ws H) (hS : va_S A H0 H locs)
    {cA : ClassId} (hcA : s.vm.findClass ("[" ++ ty.toString) = some cA) {n : Int32} {N' : Nat} {a0 : vp_A} (ha : vp_cell cA a0 = arrV cA N' (fun _ => defaultValue ty)) (hn : ¬ n < 0) (hN : n.toNatClampNeg = N') (hbytes : N' * componentBytes ty ≤ 536870912) (hcells : cells + 1 ≤ R.cells) (hslots : slots + N' ≤ R.slots) (hdg : decode cc pc = .ok (.newarray atype, 2))
    (kk : ∀ (H1 : Heap), H1.size = H.size + 1 → va_P D cl (ws ++ [(H.size, .inl (cA, a0))]) H1 → va_S A H0 H1 locs →
      W p l e R s m args below meth c H1 locs (cells + 1) (slots + N') Q (F0 m (pc + 2) ls (.ref H.size :: rest))) : W p l e R s m args below meth c H locs cells slots Q (F0 m pc ls (.int n :: rest)) := by
  subst hty
  refine va_newaK hexec hb harr rfl hdg rfl hn hN hbytes hcells hslots rfl fun H1 cA' e1 z1 o1 hAr hNm => ?_
  have hcc : cA' = cA := Option.some.inj (hNm.symm.trans hcA)
  subst hcc
  have hk : ∀ (k : Nat) (x : Nat × va_E), ws[k]? = some x → H1[x.1]? = H[x.1]? := fun k x hx => o1 x.1 ((hP k x hx).lt)
  refine kk H1 z1 ((hP.kept hk).app (fun k x hx => ?_)) ⟨Nat.le_trans hS.1 (by omega), fun x h1 h2 => (o1 x (Nat.lt_of_lt_of_le h1 hS.1)).trans (hS.2.1 x h1 h2), hS.2.2⟩
  have hz : k < 1 := (List.getElem?_eq_some_iff.mp hx).1
  rw [show k = 0 by omega] at hx
  cases hx
  show H1[H.size]? = some (vp_cell _ _)
  rw [ha]
  exact e1
theorem bw_newq (hexec : p.tables.exec = Jvm.exec) (hb : c.code = cc) {own C : String} {index : Nat} (hown : s.vm.findClass own = some m.cls) (hclink : (Cond.classLink own index C).before args s = true) (hover : (Cond.arrayOver (.object C)).before args s = true) (hP : va_P D cl ws H) (hS : va_S A H0 H locs)
    {cA : ClassId} (hcA : s.vm.findClass ("[" ++ (FieldType.object C).toString) = some cA) {n : Int32} {N' : Nat} (hn : ¬ n < 0) (hN : n.toNatClampNeg = N') (hbytes : N' * 4 ≤ 536870912) (hcells : cells + 1 ≤ R.cells) (hslots : slots + N' ≤ R.slots) (hdg : decode cc pc = .ok (.anewarray index, 3))
    (kk : ∀ (H1 : Heap), H1.size = H.size + 1 → va_P D cl (ws ++ [(H.size, .inl (cA, N', .inr (.inr (.inr (.inr (fun _ => none))))))]) H1 → va_S A H0 H1 locs →
      W p l e R s m args below meth c H1 locs (cells + 1) (slots + N') Q (F0 m (pc + 3) ls (.ref H.size :: rest))) : W p l e R s m args below meth c H locs cells slots Q (F0 m pc ls (.int n :: rest)) := by
  subst hN
  refine W.anew hexec hb hown hclink hover rfl hdg rfl hn hbytes hcells hslots fun cA' kA comp f1 f2 f3 f4 => ?_
  have hcc : cA' = cA := Option.some.inj (f1.symm.trans hcA)
  subst hcc
  generalize hH1 : H.push ({ cls := cA', slots := Array.replicate n.toNatClampNeg .null, vm := .none } : Cell) = H1
  have z1 : H1.size = H.size + 1 := by rw [← hH1, Array.size_push]
  have e1 : H1[H.size]? = some (arrV cA' n.toNatClampNeg (fun _ => .null)) := by rw [← hH1, Array.getElem?_push_size, ← arrV_new]
  have o1 : ∀ q : Nat, q < H.size → H1[q]? = H[q]? := fun q hq => by rw [← hH1, Array.getElem?_push, if_neg (Nat.ne_of_lt hq)]
  have hk : ∀ (k : Nat) (x : Nat × va_E), ws[k]? = some x → H1[x.1]? = H[x.1]? := fun k x hx => o1 x.1 ((hP k x hx).lt)
  refine kk H1 z1 ((hP.kept hk).app (fun k x hx => ?_)) ⟨Nat.le_trans hS.1 (by omega), fun x h1 h2 => (o1 x (Nat.lt_of_lt_of_le h1 hS.1)).trans (hS.2.1 x h1 h2), hS.2.2⟩
  have hz : k < 1 := (List.getElem?_eq_some_iff.mp hx).1
  rw [show k = 0 by omega] at hx
  cases hx
  show H1[H.size]? = some (vp_cell _ _)
  rw [e1]
  rfl
end BW
end
section
/-! the tables -/
def ba_fl (own : String) (ix t k : Nat) (fin : Bool) : Prop := ∃ (C : String) (T : u_T) (N : Nat), vwCl[t]? = some (C, T, N) ∧ k < N ∧ Cond.fieldLink own ix (T k).1 (T k).2.1 (T k).2.2.1 ∈ lw_tbl ∧ (T k).2.2.2 = fin ∧ (fin = true → (T k).1 = own ∨ True)
theorem iX0 : ∀ w ∈ wsX00, w ∈ lw_tbl := by decide +kernel
theorem iX1 : ∀ w ∈ wsX10, w ∈ lw_tbl := by decide +kernel
theorem iX2 : ∀ w ∈ wsX20, w ∈ lw_tbl := by decide +kernel
theorem iX3 : ∀ w ∈ wsX30, w ∈ lw_tbl := by decide +kernel
theorem iX4 : ∀ w ∈ wsX40, w ∈ lw_tbl := by decide +kernel
theorem iX6 : ∀ w ∈ wsX60, w ∈ lw_tbl := by decide +kernel
theorem iX7 : ∀ w ∈ wsX70, w ∈ lw_tbl := by decide +kernel
theorem iX8 : ∀ w ∈ wsX80, w ∈ lw_tbl := by decide +kernel
theorem iX9 : ∀ w ∈ wsX90, w ∈ lw_tbl := by decide +kernel
theorem iX10 : ∀ w ∈ wsX100, w ∈ lw_tbl := by decide +kernel
theorem iX11 : ∀ w ∈ wsX110, w ∈ lw_tbl := by decide +kernel
theorem iX12 : ∀ w ∈ wsX120, w ∈ lw_tbl := by decide +kernel
theorem u_good {C : String} {T : u_T} {N : Nat} : ∀ w ∈ u_ws C T N, goodWord w = true := by
  intro w hw
  obtain ⟨k, -, rfl⟩ := List.mem_map.mp hw
  unfold u_lay
  split <;> rfl
theorem ba_cls (t : Nat) {C : String} {T : u_T} {N : Nat} (h : vwCl[t]? = some (C, T, N)) : (∀ k, k < N → parseFieldDescriptor (T k).2.2.1 = some (fY t k)) ∧ (∀ a, a < N → ∀ b, b < N → a ≠ b → (T a).2.1 ≠ (T b).2.1) ∧ (∀ w ∈ u_ws C T N, w ∈ lw_tbl) ∧ nF t = N ∧ t < 12 := by
  match t, h with
  | 0, h => cases h; exact ⟨tyX0_ok, nmX0, iX0, rfl, by decide⟩
  | 1, h => cases h; exact ⟨tyX1_ok, nmX1, iX1, rfl, by decide⟩
  | 2, h => cases h; exact ⟨tyX2_ok, nmX2, iX2, rfl, by decide⟩
  | 3, h => cases h; exact ⟨tyX3_ok, nmX3, iX3, rfl, by decide⟩
  | 4, h => cases h; exact ⟨tyX4_ok, nmX4, iX4, rfl, by decide⟩
  | 5, h => cases h; exact ⟨tyX6_ok, nmX6, iX6, rfl, by decide⟩
  | 6, h => cases h; exact ⟨tyX7_ok, nmX7, iX7, rfl, by decide⟩
  | 7, h => cases h; exact ⟨tyX8_ok, nmX8, iX8, rfl, by decide⟩
  | 8, h => cases h; exact ⟨tyX9_ok, nmX9, iX9, rfl, by decide⟩
  | 9, h => cases h; exact ⟨tyX10_ok, nmX10, iX10, rfl, by decide⟩
  | 10, h => cases h; exact ⟨tyX11_ok, nmX11, iX11, rfl, by decide⟩
  | 11, h => cases h; exact ⟨tyX12_ok, nmX12, iX12, rfl, by decide⟩
  | t + 12, h => exact absurd h (by simp [vwCl])
theorem CX.x {ρ : Type} {Y : ba_Y ρ} {p : Program} {R : Room} {s : State} {mid : MethodId} {args : Array Value} {meth : Method} {c : Code} {H0 : Heap} {D : va_G} {G : ba_G} {base b : Nat} (X : CX Y p R s mid args meth c H0 D G base b) : p.tables.exec = Jvm.exec := X.1
theorem CX.ts {ρ : Type} {Y : ba_Y ρ} {p : Program} {R : Room} {s : State} {mid : MethodId} {args : Array Value} {meth : Method} {c : Code} {H0 : Heap} {D : va_G} {G : ba_G} {base b : Nat} (X : CX Y p R s mid args meth c H0 D G base b) : ∀ w ∈ lw_tbl, goodWord w = true → w.before args s = true := X.2.2.2.2.1
theorem CX.tu {ρ : Type} {Y : ba_Y ρ} {p : Program} {R : Room} {s : State} {mid : MethodId} {args : Array Value} {meth : Method} {c : Code} {H0 : Heap} {D : va_G} {G : ba_G} {base b : Nat} (X : CX Y p R s mid args meth c H0 D G base b) {C : String} {T : u_T} {N : Nat} (h : ∀ w ∈ u_ws C T N, w ∈ lw_tbl) : ∀ w ∈ u_ws C T N, w.before args s = true := fun w hw => X.2.2.2.2.1 w (h w hw) (u_good w hw)
theorem CX.own {ρ : Type} {Y : ba_Y ρ} {p : Program} {R : Room} {s : State} {mid : MethodId} {args : Array Value} {meth : Method} {c : Code} {H0 : Heap} {D : va_G} {G : ba_G} {base b : Nat} (X : CX Y p R s mid args meth c H0 D G base b) : s.vm.findClass (yO Y) = some mid.cls := X.2.2.2.1
theorem CX.K {ρ : Type} {Y : ba_Y ρ} {p : Program} {R : Room} {s : State} {mid : MethodId} {args : Array Value} {meth : Method} {c : Code} {H0 : Heap} {D : va_G} {G : ba_G} {base b : Nat} (X : CX Y p R s mid args meth c H0 D G base b) : va_K D vwCl (tyl G) s := X.2.2.2.2.2.2.2.1.1
theorem CX.TB {ρ : Type} {Y : ba_Y ρ} {p : Program} {R : Room} {s : State} {mid : MethodId} {args : Array Value} {meth : Method} {c : Code} {H0 : Heap} {D : va_G} {G : ba_G} {base b : Nat} (X : CX Y p R s mid args meth c H0 D G base b) : TB s := X.2.2.2.2.2.2.2.1.2
theorem CX.F {ρ : Type} {Y : ba_Y ρ} {p : Program} {R : Room} {s : State} {mid : MethodId} {args : Array Value} {meth : Method} {c : Code} {H0 : Heap} {D : va_G} {G : ba_G} {base b : Nat} (X : CX Y p R s mid args meth c H0 D G base b) : yF Y ≤ R.frames ∧ yL Y ≤ R.locals := ⟨X.2.2.2.2.2.1, X.2.2.2.2.2.2.1⟩
theorem CX.nm {ρ : Type} {Y : ba_Y ρ} {p : Program} {R : Room} {s : State} {mid : MethodId} {args : Array Value} {meth : Method} {c : Code} {H0 : Heap} {D : va_G} {G : ba_G} {base b : Nat} (X : CX Y p R s mid args meth c H0 D G base b) : yI Y = true → meth.name = "<init>" := X.2.2.2.2.2.2.2.2.2.1
theorem CX.sc {ρ : Type} {Y : ba_Y ρ} {p : Program} {R : Room} {s : State} {mid : MethodId} {args : Array Value} {meth : Method} {c : Code} {H0 : Heap} {D : va_G} {G : ba_G} {base b : Nat} (X : CX Y p R s mid args meth c H0 D G base b) {N : Nat} {xs : Nat → Int32} (h : yX Y = some (N, xs)) : va_X b N xs s H0 ∧ b < H0.size ∧ b < base := X.2.2.2.2.2.2.2.2.2.2 N xs h
/-! the combinators of which the functions are made -/
def ldR {β : Type} (S : ba_S) (o k t : Nat) (f : Nat → Option β) : Option β := match gR S o k with
  | some b => if ck S b t = true then f b else none
  | none => none
def cK {β : Type} (S : ba_S) (o t : Nat) (r : Option β) : Option β := if ck S o t = true then r else none
def bD {β : Type} (S : ba_S) (a : Nat) (i : Int32) (r : Option β) : Option β := if i < 0 ∨ kL S a ≤ i.toNatClampNeg then none else r
def nA {β : Type} (n : Int32) (r : Option β) : Option β := if n < 0 ∨ 100000 < n.toNatClampNeg then none else r
def wR (S : ba_S) (o k : Nat) (r : Option Nat) : ba_S := (fun a b => if a = o ∧ b = k then r else S.1 a b, S.2)
def pS (S : ba_S) (t len N : Nat) : ba_S := (fun a b => if a = nN S then none else S.1 a b, fun a => if a = nN S then (t, len) else S.2.1 a, nN S + 1, nS S + N)
def pM (n : Nat) (m : ba_M) : ba_M := (fun a b => if a = n then 0 else m.1 a b, fun a b => if a = n then 0 else m.2 a b)
theorem wls_push {base : Nat} {G : ba_G} {S : ba_S} {m : ba_M} {t len N : Nat} {e : va_E} (he : cE base G (pS S t len N) (pM (nN S) m) (nN S) = e) : wls base G S m ++ [(base + nN S, e)] = wls base G (pS S t len N) (pM (nN S) m) := by
  subst he
  have : nN (pS S t len N) = nN S + 1 := rfl
  unfold wls
  rw [this, List.range_succ, List.map_append]
  congr 1
  refine List.map_congr_left fun o ho => ?_
  have hlt : o < nN S := List.mem_range.mp ho
  have hne : o ≠ nN S := by omega
  exact congrArg (fun z => (base + o, z)) (cE_of (S := S) (m := m) (by simp [pS, hne]) (fun k => by simp [gI, pM, hne]) (fun k => by simp [gL, pM, hne]) (fun k => by simp [gR, pS, hne])).symm
section AWM
variable {ρ : Type} {Y : ba_Y ρ} {pc : Nat} {L : List (Option ba_A)} {st : List ba_A} {S : ba_S} {m : ba_M} {o : Option ρ}
theorem AW.ck {a t : Nat} (k : ck S a t = true → AW Y pc L st S m o) : AW Y pc L st S m (cK S a t o) := AW.if (fun h => k h) (fun _ => AW.none)
theorem a_getI {t k ix a : Nat} {fin : Bool} (hd : decode (yC Y) pc = .ok (.getfield ix, 3)) (hf : ba_fl (yO Y) ix t k fin) (hc : fc (fY t k) = 0) (hk : ck S a t = true) (h : AW Y (pc + 3) L (aI (gI m a k) :: st) S m o) : AW Y pc L (aR (some a) :: st) S m o :=
  h.step fun p l e R s mid args below meth c H0 D G base b cells slots Q H locs ls X hW hS hL kk => by
    obtain ⟨C, T, N, h1, h2, h3, -⟩ := hf
    obtain ⟨c1, c2, c3, c4, c5⟩ := ba_cls t h1
    obtain ⟨k1, k2⟩ := ck_i hk
    have he : (wls base G S m)[a]? = some (base + a, .inr (t, oF base S m a t)) := by rw [wls_at k1, cE_o k2 c5]
    exact va_get X.1 X.2.1 (X.tu c3) (fun _ h => h) X.own X.K hW.1 a he h1 k h2 (X.ts _ h3 rfl) (fun _ h => h) (v := .int (gI m a k)) (by rw [oF_at (by rw [c4]; exact h2), hc]; rfl) hd (kk ls hL)
theorem a_getL {t k ix a : Nat} {fin : Bool} (hd : decode (yC Y) pc = .ok (.getfield ix, 3)) (hf : ba_fl (yO Y) ix t k fin) (hc : fc (fY t k) = 1) (hk : ck S a t = true) (h : AW Y (pc + 3) L (aJ (gL m a k) :: st) S m o) : AW Y pc L (aR (some a) :: st) S m o :=
  h.step fun p l e R s mid args below meth c H0 D G base b cells slots Q H locs ls X hW hS hL kk => by
    obtain ⟨C, T, N, h1, h2, h3, -⟩ := hf
    obtain ⟨c1, c2, c3, c4, c5⟩ := ba_cls t h1
    obtain ⟨k1, k2⟩ := ck_i hk
    have he : (wls base G S m)[a]? = some (base + a, .inr (t, oF base S m a t)) := by rw [wls_at k1, cE_o k2 c5]
    exact va_get X.1 X.2.1 (X.tu c3) (fun _ h => h) X.own X.K hW.1 a he h1 k h2 (X.ts _ h3 rfl) (fun _ h => h) (v := .long (gL m a k)) (by rw [oF_at (by rw [c4]; exact h2), hc]; rfl) hd (kk ls hL)
theorem a_getR {t k ix a t2 : Nat} {fin : Bool} {f : Nat → Option ρ} (hd : decode (yC Y) pc = .ok (.getfield ix, 3)) (hf : ba_fl (yO Y) ix t k fin) (hc : fc (fY t k) = 2) (hk : ck S a t = true) (h : ∀ r, ck S r t2 = true → AW Y (pc + 3) L (aR (some r) :: st) S m (f r)) : AW Y pc L (aR (some a) :: st) S m (ldR S a k t2 f) := by
  unfold ldR
  cases hr : gR S a k with
  | none => exact AW.none
  | some r =>
    refine AW.if (fun hck => ?_) (fun _ => AW.none)
    refine (h r hck).step fun p l e R s mid args below meth c H0 D G base b cells slots Q H locs ls X hW hS hL kk => ?_
    obtain ⟨C, T, N, h1, h2, h3, -⟩ := hf
    obtain ⟨c1, c2, c3, c4, c5⟩ := ba_cls t h1
    obtain ⟨k1, k2⟩ := ck_i hk
    have he : (wls base G S m)[a]? = some (base + a, .inr (t, oF base S m a t)) := by rw [wls_at k1, cE_o k2 c5]
    exact va_get X.1 X.2.1 (X.tu c3) (fun _ h => h) X.own X.K hW.1 a he h1 k h2 (X.ts _ h3 rfl) (fun _ h => h) (v := .ref (base + r)) (by rw [oF_at (by rw [c4]; exact h2), hc]; simp [fV, hr, va_rf]) hd (kk ls hL)
/-- an instruction that changes the memory -/
theorem AW.stepM {pc' : Nat} {L' : List (Option ba_A)} {st' : List ba_A} {S' : ba_S} {m' : ba_M} (k : AW Y pc' L' st' S' m' o) (hN : nN S' = nN S) (hT : nS S' = nS S)
    (h : ∀ (p : Program) (l : Launch) (e : Env) (R : Room) (s : State) (mid : MethodId) (args : Array Value) (below : List Frame) (meth : Method) (c : Code) (H0 : Heap) (D : va_G) (G : ba_G) (base b cells slots : Nat) (Q : State → Prop) (H : Heap) (locs : List Loc) (ls : Array Slot),
      CX Y p R s mid args meth c H0 D G base b → Wd D G base S m H → va_S (fun a => base ≤ a) H0 H locs → LH base b (yN Y) ls L →
      (∀ ls' H1 locs1, LH base b (yN Y) ls' L' → Wd D G base S' m' H1 → va_S (fun a => base ≤ a) H0 H1 locs1 → W p l e R s mid args below meth c H1 locs1 cells slots Q (F0 mid pc' ls' (st'.map (cv base b)))) → W p l e R s mid args below meth c H locs cells slots Q (F0 mid pc ls (st.map (cv base b)))) : AW Y pc L st S m o := by
  intro q hq
  obtain ⟨h1, h2⟩ := k q hq
  refine ⟨by rw [← hN, ← hT]; exact h1, ?_⟩
  intro p l e R s mid args below meth c H0 D G base b n0 s0 Q X E H locs ls hW hS hL hn hs
  rw [← hN] at hn ⊢
  rw [← hT] at hs ⊢
  exact h p l e R s mid args below meth c H0 D G base b _ _ Q H locs ls X hW hS hL (fun ls' H1 locs1 hL' hW' hS' => h2 p l e R s mid args below meth c H0 D G base b n0 s0 Q X E H1 locs1 ls' hW' hS' hL' hn hs)
theorem a_putI {t k ix a : Nat} {x : Int32} {ty : FieldType} (hd : decode (yC Y) pc = .ok (.putfield ix, 3)) (hf : ba_fl (yO Y) ix t k false) (hc : fY t k = ty) (hc2 : fc ty = 0) (hnw : narrow ty (.int x) = .int x) (hft : fits ty (.int x) = true) (hk : ck S a t = true) (h : AW Y (pc + 3) L st S (wI m a k x) o) : AW Y pc L (aI x :: aR (some a) :: st) S m o :=
  h.stepM rfl rfl fun p l e R s mid args below meth c H0 D G base b cells slots Q H locs ls X hW hS hL kk => by
    obtain ⟨C, T, N, h1, h2, h3, h4, -⟩ := hf
    obtain ⟨c1, c2, c3, c4, c5⟩ := ba_cls t h1
    obtain ⟨k1, k2⟩ := ck_i hk
    have he : (wls base G S m)[a]? = some (base + a, .inr (t, oF base S m a t)) := by rw [wls_at k1, cE_o k2 c5]
    refine bw_put X.1 X.2.1 (X.tu c3) (fun _ h => h) (fY t) c1 c2 X.own X.K hW.1 wls_D hS a he h1 k h2 (X.ts _ h3 rfl) h4 (ty := ty) (v := .int x) (by rw [c1 k h2, hc]) hnw hft (by rw [oF_len, c4]; exact h2) hd fun H1 locs1 hz hP hS1 => ?_
    refine kk ls H1 locs1 hL ⟨?_, hz.trans hW.2⟩ hS1
    rw [wls_set (S' := S) (m' := wI m a k x) rfl (fun _ => ?_) (fun b hb => ?_)] at hP
    · exact hP
    · rw [cE_o k2 c5, oF_set (S' := S) (m' := wI m a k x) (fun _ => ?_) (fun j hj => ?_)]
      · rw [hc, hc2]; simp [fV, gI_s]
      · exact fV_of (gI_n _ _ _ _ _ _ (by simp [hj])) rfl rfl
    · exact cE_of rfl (fun j => gI_n _ _ _ _ _ _ (by simp [hb])) (fun _ => rfl) (fun _ => rfl)
theorem a_putL {t k ix a : Nat} {x : Int64} (hd : decode (yC Y) pc = .ok (.putfield ix, 3)) (hf : ba_fl (yO Y) ix t k false) (hc : fY t k = .long) (hk : ck S a t = true) (h : AW Y (pc + 3) L st S (wL m a k x) o) : AW Y pc L (aJ x :: aR (some a) :: st) S m o :=
  h.stepM rfl rfl fun p l e R s mid args below meth c H0 D G base b cells slots Q H locs ls X hW hS hL kk => by
    obtain ⟨C, T, N, h1, h2, h3, h4, -⟩ := hf
    obtain ⟨c1, c2, c3, c4, c5⟩ := ba_cls t h1
    obtain ⟨k1, k2⟩ := ck_i hk
    have he : (wls base G S m)[a]? = some (base + a, .inr (t, oF base S m a t)) := by rw [wls_at k1, cE_o k2 c5]
    refine bw_put X.1 X.2.1 (X.tu c3) (fun _ h => h) (fY t) c1 c2 X.own X.K hW.1 wls_D hS a he h1 k h2 (X.ts _ h3 rfl) h4 (ty := .long) (v := .long x) (by rw [c1 k h2, hc]) rfl rfl (by rw [oF_len, c4]; exact h2) hd fun H1 locs1 hz hP hS1 => ?_
    refine kk ls H1 locs1 hL ⟨?_, hz.trans hW.2⟩ hS1
    rw [wls_set (S' := S) (m' := wL m a k x) rfl (fun _ => ?_) (fun b hb => ?_)] at hP
    · exact hP
    · rw [cE_o k2 c5, oF_set (S' := S) (m' := wL m a k x) (fun _ => ?_) (fun j hj => ?_)]
      · rw [hc]; simp [fc, fV, gL, wL]
      · exact fV_of rfl (by simp [gL, wL, hj]) rfl
    · exact cE_of rfl (fun _ => rfl) (fun j => by simp [gL, wL, hb]) (fun _ => rfl)
/-- a reference into a final field, in a constructor -/
theorem a_putR {t k ix a r : Nat} {ty : FieldType} (hi : yI Y = true) (hd : decode (yC Y) pc = .ok (.putfield ix, 3)) (hf : ba_fl (yO Y) ix t k true) (hown : ∃ q : vw_C, vwCl[t]? = some q ∧ (q.2.1 k).1 = yO Y) (hc : fY t k = ty) (hc2 : fc ty = 2) (hnw : ∀ b : Nat, narrow ty (.ref b) = .ref b ∧ fits ty (.ref b) = true) (hk : ck S a t = true) (h : AW Y (pc + 3) L st (wR S a k (some r)) m o) : AW Y pc L (aR (some r) :: aR (some a) :: st) S m o :=
  h.stepM rfl rfl fun p l e R s mid args below meth c H0 D G base b cells slots Q H locs ls X hW hS hL kk => by
    obtain ⟨C, T, N, h1, h2, h3, h4, -⟩ := hf
    obtain ⟨q5, w1, w2⟩ := hown
    have w3 : q5 = (C, T, N) := Option.some.inj (w1.symm.trans h1)
    subst w3
    obtain ⟨c1, c2, c3, c4, c5⟩ := ba_cls t h1
    obtain ⟨k1, k2⟩ := ck_i hk
    have he : (wls base G S m)[a]? = some (base + a, .inr (t, oF base S m a t)) := by rw [wls_at k1, cE_o k2 c5]
    refine bw_putF X.1 X.2.1 (X.tu c3) (fun _ h => h) (fY t) c1 c2 X.own X.K hW.1 wls_D hS a he h1 k h2 (X.ts _ h3 rfl) h4 (X.nm hi) w2 (ty := ty) (v := .ref (base + r)) (by rw [c1 k h2, hc]) (hnw _).1 (hnw _).2 (by rw [oF_len, c4]; exact h2) hd fun H1 locs1 hz hP hS1 => ?_
    refine kk ls H1 locs1 hL ⟨?_, hz.trans hW.2⟩ hS1
    rw [wls_set (S := S) (S' := wR S a k (some r)) (m := m) (m' := m) rfl (fun _ => ?_) (fun b hb => ?_)] at hP
    · exact hP
    · rw [cE_o (show kT (wR S a k (some r)) a = t from k2) c5, oF_set (S' := wR S a k (some r)) (m' := m) (fun _ => ?_) (fun j hj => ?_)]
      · rw [hc, hc2]; simp [fV, gR, wR, va_rf]
      · exact fV_of rfl rfl (by simp [gR, wR, hj])
    · exact cE_of rfl (fun _ => rfl) (fun _ => rfl) (fun j => by simp [gR, wR, hb])
/-- an int into a final field, in a constructor -/
theorem a_putIF {t k ix a : Nat} {x : Int32} (hi : yI Y = true) (hd : decode (yC Y) pc = .ok (.putfield ix, 3)) (hf : ba_fl (yO Y) ix t k true) (hown : ∃ q : vw_C, vwCl[t]? = some q ∧ (q.2.1 k).1 = yO Y) (hc : fY t k = .int) (hk : ck S a t = true) (h : AW Y (pc + 3) L st S (wI m a k x) o) : AW Y pc L (aI x :: aR (some a) :: st) S m o :=
  h.stepM rfl rfl fun p l e R s mid args below meth c H0 D G base b cells slots Q H locs ls X hW hS hL kk => by
    obtain ⟨C, T, N, h1, h2, h3, h4, -⟩ := hf
    obtain ⟨q5, w1, w2⟩ := hown
    have w3 : q5 = (C, T, N) := Option.some.inj (w1.symm.trans h1)
    subst w3
    obtain ⟨c1, c2, c3, c4, c5⟩ := ba_cls t h1
    obtain ⟨k1, k2⟩ := ck_i hk
    have he : (wls base G S m)[a]? = some (base + a, .inr (t, oF base S m a t)) := by rw [wls_at k1, cE_o k2 c5]
    refine bw_putF X.1 X.2.1 (X.tu c3) (fun _ h => h) (fY t) c1 c2 X.own X.K hW.1 wls_D hS a he h1 k h2 (X.ts _ h3 rfl) h4 (X.nm hi) w2 (ty := .int) (v := .int x) (by rw [c1 k h2, hc]) rfl rfl (by rw [oF_len, c4]; exact h2) hd fun H1 locs1 hz hP hS1 => ?_
    refine kk ls H1 locs1 hL ⟨?_, hz.trans hW.2⟩ hS1
    rw [wls_set (S' := S) (m' := wI m a k x) rfl (fun _ => ?_) (fun b hb => ?_)] at hP
    · exact hP
    · rw [cE_o k2 c5, oF_set (S' := S) (m' := wI m a k x) (fun _ => ?_) (fun j hj => ?_)]
      · rw [hc]; simp [fc, fV, gI_s]
      · exact fV_of (gI_n _ _ _ _ _ _ (by simp [hj])) rfl rfl
    · exact cE_of rfl (fun j => gI_n _ _ _ _ _ _ (by simp [hb])) (fun _ => rfl) (fun _ => rfl)
theorem a_iald {a : Nat} {i : Int32} (hd : decode (yC Y) pc = .ok (.iaload, 1)) (hk : ck S a 20 = true) (h : AW Y (pc + 1) L (aI (gI m a i.toNatClampNeg) :: st) S m o) : AW Y pc L (aI i :: aR (some a) :: st) S m (bD S a i o) :=
  AW.if (fun _ => AW.none) fun hin => h.step fun p l e R s mid args below meth c H0 D G base b cells slots Q H locs ls X hW hS hL kk => by
    obtain ⟨k1, k2⟩ := ck_i hk
    exact va_iald X.1 X.2.1 X.K hW.1 a 0 (by rw [wls_at k1, cE_i k2]) (rfl : (tyl G)[0]? = some (G.1, .int)) hin hd (kk ls hL)
theorem a_lald {a : Nat} {i : Int32} (hd : decode (yC Y) pc = .ok (.laload, 1)) (hk : ck S a 21 = true) (h : AW Y (pc + 1) L (aJ (gL m a i.toNatClampNeg) :: st) S m o) : AW Y pc L (aI i :: aR (some a) :: st) S m (bD S a i o) :=
  AW.if (fun _ => AW.none) fun hin => h.step fun p l e R s mid args below meth c H0 D G base b cells slots Q H locs ls X hW hS hL kk => by
    obtain ⟨k1, k2⟩ := ck_i hk
    exact va_lald X.1 X.2.1 X.K hW.1 a 1 (by rw [wls_at k1, cE_l k2]) (rfl : (tyl G)[1]? = some (G.2.1, .long)) hin hd (kk ls hL)
theorem a_pald {a t2 : Nat} {i : Int32} {f : Nat → Option ρ} (hd : decode (yC Y) pc = .ok (.aaload, 1)) (hk : ck S a 22 = true) (h : ∀ r, ck S r t2 = true → AW Y (pc + 1) L (aR (some r) :: st) S m (f r)) : AW Y pc L (aI i :: aR (some a) :: st) S m (bD S a i (ldR S a i.toNatClampNeg t2 f)) :=
  AW.if (fun _ => AW.none) fun hin => by
    unfold ldR
    cases hr : gR S a i.toNatClampNeg with
    | none => exact AW.none
    | some r =>
      refine AW.if (fun hck => ?_) (fun _ => AW.none)
      refine (h r hck).step fun p l e R s mid args below meth c H0 D G base b cells slots Q H locs ls X hW hS hL kk => ?_
      obtain ⟨k1, k2⟩ := ck_i hk
      refine va_aldq X.1 X.2.1 X.K hW.1 a 2 (by rw [wls_at k1, cE_p k2]) (rfl : (tyl G)[2]? = some (G.2.2.1, .object RX2)) hin hd ?_
      rw [hr]
      exact kk ls hL
theorem a_tald {a t2 : Nat} {i : Int32} {f : Nat → Option ρ} (hd : decode (yC Y) pc = .ok (.aaload, 1)) (hk : ck S a 23 = true) (h : ∀ r, ck S r t2 = true → AW Y (pc + 1) L (aR (some r) :: st) S m (f r)) : AW Y pc L (aI i :: aR (some a) :: st) S m (bD S a i (ldR S a i.toNatClampNeg t2 f)) :=
  AW.if (fun _ => AW.none) fun hin => by
    unfold ldR
    cases hr : gR S a i.toNatClampNeg with
    | none => exact AW.none
    | some r =>
      refine AW.if (fun hck => ?_) (fun _ => AW.none)
      refine (h r hck).step fun p l e R s mid args below meth c H0 D G base b cells slots Q H locs ls X hW hS hL kk => ?_
      obtain ⟨k1, k2⟩ := ck_i hk
      refine va_aldq X.1 X.2.1 X.K hW.1 a 3 (by rw [wls_at k1, cE_t k2]) (rfl : (tyl G)[3]? = some (G.2.2.2, .object RX10)) hin hd ?_
      rw [hr]
      exact kk ls hL
theorem a_alen {a T : Nat} (hd : decode (yC Y) pc = .ok (.arraylength, 1)) (hk : ck S a T = true) (hT : T = 20 ∨ T = 21 ∨ T = 22 ∨ T = 23) (h : AW Y (pc + 1) L (aI (Int32.ofNat (kL S a)) :: st) S m o) : AW Y pc L (aR (some a) :: st) S m o :=
  h.step fun p l e R s mid args below meth c H0 D G base b cells slots Q H locs ls X hW hS hL kk => by
    obtain ⟨k1, k2⟩ := ck_i hk
    rcases hT with rfl | rfl | rfl | rfl
    · exact va_alen (x := (kL S a, .inl (fun j => gI m a j))) X.1 X.2.1 X.K hW.1 a 0 (by rw [wls_at k1, cE_i k2]) (rfl : (tyl G)[0]? = some (G.1, .int)) rfl hd (kk ls hL)
    · exact va_alen (x := (kL S a, .inr (.inl (fun j => gL m a j)))) X.1 X.2.1 X.K hW.1 a 1 (by rw [wls_at k1, cE_l k2]) (rfl : (tyl G)[1]? = some (G.2.1, .long)) rfl hd (kk ls hL)
    · exact va_alen (x := (kL S a, .inr (.inr (.inr (.inr (fun j => (gR S a j).map (base + ·))))))) X.1 X.2.1 X.K hW.1 a 2 (by rw [wls_at k1, cE_p k2]) (rfl : (tyl G)[2]? = some (G.2.2.1, .object RX2)) rfl hd (kk ls hL)
    · exact va_alen (x := (kL S a, .inr (.inr (.inr (.inr (fun j => (gR S a j).map (base + ·))))))) X.1 X.2.1 X.K hW.1 a 3 (by rw [wls_at k1, cE_t k2]) (rfl : (tyl G)[3]? = some (G.2.2.2, .object RX10)) rfl hd (kk ls hL)
theorem a_iast {a : Nat} {i x : Int32} (hd : decode (yC Y) pc = .ok (.iastore, 1)) (hk : ck S a 20 = true) (h : AW Y (pc + 1) L st S (wI m a i.toNatClampNeg x) o) : AW Y pc L (aI x :: aI i :: aR (some a) :: st) S m (bD S a i o) :=
  AW.if (fun _ => AW.none) fun hin => h.stepM rfl rfl fun p l e R s mid args below meth c H0 D G base b cells slots Q H locs ls X hW hS hL kk => by
    obtain ⟨k1, k2⟩ := ck_i hk
    refine bw_iast X.1 X.2.1 X.K hW.1 wls_D hS a 0 (by rw [wls_at k1, cE_i k2]) (rfl : (tyl G)[0]? = some (G.1, .int)) hin hd fun H1 locs1 hz hP hS1 => ?_
    refine kk ls H1 locs1 hL ⟨?_, hz.trans hW.2⟩ hS1
    rw [wls_set (S' := S) (m' := wI m a i.toNatClampNeg x) rfl (fun _ => ?_) (fun b hb => ?_)] at hP
    · exact hP
    · rw [cE_i k2]
      congr 4
      funext j
      simp [gI, wI, upd]
    · exact cE_of rfl (fun j => gI_n _ _ _ _ _ _ (by simp [hb])) (fun _ => rfl) (fun _ => rfl)
theorem a_last {a : Nat} {i : Int32} {x : Int64} (hd : decode (yC Y) pc = .ok (.lastore, 1)) (hk : ck S a 21 = true) (h : AW Y (pc + 1) L st S (wL m a i.toNatClampNeg x) o) : AW Y pc L (aJ x :: aI i :: aR (some a) :: st) S m (bD S a i o) :=
  AW.if (fun _ => AW.none) fun hin => h.stepM rfl rfl fun p l e R s mid args below meth c H0 D G base b cells slots Q H locs ls X hW hS hL kk => by
    obtain ⟨k1, k2⟩ := ck_i hk
    refine bw_last X.1 X.2.1 X.K hW.1 wls_D hS a 1 (by rw [wls_at k1, cE_l k2]) (rfl : (tyl G)[1]? = some (G.2.1, .long)) hin hd fun H1 locs1 hz hP hS1 => ?_
    refine kk ls H1 locs1 hL ⟨?_, hz.trans hW.2⟩ hS1
    rw [wls_set (S' := S) (m' := wL m a i.toNatClampNeg x) rfl (fun _ => ?_) (fun b hb => ?_)] at hP
    · exact hP
    · rw [cE_l k2]
      congr 5
      funext j
      simp [gL, wL, vp_updL]
    · exact cE_of rfl (fun _ => rfl) (fun j => by simp [gL, wL, hb]) (fun _ => rfl)
/-- the law's script -/
theorem a_slen {N : Nat} {xs : Nat → Int32} (hX : yX Y = some (N, xs)) (hd : decode (yC Y) pc = .ok (.arraylength, 1)) (h : AW Y (pc + 1) L (aI (Int32.ofNat N) :: st) S m o) : AW Y pc L (aX :: st) S m o :=
  h.step fun p l e R s mid args below meth c H0 D G base b cells slots Q H locs ls X hW hS hL kk => by
    obtain ⟨x1, x2, x3⟩ := X.sc hX
    exact va_slen X.1 X.2.1 x1 x2 (Nat.not_le.mpr x3) hS hd (kk ls hL)
def sD {β : Type} (N : Nat) (i : Int32) (r : Option β) : Option β := if i < 0 ∨ N ≤ i.toNatClampNeg then none else r
theorem a_sld {N : Nat} {xs : Nat → Int32} {i : Int32} (hX : yX Y = some (N, xs)) (hd : decode (yC Y) pc = .ok (.iaload, 1)) (h : AW Y (pc + 1) L (aI (xs i.toNatClampNeg) :: st) S m o) : AW Y pc L (aI i :: aX :: st) S m (sD N i o) :=
  AW.if (fun _ => AW.none) fun hin => h.step fun p l e R s mid args below meth c H0 D G base b cells slots Q H locs ls X hW hS hL kk => by
    obtain ⟨x1, x2, x3⟩ := X.sc hX
    exact va_sld X.1 X.2.1 x1 x2 (Nat.not_le.mpr x3) hS hin hd (kk ls hL)
theorem a_ldc2 {ix : Nat} {x : Int64} (hd : decode (yC Y) pc = .ok (.ldc2_w ix, 3)) (hc : Cond.constantLong (yO Y) ix x ∈ lw_tbl) (h : AW Y (pc + 3) L (aJ x :: st) S m o) : AW Y pc L st S m o :=
  h.step fun p l e R s mid args below meth c H0 D G base b cells slots Q H locs ls X hW hS hL kk => lv_ldc2 X.1 X.2.1 X.own (X.ts _ hc rfl) hd (kk ls hL)
end AWM
end
section
/-! making objects and arrays -/
section AWN
variable {ρ : Type} {Y : ba_Y ρ} {pc : Nat} {L : List (Option ba_A)} {st : List ba_A} {S : ba_S} {m : ba_M} {o : Option ρ}
theorem AW.stepN {pc' : Nat} {st' : List ba_A} {t len N : Nat} (k : AW Y pc' L st' (pS S t len N) (pM (nN S) m) o)
    (h : ∀ (p : Program) (l : Launch) (e : Env) (R : Room) (s : State) (mid : MethodId) (args : Array Value) (below : List Frame) (meth : Method) (c : Code) (H0 : Heap) (D : va_G) (G : ba_G) (base b cells slots : Nat) (Q : State → Prop) (H : Heap) (locs : List Loc) (ls : Array Slot),
      CX Y p R s mid args meth c H0 D G base b → Wd D G base S m H → va_S (fun a => base ≤ a) H0 H locs → cells + 1 ≤ R.cells → slots + N ≤ R.slots →
      (∀ H1, H1.size = H.size + 1 → va_P D vwCl (wls base G (pS S t len N) (pM (nN S) m)) H1 → va_S (fun a => base ≤ a) H0 H1 locs → W p l e R s mid args below meth c H1 locs (cells + 1) (slots + N) Q (F0 mid pc' ls (st'.map (cv base b)))) → W p l e R s mid args below meth c H locs cells slots Q (F0 mid pc ls (st.map (cv base b)))) : AW Y pc L st S m o := by
  intro q hq
  obtain ⟨⟨h1, h1'⟩, h2⟩ := k q hq
  have e1 : nN (pS S t len N) = nN S + 1 := rfl
  have e2 : nS (pS S t len N) = nS S + N := rfl
  rw [e1] at h1
  rw [e2] at h1'
  refine ⟨⟨by omega, by omega⟩, ?_⟩
  intro p l e R s mid args below meth c H0 D G base b n0 s0 Q X E H locs ls hW hS hL hn hs
  have c1 := E.1
  have c2 := E.2.1
  refine h p l e R s mid args below meth c H0 D G base b _ _ Q H locs ls X hW hS (by omega) (by omega) fun H1 hz hP hS1 => ?_
  have := h2 p l e R s mid args below meth c H0 D G base b n0 s0 Q X E H1 locs ls ⟨hP, by rw [hz, hW.2, e1]; omega⟩ hS1 hL (by omega) (by omega)
  rw [e1, e2, show nN S + 1 - n0 = nN S - n0 + 1 by omega, show nS S + N - s0 = nS S - s0 + N by omega] at this
  exact this
theorem fY_ok : ∀ t, t < 12 → ∀ k, k < nF t → fY t k ≠ .float ∧ fY t k ≠ .double := by decide +kernel
def ba_nw (own : String) (ix t : Nat) : Prop := ∃ (C : String) (T : u_T) (N : Nat), vwCl[t]? = some (C, T, N) ∧ Cond.classLink own ix C ∈ lw_tbl ∧ Cond.instantiable C N ∈ lw_tbl ∧ Cond.initialized C ∈ lw_tbl
theorem a_new {ix t : Nat} (hd : decode (yC Y) pc = .ok (.new ix, 3)) (hf : ba_nw (yO Y) ix t) (k : AW Y (pc + 3) L (aR (some (nN S)) :: st) (pS S t 0 (nF t)) (pM (nN S) m) o) : AW Y pc L st S m o :=
  k.stepN fun p l e R s mid args below meth c H0 D G base b cells slots Q H locs ls X hW hS hcl hsl kk => by
    obtain ⟨C, T, N, h1, h2, h3, h4⟩ := hf
    obtain ⟨c1, c2, c3, c4, c5⟩ := ba_cls t h1
    have ek : kT (pS S t 0 (nF t)) (nN S) = t := by simp [kT, pS]
    refine bw_new X.1 X.2.1 (X.tu c3) (fun _ h => h) (fY t) c1 X.own (X.ts _ h2 rfl) (X.ts _ h3 rfl) (X.ts _ h4 rfl) X.K hW.1 hS h1 (fs := oF base (pS S t 0 (nF t)) (pM (nN S) m) (nN S) t) (fun j hj => ?_) hcl (by rw [← c4]; exact hsl) hd fun H1 hz hP hS1 => ?_
    · have hj' : j < nF t := by rw [c4]; exact hj
      unfold vp_V
      rw [List.getD_eq_getElem?_getD, oF_at hj']
      have hfd := fY_ok t c5 j hj'
      cases hty : fY t j <;> first | exact absurd hty hfd.1 | exact absurd hty hfd.2 | simp [defaultValue, fc, fV, gI, gL, gR, pM, pS, va_rf]
    · rw [hW.2] at hP ⊢
      rw [wls_push (t := t) (len := 0) (N := nF t) (cE_o ek c5)] at hP
      have := kk H1 (by rw [hz]) hP hS1
      rw [← c4]
      exact this
theorem iAI : Cond.arrayClass .int ∈ lw_tbl := by decide +kernel
theorem iAL : Cond.arrayClass .long ∈ lw_tbl := by decide +kernel
theorem a_newI {n : Int32} (hd : decode (yC Y) pc = .ok (.newarray .int, 2)) (k : AW Y (pc + 2) L (aR (some (nN S)) :: st) (pS S 20 n.toNatClampNeg n.toNatClampNeg) (pM (nN S) m) o) : AW Y pc L (aI n :: st) S m (nA n o) :=
  AW.if (fun _ => AW.none) fun hn => k.stepN fun p l e R s mid args below meth c H0 D G base b cells slots Q H locs ls X hW hS hcl hsl kk => by
    have hG := (X.K.2 0 _ (rfl : (tyl G)[0]? = some (G.1, .int))).2
    have ek : kT (pS S 20 n.toNatClampNeg n.toNatClampNeg) (nN S) = 20 := by simp [kT, pS]
    refine bw_newa (atype := .int) (a0 := (n.toNatClampNeg, .inl (fun _ => 0))) X.1 X.2.1 (X.ts _ iAI rfl) rfl hW.1 hS hG rfl (fun h => hn (Or.inl h)) rfl (by have : ¬ 100000 < n.toNatClampNeg := fun h => hn (Or.inr h); show n.toNatClampNeg * 4 ≤ _; omega) hcl hsl hd fun H1 hz hP hS1 => ?_
    rw [hW.2] at hP ⊢
    rw [wls_push (t := 20) (len := n.toNatClampNeg) (N := n.toNatClampNeg) (by rw [cE_i ek]; simp [kL, pS, gI, pM])] at hP
    exact kk H1 hz hP hS1
theorem a_newL {n : Int32} (hd : decode (yC Y) pc = .ok (.newarray .long, 2)) (k : AW Y (pc + 2) L (aR (some (nN S)) :: st) (pS S 21 n.toNatClampNeg n.toNatClampNeg) (pM (nN S) m) o) : AW Y pc L (aI n :: st) S m (nA n o) :=
  AW.if (fun _ => AW.none) fun hn => k.stepN fun p l e R s mid args below meth c H0 D G base b cells slots Q H locs ls X hW hS hcl hsl kk => by
    have hG := (X.K.2 1 _ (rfl : (tyl G)[1]? = some (G.2.1, .long))).2
    have ek : kT (pS S 21 n.toNatClampNeg n.toNatClampNeg) (nN S) = 21 := by simp [kT, pS]
    refine bw_newa (atype := .long) (a0 := (n.toNatClampNeg, .inr (.inl (fun _ => 0)))) X.1 X.2.1 (X.ts _ iAL rfl) rfl hW.1 hS hG rfl (fun h => hn (Or.inl h)) rfl (by have : ¬ 100000 < n.toNatClampNeg := fun h => hn (Or.inr h); show n.toNatClampNeg * 8 ≤ _; omega) hcl hsl hd fun H1 hz hP hS1 => ?_
    rw [hW.2] at hP ⊢
    rw [wls_push (t := 21) (len := n.toNatClampNeg) (N := n.toNatClampNeg) (by rw [cE_l ek]; simp [kL, pS, gL, pM])] at hP
    exact kk H1 hz hP hS1
theorem a_newP {n : Int32} {ix : Nat} (hd : decode (yC Y) pc = .ok (.anewarray ix, 3)) (hf : Cond.classLink (yO Y) ix RX2 ∈ lw_tbl) (k : AW Y (pc + 3) L (aR (some (nN S)) :: st) (pS S 22 n.toNatClampNeg n.toNatClampNeg) (pM (nN S) m) o) : AW Y pc L (aI n :: st) S m (nA n o) :=
  AW.if (fun _ => AW.none) fun hn => k.stepN fun p l e R s mid args below meth c H0 D G base b cells slots Q H locs ls X hW hS hcl hsl kk => by
    obtain ⟨kA, comp, g1, g2, g3, hG⟩ := (X.K.2 2 _ (rfl : (tyl G)[2]? = some (G.2.2.1, .object RX2))).2
    have ek : kT (pS S 22 n.toNatClampNeg n.toNatClampNeg) (nN S) = 22 := by simp [kT, pS]
    refine bw_newq X.1 X.2.1 X.own (X.ts _ hf rfl) (va_AO.use X.TB.2.1) hW.1 hS hG (fun h => hn (Or.inl h)) rfl (by have : ¬ 100000 < n.toNatClampNeg := fun h => hn (Or.inr h); omega) hcl hsl hd fun H1 hz hP hS1 => ?_
    rw [hW.2] at hP ⊢
    rw [wls_push (t := 22) (len := n.toNatClampNeg) (N := n.toNatClampNeg) (by rw [cE_p ek]; simp [kL, pS, gR])] at hP
    exact kk H1 hz hP hS1
theorem a_newT {n : Int32} {ix : Nat} (hd : decode (yC Y) pc = .ok (.anewarray ix, 3)) (hf : Cond.classLink (yO Y) ix RX10 ∈ lw_tbl) (k : AW Y (pc + 3) L (aR (some (nN S)) :: st) (pS S 23 n.toNatClampNeg n.toNatClampNeg) (pM (nN S) m) o) : AW Y pc L (aI n :: st) S m (nA n o) :=
  AW.if (fun _ => AW.none) fun hn => k.stepN fun p l e R s mid args below meth c H0 D G base b cells slots Q H locs ls X hW hS hcl hsl kk => by
    obtain ⟨kA, comp, g1, g2, g3, hG⟩ := (X.K.2 3 _ (rfl : (tyl G)[3]? = some (G.2.2.2, .object RX10))).2
    have ek : kT (pS S 23 n.toNatClampNeg n.toNatClampNeg) (nN S) = 23 := by simp [kT, pS]
    refine bw_newq X.1 X.2.1 X.own (X.ts _ hf rfl) (va_AO.use X.TB.2.2) hW.1 hS hG (fun h => hn (Or.inl h)) rfl (by have : ¬ 100000 < n.toNatClampNeg := fun h => hn (Or.inr h); omega) hcl hsl hd fun H1 hz hP hS1 => ?_
    rw [hW.2] at hP ⊢
    rw [wls_push (t := 23) (len := n.toNatClampNeg) (N := n.toNatClampNeg) (by rw [cE_t ek]; simp [kL, pS, gR])] at hP
    exact kk H1 hz hP hS1
theorem a_past {a v : Nat} {i : Int32} (hd : decode (yC Y) pc = .ok (.aastore, 1)) (hk : ck S a 22 = true) (hv : ck S v 2 = true) (h : AW Y (pc + 1) L st (wR S a i.toNatClampNeg (some v)) m o) : AW Y pc L (aR (some v) :: aI i :: aR (some a) :: st) S m (bD S a i o) :=
  AW.if (fun _ => AW.none) fun hin => h.stepM rfl rfl fun p l e R s mid args below meth c H0 D G base b cells slots Q H locs ls X hW hS hL kk => by
    obtain ⟨k1, k2⟩ := ck_i hk
    obtain ⟨v1, v2⟩ := ck_i hv
    refine bw_astq X.1 X.2.1 X.K hW.1 wls_D hS a 2 v 2 (by rw [wls_at k1, cE_p k2]) (rfl : (tyl G)[2]? = some (G.2.2.1, .object RX2)) (by rw [wls_at v1, cE_o v2 (by decide)]) (r := (RX2, TX2, 6)) rfl hin hd fun H1 locs1 hz hP hS1 => ?_
    refine kk ls H1 locs1 hL ⟨?_, hz.trans hW.2⟩ hS1
    rw [wls_set (S := S) (S' := wR S a i.toNatClampNeg (some v)) (m := m) (m' := m) rfl (fun _ => ?_) (fun b hb => ?_)] at hP
    · exact hP
    · rw [cE_p (show kT (wR S a i.toNatClampNeg (some v)) a = 22 from k2)]
      refine congrArg (fun f => (Sum.inl (G.2.2.1, kL S a, .inr (.inr (.inr (.inr f)))) : va_E)) (funext fun j => ?_)
      by_cases hj : j = i.toNatClampNeg
      · subst hj; simp [gR, wR, va_up]
      · simp [gR, wR, va_up, hj]
    · exact cE_of rfl (fun _ => rfl) (fun _ => rfl) (fun j => by simp [gR, wR, hb])
theorem a_tast {a v : Nat} {i : Int32} (hd : decode (yC Y) pc = .ok (.aastore, 1)) (hk : ck S a 23 = true) (hv : ck S v 9 = true) (h : AW Y (pc + 1) L st (wR S a i.toNatClampNeg (some v)) m o) : AW Y pc L (aR (some v) :: aI i :: aR (some a) :: st) S m (bD S a i o) :=
  AW.if (fun _ => AW.none) fun hin => h.stepM rfl rfl fun p l e R s mid args below meth c H0 D G base b cells slots Q H locs ls X hW hS hL kk => by
    obtain ⟨k1, k2⟩ := ck_i hk
    obtain ⟨v1, v2⟩ := ck_i hv
    refine bw_astq X.1 X.2.1 X.K hW.1 wls_D hS a 3 v 9 (by rw [wls_at k1, cE_t k2]) (rfl : (tyl G)[3]? = some (G.2.2.2, .object RX10)) (by rw [wls_at v1, cE_o v2 (by decide)]) (r := (RX10, TX10, 4)) rfl hin hd fun H1 locs1 hz hP hS1 => ?_
    refine kk ls H1 locs1 hL ⟨?_, hz.trans hW.2⟩ hS1
    rw [wls_set (S := S) (S' := wR S a i.toNatClampNeg (some v)) (m := m) (m' := m) rfl (fun _ => ?_) (fun b hb => ?_)] at hP
    · exact hP
    · rw [cE_t (show kT (wR S a i.toNatClampNeg (some v)) a = 23 from k2)]
      refine congrArg (fun f => (Sum.inl (G.2.2.2, kL S a, .inr (.inr (.inr (.inr f)))) : va_E)) (funext fun j => ?_)
      by_cases hj : j = i.toNatClampNeg
      · subst hj; simp [gR, wR, va_up]
      · simp [gR, wR, va_up, hj]
    · exact cE_of rfl (fun _ => rfl) (fun _ => rfl) (fun j => by simp [gR, wR, hb])
/-- Object's constructor -/
theorem iOI : Cond.instanceMethod Lib.objectInit ∈ lw_tbl := by decide +kernel
theorem iOC : Cond.code Lib.objectInit ⟨#[0xb1]⟩ 1 none ∈ lw_tbl := by decide +kernel
theorem a_obj {ix a : Nat} (hd : decode (yC Y) pc = .ok (.invokespecial ix, 3)) (hl : Cond.methodLink (yO Y) ix Lib.objectInit ∈ lw_tbl) (hF : decide (1 ≤ yF Y) = true) (hLc : decide (20 ≤ yL Y) = true) (hst : decide ((st.map ac).sum ≤ 8) = true) (k : AW Y (pc + 3) L st S m o) : AW Y pc L (aR (some a) :: st) S m o :=
  k.step fun p l e R s mid args below meth c H0 D G base b cells slots Q H locs ls X hW hS hL kk => by
    have f1 := X.F
    have f2 := of_decide_eq_true hF
    have f3 := of_decide_eq_true hLc
    have f4 := of_decide_eq_true hst
    exact W.objInit X.1 X.2.1 X.own (X.ts _ hl rfl) (X.ts _ iOI rfl) (X.ts _ iOC rfl) rfl (by rw [X.2.2.1]; exact hL.1) rfl hd (Nat.le_trans f2 f1.1) (by show 2 * 0 + _ + 12 ≤ _; rw [cv_sum]; omega) (kk ls hL)
end AWN
end
section
/-! contracts: a method as a function of the memory; calls -/
def ba_tb : List Cond := lw_tbl.filter goodWord
def QA (v : Option Value) (D : va_G) (G : ba_G) (base : Nat) (S' : ba_S) (m' : ba_M) : Array Value → State → Outcome → State → Prop := fun _ st oc t => (oc = .returned v ∧ Wd D G base S' m' t.heap) ∧ va_F (fun a => base ≤ a) st t
def PA (as : List Value) (D : va_G) (G : ba_G) (base : Nat) (S : ba_S) (m : ba_M) : Array Value → State → Prop := va_Pc as (fun U => Wd D G base S m U.heap ∧ va_K D vwCl (tyl G) U ∧ TB U)
def MA {ρ : Type} (Y : ba_Y ρ) (y : MethodName) (ret : Option FieldType) (as : List ba_A) (S : ba_S) (m : ba_M) (q : ρ) : Prop :=
  (nN S ≤ nN (yE Y q).2.1 ∧ nS S ≤ nS (yE Y q).2.1) ∧ ∀ (l : Launch) (D : va_G) (G : ba_G) (base b : Nat), Met l y (Cond.code y (yC Y) (yN Y) ret :: ba_tb) ({ frames := yF Y, cells := nN (yE Y q).2.1 - nN S, slots := nS (yE Y q).2.1 - nS S, locals := yL Y })
    (PA (as.map (cv base b)) D G base S m) (QA ((yE Y q).1.map (cv base b)) D G base (yE Y q).2.1 (yE Y q).2.2) (nN (yE Y q).2.1 - nN S) (nS (yE Y q).2.1 - nS S) (fun a => base ≤ a)
def RG (ret : Option FieldType) (ri : Instr) (v : Option ba_A) : Prop :=
  (ret = some .int ∧ ri = .ireturn ∧ ∃ x, v = some (aI x)) ∨ (ret = some .boolean ∧ ri = .ireturn ∧ ∃ z, v = some (aI (b2i z))) ∨ (ret = some .long ∧ ri = .lreturn ∧ ∃ x, v = some (aJ x)) ∨ (ret = none ∧ ri = .return_ ∧ v = none) ∨ (∃ n, ret = some (.object n) ∧ ri = .areturn ∧ ∃ r, v = some (aR r))
theorem lg_len (base b : Nat) (as : List ba_A) : (lg_sl (as.map (cv base b))).length = (as.map ac).sum := by
  induction as with
  | nil => rfl
  | cons a l ih =>
    have h : lg_sl ((a :: l).map (cv base b)) = (if (cv base b a).category = 2 then [Slot.val (cv base b a), Slot.second] else [Slot.val (cv base b a)]) ++ lg_sl (l.map (cv base b)) := by simp [lg_sl]
    rw [h, List.length_append, ih]
    rcases a with x | x | (_ | x) | x <;> simp [cv, Value.category, ac]
theorem ba_met {ρ : Type} {Y : ba_Y ρ} {y : MethodName} {ret : Option FieldType} {as : List ba_A} {S : ba_S} {m : ba_M} {q : ρ} (hy : plainName y.cls = true ∧ yO Y = y.cls) (hX : yX Y = none) (hi : yI Y = true → y.name = "<init>") (hr : RG ret (yR Y) (yE Y q).1) (hs : decide ((as.map ac).sum ≤ yN Y) = true)
    (a : AW Y 0 (La as ++ List.replicate (yN Y - (La as).length) none) [] S m (some q)) : MA Y y ret as S m q := by
  obtain ⟨a1, a2⟩ := a q rfl
  refine ⟨a1, fun l D G base b => ?_⟩
  refine Met.ofW (cc := yC Y) (maxL := yN Y) (ret := ret) hy.1 rfl ?_
  intro p e s mid args below meth c s₁ B hml hv
  obtain ⟨rfl, hW, hK, hTB⟩ := hv
  have hx := B.exec
  have hb := B.bytes
  have hrt := B.returns
  have hts := atoms_spec (ws := Cond.code y (yC Y) (yN Y) ret :: ba_tb) B.pre
  have hown : s.vm.findClass (yO Y) = some mid.cls := by rw [hy.2]; exact findClass_of_methodNamed B.named
  have hlocks := B.notSynchronized
  have hin : meth.name = y.name := (name_of_methodNamed B.named B.method).1
  have hl := lv_entry (as.map (cv base b)) (n := yN Y) (by rw [lg_len]; exact of_decide_eq_true hs)
  rw [lg_entry_eq]
  generalize (lg_sl (as.map (cv base b)) ++ List.replicate (yN Y - (lg_sl (as.map (cv base b))).length) Slot.unset).toArray = ls at hl ⊢
  have hL : LH base b (yN Y) ls (La as ++ List.replicate (yN Y - (La as).length) none) := LH.mem hl fun i v h => by
    have := La_in base b as 0 i v (Lg_app _ _ i v h)
    rwa [Nat.zero_add] at this
  have X : CX Y p (headSpec (Cond.code y (yC Y) (yN Y) ret :: ba_tb) ({ frames := yF Y, cells := nN (yE Y q).2.1 - nN S, slots := nS (yE Y q).2.1 - nS S, locals := yL Y } : Room)).room s mid (as.map (cv base b)).toArray meth c s.heap D G base b := by
    refine ⟨hx, hb, hml, hown, fun w hw hg => hts w (List.mem_cons_of_mem _ (List.mem_filter.mpr ⟨hw, hg⟩)), Nat.le_refl _, Nat.le_refl _, ⟨hK, hTB⟩, ?_, fun h => hin.trans (hi h), fun L xs h => ?_⟩
    · rw [hW.2]; exact Nat.le_add_right _ _
    · rw [hX] at h; cases h
  have key := a2 p l e _ s mid (as.map (cv base b)).toArray below meth c s.heap D G base b (nN S) (nS S) (MQ below (QA ((yE Y q).1.map (cv base b)) D G base (yE Y q).2.1 (yE Y q).2.2) (as.map (cv base b)).toArray s (nN (yE Y q).2.1 - nN S) (nS (yE Y q).2.1 - nS S) (fun a => base ≤ a)) X ?_ s.heap [] ls hW va_S.rf hL (Nat.le_refl _) (Nat.le_refl _)
  · rw [Nat.sub_self, Nat.sub_self] at key
    exact key
  · refine ⟨Nat.le_refl _, Nat.le_refl _, fun H1 locs1 ls1 pc1 hW1 hS1 hd => ?_⟩
    have hq : ∀ (v : Option Value), v = (yE Y q).1.map (cv base b) → ∀ t : State, t.heap = H1 → s.WarmedH t.vm → QA ((yE Y q).1.map (cv base b)) D G base (yE Y q).2.1 (yE Y q).2.2 (as.map (cv base b)).toArray s (.returned v) t := by
      intro v hv t ht _
      exact ⟨⟨by rw [hv], by rw [ht]; exact hW1⟩, hS1.F ht⟩
    rcases hr with ⟨h1, h2, x, h3⟩ | ⟨h1, h2, z, h3⟩ | ⟨h1, h2, x, h3⟩ | ⟨h1, h2, h3⟩ | ⟨n, h1, h2, r, h3⟩
    · rw [h2] at hd
      rw [h3] at hq ⊢
      exact W.iret hx hb (hrt.trans h1) (hq _ rfl) hS1.2.2 hd hlocks
    · rw [h2] at hd
      rw [h3] at hq ⊢
      exact W.zret hx hb (hrt.trans h1) (by cases z <;> rfl) (hq _ rfl) hS1.2.2 hd hlocks
    · rw [h2] at hd
      rw [h3] at hq ⊢
      exact W.lret hx hb (hrt.trans h1) (hq _ rfl) hS1.2.2 hd hlocks
    · rw [h2] at hd
      rw [h3] at hq ⊢
      exact W.vret hx hb (hrt.trans h1) (hq _ rfl) hS1.2.2 hd hlocks
    · rw [h2] at hd
      rw [h3] at hq ⊢
      exact W.aret hx hb (hrt.trans h1) (Or.inl ⟨n, rfl⟩) (by cases r with
        | none => exact Or.inl rfl
        | some a => exact Or.inr ⟨_, rfl⟩) (hq _ rfl) hS1.2.2 hd hlocks
theorem PA.blind {as : List Value} {D : va_G} {G : ba_G} {base : Nat} {S : ba_S} {m : ba_M} : FrameBlind (PA as D G base S m) := by
  intro a U g mk h
  obtain ⟨h0, h1, h2, h3⟩ := h
  exact ⟨h0, h1, va_K.moved (u := U) (U := U.calling g mk a) (Vm.Alike.refl U.vm) h2, TB.same (u := U) (U := U.calling g mk a) rfl h3⟩
theorem ba_goodIn {y : MethodName} {bytes : ByteArray} {maxL : Nat} {ret : Option FieldType} (h : Cond.code y bytes maxL ret ∈ lw_tbl) : GoodIn ba_tb (Cond.code y bytes maxL ret :: ba_tb) := by
  have hall : ∀ w ∈ ba_tb, w ∈ ba_tb ∧ ((w.onTables && w.keeps) = true ∨ ∃ ty, w = .arrayClass ty) := fun w hw => ⟨hw, good_of_word (List.mem_filter.mp hw).2⟩
  intro w hw
  rcases List.mem_cons.mp hw with rfl | hw
  · exact hall _ (List.mem_filter.mpr ⟨h, rfl⟩)
  · exact hall w hw
section BC
variable {p : Program} {l : Launch} {e : Env} {R : Room} {s : State} {m : MethodId} {args : Array Value} {below : List Frame} {meth : Method} {c : Code} {H : Heap} {locs : List Loc} {cells slots mc ms : Nat} {Q : State → Prop}
theorem bw_call {pc : Nat} {ls : Array Slot} {st0 rest : List Value} {H0 : Heap} {v : Option Value} {D : va_G} {G : ba_G} {base : Nat} {S' : ba_S} {m' : ba_M} {a : Array Value}
    (hr : va_Run p l e R s m args below meth c H locs cells slots mc ms (F0 m pc ls st0) rest (QA v D G base S' m' a) (fun a => base ≤ a)) (hS : va_S (fun a => base ≤ a) H0 H locs)
    (kk : ∀ (H1 : Heap) (locs1 : List Loc), Wd D G base S' m' H1 → va_S (fun a => base ≤ a) H0 H1 locs1 → W p l e R s m args below meth c H1 locs1 (cells + mc) (slots + ms) Q (F0 m (pc + 3) ls (v.toList ++ rest))) : W p l e R s m args below meth c H locs cells slots Q (F0 m pc ls st0) := by
  intro T hT X
  obtain ⟨v', st₀, t, T', L, h0, X', hL, e1, e2, ⟨⟨hv, hW⟩, hz, hk⟩, st⟩ := hr T hT X
  cases hv
  rw [h0] at hz hk
  obtain ⟨t2, a1, b1⟩ := kk T'.heap (locs ++ L) (by rw [e1]; exact hW) ⟨Nat.le_trans hS.1 (by rw [e1]; exact hz), fun q h1 h2 => by rw [e1, hk q (Nat.lt_of_lt_of_le h1 hS.1) h2]; exact hS.2.1 q h1 h2, fun q hq => by
      rcases List.mem_append.mp hq with h | h
      · exact hS.2.2 q h
      · exact hL q h⟩ T' rfl X'
  exact ⟨t2, st t2 a1, b1⟩
end BC
/-- what the tables say of a method that is called: its code, its class, its number of arguments -/
def ba_mt (y : MethodName) (bytes : ByteArray) (maxL : Nat) (ret : Option FieldType) (n : Nat) : Prop := Cond.code y bytes maxL ret ∈ lw_tbl ∧ Cond.initialized y.cls ∈ lw_tbl ∧ (y.cls ≠ "java/lang/invoke/MethodHandle" ∧ y.cls ≠ "java/lang/invoke/VarHandle" ∧ (parseMethodDescriptor y.desc).map (fun d => d.parameters.length) = some n)
def ba_vt (y : MethodName) : Prop := Cond.instanceMethod y ∈ lw_tbl ∧ Cond.selects y.cls y y ∈ lw_tbl
section AWC
variable {ρ ρ' : Type} {Y : ba_Y ρ} {Y' : ba_Y ρ'} {pc ix : Nat} {L : List (Option ba_A)} {st rest : List ba_A} {S : ba_S} {m : ba_M} {y : MethodName} {ret : Option FieldType} {as : List ba_A} {f : Option ρ'} {k : ρ' → Option ρ}
theorem AW.call {mcms : Unit} (hr : decide (yF Y' + 1 ≤ yF Y) = true ∧ decide (8 + (yN Y' + 11) + yL Y' ≤ yL Y) = true ∧ decide ((rest.map ac).sum ≤ 8) = true) (hM : ∀ q, f = some q → MA Y' y ret as S m q) (kk : ∀ q, f = some q → AW Y (pc + 3) L ((yE Y' q).1.toList ++ rest) (yE Y' q).2.1 (yE Y' q).2.2 (k q))
    (h : ∀ (q : ρ'), MA Y' y ret as S m q → ∀ (p : Program) (l : Launch) (e : Env) (R : Room) (s : State) (mid : MethodId) (args : Array Value) (below : List Frame) (meth : Method) (c : Code) (H0 : Heap) (D : va_G) (G : ba_G) (base b cells slots : Nat) (H : Heap) (locs : List Loc) (ls : Array Slot),
      CX Y p R s mid args meth c H0 D G base b → Wd D G base S m H → LH base b (yN Y) ls L → yF Y' + 1 ≤ R.frames ∧ 8 + (yN Y' + 11) + yL Y' ≤ R.locals → cells + (nN (yE Y' q).2.1 - nN S) ≤ R.cells ∧ slots + (nS (yE Y' q).2.1 - nS S) ≤ R.slots →
      2 * (F0 mid pc ls (st.map (cv base b))).monitorRoom + ((rest.map (cv base b)).map fun v => v.category).sum ≤ 8 →
      va_Run p l e R s mid args below meth c H locs cells slots (nN (yE Y' q).2.1 - nN S) (nS (yE Y' q).2.1 - nS S) (F0 mid pc ls (st.map (cv base b))) (rest.map (cv base b)) (QA ((yE Y' q).1.map (cv base b)) D G base (yE Y' q).2.1 (yE Y' q).2.2 (as.map (cv base b)).toArray) (fun a => base ≤ a)) : AW Y pc L st S m (f.bind k) := by
  intro q2 hq2
  cases hf : f with
  | none => rw [hf] at hq2; cases hq2
  | some q =>
    rw [hf] at hq2
    obtain ⟨⟨g1, g1'⟩, g2⟩ := kk q hf q2 hq2
    have hm := hM q hf
    obtain ⟨⟨u1, u2⟩, -⟩ := id hm
    refine ⟨⟨by omega, by omega⟩, ?_⟩
    intro p l e R s mid args below meth c H0 D G base b n0 s0 Q X E H locs ls hW hS hL hn hs
    have f1 := X.F
    have f2 := of_decide_eq_true hr.1
    have f3 := of_decide_eq_true hr.2.1
    have f4 := of_decide_eq_true hr.2.2
    have e1 := E.1
    have e2 := E.2.1
    refine bw_call (h q hm p l e R s mid args below meth c H0 D G base b _ _ H locs ls X hW hL ⟨by omega, by omega⟩ ⟨by omega, by omega⟩ (by show 2 * 0 + _ ≤ 8; rw [cv_sum]; omega)) hS fun H1 locs1 hW1 hS1 => ?_
    have := g2 p l e R s mid args below meth c H0 D G base b n0 s0 Q X E H1 locs1 ls hW1 hS1 hL (by omega) (by omega)
    rw [show nN S - n0 + (nN (yE Y' q).2.1 - nN S) = nN (yE Y' q).2.1 - n0 by omega, show nS S - s0 + (nS (yE Y' q).2.1 - nS S) = nS (yE Y' q).2.1 - s0 by omega]
    rw [show ((yE Y' q).1.map (cv base b)).toList ++ rest.map (cv base b) = ((yE Y' q).1.toList ++ rest).map (cv base b) by cases (yE Y' q).1 <;> rfl]
    exact this
theorem CX.fix {p : Program} {R : Room} {s : State} {mid : MethodId} {args : Array Value} {meth : Method} {c : Code} {H0 : Heap} {D : va_G} {G : ba_G} {base b : Nat} (X : CX Y p R s mid args meth c H0 D G base b) : CallFix p mid c (yC Y) (yN Y) s args ba_tb (yO Y) :=
  ⟨X.1, X.2.1, X.2.2.1, X.own, fun w hw => X.ts w (List.mem_filter.mp hw).1 (List.mem_filter.mp hw).2⟩
theorem PA.at {p : Program} {R : Room} {s : State} {mid : MethodId} {args : Array Value} {meth : Method} {c : Code} {H0 H : Heap} {D : va_G} {G : ba_G} {base b : Nat} (X : CX Y p R s mid args meth c H0 D G base b) (hW : Wd D G base S m H) (av : List Value) : PreS s H (PA av D G base S m) av :=
  ⟨PA.blind, fun U hU hWm => ⟨rfl, by rw [hU]; exact hW, va_K.moved hWm.alike X.K, X.TB.warm hWm⟩⟩
theorem a_callV {a t n : Nat} (hd : decode (yC Y) pc = .ok (.invokevirtual ix, 3)) (hl : Cond.methodLink (yO Y) ix y ∈ lw_tbl) (hm : ba_mt y (yC Y') (yN Y') ret n) (hv : ba_vt y) (ht : ∃ q : vw_C, vwCl[t]? = some q ∧ q.1 = y.cls) (hn : as.length = n) (hk : ck S a t = true)
    (hr : decide (yF Y' + 1 ≤ yF Y) = true ∧ decide (8 + (yN Y' + 11) + yL Y' ≤ yL Y) = true ∧ decide ((rest.map ac).sum ≤ 8) = true) (hs : st = as.reverse ++ aR (some a) :: rest) (hM : ∀ q, f = some q → MA Y' y ret (aR (some a) :: as) S m q)
    (kk : ∀ q, f = some q → AW Y (pc + 3) L ((yE Y' q).1.toList ++ rest) (yE Y' q).2.1 (yE Y' q).2.2 (k q)) : AW Y pc L st S m (f.bind k) := by
  refine AW.call (mcms := ()) hr hM kk fun q hMq p l e R s mid args below meth c H0 D G base b cells slots H locs ls X hW hL hRm hcs hst => ?_
  obtain ⟨q5, w1, w2⟩ := ht
  obtain ⟨⟨C, T, N⟩, rfl⟩ : ∃ z, z = q5 := ⟨_, rfl⟩
  obtain ⟨c1, c2, c3, c4, c5⟩ := ba_cls t w1
  obtain ⟨k1, k2⟩ := ck_i hk
  have he : (wls base G S m)[a]? = some (base + a, .inr (t, oF base S m a t)) := by rw [wls_at k1, cE_o k2 c5]
  have hrc := va_recv X.K hW.1 w1 he
  have hP := PA.at X hW (((aR (some a)) :: as).map (cv base b))
  refine va_runV (ws := Cond.code y (yC Y') (yN Y') ret :: ba_tb) (C := y.cls) (b := base + a) (As := as.map (cv base b)) X.fix (hMq.2 l D G base b) ⟨callB_of (ws' := ba_tb) n X.fix.2.2.2.2 (ba_goodIn hm.1) rfl rfl rfl (X.ts _ hm.2.1 rfl) (X.ts _ hl rfl) hm.2.2 hRm, X.ts _ hv.1 rfl, X.ts _ hv.2 rfl⟩ ⟨hP.1, by rw [← w2]; exact hrc, hP.2⟩ rfl (by rw [List.length_map]; exact hn) hL.1 ?_ hst hd hcs
  rw [hs]
  show ((as.reverse ++ aR (some a) :: rest).map (cv base b)) = _
  rw [List.map_append, List.map_reverse]
  rfl
theorem a_callS {n : Nat} (hd : decode (yC Y) pc = .ok (.invokestatic ix, 3)) (hl : Cond.methodLink (yO Y) ix y ∈ lw_tbl) (hm : ba_mt y (yC Y') (yN Y') ret n) (hv : Cond.static y ∈ lw_tbl) (hn : as.length = n)
    (hr : decide (yF Y' + 1 ≤ yF Y) = true ∧ decide (8 + (yN Y' + 11) + yL Y' ≤ yL Y) = true ∧ decide ((rest.map ac).sum ≤ 8) = true) (hs : st = as.reverse ++ rest) (hM : ∀ q, f = some q → MA Y' y ret as S m q)
    (kk : ∀ q, f = some q → AW Y (pc + 3) L ((yE Y' q).1.toList ++ rest) (yE Y' q).2.1 (yE Y' q).2.2 (k q)) : AW Y pc L st S m (f.bind k) := by
  refine AW.call (mcms := ()) hr hM kk fun q hMq p l e R s mid args below meth c H0 D G base b cells slots H locs ls X hW hL hRm hcs hst => ?_
  have hP := PA.at X hW (as.map (cv base b))
  refine va_runS (ws := Cond.code y (yC Y') (yN Y') ret :: ba_tb) (As := as.map (cv base b)) X.fix (hMq.2 l D G base b) ⟨callB_of (ws' := ba_tb) n X.fix.2.2.2.2 (ba_goodIn hm.1) rfl rfl rfl (X.ts _ hm.2.1 rfl) (X.ts _ hl rfl) hm.2.2 hRm, X.ts _ hv rfl⟩ hP rfl (by rw [List.length_map]; exact hn) hL.1 ?_ hst hd hcs
  rw [hs]
  show ((as.reverse ++ rest).map (cv base b)) = _
  rw [List.map_append, List.map_reverse]
theorem a_callSN {n : Nat} {host : String} (hd : decode (yC Y) pc = .ok (.invokestatic ix, 3)) (hl : Cond.methodLinkNest (yO Y) ix y host ∈ lw_tbl) (hm : ba_mt y (yC Y') (yN Y') ret n) (hv : Cond.static y ∈ lw_tbl) (hn : as.length = n)
    (hr : decide (yF Y' + 1 ≤ yF Y) = true ∧ decide (8 + (yN Y' + 11) + yL Y' ≤ yL Y) = true ∧ decide ((rest.map ac).sum ≤ 8) = true) (hs : st = as.reverse ++ rest) (hM : ∀ q, f = some q → MA Y' y ret as S m q)
    (kk : ∀ q, f = some q → AW Y (pc + 3) L ((yE Y' q).1.toList ++ rest) (yE Y' q).2.1 (yE Y' q).2.2 (k q)) : AW Y pc L st S m (f.bind k) := by
  refine AW.call (mcms := ()) hr hM kk fun q hMq p l e R s mid args below meth c H0 D G base b cells slots H locs ls X hW hL hRm hcs hst => ?_
  have hP := PA.at X hW (as.map (cv base b))
  refine va_runSN (ws := Cond.code y (yC Y') (yN Y') ret :: ba_tb) (host := host) (As := as.map (cv base b)) X.fix (hMq.2 l D G base b) ⟨va_cnB (ws' := ba_tb) n X.fix.2.2.2.2 (ba_goodIn hm.1) rfl rfl rfl (X.TB.1 _ hl rfl) (X.ts _ hm.2.1 rfl) hm.2.2 hRm, X.ts _ hv rfl, trivial⟩ hP rfl (by rw [List.length_map]; exact hn) hL.1 ?_ hst hd hcs
  rw [hs]
  show ((as.reverse ++ rest).map (cv base b)) = _
  rw [List.map_append, List.map_reverse]
theorem a_callI {a n : Nat} (hd : decode (yC Y) pc = .ok (.invokespecial ix, 3)) (hl : Cond.methodLink (yO Y) ix y ∈ lw_tbl) (hm : ba_mt y (yC Y') (yN Y') none n) (hv : Cond.instanceMethod y ∈ lw_tbl ∧ y.name = "<init>") (hn : as.length = n)
    (hr : decide (yF Y' + 1 ≤ yF Y) = true ∧ decide (8 + (yN Y' + 11) + yL Y' ≤ yL Y) = true ∧ decide ((rest.map ac).sum ≤ 8) = true) (hs : st = as.reverse ++ aR (some a) :: rest) (hM : ∀ q, f = some q → MA Y' y none (aR (some a) :: as) S m q)
    (kk : ∀ q, f = some q → AW Y (pc + 3) L ((yE Y' q).1.toList ++ rest) (yE Y' q).2.1 (yE Y' q).2.2 (k q)) : AW Y pc L st S m (f.bind k) := by
  refine AW.call (mcms := ()) hr hM kk fun q hMq p l e R s mid args below meth c H0 D G base b cells slots H locs ls X hW hL hRm hcs hst => ?_
  have hP := PA.at X hW (((aR (some a)) :: as).map (cv base b))
  refine va_runI (ws := Cond.code y (yC Y') (yN Y') none :: ba_tb) (b := base + a) (As := as.map (cv base b)) X.fix (hMq.2 l D G base b) ⟨callB_of (ws' := ba_tb) n X.fix.2.2.2.2 (ba_goodIn hm.1) rfl rfl rfl (X.ts _ hm.2.1 rfl) (X.ts _ hl rfl) hm.2.2 hRm, hv.2, X.ts _ hv.1 rfl⟩ hP rfl (by rw [List.length_map]; exact hn) hL.1 ?_ hst hd hcs
  rw [hs]
  show ((as.reverse ++ aR (some a) :: rest).map (cv base b)) = _
  rw [List.map_append, List.map_reverse]
  rfl
theorem a_callIN {a n : Nat} {host : String} (hd : decode (yC Y) pc = .ok (.invokespecial ix, 3)) (hl : Cond.methodLinkNest (yO Y) ix y host ∈ lw_tbl) (hm : ba_mt y (yC Y') (yN Y') none n) (hv : Cond.instanceMethod y ∈ lw_tbl ∧ y.name = "<init>") (hn : as.length = n)
    (hr : decide (yF Y' + 1 ≤ yF Y) = true ∧ decide (8 + (yN Y' + 11) + yL Y' ≤ yL Y) = true ∧ decide ((rest.map ac).sum ≤ 8) = true) (hs : st = as.reverse ++ aR (some a) :: rest) (hM : ∀ q, f = some q → MA Y' y none (aR (some a) :: as) S m q)
    (kk : ∀ q, f = some q → AW Y (pc + 3) L ((yE Y' q).1.toList ++ rest) (yE Y' q).2.1 (yE Y' q).2.2 (k q)) : AW Y pc L st S m (f.bind k) := by
  refine AW.call (mcms := ()) hr hM kk fun q hMq p l e R s mid args below meth c H0 D G base b cells slots H locs ls X hW hL hRm hcs hst => ?_
  have hP := PA.at X hW (((aR (some a)) :: as).map (cv base b))
  refine va_runIN (ws := Cond.code y (yC Y') (yN Y') none :: ba_tb) (host := host) (b := base + a) (As := as.map (cv base b)) X.fix (hMq.2 l D G base b) ⟨va_cnB (ws' := ba_tb) n X.fix.2.2.2.2 (ba_goodIn hm.1) rfl rfl rfl (X.TB.1 _ hl rfl) (X.ts _ hm.2.1 rfl) hm.2.2 hRm, hv.2, X.ts _ hv.1 rfl⟩ hP rfl (by rw [List.length_map]; exact hn) hL.1 ?_ hst hd hcs
  rw [hs]
  show ((as.reverse ++ aR (some a) :: rest).map (cv base b)) = _
  rw [List.map_append, List.map_reverse]
  rfl
end AWC
end
section
/-! rows for calls by what they answer; blocks and loops -/
abbrev mI (cc : ByteArray) (own : String) (nL F Lc : Nat) (S : ba_S) : ba_Y (Int32 × ba_M) := (cc, own, nL, .ireturn, F, Lc, false, none, fun q => (some (aI q.1), S, q.2))
abbrev mZ (cc : ByteArray) (own : String) (nL F Lc : Nat) (S : ba_S) : ba_Y (Bool × ba_M) := (cc, own, nL, .ireturn, F, Lc, false, none, fun q => (some (aI (b2i q.1)), S, q.2))
abbrev mJ (cc : ByteArray) (own : String) (nL F Lc : Nat) (S : ba_S) : ba_Y (Int64 × ba_M) := (cc, own, nL, .lreturn, F, Lc, false, none, fun q => (some (aJ q.1), S, q.2))
abbrev mR (cc : ByteArray) (own : String) (nL F Lc : Nat) (S : ba_S) : ba_Y (Nat × ba_M) := (cc, own, nL, .areturn, F, Lc, false, none, fun q => (some (aR (some q.1)), S, q.2))
abbrev mN (cc : ByteArray) (own : String) (nL F Lc : Nat) (S : ba_S) : ba_Y (Option Nat × ba_M) := (cc, own, nL, .areturn, F, Lc, false, none, fun q => (some (aR q.1), S, q.2))
abbrev mV (cc : ByteArray) (own : String) (nL F Lc : Nat) (S : ba_S) : ba_Y ba_M := (cc, own, nL, .return_, F, Lc, false, none, fun q => (none, S, q))
abbrev mC (cc : ByteArray) (own : String) (nL F Lc : Nat) : ba_Y (ba_S × ba_M) := (cc, own, nL, .return_, F, Lc, true, none, fun q => (none, q.1, q.2))
def sB {β : Type} (S : ba_S) (m : ba_M) (f : ba_S → ba_M → β) : β := f S m
def fx {F : Type} (bot : F) (b : F → F) : Nat → F
  | 0 => bot
  | n + 1 => b (fx bot b n)
def FU : Nat := 10000
theorem Lw_end {L : List (Option ba_A)} : Lw L [] := by cases L <;> exact trivial
theorem Lw_no {a : Option ba_A} {L L' : List (Option ba_A)} (h : Lw L L') : Lw (a :: L) (none :: L') := h
theorem Lw_so {a : Option ba_A} {v : ba_A} {L L' : List (Option ba_A)} (e : a = some v) (h : Lw L L') : Lw (a :: L) (some v :: L') := ⟨e, h⟩
section AWK
variable {ρ : Type} {Y : ba_Y ρ} {pc ix : Nat} {L : List (Option ba_A)} {st rest : List ba_A} {S : ba_S} {m : ba_M} {y : MethodName} {ret : Option FieldType} {as : List ba_A} {cc : ByteArray} {own : String} {nL F Lc a t n : Nat} {host : String}
theorem AW.sB {S2 : ba_S} {m2 : ba_M} {f : ba_S → ba_M → Option ρ} (k : ∀ (S1 : ba_S) (m1 : ba_M), AW Y pc L st S1 m1 (f S1 m1)) : AW Y pc L st S2 m2 (sB S2 m2 f) := k S2 m2

theorem a_callV_I {f : Option (Int32 × ba_M)} {k : Int32 × ba_M → Option ρ} (hd : decode (yC Y) pc = .ok (.invokevirtual ix, 3)) (hl : Cond.methodLink (yO Y) ix y ∈ lw_tbl) (hm : ba_mt y cc nL ret n) (hv : ba_vt y) (ht : ∃ q : vw_C, vwCl[t]? = some q ∧ q.1 = y.cls) (hM : ∀ q, f = some q → MA (mI cc own nL F Lc S) y ret (aR (some a) :: as) S m q) (hs : st = as.reverse ++ aR (some a) :: rest) (hn : as.length = n) (hk : ck S a t = true) (hr : decide (F + 1 ≤ yF Y) = true ∧ decide (8 + (nL + 11) + Lc ≤ yL Y) = true ∧ decide ((rest.map ac).sum ≤ 8) = true) (kk : ∀ q : Int32 × ba_M, AW Y (pc + 3) L (aI q.1 :: rest) S q.2 (k q)) : AW Y pc L st S m (f.bind k) :=
  a_callV (Y' := (mI cc own nL F Lc S)) hd hl hm hv ht hn hk hr hs hM (fun q _ => kk q)
theorem a_callS_I {f : Option (Int32 × ba_M)} {k : Int32 × ba_M → Option ρ} (hd : decode (yC Y) pc = .ok (.invokestatic ix, 3)) (hl : Cond.methodLink (yO Y) ix y ∈ lw_tbl) (hm : ba_mt y cc nL ret n) (hv : Cond.static y ∈ lw_tbl) (hM : ∀ q, f = some q → MA (mI cc own nL F Lc S) y ret as S m q) (hs : st = as.reverse ++ rest) (hn : as.length = n) (hr : decide (F + 1 ≤ yF Y) = true ∧ decide (8 + (nL + 11) + Lc ≤ yL Y) = true ∧ decide ((rest.map ac).sum ≤ 8) = true) (kk : ∀ q : Int32 × ba_M, AW Y (pc + 3) L (aI q.1 :: rest) S q.2 (k q)) : AW Y pc L st S m (f.bind k) :=
  a_callS (Y' := (mI cc own nL F Lc S)) hd hl hm hv hn hr hs hM (fun q _ => kk q)
theorem a_callSN_I {f : Option (Int32 × ba_M)} {k : Int32 × ba_M → Option ρ} (hd : decode (yC Y) pc = .ok (.invokestatic ix, 3)) (hl : Cond.methodLinkNest (yO Y) ix y host ∈ lw_tbl) (hm : ba_mt y cc nL ret n) (hv : Cond.static y ∈ lw_tbl) (hM : ∀ q, f = some q → MA (mI cc own nL F Lc S) y ret as S m q) (hs : st = as.reverse ++ rest) (hn : as.length = n) (hr : decide (F + 1 ≤ yF Y) = true ∧ decide (8 + (nL + 11) + Lc ≤ yL Y) = true ∧ decide ((rest.map ac).sum ≤ 8) = true) (kk : ∀ q : Int32 × ba_M, AW Y (pc + 3) L (aI q.1 :: rest) S q.2 (k q)) : AW Y pc L st S m (f.bind k) :=
  a_callSN (Y' := (mI cc own nL F Lc S)) hd hl hm hv hn hr hs hM (fun q _ => kk q)
theorem a_callV_Z {f : Option (Bool × ba_M)} {k : Bool × ba_M → Option ρ} (hd : decode (yC Y) pc = .ok (.invokevirtual ix, 3)) (hl : Cond.methodLink (yO Y) ix y ∈ lw_tbl) (hm : ba_mt y cc nL ret n) (hv : ba_vt y) (ht : ∃ q : vw_C, vwCl[t]? = some q ∧ q.1 = y.cls) (hM : ∀ q, f = some q → MA (mZ cc own nL F Lc S) y ret (aR (some a) :: as) S m q) (hs : st = as.reverse ++ aR (some a) :: rest) (hn : as.length = n) (hk : ck S a t = true) (hr : decide (F + 1 ≤ yF Y) = true ∧ decide (8 + (nL + 11) + Lc ≤ yL Y) = true ∧ decide ((rest.map ac).sum ≤ 8) = true) (kk : ∀ q : Bool × ba_M, AW Y (pc + 3) L (aI (b2i q.1) :: rest) S q.2 (k q)) : AW Y pc L st S m (f.bind k) :=
  a_callV (Y' := (mZ cc own nL F Lc S)) hd hl hm hv ht hn hk hr hs hM (fun q _ => kk q)
theorem a_callS_Z {f : Option (Bool × ba_M)} {k : Bool × ba_M → Option ρ} (hd : decode (yC Y) pc = .ok (.invokestatic ix, 3)) (hl : Cond.methodLink (yO Y) ix y ∈ lw_tbl) (hm : ba_mt y cc nL ret n) (hv : Cond.static y ∈ lw_tbl) (hM : ∀ q, f = some q → MA (mZ cc own nL F Lc S) y ret as S m q) (hs : st = as.reverse ++ rest) (hn : as.length = n) (hr : decide (F + 1 ≤ yF Y) = true ∧ decide (8 + (nL + 11) + Lc ≤ yL Y) = true ∧ decide ((rest.map ac).sum ≤ 8) = true) (kk : ∀ q : Bool × ba_M, AW Y (pc + 3) L (aI (b2i q.1) :: rest) S q.2 (k q)) : AW Y pc L st S m (f.bind k) :=
  a_callS (Y' := (mZ cc own nL F Lc S)) hd hl hm hv hn hr hs hM (fun q _ => kk q)
theorem a_callSN_Z {f : Option (Bool × ba_M)} {k : Bool × ba_M → Option ρ} (hd : decode (yC Y) pc = .ok (.invokestatic ix, 3)) (hl : Cond.methodLinkNest (yO Y) ix y host ∈ lw_tbl) (hm : ba_mt y cc nL ret n) (hv : Cond.static y ∈ lw_tbl) (hM : ∀ q, f = some q → MA (mZ cc own nL F Lc S) y ret as S m q) (hs : st = as.reverse ++ rest) (hn : as.length = n) (hr : decide (F + 1 ≤ yF Y) = true ∧ decide (8 + (nL + 11) + Lc ≤ yL Y) = true ∧ decide ((rest.map ac).sum ≤ 8) = true) (kk : ∀ q : Bool × ba_M, AW Y (pc + 3) L (aI (b2i q.1) :: rest) S q.2 (k q)) : AW Y pc L st S m (f.bind k) :=
  a_callSN (Y' := (mZ cc own nL F Lc S)) hd hl hm hv hn hr hs hM (fun q _ => kk q)
theorem a_callV_J {f : Option (Int64 × ba_M)} {k : Int64 × ba_M → Option ρ} (hd : decode (yC Y) pc = .ok (.invokevirtual ix, 3)) (hl : Cond.methodLink (yO Y) ix y ∈ lw_tbl) (hm : ba_mt y cc nL ret n) (hv : ba_vt y) (ht : ∃ q : vw_C, vwCl[t]? = some q ∧ q.1 = y.cls) (hM : ∀ q, f = some q → MA (mJ cc own nL F Lc S) y ret (aR (some a) :: as) S m q) (hs : st = as.reverse ++ aR (some a) :: rest) (hn : as.length = n) (hk : ck S a t = true) (hr : decide (F + 1 ≤ yF Y) = true ∧ decide (8 + (nL + 11) + Lc ≤ yL Y) = true ∧ decide ((rest.map ac).sum ≤ 8) = true) (kk : ∀ q : Int64 × ba_M, AW Y (pc + 3) L (aJ q.1 :: rest) S q.2 (k q)) : AW Y pc L st S m (f.bind k) :=
  a_callV (Y' := (mJ cc own nL F Lc S)) hd hl hm hv ht hn hk hr hs hM (fun q _ => kk q)
theorem a_callS_J {f : Option (Int64 × ba_M)} {k : Int64 × ba_M → Option ρ} (hd : decode (yC Y) pc = .ok (.invokestatic ix, 3)) (hl : Cond.methodLink (yO Y) ix y ∈ lw_tbl) (hm : ba_mt y cc nL ret n) (hv : Cond.static y ∈ lw_tbl) (hM : ∀ q, f = some q → MA (mJ cc own nL F Lc S) y ret as S m q) (hs : st = as.reverse ++ rest) (hn : as.length = n) (hr : decide (F + 1 ≤ yF Y) = true ∧ decide (8 + (nL + 11) + Lc ≤ yL Y) = true ∧ decide ((rest.map ac).sum ≤ 8) = true) (kk : ∀ q : Int64 × ba_M, AW Y (pc + 3) L (aJ q.1 :: rest) S q.2 (k q)) : AW Y pc L st S m (f.bind k) :=
  a_callS (Y' := (mJ cc own nL F Lc S)) hd hl hm hv hn hr hs hM (fun q _ => kk q)
theorem a_callSN_J {f : Option (Int64 × ba_M)} {k : Int64 × ba_M → Option ρ} (hd : decode (yC Y) pc = .ok (.invokestatic ix, 3)) (hl : Cond.methodLinkNest (yO Y) ix y host ∈ lw_tbl) (hm : ba_mt y cc nL ret n) (hv : Cond.static y ∈ lw_tbl) (hM : ∀ q, f = some q → MA (mJ cc own nL F Lc S) y ret as S m q) (hs : st = as.reverse ++ rest) (hn : as.length = n) (hr : decide (F + 1 ≤ yF Y) = true ∧ decide (8 + (nL + 11) + Lc ≤ yL Y) = true ∧ decide ((rest.map ac).sum ≤ 8) = true) (kk : ∀ q : Int64 × ba_M, AW Y (pc + 3) L (aJ q.1 :: rest) S q.2 (k q)) : AW Y pc L st S m (f.bind k) :=
  a_callSN (Y' := (mJ cc own nL F Lc S)) hd hl hm hv hn hr hs hM (fun q _ => kk q)
theorem a_callV_R {f : Option (Nat × ba_M)} {k : Nat × ba_M → Option ρ} (hd : decode (yC Y) pc = .ok (.invokevirtual ix, 3)) (hl : Cond.methodLink (yO Y) ix y ∈ lw_tbl) (hm : ba_mt y cc nL ret n) (hv : ba_vt y) (ht : ∃ q : vw_C, vwCl[t]? = some q ∧ q.1 = y.cls) (hM : ∀ q, f = some q → MA (mR cc own nL F Lc S) y ret (aR (some a) :: as) S m q) (hs : st = as.reverse ++ aR (some a) :: rest) (hn : as.length = n) (hk : ck S a t = true) (hr : decide (F + 1 ≤ yF Y) = true ∧ decide (8 + (nL + 11) + Lc ≤ yL Y) = true ∧ decide ((rest.map ac).sum ≤ 8) = true) (kk : ∀ q : Nat × ba_M, AW Y (pc + 3) L (aR (some q.1) :: rest) S q.2 (k q)) : AW Y pc L st S m (f.bind k) :=
  a_callV (Y' := (mR cc own nL F Lc S)) hd hl hm hv ht hn hk hr hs hM (fun q _ => kk q)
theorem a_callS_R {f : Option (Nat × ba_M)} {k : Nat × ba_M → Option ρ} (hd : decode (yC Y) pc = .ok (.invokestatic ix, 3)) (hl : Cond.methodLink (yO Y) ix y ∈ lw_tbl) (hm : ba_mt y cc nL ret n) (hv : Cond.static y ∈ lw_tbl) (hM : ∀ q, f = some q → MA (mR cc own nL F Lc S) y ret as S m q) (hs : st = as.reverse ++ rest) (hn : as.length = n) (hr : decide (F + 1 ≤ yF Y) = true ∧ decide (8 + (nL + 11) + Lc ≤ yL Y) = true ∧ decide ((rest.map ac).sum ≤ 8) = true) (kk : ∀ q : Nat × ba_M, AW Y (pc + 3) L (aR (some q.1) :: rest) S q.2 (k q)) : AW Y pc L st S m (f.bind k) :=
  a_callS (Y' := (mR cc own nL F Lc S)) hd hl hm hv hn hr hs hM (fun q _ => kk q)
theorem a_callSN_R {f : Option (Nat × ba_M)} {k : Nat × ba_M → Option ρ} (hd : decode (yC Y) pc = .ok (.invokestatic ix, 3)) (hl : Cond.methodLinkNest (yO Y) ix y host ∈ lw_tbl) (hm : ba_mt y cc nL ret n) (hv : Cond.static y ∈ lw_tbl) (hM : ∀ q, f = some q → MA (mR cc own nL F Lc S) y ret as S m q) (hs : st = as.reverse ++ rest) (hn : as.length = n) (hr : decide (F + 1 ≤ yF Y) = true ∧ decide (8 + (nL + 11) + Lc ≤ yL Y) = true ∧ decide ((rest.map ac).sum ≤ 8) = true) (kk : ∀ q : Nat × ba_M, AW Y (pc + 3) L (aR (some q.1) :: rest) S q.2 (k q)) : AW Y pc L st S m (f.bind k) :=
  a_callSN (Y' := (mR cc own nL F Lc S)) hd hl hm hv hn hr hs hM (fun q _ => kk q)
theorem a_callV_N {f : Option (Option Nat × ba_M)} {k : Option Nat × ba_M → Option ρ} (hd : decode (yC Y) pc = .ok (.invokevirtual ix, 3)) (hl : Cond.methodLink (yO Y) ix y ∈ lw_tbl) (hm : ba_mt y cc nL ret n) (hv : ba_vt y) (ht : ∃ q : vw_C, vwCl[t]? = some q ∧ q.1 = y.cls) (hM : ∀ q, f = some q → MA (mN cc own nL F Lc S) y ret (aR (some a) :: as) S m q) (hs : st = as.reverse ++ aR (some a) :: rest) (hn : as.length = n) (hk : ck S a t = true) (hr : decide (F + 1 ≤ yF Y) = true ∧ decide (8 + (nL + 11) + Lc ≤ yL Y) = true ∧ decide ((rest.map ac).sum ≤ 8) = true) (kk : ∀ q : Option Nat × ba_M, AW Y (pc + 3) L (aR q.1 :: rest) S q.2 (k q)) : AW Y pc L st S m (f.bind k) :=
  a_callV (Y' := (mN cc own nL F Lc S)) hd hl hm hv ht hn hk hr hs hM (fun q _ => kk q)
theorem a_callS_N {f : Option (Option Nat × ba_M)} {k : Option Nat × ba_M → Option ρ} (hd : decode (yC Y) pc = .ok (.invokestatic ix, 3)) (hl : Cond.methodLink (yO Y) ix y ∈ lw_tbl) (hm : ba_mt y cc nL ret n) (hv : Cond.static y ∈ lw_tbl) (hM : ∀ q, f = some q → MA (mN cc own nL F Lc S) y ret as S m q) (hs : st = as.reverse ++ rest) (hn : as.length = n) (hr : decide (F + 1 ≤ yF Y) = true ∧ decide (8 + (nL + 11) + Lc ≤ yL Y) = true ∧ decide ((rest.map ac).sum ≤ 8) = true) (kk : ∀ q : Option Nat × ba_M, AW Y (pc + 3) L (aR q.1 :: rest) S q.2 (k q)) : AW Y pc L st S m (f.bind k) :=
  a_callS (Y' := (mN cc own nL F Lc S)) hd hl hm hv hn hr hs hM (fun q _ => kk q)
theorem a_callSN_N {f : Option (Option Nat × ba_M)} {k : Option Nat × ba_M → Option ρ} (hd : decode (yC Y) pc = .ok (.invokestatic ix, 3)) (hl : Cond.methodLinkNest (yO Y) ix y host ∈ lw_tbl) (hm : ba_mt y cc nL ret n) (hv : Cond.static y ∈ lw_tbl) (hM : ∀ q, f = some q → MA (mN cc own nL F Lc S) y ret as S m q) (hs : st = as.reverse ++ rest) (hn : as.length = n) (hr : decide (F + 1 ≤ yF Y) = true ∧ decide (8 + (nL + 11) + Lc ≤ yL Y) = true ∧ decide ((rest.map ac).sum ≤ 8) = true) (kk : ∀ q : Option Nat × ba_M, AW Y (pc + 3) L (aR q.1 :: rest) S q.2 (k q)) : AW Y pc L st S m (f.bind k) :=
  a_callSN (Y' := (mN cc own nL F Lc S)) hd hl hm hv hn hr hs hM (fun q _ => kk q)
theorem a_callV_V {f : Option (ba_M)} {k : ba_M → Option ρ} (hd : decode (yC Y) pc = .ok (.invokevirtual ix, 3)) (hl : Cond.methodLink (yO Y) ix y ∈ lw_tbl) (hm : ba_mt y cc nL ret n) (hv : ba_vt y) (ht : ∃ q : vw_C, vwCl[t]? = some q ∧ q.1 = y.cls) (hM : ∀ q, f = some q → MA (mV cc own nL F Lc S) y ret (aR (some a) :: as) S m q) (hs : st = as.reverse ++ aR (some a) :: rest) (hn : as.length = n) (hk : ck S a t = true) (hr : decide (F + 1 ≤ yF Y) = true ∧ decide (8 + (nL + 11) + Lc ≤ yL Y) = true ∧ decide ((rest.map ac).sum ≤ 8) = true) (kk : ∀ q : ba_M, AW Y (pc + 3) L (rest) S q (k q)) : AW Y pc L st S m (f.bind k) :=
  a_callV (Y' := (mV cc own nL F Lc S)) hd hl hm hv ht hn hk hr hs hM (fun q _ => kk q)
theorem a_callS_V {f : Option (ba_M)} {k : ba_M → Option ρ} (hd : decode (yC Y) pc = .ok (.invokestatic ix, 3)) (hl : Cond.methodLink (yO Y) ix y ∈ lw_tbl) (hm : ba_mt y cc nL ret n) (hv : Cond.static y ∈ lw_tbl) (hM : ∀ q, f = some q → MA (mV cc own nL F Lc S) y ret as S m q) (hs : st = as.reverse ++ rest) (hn : as.length = n) (hr : decide (F + 1 ≤ yF Y) = true ∧ decide (8 + (nL + 11) + Lc ≤ yL Y) = true ∧ decide ((rest.map ac).sum ≤ 8) = true) (kk : ∀ q : ba_M, AW Y (pc + 3) L (rest) S q (k q)) : AW Y pc L st S m (f.bind k) :=
  a_callS (Y' := (mV cc own nL F Lc S)) hd hl hm hv hn hr hs hM (fun q _ => kk q)
theorem a_callSN_V {f : Option (ba_M)} {k : ba_M → Option ρ} (hd : decode (yC Y) pc = .ok (.invokestatic ix, 3)) (hl : Cond.methodLinkNest (yO Y) ix y host ∈ lw_tbl) (hm : ba_mt y cc nL ret n) (hv : Cond.static y ∈ lw_tbl) (hM : ∀ q, f = some q → MA (mV cc own nL F Lc S) y ret as S m q) (hs : st = as.reverse ++ rest) (hn : as.length = n) (hr : decide (F + 1 ≤ yF Y) = true ∧ decide (8 + (nL + 11) + Lc ≤ yL Y) = true ∧ decide ((rest.map ac).sum ≤ 8) = true) (kk : ∀ q : ba_M, AW Y (pc + 3) L (rest) S q (k q)) : AW Y pc L st S m (f.bind k) :=
  a_callSN (Y' := (mV cc own nL F Lc S)) hd hl hm hv hn hr hs hM (fun q _ => kk q)
theorem a_callI_C {f : Option (ba_S × ba_M)} {k : ba_S × ba_M → Option ρ} (hd : decode (yC Y) pc = .ok (.invokespecial ix, 3)) (hl : Cond.methodLink (yO Y) ix y ∈ lw_tbl) (hm : ba_mt y cc nL none n) (hv : Cond.instanceMethod y ∈ lw_tbl ∧ y.name = "<init>") (hM : ∀ q, f = some q → MA (mC cc own nL F Lc) y none (aR (some a) :: as) S m q) (hs : st = as.reverse ++ aR (some a) :: rest) (hn : as.length = n) (hr : decide (F + 1 ≤ yF Y) = true ∧ decide (8 + (nL + 11) + Lc ≤ yL Y) = true ∧ decide ((rest.map ac).sum ≤ 8) = true) (kk : ∀ q : ba_S × ba_M, AW Y (pc + 3) L (rest) q.1 q.2 (k q)) : AW Y pc L st S m (f.bind k) :=
  a_callI (Y' := (mC cc own nL F Lc)) hd hl hm hv hn hr hs hM (fun q _ => kk q)
theorem a_callIN_C {f : Option (ba_S × ba_M)} {k : ba_S × ba_M → Option ρ} (hd : decode (yC Y) pc = .ok (.invokespecial ix, 3)) (hl : Cond.methodLinkNest (yO Y) ix y host ∈ lw_tbl) (hm : ba_mt y cc nL none n) (hv : Cond.instanceMethod y ∈ lw_tbl ∧ y.name = "<init>") (hM : ∀ q, f = some q → MA (mC cc own nL F Lc) y none (aR (some a) :: as) S m q) (hs : st = as.reverse ++ aR (some a) :: rest) (hn : as.length = n) (hr : decide (F + 1 ≤ yF Y) = true ∧ decide (8 + (nL + 11) + Lc ≤ yL Y) = true ∧ decide ((rest.map ac).sum ≤ 8) = true) (kk : ∀ q : ba_S × ba_M, AW Y (pc + 3) L (rest) q.1 q.2 (k q)) : AW Y pc L st S m (f.bind k) :=
  a_callIN (Y' := (mC cc own nL F Lc)) hd hl hm hv hn hr hs hM (fun q _ => kk q)
end AWK
end
section
theorem tm {i : Nat} {w : Cond} (h : lw_tbl[i]? = some w) : w ∈ lw_tbl := List.mem_of_getElem? h
theorem lo_RX9_3 : Cond.methodLink RX9 3 Lib.objectInit ∈ lw_tbl := (tm (i := 68) (by decide +kernel))
theorem fl_RX9_9 : ba_fl RX9 9 8 0 true := ⟨_, _, _, rfl, by decide, (tm (i := 69) (by decide +kernel)), rfl, fun _ => Or.inr trivial⟩
theorem fl_RX9_15 : ba_fl RX9 15 8 1 false := ⟨_, _, _, rfl, by decide, (tm (i := 70) (by decide +kernel)), rfl, fun _ => Or.inr trivial⟩
theorem lo_RX3_3 : Cond.methodLink RX3 3 Lib.objectInit ∈ lw_tbl := (tm (i := 84) (by decide +kernel))
theorem fl_RX3_11 : ba_fl RX3 11 3 0 true := ⟨_, _, _, rfl, by decide, (tm (i := 85) (by decide +kernel)), rfl, fun _ => Or.inr trivial⟩
theorem fl_RX3_15 : ba_fl RX3 15 3 1 false := ⟨_, _, _, rfl, by decide, (tm (i := 86) (by decide +kernel)), rfl, fun _ => Or.inr trivial⟩
theorem lo_RX10_3 : Cond.methodLink RX10 3 Lib.objectInit ∈ lw_tbl := (tm (i := 116) (by decide +kernel))
theorem fl_RX10_9 : ba_fl RX10 9 9 0 false := ⟨_, _, _, rfl, by decide, (tm (i := 117) (by decide +kernel)), rfl, fun _ => Or.inr trivial⟩
theorem fl_RX10_15 : ba_fl RX10 15 9 1 false := ⟨_, _, _, rfl, by decide, (tm (i := 121) (by decide +kernel)), rfl, fun _ => Or.inr trivial⟩
theorem fl_RX10_18 : ba_fl RX10 18 9 2 false := ⟨_, _, _, rfl, by decide, (tm (i := 125) (by decide +kernel)), rfl, fun _ => Or.inr trivial⟩
theorem fl_RX10_21 : ba_fl RX10 21 9 3 false := ⟨_, _, _, rfl, by decide, (tm (i := 128) (by decide +kernel)), rfl, fun _ => Or.inr trivial⟩
theorem lo_RX2_1 : Cond.methodLink RX2 1 Lib.objectInit ∈ lw_tbl := (tm (i := 110) (by decide +kernel))
theorem nw_RX2_7 : ba_nw RX2 7 9 := ⟨_, _, _, rfl, (tm (i := 111) (by decide +kernel)), (tm (i := 112) (by decide +kernel)), (tm (i := 46) (by decide +kernel))⟩
theorem lk_RX2_9 : Cond.methodLinkNest RX2 9 yX10_init "BallAndName" ∈ lw_tbl := (tm (i := 113) (by decide +kernel))
theorem mt_To_init : ba_mt yX10_init cX10_init 1 none 0 := ⟨(tm (i := 115) (by decide +kernel)), (tm (i := 46) (by decide +kernel)), by decide +kernel, by decide +kernel, by decide +kernel⟩
theorem iv_To_init : Cond.instanceMethod yX10_init ∈ lw_tbl ∧ yX10_init.name = "<init>" := ⟨(tm (i := 114) (by decide +kernel)), rfl⟩
theorem fl_RX2_10 : ba_fl RX2 10 2 0 true := ⟨_, _, _, rfl, by decide, (tm (i := 142) (by decide +kernel)), rfl, fun _ => Or.inr trivial⟩
theorem fl_RX2_16 : ba_fl RX2 16 2 1 false := ⟨_, _, _, rfl, by decide, (tm (i := 149) (by decide +kernel)), rfl, fun _ => Or.inr trivial⟩
theorem fl_RX2_20 : ba_fl RX2 20 2 2 false := ⟨_, _, _, rfl, by decide, (tm (i := 153) (by decide +kernel)), rfl, fun _ => Or.inr trivial⟩
theorem fl_RX2_23 : ba_fl RX2 23 2 3 false := ⟨_, _, _, rfl, by decide, (tm (i := 156) (by decide +kernel)), rfl, fun _ => Or.inr trivial⟩
theorem fl_RX2_26 : ba_fl RX2 26 2 4 false := ⟨_, _, _, rfl, by decide, (tm (i := 159) (by decide +kernel)), rfl, fun _ => Or.inr trivial⟩
theorem fl_RX2_29 : ba_fl RX2 29 2 5 false := ⟨_, _, _, rfl, by decide, (tm (i := 162) (by decide +kernel)), rfl, fun _ => Or.inr trivial⟩
theorem fl_RX0_11 : ba_fl RX0 11 0 0 true := ⟨_, _, _, rfl, by decide, (tm (i := 178) (by decide +kernel)), rfl, fun _ => Or.inr trivial⟩
theorem nw_RX0_9 : ba_nw RX0 9 2 := ⟨_, _, _, rfl, (tm (i := 104) (by decide +kernel)), (tm (i := 106) (by decide +kernel)), (tm (i := 45) (by decide +kernel))⟩
theorem lk_RX0_17 : Cond.methodLinkNest RX0 17 yX2_init "BallAndName" ∈ lw_tbl := (tm (i := 107) (by decide +kernel))
theorem mt_Pl_init : ba_mt yX2_init cX2_init 1 none 0 := ⟨(tm (i := 109) (by decide +kernel)), (tm (i := 45) (by decide +kernel)), by decide +kernel, by decide +kernel, by decide +kernel⟩
theorem iv_Pl_init : Cond.instanceMethod yX2_init ∈ lw_tbl ∧ yX2_init.name = "<init>" := ⟨(tm (i := 108) (by decide +kernel)), rfl⟩
theorem lo_RX0_3 : Cond.methodLink RX0 3 Lib.objectInit ∈ lw_tbl := (tm (i := 103) (by decide +kernel))
theorem ca_RX0_9 : Cond.classLink RX0 9 RX2 ∈ lw_tbl := (tm (i := 104) (by decide +kernel))
theorem fl_RX0_18 : ba_fl RX0 18 0 1 true := ⟨_, _, _, rfl, by decide, (tm (i := 179) (by decide +kernel)), rfl, fun _ => Or.inr trivial⟩
theorem fl_RX0_22 : ba_fl RX0 22 0 2 false := ⟨_, _, _, rfl, by decide, (tm (i := 180) (by decide +kernel)), rfl, fun _ => Or.inr trivial⟩
theorem fl_RX0_26 : ba_fl RX0 26 0 3 false := ⟨_, _, _, rfl, by decide, (tm (i := 186) (by decide +kernel)), rfl, fun _ => Or.inr trivial⟩
theorem fl_RX0_29 : ba_fl RX0 29 0 4 false := ⟨_, _, _, rfl, by decide, (tm (i := 191) (by decide +kernel)), rfl, fun _ => Or.inr trivial⟩
theorem lo_RX4_3 : Cond.methodLink RX4 3 Lib.objectInit ∈ lw_tbl := (tm (i := 97) (by decide +kernel))
theorem nw_RX4_9 : ba_nw RX4 9 0 := ⟨_, _, _, rfl, (tm (i := 98) (by decide +kernel)), (tm (i := 99) (by decide +kernel)), (tm (i := 44) (by decide +kernel))⟩
theorem lk_RX4_11 : Cond.methodLink RX4 11 yX0_init ∈ lw_tbl := (tm (i := 100) (by decide +kernel))
theorem mt_Ga_init : ba_mt yX0_init cX0_init 2 none 0 := ⟨(tm (i := 102) (by decide +kernel)), (tm (i := 44) (by decide +kernel)), by decide +kernel, by decide +kernel, by decide +kernel⟩
theorem iv_Ga_init : Cond.instanceMethod yX0_init ∈ lw_tbl ∧ yX0_init.name = "<init>" := ⟨(tm (i := 101) (by decide +kernel)), rfl⟩
theorem fl_RX4_12 : ba_fl RX4 12 4 0 true := ⟨_, _, _, rfl, by decide, (tm (i := 206) (by decide +kernel)), rfl, fun _ => Or.inr trivial⟩
theorem fl_RX4_18 : ba_fl RX4 18 4 1 true := ⟨_, _, _, rfl, by decide, (tm (i := 210) (by decide +kernel)), rfl, fun _ => Or.inr trivial⟩
theorem fl_RX4_22 : ba_fl RX4 22 4 2 true := ⟨_, _, _, rfl, by decide, (tm (i := 211) (by decide +kernel)), rfl, fun _ => Or.inr trivial⟩
theorem fl_RX4_25 : ba_fl RX4 25 4 3 true := ⟨_, _, _, rfl, by decide, (tm (i := 212) (by decide +kernel)), rfl, fun _ => Or.inr trivial⟩
theorem fl_RX4_28 : ba_fl RX4 28 4 4 false := ⟨_, _, _, rfl, by decide, (tm (i := 213) (by decide +kernel)), rfl, fun _ => Or.inr trivial⟩
theorem fl_RX4_32 : ba_fl RX4 32 4 5 false := ⟨_, _, _, rfl, by decide, (tm (i := 215) (by decide +kernel)), rfl, fun _ => Or.inr trivial⟩
theorem fl_RX4_35 : ba_fl RX4 35 4 6 false := ⟨_, _, _, rfl, by decide, (tm (i := 216) (by decide +kernel)), rfl, fun _ => Or.inr trivial⟩
theorem lo_RX6_3 : Cond.methodLink RX6 3 Lib.objectInit ∈ lw_tbl := (tm (i := 240) (by decide +kernel))
theorem fl_RX6_9 : ba_fl RX6 9 5 0 false := ⟨_, _, _, rfl, by decide, (tm (i := 241) (by decide +kernel)), rfl, fun _ => Or.inr trivial⟩
theorem fl_RX6_15 : ba_fl RX6 15 5 1 false := ⟨_, _, _, rfl, by decide, (tm (i := 243) (by decide +kernel)), rfl, fun _ => Or.inr trivial⟩
theorem fl_RX6_19 : ba_fl RX6 19 5 2 false := ⟨_, _, _, rfl, by decide, (tm (i := 245) (by decide +kernel)), rfl, fun _ => Or.inr trivial⟩
theorem fl_RX6_22 : ba_fl RX6 22 5 3 false := ⟨_, _, _, rfl, by decide, (tm (i := 247) (by decide +kernel)), rfl, fun _ => Or.inr trivial⟩
theorem fl_RX6_25 : ba_fl RX6 25 5 4 false := ⟨_, _, _, rfl, by decide, (tm (i := 249) (by decide +kernel)), rfl, fun _ => Or.inr trivial⟩
theorem lo_RX1_5 : Cond.methodLink RX1 5 Lib.objectInit ∈ lw_tbl := (tm (i := 267) (by decide +kernel))
theorem fl_RX1_11 : ba_fl RX1 11 1 0 true := ⟨_, _, _, rfl, by decide, (tm (i := 268) (by decide +kernel)), rfl, fun _ => Or.inr trivial⟩
theorem fl_RX1_15 : ba_fl RX1 15 1 1 true := ⟨_, _, _, rfl, by decide, (tm (i := 269) (by decide +kernel)), rfl, fun _ => Or.inr trivial⟩
theorem fl_RX1_18 : ba_fl RX1 18 1 2 true := ⟨_, _, _, rfl, by decide, (tm (i := 270) (by decide +kernel)), rfl, fun _ => Or.inr trivial⟩
theorem fl_RX1_21 : ba_fl RX1 21 1 3 true := ⟨_, _, _, rfl, by decide, (tm (i := 271) (by decide +kernel)), rfl, fun _ => Or.inr trivial⟩
theorem fl_RX1_25 : ba_fl RX1 25 1 4 true := ⟨_, _, _, rfl, by decide, (tm (i := 272) (by decide +kernel)), rfl, fun _ => Or.inr trivial⟩
theorem fl_RX1_28 : ba_fl RX1 28 1 5 false := ⟨_, _, _, rfl, by decide, (tm (i := 273) (by decide +kernel)), rfl, fun _ => Or.inr trivial⟩
theorem fl_RX1_32 : ba_fl RX1 32 1 6 false := ⟨_, _, _, rfl, by decide, (tm (i := 275) (by decide +kernel)), rfl, fun _ => Or.inr trivial⟩
theorem fl_RX1_36 : ba_fl RX1 36 1 7 false := ⟨_, _, _, rfl, by decide, (tm (i := 277) (by decide +kernel)), rfl, fun _ => Or.inr trivial⟩
theorem lo_RX8_3 : Cond.methodLink RX8 3 Lib.objectInit ∈ lw_tbl := (tm (i := 302) (by decide +kernel))
theorem fl_RX8_9 : ba_fl RX8 9 7 0 true := ⟨_, _, _, rfl, by decide, (tm (i := 303) (by decide +kernel)), rfl, fun _ => Or.inr trivial⟩
theorem fl_RX8_15 : ba_fl RX8 15 7 1 true := ⟨_, _, _, rfl, by decide, (tm (i := 304) (by decide +kernel)), rfl, fun _ => Or.inr trivial⟩
theorem fl_RX8_18 : ba_fl RX8 18 7 2 true := ⟨_, _, _, rfl, by decide, (tm (i := 305) (by decide +kernel)), rfl, fun _ => Or.inr trivial⟩
theorem fl_RX8_21 : ba_fl RX8 21 7 3 false := ⟨_, _, _, rfl, by decide, (tm (i := 306) (by decide +kernel)), rfl, fun _ => Or.inr trivial⟩
theorem fl_RX7_29 : ba_fl RX7 29 6 1 true := ⟨_, _, _, rfl, by decide, (tm (i := 330) (by decide +kernel)), rfl, fun _ => Or.inr trivial⟩
theorem nw_RX7_27 : ba_nw RX7 27 9 := ⟨_, _, _, rfl, (tm (i := 326) (by decide +kernel)), (tm (i := 112) (by decide +kernel)), (tm (i := 46) (by decide +kernel))⟩
theorem lk_RX7_33 : Cond.methodLinkNest RX7 33 yX10_init "BallAndName" ∈ lw_tbl := (tm (i := 328) (by decide +kernel))
theorem lo_RX7_3 : Cond.methodLink RX7 3 Lib.objectInit ∈ lw_tbl := (tm (i := 322) (by decide +kernel))
theorem fl_RX7_9 : ba_fl RX7 9 6 2 false := ⟨_, _, _, rfl, by decide, (tm (i := 331) (by decide +kernel)), rfl, fun _ => Or.inr trivial⟩
theorem fl_RX7_15 : ba_fl RX7 15 6 3 false := ⟨_, _, _, rfl, by decide, (tm (i := 333) (by decide +kernel)), rfl, fun _ => Or.inr trivial⟩
theorem lk_RX7_18 : Cond.methodLink RX7 18 yJ9_max_7cf53 ∈ lw_tbl := (tm (i := 323) (by decide +kernel))
theorem mt_Ma_max : ba_mt yJ9_max_7cf53 cJ9_max_7cf53 2 (some .int) 2 := ⟨(tm (i := 325) (by decide +kernel)), (tm (i := 51) (by decide +kernel)), by decide +kernel, by decide +kernel, by decide +kernel⟩
theorem sv_Ma_max : Cond.static yJ9_max_7cf53 ∈ lw_tbl := (tm (i := 324) (by decide +kernel))
theorem fl_RX7_24 : ba_fl RX7 24 6 0 true := ⟨_, _, _, rfl, by decide, (tm (i := 329) (by decide +kernel)), rfl, fun _ => Or.inr trivial⟩
theorem ca_RX7_27 : Cond.classLink RX7 27 RX10 ∈ lw_tbl := (tm (i := 326) (by decide +kernel))
theorem lk_RX0_32 : Cond.methodLink RX0 32 yX0_who ∈ lw_tbl := (tm (i := 347) (by decide +kernel))
theorem mt_Ga_who : ba_mt yX0_who cX0_who 3 (some (.object "BallAndName$Player")) 1 := ⟨(tm (i := 350) (by decide +kernel)), (tm (i := 44) (by decide +kernel)), by decide +kernel, by decide +kernel, by decide +kernel⟩
theorem vt_Ga_who : ba_vt yX0_who := ⟨(tm (i := 348) (by decide +kernel)), (tm (i := 349) (by decide +kernel))⟩
theorem lk_RX0_36 : Cond.methodLink RX0 36 yX2_become ∈ lw_tbl := (tm (i := 351) (by decide +kernel))
theorem mt_Pl_become : ba_mt yX2_become cX2_become 6 none 5 := ⟨(tm (i := 354) (by decide +kernel)), (tm (i := 45) (by decide +kernel)), by decide +kernel, by decide +kernel, by decide +kernel⟩
theorem vt_Pl_become : ba_vt yX2_become := ⟨(tm (i := 352) (by decide +kernel)), (tm (i := 353) (by decide +kernel))⟩
theorem fl_RX0_40 : ba_fl RX0 40 2 0 true := ⟨_, _, _, rfl, by decide, (tm (i := 145) (by decide +kernel)), rfl, fun _ => Or.inr trivial⟩
theorem lk_RX0_44 : Cond.methodLink RX0 44 yX10_tellCall ∈ lw_tbl := (tm (i := 355) (by decide +kernel))
theorem mt_To_tellCall : ba_mt yX10_tellCall cX10_tellCall 4 none 3 := ⟨(tm (i := 358) (by decide +kernel)), (tm (i := 46) (by decide +kernel)), by decide +kernel, by decide +kernel, by decide +kernel⟩
theorem vt_To_tellCall : ba_vt yX10_tellCall := ⟨(tm (i := 356) (by decide +kernel)), (tm (i := 357) (by decide +kernel))⟩
theorem fl_RX0_50 : ba_fl RX0 50 9 3 false := ⟨_, _, _, rfl, by decide, (tm (i := 129) (by decide +kernel)), rfl, fun _ => Or.inr trivial⟩
theorem fl_RX0_56 : ba_fl RX0 56 2 1 false := ⟨_, _, _, rfl, by decide, (tm (i := 152) (by decide +kernel)), rfl, fun _ => Or.inr trivial⟩
theorem fl_RX0_53 : ba_fl RX0 53 9 0 false := ⟨_, _, _, rfl, by decide, (tm (i := 119) (by decide +kernel)), rfl, fun _ => Or.inr trivial⟩
theorem lo_RX11_1 : Cond.methodLink RX11 1 Lib.objectInit ∈ lw_tbl := (tm (i := 60) (by decide +kernel))
theorem nw_RX11_7 : ba_nw RX11 7 8 := ⟨_, _, _, rfl, (tm (i := 63) (by decide +kernel)), (tm (i := 64) (by decide +kernel)), (tm (i := 41) (by decide +kernel))⟩
theorem lk_RX11_9 : Cond.methodLinkNest RX11 9 yX9_init "BallAndName" ∈ lw_tbl := (tm (i := 65) (by decide +kernel))
theorem mt_Te_init : ba_mt yX9_init cX9_init 1 none 0 := ⟨(tm (i := 67) (by decide +kernel)), (tm (i := 41) (by decide +kernel)), by decide +kernel, by decide +kernel, by decide +kernel⟩
theorem iv_Te_init : Cond.instanceMethod yX9_init ∈ lw_tbl ∧ yX9_init.name = "<init>" := ⟨(tm (i := 66) (by decide +kernel)), rfl⟩
theorem fl_RX11_10 : ba_fl RX11 10 10 0 true := ⟨_, _, _, rfl, by decide, (tm (i := 363) (by decide +kernel)), rfl, fun _ => Or.inr trivial⟩
theorem nw_RX11_16 : ba_nw RX11 16 3 := ⟨_, _, _, rfl, (tm (i := 79) (by decide +kernel)), (tm (i := 80) (by decide +kernel)), (tm (i := 42) (by decide +kernel))⟩
theorem lk_RX11_18 : Cond.methodLinkNest RX11 18 yX3_init "BallAndName" ∈ lw_tbl := (tm (i := 81) (by decide +kernel))
theorem mt_Re_init : ba_mt yX3_init cX3_init 1 none 0 := ⟨(tm (i := 83) (by decide +kernel)), (tm (i := 42) (by decide +kernel)), by decide +kernel, by decide +kernel, by decide +kernel⟩
theorem iv_Re_init : Cond.instanceMethod yX3_init ∈ lw_tbl ∧ yX3_init.name = "<init>" := ⟨(tm (i := 82) (by decide +kernel)), rfl⟩
theorem fl_RX11_19 : ba_fl RX11 19 10 1 true := ⟨_, _, _, rfl, by decide, (tm (i := 364) (by decide +kernel)), rfl, fun _ => Or.inr trivial⟩
theorem nw_RX11_23 : ba_nw RX11 23 4 := ⟨_, _, _, rfl, (tm (i := 92) (by decide +kernel)), (tm (i := 93) (by decide +kernel)), (tm (i := 43) (by decide +kernel))⟩
theorem lk_RX11_25 : Cond.methodLinkNest RX11 25 yX4_init "BallAndName" ∈ lw_tbl := (tm (i := 94) (by decide +kernel))
theorem mt_Ro_init : ba_mt yX4_init cX4_init 1 none 0 := ⟨(tm (i := 96) (by decide +kernel)), (tm (i := 43) (by decide +kernel)), by decide +kernel, by decide +kernel, by decide +kernel⟩
theorem iv_Ro_init : Cond.instanceMethod yX4_init ∈ lw_tbl ∧ yX4_init.name = "<init>" := ⟨(tm (i := 95) (by decide +kernel)), rfl⟩
theorem fl_RX11_26 : ba_fl RX11 26 10 2 true := ⟨_, _, _, rfl, by decide, (tm (i := 365) (by decide +kernel)), rfl, fun _ => Or.inr trivial⟩
theorem fl_RX11_30 : ba_fl RX11 30 4 0 true := ⟨_, _, _, rfl, by decide, (tm (i := 207) (by decide +kernel)), rfl, fun _ => Or.inr trivial⟩
theorem fl_RX11_34 : ba_fl RX11 34 10 3 true := ⟨_, _, _, rfl, by decide, (tm (i := 366) (by decide +kernel)), rfl, fun _ => Or.inr trivial⟩
theorem nw_RX11_35 : ba_nw RX11 35 0 := ⟨_, _, _, rfl, (tm (i := 233) (by decide +kernel)), (tm (i := 99) (by decide +kernel)), (tm (i := 44) (by decide +kernel))⟩
theorem lk_RX11_37 : Cond.methodLink RX11 37 yX0_init ∈ lw_tbl := (tm (i := 234) (by decide +kernel))
theorem fl_RX11_38 : ba_fl RX11 38 10 4 true := ⟨_, _, _, rfl, by decide, (tm (i := 367) (by decide +kernel)), rfl, fun _ => Or.inr trivial⟩
theorem nw_RX11_41 : ba_nw RX11 41 5 := ⟨_, _, _, rfl, (tm (i := 235) (by decide +kernel)), (tm (i := 236) (by decide +kernel)), (tm (i := 47) (by decide +kernel))⟩
theorem lk_RX11_43 : Cond.methodLinkNest RX11 43 yX6_init "BallAndName" ∈ lw_tbl := (tm (i := 237) (by decide +kernel))
theorem mt_Sc_init : ba_mt yX6_init cX6_init 1 none 0 := ⟨(tm (i := 239) (by decide +kernel)), (tm (i := 47) (by decide +kernel)), by decide +kernel, by decide +kernel, by decide +kernel⟩
theorem iv_Sc_init : Cond.instanceMethod yX6_init ∈ lw_tbl ∧ yX6_init.name = "<init>" := ⟨(tm (i := 238) (by decide +kernel)), rfl⟩
theorem fl_RX11_44 : ba_fl RX11 44 10 5 true := ⟨_, _, _, rfl, by decide, (tm (i := 368) (by decide +kernel)), rfl, fun _ => Or.inr trivial⟩
theorem nw_RX11_48 : ba_nw RX11 48 1 := ⟨_, _, _, rfl, (tm (i := 262) (by decide +kernel)), (tm (i := 263) (by decide +kernel)), (tm (i := 48) (by decide +kernel))⟩
theorem lk_RX11_50 : Cond.methodLinkNest RX11 50 yX1_init "BallAndName" ∈ lw_tbl := (tm (i := 264) (by decide +kernel))
theorem mt_Mr_init : ba_mt yX1_init cX1_init 1 none 0 := ⟨(tm (i := 266) (by decide +kernel)), (tm (i := 48) (by decide +kernel)), by decide +kernel, by decide +kernel, by decide +kernel⟩
theorem iv_Mr_init : Cond.instanceMethod yX1_init ∈ lw_tbl ∧ yX1_init.name = "<init>" := ⟨(tm (i := 265) (by decide +kernel)), rfl⟩
theorem fl_RX11_51 : ba_fl RX11 51 10 6 true := ⟨_, _, _, rfl, by decide, (tm (i := 369) (by decide +kernel)), rfl, fun _ => Or.inr trivial⟩
theorem nw_RX11_55 : ba_nw RX11 55 7 := ⟨_, _, _, rfl, (tm (i := 297) (by decide +kernel)), (tm (i := 298) (by decide +kernel)), (tm (i := 49) (by decide +kernel))⟩
theorem lk_RX11_57 : Cond.methodLinkNest RX11 57 yX8_init "BallAndName" ∈ lw_tbl := (tm (i := 299) (by decide +kernel))
theorem mt_Si_init : ba_mt yX8_init cX8_init 1 none 0 := ⟨(tm (i := 301) (by decide +kernel)), (tm (i := 49) (by decide +kernel)), by decide +kernel, by decide +kernel, by decide +kernel⟩
theorem iv_Si_init : Cond.instanceMethod yX8_init ∈ lw_tbl ∧ yX8_init.name = "<init>" := ⟨(tm (i := 300) (by decide +kernel)), rfl⟩
theorem fl_RX11_58 : ba_fl RX11 58 10 7 true := ⟨_, _, _, rfl, by decide, (tm (i := 370) (by decide +kernel)), rfl, fun _ => Or.inr trivial⟩
theorem nw_RX11_62 : ba_nw RX11 62 6 := ⟨_, _, _, rfl, (tm (i := 317) (by decide +kernel)), (tm (i := 318) (by decide +kernel)), (tm (i := 50) (by decide +kernel))⟩
theorem lk_RX11_64 : Cond.methodLink RX11 64 yX7_init ∈ lw_tbl := (tm (i := 319) (by decide +kernel))
theorem mt_Sh_init : ba_mt yX7_init cX7_init 3 none 1 := ⟨(tm (i := 321) (by decide +kernel)), (tm (i := 50) (by decide +kernel)), by decide +kernel, by decide +kernel, by decide +kernel⟩
theorem iv_Sh_init : Cond.instanceMethod yX7_init ∈ lw_tbl ∧ yX7_init.name = "<init>" := ⟨(tm (i := 320) (by decide +kernel)), rfl⟩
theorem fl_RX11_67 : ba_fl RX11 67 10 8 true := ⟨_, _, _, rfl, by decide, (tm (i := 371) (by decide +kernel)), rfl, fun _ => Or.inr trivial⟩
theorem fl_RX11_71 : ba_fl RX11 71 10 9 true := ⟨_, _, _, rfl, by decide, (tm (i := 372) (by decide +kernel)), rfl, fun _ => Or.inr trivial⟩
theorem lk_RX11_74 : Cond.methodLink RX11 74 yX0_addPlayer ∈ lw_tbl := (tm (i := 343) (by decide +kernel))
theorem mt_Ga_addPlayer : ba_mt yX0_addPlayer cX0_addPlayer 7 none 5 := ⟨(tm (i := 346) (by decide +kernel)), (tm (i := 44) (by decide +kernel)), by decide +kernel, by decide +kernel, by decide +kernel⟩
theorem vt_Ga_addPlayer : ba_vt yX0_addPlayer := ⟨(tm (i := 344) (by decide +kernel)), (tm (i := 345) (by decide +kernel))⟩
theorem lk_RX11_78 : Cond.methodLink RX11 78 yX0_tellUntoldCalls ∈ lw_tbl := (tm (i := 359) (by decide +kernel))
theorem mt_Ga_tellUntoldCalls : ba_mt yX0_tellUntoldCalls cX0_tellUntoldCalls 4 none 0 := ⟨(tm (i := 362) (by decide +kernel)), (tm (i := 44) (by decide +kernel)), by decide +kernel, by decide +kernel, by decide +kernel⟩
theorem vt_Ga_tellUntoldCalls : ba_vt yX0_tellUntoldCalls := ⟨(tm (i := 360) (by decide +kernel)), (tm (i := 361) (by decide +kernel))⟩
theorem lk_RX9_19 : Cond.methodLink RX9 19 yX5_put ∈ lw_tbl := (tm (i := 409) (by decide +kernel))
theorem mt_Rw_put : ba_mt yX5_put cX5_put 3 none 3 := ⟨(tm (i := 411) (by decide +kernel)), (tm (i := 53) (by decide +kernel)), by decide +kernel, by decide +kernel, by decide +kernel⟩
theorem sv_Rw_put : Cond.static yX5_put ∈ lw_tbl := (tm (i := 410) (by decide +kernel))
theorem lk_RX11_81 : Cond.methodLink RX11 81 yX11_within ∈ lw_tbl := (tm (i := 398) (by decide +kernel))
theorem mt_Ba_within : ba_mt yX11_within cX11_within 3 (some .boolean) 3 := ⟨(tm (i := 400) (by decide +kernel)), (tm (i := 40) (by decide +kernel)), by decide +kernel, by decide +kernel, by decide +kernel⟩
theorem sv_Ba_within : Cond.static yX11_within ∈ lw_tbl := (tm (i := 399) (by decide +kernel))
theorem lk_RX11_85 : Cond.methodLink RX11 85 yX9_hasRoomFor ∈ lw_tbl := (tm (i := 401) (by decide +kernel))
theorem mt_Te_hasRoomFor : ba_mt yX9_hasRoomFor cX9_hasRoomFor 2 (some .boolean) 1 := ⟨(tm (i := 404) (by decide +kernel)), (tm (i := 41) (by decide +kernel)), by decide +kernel, by decide +kernel, by decide +kernel⟩
theorem vt_Te_hasRoomFor : ba_vt yX9_hasRoomFor := ⟨(tm (i := 402) (by decide +kernel)), (tm (i := 403) (by decide +kernel))⟩
theorem lk_RX11_89 : Cond.methodLink RX11 89 yX9_append ∈ lw_tbl := (tm (i := 405) (by decide +kernel))
theorem mt_Te_append : ba_mt yX9_append cX9_append 5 (some .int) 2 := ⟨(tm (i := 408) (by decide +kernel)), (tm (i := 41) (by decide +kernel)), by decide +kernel, by decide +kernel, by decide +kernel⟩
theorem vt_Te_append : ba_vt yX9_append := ⟨(tm (i := 406) (by decide +kernel)), (tm (i := 407) (by decide +kernel))⟩
theorem lk_RX11_93 : Cond.methodLink RX11 93 yX9_empty ∈ lw_tbl := (tm (i := 416) (by decide +kernel))
theorem mt_Te_empty : ba_mt yX9_empty cX9_empty 2 (some .int) 0 := ⟨(tm (i := 419) (by decide +kernel)), (tm (i := 41) (by decide +kernel)), by decide +kernel, by decide +kernel, by decide +kernel⟩
theorem vt_Te_empty : ba_vt yX9_empty := ⟨(tm (i := 417) (by decide +kernel)), (tm (i := 418) (by decide +kernel))⟩
theorem lk_RX9_25 : Cond.methodLink RX9 25 yX5_at ∈ lw_tbl := (tm (i := 444) (by decide +kernel))
theorem mt_Rw_at : ba_mt yX5_at cX5_at 2 (some .int) 2 := ⟨(tm (i := 446) (by decide +kernel)), (tm (i := 53) (by decide +kernel)), by decide +kernel, by decide +kernel, by decide +kernel⟩
theorem sv_Rw_at : Cond.static yX5_at ∈ lw_tbl := (tm (i := 445) (by decide +kernel))
theorem lk_RX9_29 : Cond.methodLink RX9 29 yX9_byteAt ∈ lw_tbl := (tm (i := 440) (by decide +kernel))
theorem mt_Te_byteAt : ba_mt yX9_byteAt cX9_byteAt 2 (some .int) 1 := ⟨(tm (i := 443) (by decide +kernel)), (tm (i := 41) (by decide +kernel)), by decide +kernel, by decide +kernel, by decide +kernel⟩
theorem vt_Te_byteAt : ba_vt yX9_byteAt := ⟨(tm (i := 441) (by decide +kernel)), (tm (i := 442) (by decide +kernel))⟩
theorem lk_RX9_33 : Cond.methodLinkNest RX9 33 yX11_within "BallAndName" ∈ lw_tbl := (tm (i := 447) (by decide +kernel))
theorem lk_RX3_45 : Cond.methodLink RX3 45 yX5_put ∈ lw_tbl := (tm (i := 449) (by decide +kernel))
theorem lk_RX3_33 : Cond.methodLink RX3 33 yX9_byteAt ∈ lw_tbl := (tm (i := 448) (by decide +kernel))
theorem lk_RX3_41 : Cond.methodLink RX3 41 yX9_hasFigureAt ∈ lw_tbl := (tm (i := 436) (by decide +kernel))
theorem mt_Te_hasFigureAt : ba_mt yX9_hasFigureAt cX9_hasFigureAt 2 (some .boolean) 1 := ⟨(tm (i := 439) (by decide +kernel)), (tm (i := 41) (by decide +kernel)), by decide +kernel, by decide +kernel, by decide +kernel⟩
theorem vt_Te_hasFigureAt : ba_vt yX9_hasFigureAt := ⟨(tm (i := 437) (by decide +kernel)), (tm (i := 438) (by decide +kernel))⟩
theorem lk_RX3_107 : Cond.methodLink RX3 107 yX5_at ∈ lw_tbl := (tm (i := 462) (by decide +kernel))
theorem lk_RX3_67 : Cond.methodLink RX3 67 yX3_number ∈ lw_tbl := (tm (i := 458) (by decide +kernel))
theorem mt_Re_number : ba_mt yX3_number cX3_number 2 (some .int) 1 := ⟨(tm (i := 461) (by decide +kernel)), (tm (i := 42) (by decide +kernel)), by decide +kernel, by decide +kernel, by decide +kernel⟩
theorem vt_Re_number : ba_vt yX3_number := ⟨(tm (i := 460) (by decide +kernel)), (tm (i := 3) (by decide +kernel))⟩
theorem lk_RX3_70 : Cond.methodLinkNest RX3 70 yX11_within "BallAndName" ∈ lw_tbl := (tm (i := 463) (by decide +kernel))
theorem fl_RX3_74 : ba_fl RX3 74 0 3 false := ⟨_, _, _, rfl, by decide, (tm (i := 189) (by decide +kernel)), rfl, fun _ => Or.inr trivial⟩
theorem fl_RX3_77 : ba_fl RX3 77 0 2 false := ⟨_, _, _, rfl, by decide, (tm (i := 185) (by decide +kernel)), rfl, fun _ => Or.inr trivial⟩
theorem lk_RX3_78 : Cond.methodLink RX3 78 yX0_addPlayer ∈ lw_tbl := (tm (i := 468) (by decide +kernel))
theorem lk_RX3_82 : Cond.methodLink RX3 82 yX0_has ∈ lw_tbl := (tm (i := 473) (by decide +kernel))
theorem mt_Ga_has : ba_mt yX0_has cX0_has 2 (some .boolean) 1 := ⟨(tm (i := 476) (by decide +kernel)), (tm (i := 44) (by decide +kernel)), by decide +kernel, by decide +kernel, by decide +kernel⟩
theorem vt_Ga_has : ba_vt yX0_has := ⟨(tm (i := 474) (by decide +kernel)), (tm (i := 475) (by decide +kernel))⟩
theorem lk_RX3_85 : Cond.methodLink RX3 85 yX0_who ∈ lw_tbl := (tm (i := 477) (by decide +kernel))
theorem fl_RX3_89 : ba_fl RX3 89 2 0 true := ⟨_, _, _, rfl, by decide, (tm (i := 147) (by decide +kernel)), rfl, fun _ => Or.inr trivial⟩
theorem lk_RX3_95 : Cond.methodLink RX3 95 yX10_tellCall ∈ lw_tbl := (tm (i := 478) (by decide +kernel))
theorem fl_RX3_101 : ba_fl RX3 101 9 3 false := ⟨_, _, _, rfl, by decide, (tm (i := 131) (by decide +kernel)), rfl, fun _ => Or.inr trivial⟩
theorem fl_RX3_104 : ba_fl RX3 104 0 4 false := ⟨_, _, _, rfl, by decide, (tm (i := 193) (by decide +kernel)), rfl, fun _ => Or.inr trivial⟩
theorem lk_RX3_58 : Cond.methodLink RX3 58 yX3_takeCall ∈ lw_tbl := (tm (i := 469) (by decide +kernel))
theorem mt_Re_takeCall : ba_mt yX3_takeCall cX3_takeCall 2 (some .boolean) 1 := ⟨(tm (i := 472) (by decide +kernel)), (tm (i := 42) (by decide +kernel)), by decide +kernel, by decide +kernel, by decide +kernel⟩
theorem vt_Re_takeCall : ba_vt yX3_takeCall := ⟨(tm (i := 471) (by decide +kernel)), (tm (i := 5) (by decide +kernel))⟩
theorem lk_RX3_64 : Cond.methodLink RX3 64 yX3_takeSlide ∈ lw_tbl := (tm (i := 483) (by decide +kernel))
theorem mt_Re_takeSlide : ba_mt yX3_takeSlide cX3_takeSlide 2 (some .boolean) 1 := ⟨(tm (i := 486) (by decide +kernel)), (tm (i := 42) (by decide +kernel)), by decide +kernel, by decide +kernel, by decide +kernel⟩
theorem vt_Re_takeSlide : ba_vt yX3_takeSlide := ⟨(tm (i := 485) (by decide +kernel)), (tm (i := 7) (by decide +kernel))⟩
theorem lk_RX3_61 : Cond.methodLink RX3 61 yX3_takeLetters ∈ lw_tbl := (tm (i := 479) (by decide +kernel))
theorem mt_Re_takeLetters : ba_mt yX3_takeLetters cX3_takeLetters 2 (some .boolean) 1 := ⟨(tm (i := 482) (by decide +kernel)), (tm (i := 42) (by decide +kernel)), by decide +kernel, by decide +kernel, by decide +kernel⟩
theorem vt_Re_takeLetters : ba_vt yX3_takeLetters := ⟨(tm (i := 481) (by decide +kernel)), (tm (i := 6) (by decide +kernel))⟩
theorem lk_RX3_51 : Cond.methodLink RX3 51 yX3_takeGround ∈ lw_tbl := (tm (i := 454) (by decide +kernel))
theorem mt_Re_takeGround : ba_mt yX3_takeGround cX3_takeGround 2 (some .boolean) 1 := ⟨(tm (i := 457) (by decide +kernel)), (tm (i := 42) (by decide +kernel)), by decide +kernel, by decide +kernel, by decide +kernel⟩
theorem vt_Re_takeGround : ba_vt yX3_takeGround := ⟨(tm (i := 456) (by decide +kernel)), (tm (i := 2) (by decide +kernel))⟩
theorem lk_RX3_55 : Cond.methodLink RX3 55 yX3_takePlayer ∈ lw_tbl := (tm (i := 464) (by decide +kernel))
theorem mt_Re_takePlayer : ba_mt yX3_takePlayer cX3_takePlayer 2 (some .boolean) 1 := ⟨(tm (i := 467) (by decide +kernel)), (tm (i := 42) (by decide +kernel)), by decide +kernel, by decide +kernel, by decide +kernel⟩
theorem vt_Re_takePlayer : ba_vt yX3_takePlayer := ⟨(tm (i := 466) (by decide +kernel)), (tm (i := 4) (by decide +kernel))⟩
theorem fl_RX3_24 : ba_fl RX3 24 8 1 false := ⟨_, _, _, rfl, by decide, (tm (i := 71) (by decide +kernel)), rfl, fun _ => Or.inr trivial⟩
theorem lk_RX3_29 : Cond.methodLink RX3 29 yX3_readNumbers ∈ lw_tbl := (tm (i := 432) (by decide +kernel))
theorem mt_Re_readNumbers : ba_mt yX3_readNumbers cX3_readNumbers 7 (some .int) 2 := ⟨(tm (i := 435) (by decide +kernel)), (tm (i := 42) (by decide +kernel)), by decide +kernel, by decide +kernel, by decide +kernel⟩
theorem vt_Re_readNumbers : ba_vt yX3_readNumbers := ⟨(tm (i := 434) (by decide +kernel)), (tm (i := 0) (by decide +kernel))⟩
theorem lk_RX3_37 : Cond.methodLink RX3 37 yX3_takeItem ∈ lw_tbl := (tm (i := 450) (by decide +kernel))
theorem mt_Re_takeItem : ba_mt yX3_takeItem cX3_takeItem 3 (some .boolean) 2 := ⟨(tm (i := 453) (by decide +kernel)), (tm (i := 42) (by decide +kernel)), by decide +kernel, by decide +kernel, by decide +kernel⟩
theorem vt_Re_takeItem : ba_vt yX3_takeItem := ⟨(tm (i := 452) (by decide +kernel)), (tm (i := 1) (by decide +kernel))⟩
theorem lk_RX3_19 : Cond.methodLink RX3 19 yX0_empty ∈ lw_tbl := (tm (i := 428) (by decide +kernel))
theorem mt_Ga_empty : ba_mt yX0_empty cX0_empty 1 none 0 := ⟨(tm (i := 431) (by decide +kernel)), (tm (i := 44) (by decide +kernel)), by decide +kernel, by decide +kernel, by decide +kernel⟩
theorem vt_Ga_empty : ba_vt yX0_empty := ⟨(tm (i := 429) (by decide +kernel)), (tm (i := 430) (by decide +kernel))⟩
theorem lk_RX11_97 : Cond.methodLink RX11 97 yX3_read ∈ lw_tbl := (tm (i := 424) (by decide +kernel))
theorem mt_Re_read : ba_mt yX3_read cX3_read 5 (some .int) 2 := ⟨(tm (i := 427) (by decide +kernel)), (tm (i := 42) (by decide +kernel)), by decide +kernel, by decide +kernel, by decide +kernel⟩
theorem vt_Re_read : ba_vt yX3_read := ⟨(tm (i := 425) (by decide +kernel)), (tm (i := 426) (by decide +kernel))⟩
theorem lk_RX0_59 : Cond.methodLink RX0 59 yX0_onGround ∈ lw_tbl := (tm (i := 495) (by decide +kernel))
theorem mt_Ga_onGround : ba_mt yX0_onGround cX0_onGround 2 (some .boolean) 1 := ⟨(tm (i := 498) (by decide +kernel)), (tm (i := 44) (by decide +kernel)), by decide +kernel, by decide +kernel, by decide +kernel⟩
theorem vt_Ga_onGround : ba_vt yX0_onGround := ⟨(tm (i := 496) (by decide +kernel)), (tm (i := 497) (by decide +kernel))⟩
theorem fl_RX0_63 : ba_fl RX0 63 9 1 false := ⟨_, _, _, rfl, by decide, (tm (i := 124) (by decide +kernel)), rfl, fun _ => Or.inr trivial⟩
theorem lk_RX10_24 : Cond.methodLink RX10 24 yX10_tellCall ∈ lw_tbl := (tm (i := 512) (by decide +kernel))
theorem lk_RX2_32 : Cond.methodLink RX2 32 yX2_become ∈ lw_tbl := (tm (i := 507) (by decide +kernel))
theorem lk_RX2_36 : Cond.methodLink RX2 36 yX10_copyFrom ∈ lw_tbl := (tm (i := 508) (by decide +kernel))
theorem mt_To_copyFrom : ba_mt yX10_copyFrom cX10_copyFrom 2 none 1 := ⟨(tm (i := 511) (by decide +kernel)), (tm (i := 46) (by decide +kernel)), by decide +kernel, by decide +kernel, by decide +kernel⟩
theorem vt_To_copyFrom : ba_vt yX10_copyFrom := ⟨(tm (i := 509) (by decide +kernel)), (tm (i := 510) (by decide +kernel))⟩
theorem lk_RX0_66 : Cond.methodLink RX0 66 yX2_copyFrom ∈ lw_tbl := (tm (i := 503) (by decide +kernel))
theorem mt_Pl_copyFrom : ba_mt yX2_copyFrom cX2_copyFrom 2 none 1 := ⟨(tm (i := 506) (by decide +kernel)), (tm (i := 45) (by decide +kernel)), by decide +kernel, by decide +kernel, by decide +kernel⟩
theorem vt_Pl_copyFrom : ba_vt yX2_copyFrom := ⟨(tm (i := 504) (by decide +kernel)), (tm (i := 505) (by decide +kernel))⟩
theorem lk_RX11_101 : Cond.methodLink RX11 101 yX0_canBePlayed ∈ lw_tbl := (tm (i := 491) (by decide +kernel))
theorem mt_Ga_canBePlayed : ba_mt yX0_canBePlayed cX0_canBePlayed 2 (some .boolean) 0 := ⟨(tm (i := 494) (by decide +kernel)), (tm (i := 44) (by decide +kernel)), by decide +kernel, by decide +kernel, by decide +kernel⟩
theorem vt_Ga_canBePlayed : ba_vt yX0_canBePlayed := ⟨(tm (i := 492) (by decide +kernel)), (tm (i := 493) (by decide +kernel))⟩
theorem lk_RX11_105 : Cond.methodLink RX11 105 yX0_copyFrom ∈ lw_tbl := (tm (i := 499) (by decide +kernel))
theorem mt_Ga_copyFrom : ba_mt yX0_copyFrom cX0_copyFrom 3 none 1 := ⟨(tm (i := 502) (by decide +kernel)), (tm (i := 44) (by decide +kernel)), by decide +kernel, by decide +kernel, by decide +kernel⟩
theorem vt_Ga_copyFrom : ba_vt yX0_copyFrom := ⟨(tm (i := 500) (by decide +kernel)), (tm (i := 501) (by decide +kernel))⟩
theorem lk_RX11_109 : Cond.methodLink RX11 109 yX8_empty ∈ lw_tbl := (tm (i := 513) (by decide +kernel))
theorem mt_Si_empty : ba_mt yX8_empty cX8_empty 2 (some .int) 0 := ⟨(tm (i := 516) (by decide +kernel)), (tm (i := 49) (by decide +kernel)), by decide +kernel, by decide +kernel, by decide +kernel⟩
theorem vt_Si_empty : ba_vt yX8_empty := ⟨(tm (i := 514) (by decide +kernel)), (tm (i := 515) (by decide +kernel))⟩
theorem lk_RX11_110 : Cond.methodLink RX11 110 yX7_empty ∈ lw_tbl := (tm (i := 517) (by decide +kernel))
theorem mt_Sh_empty : ba_mt yX7_empty cX7_empty 1 none 0 := ⟨(tm (i := 520) (by decide +kernel)), (tm (i := 50) (by decide +kernel)), by decide +kernel, by decide +kernel, by decide +kernel⟩
theorem vt_Sh_empty : ba_vt yX7_empty := ⟨(tm (i := 518) (by decide +kernel)), (tm (i := 519) (by decide +kernel))⟩
theorem fl_RX11_112 : ba_fl RX11 112 0 2 false := ⟨_, _, _, rfl, by decide, (tm (i := 184) (by decide +kernel)), rfl, fun _ => Or.inr trivial⟩
theorem lk_RX11_116 : Cond.methodLink RX11 116 yX0_has ∈ lw_tbl := (tm (i := 525) (by decide +kernel))
theorem lk_RX11_119 : Cond.methodLink RX11 119 yX0_who ∈ lw_tbl := (tm (i := 526) (by decide +kernel))
theorem fl_RX11_123 : ba_fl RX11 123 2 1 false := ⟨_, _, _, rfl, by decide, (tm (i := 151) (by decide +kernel)), rfl, fun _ => Or.inr trivial⟩
theorem fl_RX11_128 : ba_fl RX11 128 2 2 false := ⟨_, _, _, rfl, by decide, (tm (i := 155) (by decide +kernel)), rfl, fun _ => Or.inr trivial⟩
theorem fl_RX11_131 : ba_fl RX11 131 2 3 false := ⟨_, _, _, rfl, by decide, (tm (i := 157) (by decide +kernel)), rfl, fun _ => Or.inr trivial⟩
theorem fl_RX11_134 : ba_fl RX11 134 2 4 false := ⟨_, _, _, rfl, by decide, (tm (i := 160) (by decide +kernel)), rfl, fun _ => Or.inr trivial⟩
theorem fl_RX11_137 : ba_fl RX11 137 2 5 false := ⟨_, _, _, rfl, by decide, (tm (i := 164) (by decide +kernel)), rfl, fun _ => Or.inr trivial⟩
theorem fl_RX11_140 : ba_fl RX11 140 2 0 true := ⟨_, _, _, rfl, by decide, (tm (i := 146) (by decide +kernel)), rfl, fun _ => Or.inr trivial⟩
theorem fl_RX11_144 : ba_fl RX11 144 9 3 false := ⟨_, _, _, rfl, by decide, (tm (i := 130) (by decide +kernel)), rfl, fun _ => Or.inr trivial⟩
theorem fl_RX4_79 : ba_fl RX4 79 2 1 false := ⟨_, _, _, rfl, by decide, (tm (i := 150) (by decide +kernel)), rfl, fun _ => Or.inr trivial⟩
theorem lk_RX4_112 : Cond.methodLink RX4 112 yJ9_abs_0f7a4 ∈ lw_tbl := (tm (i := 544) (by decide +kernel))
theorem mt_Ma_abs : ba_mt yJ9_abs_0f7a4 cJ9_abs_0f7a4 1 (some .int) 1 := ⟨(tm (i := 546) (by decide +kernel)), (tm (i := 51) (by decide +kernel)), by decide +kernel, by decide +kernel, by decide +kernel⟩
theorem sv_Ma_abs : Cond.static yJ9_abs_0f7a4 ∈ lw_tbl := (tm (i := 545) (by decide +kernel))
theorem fl_RX4_88 : ba_fl RX4 88 2 2 false := ⟨_, _, _, rfl, by decide, (tm (i := 154) (by decide +kernel)), rfl, fun _ => Or.inr trivial⟩
theorem lk_RX4_63 : Cond.methodLink RX4 63 yJ9_max_7cf53 ∈ lw_tbl := (tm (i := 547) (by decide +kernel))
theorem lk_RX4_118 : Cond.methodLink RX4 118 yJ9_min_7cf53 ∈ lw_tbl := (tm (i := 555) (by decide +kernel))
theorem mt_Ma_min : ba_mt yJ9_min_7cf53 cJ9_min_7cf53 2 (some .int) 2 := ⟨(tm (i := 557) (by decide +kernel)), (tm (i := 51) (by decide +kernel)), by decide +kernel, by decide +kernel, by decide +kernel⟩
theorem sv_Ma_min : Cond.static yJ9_min_7cf53 ∈ lw_tbl := (tm (i := 556) (by decide +kernel))
theorem lk_RX4_95 : Cond.methodLink RX4 95 yX5_put ∈ lw_tbl := (tm (i := 558) (by decide +kernel))
theorem lk_RX4_91 : Cond.methodLink RX4 91 yX4_toward ∈ lw_tbl := (tm (i := 552) (by decide +kernel))
theorem mt_Ro_toward : ba_mt yX4_toward cX4_toward 3 (some .int) 3 := ⟨(tm (i := 554) (by decide +kernel)), (tm (i := 43) (by decide +kernel)), by decide +kernel, by decide +kernel, by decide +kernel⟩
theorem sv_Ro_toward : Cond.static yX4_toward ∈ lw_tbl := (tm (i := 553) (by decide +kernel))
theorem fl_RX4_85 : ba_fl RX4 85 0 4 false := ⟨_, _, _, rfl, by decide, (tm (i := 192) (by decide +kernel)), rfl, fun _ => Or.inr trivial⟩
theorem lk_RX4_38 : Cond.methodLink RX4 38 yX0_who ∈ lw_tbl := (tm (i := 535) (by decide +kernel))
theorem fl_RX4_82 : ba_fl RX4 82 0 3 false := ⟨_, _, _, rfl, by decide, (tm (i := 188) (by decide +kernel)), rfl, fun _ => Or.inr trivial⟩
theorem fl_RX4_69 : ba_fl RX4 69 0 2 false := ⟨_, _, _, rfl, by decide, (tm (i := 183) (by decide +kernel)), rfl, fun _ => Or.inr trivial⟩
theorem fl_RX4_72 : ba_fl RX4 72 2 5 false := ⟨_, _, _, rfl, by decide, (tm (i := 163) (by decide +kernel)), rfl, fun _ => Or.inr trivial⟩
theorem lk_RX4_75 : Cond.methodLink RX4 75 yX4_suppose ∈ lw_tbl := (tm (i := 548) (by decide +kernel))
theorem mt_Ro_suppose : ba_mt yX4_suppose cX4_suppose 9 none 2 := ⟨(tm (i := 551) (by decide +kernel)), (tm (i := 43) (by decide +kernel)), by decide +kernel, by decide +kernel, by decide +kernel⟩
theorem vt_Ro_suppose : ba_vt yX4_suppose := ⟨(tm (i := 549) (by decide +kernel)), (tm (i := 550) (by decide +kernel))⟩
theorem lk_RX4_59 : Cond.methodLink RX4 59 yX4_beatsToBall ∈ lw_tbl := (tm (i := 540) (by decide +kernel))
theorem mt_Ro_beatsToBall : ba_mt yX4_beatsToBall cX4_beatsToBall 3 (some .int) 1 := ⟨(tm (i := 543) (by decide +kernel)), (tm (i := 43) (by decide +kernel)), by decide +kernel, by decide +kernel, by decide +kernel⟩
theorem vt_Ro_beatsToBall : ba_vt yX4_beatsToBall := ⟨(tm (i := 542) (by decide +kernel)), (tm (i := 8) (by decide +kernel))⟩
theorem fl_RX4_42 : ba_fl RX4 42 2 0 true := ⟨_, _, _, rfl, by decide, (tm (i := 143) (by decide +kernel)), rfl, fun _ => Or.inr trivial⟩
theorem fl_RX4_48 : ba_fl RX4 48 9 0 false := ⟨_, _, _, rfl, by decide, (tm (i := 118) (by decide +kernel)), rfl, fun _ => Or.inr trivial⟩
theorem fl_RX4_51 : ba_fl RX4 51 9 1 false := ⟨_, _, _, rfl, by decide, (tm (i := 122) (by decide +kernel)), rfl, fun _ => Or.inr trivial⟩
theorem fl_RX4_52 : ba_fl RX4 52 9 2 false := ⟨_, _, _, rfl, by decide, (tm (i := 126) (by decide +kernel)), rfl, fun _ => Or.inr trivial⟩
theorem lk_RX4_55 : Cond.methodLink RX4 55 yX4_playCall ∈ lw_tbl := (tm (i := 536) (by decide +kernel))
theorem mt_Ro_playCall : ba_mt yX4_playCall cX4_playCall 5 none 3 := ⟨(tm (i := 539) (by decide +kernel)), (tm (i := 43) (by decide +kernel)), by decide +kernel, by decide +kernel, by decide +kernel⟩
theorem vt_Ro_playCall : ba_vt yX4_playCall := ⟨(tm (i := 537) (by decide +kernel)), (tm (i := 538) (by decide +kernel))⟩
theorem fl_RX11_149 : ba_fl RX11 149 9 0 false := ⟨_, _, _, rfl, by decide, (tm (i := 120) (by decide +kernel)), rfl, fun _ => Or.inr trivial⟩
theorem fl_RX11_152 : ba_fl RX11 152 9 1 false := ⟨_, _, _, rfl, by decide, (tm (i := 123) (by decide +kernel)), rfl, fun _ => Or.inr trivial⟩
theorem fl_RX11_155 : ba_fl RX11 155 9 2 false := ⟨_, _, _, rfl, by decide, (tm (i := 127) (by decide +kernel)), rfl, fun _ => Or.inr trivial⟩
theorem lk_RX11_158 : Cond.methodLink RX11 158 yX4_playAsTold ∈ lw_tbl := (tm (i := 531) (by decide +kernel))
theorem mt_Ro_playAsTold : ba_mt yX4_playAsTold cX4_playAsTold 3 none 1 := ⟨(tm (i := 534) (by decide +kernel)), (tm (i := 43) (by decide +kernel)), by decide +kernel, by decide +kernel, by decide +kernel⟩
theorem vt_Ro_playAsTold : ba_vt yX4_playAsTold := ⟨(tm (i := 532) (by decide +kernel)), (tm (i := 533) (by decide +kernel))⟩
theorem fl_RX11_161 : ba_fl RX11 161 4 6 false := ⟨_, _, _, rfl, by decide, (tm (i := 217) (by decide +kernel)), rfl, fun _ => Or.inr trivial⟩
theorem lk_RX4_101 : Cond.methodLink RX4 101 yX5_at ∈ lw_tbl := (tm (i := 567) (by decide +kernel))
theorem lk_RX11_164 : Cond.methodLink RX11 164 yX4_standOf ∈ lw_tbl := (tm (i := 563) (by decide +kernel))
theorem mt_Ro_standOf : ba_mt yX4_standOf cX4_standOf 2 (some .int) 1 := ⟨(tm (i := 566) (by decide +kernel)), (tm (i := 43) (by decide +kernel)), by decide +kernel, by decide +kernel, by decide +kernel⟩
theorem vt_Ro_standOf : ba_vt yX4_standOf := ⟨(tm (i := 564) (by decide +kernel)), (tm (i := 565) (by decide +kernel))⟩
theorem fl_RX4_109 : ba_fl RX4 109 2 3 false := ⟨_, _, _, rfl, by decide, (tm (i := 158) (by decide +kernel)), rfl, fun _ => Or.inr trivial⟩
theorem fl_RX4_115 : ba_fl RX4 115 2 4 false := ⟨_, _, _, rfl, by decide, (tm (i := 161) (by decide +kernel)), rfl, fun _ => Or.inr trivial⟩
theorem lk_RX4_121 : Cond.methodLink RX4 121 yX4_hiderOf ∈ lw_tbl := (tm (i := 580) (by decide +kernel))
theorem mt_Ro_hiderOf : ba_mt yX4_hiderOf cX4_hiderOf 8 (some .int) 1 := ⟨(tm (i := 583) (by decide +kernel)), (tm (i := 43) (by decide +kernel)), by decide +kernel, by decide +kernel, by decide +kernel⟩
theorem vt_Ro_hiderOf : ba_vt yX4_hiderOf := ⟨(tm (i := 581) (by decide +kernel)), (tm (i := 582) (by decide +kernel))⟩
theorem lk_RX11_168 : Cond.methodLink RX11 168 yX11_canBeHit ∈ lw_tbl := (tm (i := 572) (by decide +kernel))
theorem mt_Ba_canBeHit : ba_mt yX11_canBeHit cX11_canBeHit 3 (some .boolean) 2 := ⟨(tm (i := 575) (by decide +kernel)), (tm (i := 40) (by decide +kernel)), by decide +kernel, by decide +kernel, by decide +kernel⟩
theorem vt_Ba_canBeHit : ba_vt yX11_canBeHit := ⟨(tm (i := 574) (by decide +kernel)), (tm (i := 9) (by decide +kernel))⟩
theorem lk_RX11_172 : Cond.methodLink RX11 172 yX4_chanceOf ∈ lw_tbl := (tm (i := 576) (by decide +kernel))
theorem mt_Ro_chanceOf : ba_mt yX4_chanceOf cX4_chanceOf 6 (some .int) 1 := ⟨(tm (i := 579) (by decide +kernel)), (tm (i := 43) (by decide +kernel)), by decide +kernel, by decide +kernel, by decide +kernel⟩
theorem vt_Ro_chanceOf : ba_vt yX4_chanceOf := ⟨(tm (i := 577) (by decide +kernel)), (tm (i := 578) (by decide +kernel))⟩
theorem lk_RX4_105 : Cond.methodLink RX4 105 yX4_chanceOf ∈ lw_tbl := (tm (i := 592) (by decide +kernel))
theorem lk_RX11_175 : Cond.methodLink RX11 175 yX4_target ∈ lw_tbl := (tm (i := 588) (by decide +kernel))
theorem mt_Ro_target : ba_mt yX4_target cX4_target 5 (some .int) 0 := ⟨(tm (i := 591) (by decide +kernel)), (tm (i := 43) (by decide +kernel)), by decide +kernel, by decide +kernel, by decide +kernel⟩
theorem vt_Ro_target : ba_vt yX4_target := ⟨(tm (i := 589) (by decide +kernel)), (tm (i := 590) (by decide +kernel))⟩
theorem lk_RX11_178 : Cond.methodLink RX11 178 yX4_hiderOf ∈ lw_tbl := (tm (i := 597) (by decide +kernel))
theorem lk_RX6_46 : Cond.methodLink RX6 46 yX4_playCall ∈ lw_tbl := (tm (i := 610) (by decide +kernel))
theorem lk_RX6_50 : Cond.methodLink RX6 50 yX4_target ∈ lw_tbl := (tm (i := 611) (by decide +kernel))
theorem lk_RX6_54 : Cond.methodLink RX6 54 yX4_chanceOf ∈ lw_tbl := (tm (i := 612) (by decide +kernel))
theorem lk_RX6_42 : Cond.methodLink RX6 42 yX6_tryCall ∈ lw_tbl := (tm (i := 606) (by decide +kernel))
theorem mt_Sc_tryCall : ba_mt yX6_tryCall cX6_tryCall 10 none 5 := ⟨(tm (i := 609) (by decide +kernel)), (tm (i := 47) (by decide +kernel)), by decide +kernel, by decide +kernel, by decide +kernel⟩
theorem vt_Sc_tryCall : ba_vt yX6_tryCall := ⟨(tm (i := 608) (by decide +kernel)), (tm (i := 10) (by decide +kernel))⟩
theorem fl_RX6_28 : ba_fl RX6 28 4 0 true := ⟨_, _, _, rfl, by decide, (tm (i := 208) (by decide +kernel)), rfl, fun _ => Or.inr trivial⟩
theorem fl_RX6_39 : ba_fl RX6 39 0 3 false := ⟨_, _, _, rfl, by decide, (tm (i := 187) (by decide +kernel)), rfl, fun _ => Or.inr trivial⟩
theorem fl_RX6_34 : ba_fl RX6 34 0 2 false := ⟨_, _, _, rfl, by decide, (tm (i := 181) (by decide +kernel)), rfl, fun _ => Or.inr trivial⟩
theorem lk_RX11_181 : Cond.methodLink RX11 181 yX6_search ∈ lw_tbl := (tm (i := 602) (by decide +kernel))
theorem mt_Sc_search : ba_mt yX6_search cX6_search 6 none 2 := ⟨(tm (i := 605) (by decide +kernel)), (tm (i := 47) (by decide +kernel)), by decide +kernel, by decide +kernel, by decide +kernel⟩
theorem vt_Sc_search : ba_vt yX6_search := ⟨(tm (i := 603) (by decide +kernel)), (tm (i := 604) (by decide +kernel))⟩
theorem fl_RX11_185 : ba_fl RX11 185 5 0 false := ⟨_, _, _, rfl, by decide, (tm (i := 242) (by decide +kernel)), rfl, fun _ => Or.inr trivial⟩
theorem fl_RX11_189 : ba_fl RX11 189 5 1 false := ⟨_, _, _, rfl, by decide, (tm (i := 244) (by decide +kernel)), rfl, fun _ => Or.inr trivial⟩
theorem fl_RX11_190 : ba_fl RX11 190 5 2 false := ⟨_, _, _, rfl, by decide, (tm (i := 246) (by decide +kernel)), rfl, fun _ => Or.inr trivial⟩
theorem fl_RX11_191 : ba_fl RX11 191 5 3 false := ⟨_, _, _, rfl, by decide, (tm (i := 248) (by decide +kernel)), rfl, fun _ => Or.inr trivial⟩
theorem fl_RX11_192 : ba_fl RX11 192 5 4 false := ⟨_, _, _, rfl, by decide, (tm (i := 250) (by decide +kernel)), rfl, fun _ => Or.inr trivial⟩
theorem lk_RX11_195 : Cond.methodLink RX11 195 yX4_suppose ∈ lw_tbl := (tm (i := 617) (by decide +kernel))
theorem fl_RX1_45 : ba_fl RX1 45 4 0 true := ⟨_, _, _, rfl, by decide, (tm (i := 209) (by decide +kernel)), rfl, fun _ => Or.inr trivial⟩
theorem fl_RX1_51 : ba_fl RX1 51 0 2 false := ⟨_, _, _, rfl, by decide, (tm (i := 182) (by decide +kernel)), rfl, fun _ => Or.inr trivial⟩
theorem lk_RX1_56 : Cond.methodLink RX1 56 yX4_playAsTold ∈ lw_tbl := (tm (i := 627) (by decide +kernel))
theorem lk_RX1_60 : Cond.methodLink RX1 60 yX4_target ∈ lw_tbl := (tm (i := 628) (by decide +kernel))
theorem fl_RX1_64 : ba_fl RX1 64 4 4 false := ⟨_, _, _, rfl, by decide, (tm (i := 214) (by decide +kernel)), rfl, fun _ => Or.inr trivial⟩
theorem lk_RX1_67 : Cond.methodLink RX1 67 yX5_put ∈ lw_tbl := (tm (i := 629) (by decide +kernel))
theorem lk_RX1_71 : Cond.methodLink RX1 71 yX4_chanceOf ∈ lw_tbl := (tm (i := 630) (by decide +kernel))
theorem lk_RX1_120 : Cond.methodLink RX1 120 yX0_who ∈ lw_tbl := (tm (i := 641) (by decide +kernel))
theorem fl_RX1_124 : ba_fl RX1 124 2 0 true := ⟨_, _, _, rfl, by decide, (tm (i := 148) (by decide +kernel)), rfl, fun _ => Or.inr trivial⟩
theorem fl_RX1_130 : ba_fl RX1 130 9 3 false := ⟨_, _, _, rfl, by decide, (tm (i := 132) (by decide +kernel)), rfl, fun _ => Or.inr trivial⟩
theorem lk_RX1_108 : Cond.methodLink RX1 108 yX1_oneLetterOf ∈ lw_tbl := (tm (i := 642) (by decide +kernel))
theorem mt_Mr_oneLetterOf : ba_mt yX1_oneLetterOf cX1_oneLetterOf 1 (some .int) 1 := ⟨(tm (i := 644) (by decide +kernel)), (tm (i := 48) (by decide +kernel)), by decide +kernel, by decide +kernel, by decide +kernel⟩
theorem sv_Mr_oneLetterOf : Cond.static yX1_oneLetterOf ∈ lw_tbl := (tm (i := 643) (by decide +kernel))
theorem lk_RX1_105 : Cond.methodLink RX1 105 yX1_lettersOf_ ∈ lw_tbl := (tm (i := 662) (by decide +kernel))
theorem mt_Mr_lettersOf2 : ba_mt yX1_lettersOf_ cX1_lettersOf_ 2 (some .int) 2 := ⟨(tm (i := 664) (by decide +kernel)), (tm (i := 48) (by decide +kernel)), by decide +kernel, by decide +kernel, by decide +kernel⟩
theorem sv_Mr_lettersOf2 : Cond.static yX1_lettersOf_ ∈ lw_tbl := (tm (i := 663) (by decide +kernel))
theorem lk_RX1_87 : Cond.methodLink RX1 87 yX5_addLong ∈ lw_tbl := (tm (i := 646) (by decide +kernel))
theorem mt_Rw_addLong : ba_mt yX5_addLong cX5_addLong 4 none 3 := ⟨(tm (i := 648) (by decide +kernel)), (tm (i := 53) (by decide +kernel)), by decide +kernel, by decide +kernel, by decide +kernel⟩
theorem sv_Rw_addLong : Cond.static yX5_addLong ∈ lw_tbl := (tm (i := 647) (by decide +kernel))
theorem lk_RX1_39 : Cond.methodLink RX1 39 yX5_longAt ∈ lw_tbl := (tm (i := 653) (by decide +kernel))
theorem mt_Rw_longAt : ba_mt yX5_longAt cX5_longAt 2 (some .long) 2 := ⟨(tm (i := 655) (by decide +kernel)), (tm (i := 53) (by decide +kernel)), by decide +kernel, by decide +kernel, by decide +kernel⟩
theorem sv_Rw_longAt : Cond.static yX5_longAt ∈ lw_tbl := (tm (i := 654) (by decide +kernel))
theorem cl_RX1_95 : Cond.constantLong RX1 95 (10) ∈ lw_tbl := (tm (i := 656) (by decide +kernel))
theorem lk_RX1_97 : Cond.methodLink RX1 97 yX5_at ∈ lw_tbl := (tm (i := 657) (by decide +kernel))
theorem lk_RX1_101 : Cond.methodLink RX1 101 yX1_giveLetter ∈ lw_tbl := (tm (i := 658) (by decide +kernel))
theorem mt_Mr_giveLetter : ba_mt yX1_giveLetter cX1_giveLetter 5 none 3 := ⟨(tm (i := 661) (by decide +kernel)), (tm (i := 48) (by decide +kernel)), by decide +kernel, by decide +kernel, by decide +kernel⟩
theorem vt_Mr_giveLetter : ba_vt yX1_giveLetter := ⟨(tm (i := 660) (by decide +kernel)), (tm (i := 12) (by decide +kernel))⟩
theorem lk_RX1_91 : Cond.methodLink RX1 91 yX1_shareOut ∈ lw_tbl := (tm (i := 649) (by decide +kernel))
theorem mt_Mr_shareOut : ba_mt yX1_shareOut cX1_shareOut 8 none 2 := ⟨(tm (i := 652) (by decide +kernel)), (tm (i := 48) (by decide +kernel)), by decide +kernel, by decide +kernel, by decide +kernel⟩
theorem vt_Mr_shareOut : ba_vt yX1_shareOut := ⟨(tm (i := 651) (by decide +kernel)), (tm (i := 11) (by decide +kernel))⟩
theorem lk_RX1_75 : Cond.methodLink RX1 75 yJ7_fill_d0a16 ∈ lw_tbl := (tm (i := 635) (by decide +kernel))
theorem mt_Ar_fill : ba_mt yJ7_fill_d0a16 cJ7_fill_d0a16 5 none 2 := ⟨(tm (i := 637) (by decide +kernel)), (tm (i := 54) (by decide +kernel)), by decide +kernel, by decide +kernel, by decide +kernel⟩
theorem sv_Ar_fill : Cond.static yJ7_fill_d0a16 ∈ lw_tbl := (tm (i := 636) (by decide +kernel))
theorem lk_RX1_81 : Cond.methodLink RX1 81 yX1_lettersOf ∈ lw_tbl := (tm (i := 638) (by decide +kernel))
theorem mt_Mr_lettersOf : ba_mt yX1_lettersOf cX1_lettersOf 3 (some .int) 1 := ⟨(tm (i := 640) (by decide +kernel)), (tm (i := 48) (by decide +kernel)), by decide +kernel, by decide +kernel, by decide +kernel⟩
theorem sv_Mr_lettersOf : Cond.static yX1_lettersOf ∈ lw_tbl := (tm (i := 639) (by decide +kernel))
theorem cl_RX1_85 : Cond.constantLong RX1 85 (10000000000000000) ∈ lw_tbl := (tm (i := 645) (by decide +kernel))
theorem cl_RX11_266 : Cond.constantLong RX11 266 (5) ∈ lw_tbl := (tm (i := 674) (by decide +kernel))
theorem cl_RX11_264 : Cond.constantLong RX11 264 (2) ∈ lw_tbl := (tm (i := 673) (by decide +kernel))
theorem cl_RX11_262 : Cond.constantLong RX11 262 (10000000000000000) ∈ lw_tbl := (tm (i := 672) (by decide +kernel))
theorem cl_RX11_199 : Cond.constantLong RX11 199 (-1) ∈ lw_tbl := (tm (i := 622) (by decide +kernel))
theorem lk_RX11_201 : Cond.methodLink RX11 201 yX1_prepareThrows ∈ lw_tbl := (tm (i := 623) (by decide +kernel))
theorem mt_Mr_prepareThrows : ba_mt yX1_prepareThrows cX1_prepareThrows 4 none 1 := ⟨(tm (i := 626) (by decide +kernel)), (tm (i := 48) (by decide +kernel)), by decide +kernel, by decide +kernel, by decide +kernel⟩
theorem vt_Mr_prepareThrows : ba_vt yX1_prepareThrows := ⟨(tm (i := 624) (by decide +kernel)), (tm (i := 625) (by decide +kernel))⟩
theorem lk_RX11_205 : Cond.methodLink RX11 205 yX1_weigh ∈ lw_tbl := (tm (i := 631) (by decide +kernel))
theorem mt_Mr_weigh : ba_mt yX1_weigh cX1_weigh 6 none 2 := ⟨(tm (i := 634) (by decide +kernel)), (tm (i := 48) (by decide +kernel)), by decide +kernel, by decide +kernel, by decide +kernel⟩
theorem vt_Mr_weigh : ba_vt yX1_weigh := ⟨(tm (i := 632) (by decide +kernel)), (tm (i := 633) (by decide +kernel))⟩
theorem lk_RX11_209 : Cond.methodLink RX11 209 yX1_outWeight ∈ lw_tbl := (tm (i := 665) (by decide +kernel))
theorem mt_Mr_outWeight : ba_mt yX1_outWeight cX1_outWeight 2 (some .long) 1 := ⟨(tm (i := 668) (by decide +kernel)), (tm (i := 48) (by decide +kernel)), by decide +kernel, by decide +kernel, by decide +kernel⟩
theorem vt_Mr_outWeight : ba_vt yX1_outWeight := ⟨(tm (i := 666) (by decide +kernel)), (tm (i := 667) (by decide +kernel))⟩
theorem lk_RX11_213 : Cond.methodLink RX11 213 yX11_inLowestTerms ∈ lw_tbl := (tm (i := 669) (by decide +kernel))
theorem mt_Ba_inLowestTerms : ba_mt yX11_inLowestTerms cX11_inLowestTerms 8 (some .long) 2 := ⟨(tm (i := 671) (by decide +kernel)), (tm (i := 40) (by decide +kernel)), by decide +kernel, by decide +kernel, by decide +kernel⟩
theorem sv_Ba_inLowestTerms : Cond.static yX11_inLowestTerms ∈ lw_tbl := (tm (i := 670) (by decide +kernel))
theorem fl_RX11_217 : ba_fl RX11 217 1 5 false := ⟨_, _, _, rfl, by decide, (tm (i := 274) (by decide +kernel)), rfl, fun _ => Or.inr trivial⟩
theorem lk_RX7_37 : Cond.methodLink RX7 37 yX7_copyOf ∈ lw_tbl := (tm (i := 689) (by decide +kernel))
theorem mt_Sh_copyOf : ba_mt yX7_copyOf cX7_copyOf 3 (some (.object "BallAndName$Told")) 1 := ⟨(tm (i := 692) (by decide +kernel)), (tm (i := 50) (by decide +kernel)), by decide +kernel, by decide +kernel, by decide +kernel⟩
theorem vt_Sh_copyOf : ba_vt yX7_copyOf := ⟨(tm (i := 691) (by decide +kernel)), (tm (i := 13) (by decide +kernel))⟩
theorem lk_RX7_41 : Cond.methodLink RX7 41 yX0_who ∈ lw_tbl := (tm (i := 693) (by decide +kernel))
theorem fl_RX7_47 : ba_fl RX7 47 2 0 true := ⟨_, _, _, rfl, by decide, (tm (i := 144) (by decide +kernel)), rfl, fun _ => Or.inr trivial⟩
theorem lk_RX7_53 : Cond.methodLink RX7 53 yX10_copyFrom ∈ lw_tbl := (tm (i := 694) (by decide +kernel))
theorem lk_RX7_34 : Cond.methodLink RX7 34 yJ9_min_7cf53 ∈ lw_tbl := (tm (i := 688) (by decide +kernel))
theorem lk_RX11_221 : Cond.methodLink RX11 221 yX0_onGround ∈ lw_tbl := (tm (i := 683) (by decide +kernel))
theorem lk_RX11_224 : Cond.methodLink RX11 224 yX7_putNewest ∈ lw_tbl := (tm (i := 684) (by decide +kernel))
theorem mt_Sh_putNewest : ba_mt yX7_putNewest cX7_putNewest 4 none 1 := ⟨(tm (i := 687) (by decide +kernel)), (tm (i := 50) (by decide +kernel)), by decide +kernel, by decide +kernel, by decide +kernel⟩
theorem vt_Sh_putNewest : ba_vt yX7_putNewest := ⟨(tm (i := 685) (by decide +kernel)), (tm (i := 686) (by decide +kernel))⟩
theorem lk_RX11_227 : Cond.methodLink RX11 227 yX10_tellCall ∈ lw_tbl := (tm (i := 695) (by decide +kernel))
theorem fl_RX11_231 : ba_fl RX11 231 6 2 false := ⟨_, _, _, rfl, by decide, (tm (i := 332) (by decide +kernel)), rfl, fun _ => Or.inr trivial⟩
theorem lk_RX11_232 : Cond.methodLink RX11 232 yX7_takeNewest ∈ lw_tbl := (tm (i := 704) (by decide +kernel))
theorem mt_Sh_takeNewest : ba_mt yX7_takeNewest cX7_takeNewest 4 none 1 := ⟨(tm (i := 707) (by decide +kernel)), (tm (i := 50) (by decide +kernel)), by decide +kernel, by decide +kernel, by decide +kernel⟩
theorem vt_Sh_takeNewest : ba_vt yX7_takeNewest := ⟨(tm (i := 705) (by decide +kernel)), (tm (i := 706) (by decide +kernel))⟩
theorem lk_RX8_25 : Cond.methodLink RX8 25 yX5_put ∈ lw_tbl := (tm (i := 716) (by decide +kernel))
theorem fl_RX11_235 : ba_fl RX11 235 7 3 false := ⟨_, _, _, rfl, by decide, (tm (i := 307) (by decide +kernel)), rfl, fun _ => Or.inr trivial⟩
theorem lk_RX11_236 : Cond.methodLink RX11 236 yX8_add ∈ lw_tbl := (tm (i := 712) (by decide +kernel))
theorem mt_Si_add : ba_mt yX8_add cX8_add 4 (some .int) 3 := ⟨(tm (i := 715) (by decide +kernel)), (tm (i := 49) (by decide +kernel)), by decide +kernel, by decide +kernel, by decide +kernel⟩
theorem vt_Si_add : ba_vt yX8_add := ⟨(tm (i := 713) (by decide +kernel)), (tm (i := 714) (by decide +kernel))⟩
theorem lk_RX8_35 : Cond.methodLink RX8 35 yX5_at ∈ lw_tbl := (tm (i := 733) (by decide +kernel))
theorem lk_RX8_39 : Cond.methodLink RX8 39 yX4_playAsTold ∈ lw_tbl := (tm (i := 734) (by decide +kernel))
theorem lk_RX8_45 : Cond.methodLink RX8 45 yX4_suppose ∈ lw_tbl := (tm (i := 735) (by decide +kernel))
theorem lk_RX8_49 : Cond.methodLink RX8 49 yX4_standOf ∈ lw_tbl := (tm (i := 736) (by decide +kernel))
theorem lk_RX8_31 : Cond.methodLink RX8 31 yX8_allAreSo ∈ lw_tbl := (tm (i := 729) (by decide +kernel))
theorem mt_Si_allAreSo : ba_mt yX8_allAreSo cX8_allAreSo 5 (some .boolean) 3 := ⟨(tm (i := 732) (by decide +kernel)), (tm (i := 49) (by decide +kernel)), by decide +kernel, by decide +kernel, by decide +kernel⟩
theorem vt_Si_allAreSo : ba_vt yX8_allAreSo := ⟨(tm (i := 731) (by decide +kernel)), (tm (i := 14) (by decide +kernel))⟩
theorem lk_RX11_240 : Cond.methodLink RX11 240 yX8_kindsOf ∈ lw_tbl := (tm (i := 725) (by decide +kernel))
theorem mt_Si_kindsOf : ba_mt yX8_kindsOf cX8_kindsOf 5 (some .int) 2 := ⟨(tm (i := 728) (by decide +kernel)), (tm (i := 49) (by decide +kernel)), by decide +kernel, by decide +kernel, by decide +kernel⟩
theorem vt_Si_kindsOf : ba_vt yX8_kindsOf := ⟨(tm (i := 726) (by decide +kernel)), (tm (i := 727) (by decide +kernel))⟩
theorem cl_RX1_114 : Cond.constantLong RX1 114 (7919) ∈ lw_tbl := (tm (i := 748) (by decide +kernel))
theorem cl_RX1_116 : Cond.constantLong RX1 116 (6151) ∈ lw_tbl := (tm (i := 749) (by decide +kernel))
theorem cl_RX1_118 : Cond.constantLong RX1 118 (65521) ∈ lw_tbl := (tm (i := 750) (by decide +kernel))
theorem lk_RX1_111 : Cond.methodLink RX1 111 yX1_draw ∈ lw_tbl := (tm (i := 745) (by decide +kernel))
theorem mt_Mr_draw : ba_mt yX1_draw cX1_draw 4 (some .int) 2 := ⟨(tm (i := 747) (by decide +kernel)), (tm (i := 48) (by decide +kernel)), by decide +kernel, by decide +kernel, by decide +kernel⟩
theorem sv_Mr_draw : Cond.static yX1_draw ∈ lw_tbl := (tm (i := 746) (by decide +kernel))
theorem lk_RX11_244 : Cond.methodLink RX11 244 yX1_playAfternoon ∈ lw_tbl := (tm (i := 741) (by decide +kernel))
theorem mt_Mr_playAfternoon : ba_mt yX1_playAfternoon cX1_playAfternoon 7 none 2 := ⟨(tm (i := 744) (by decide +kernel)), (tm (i := 48) (by decide +kernel)), by decide +kernel, by decide +kernel, by decide +kernel⟩
theorem vt_Mr_playAfternoon : ba_vt yX1_playAfternoon := ⟨(tm (i := 742) (by decide +kernel)), (tm (i := 743) (by decide +kernel))⟩
theorem fl_RX11_250 : ba_fl RX11 250 1 7 false := ⟨_, _, _, rfl, by decide, (tm (i := 278) (by decide +kernel)), rfl, fun _ => Or.inr trivial⟩
theorem fl_RX11_247 : ba_fl RX11 247 1 6 false := ⟨_, _, _, rfl, by decide, (tm (i := 276) (by decide +kernel)), rfl, fun _ => Or.inr trivial⟩
theorem fl_RX11_253 : ba_fl RX11 253 0 3 false := ⟨_, _, _, rfl, by decide, (tm (i := 190) (by decide +kernel)), rfl, fun _ => Or.inr trivial⟩
theorem fl_RX11_256 : ba_fl RX11 256 0 4 false := ⟨_, _, _, rfl, by decide, (tm (i := 194) (by decide +kernel)), rfl, fun _ => Or.inr trivial⟩
theorem fl_RX11_259 : ba_fl RX11 259 8 1 false := ⟨_, _, _, rfl, by decide, (tm (i := 72) (by decide +kernel)), rfl, fun _ => Or.inr trivial⟩
theorem fl_RX12_7 : ba_fl RX12 7 11 3 true := ⟨_, _, _, rfl, by decide, (tm (i := 777) (by decide +kernel)), rfl, fun _ => Or.inr trivial⟩
theorem fl_RX12_43 : ba_fl RX12 43 11 20 true := ⟨_, _, _, rfl, by decide, (tm (i := 794) (by decide +kernel)), rfl, fun _ => Or.inr trivial⟩
theorem cl_RX12_82 : Cond.constantLong RX12 82 (10) ∈ lw_tbl := (tm (i := 773) (by decide +kernel))
theorem fl_RX12_75 : ba_fl RX12 75 11 2 false := ⟨_, _, _, rfl, by decide, (tm (i := 776) (by decide +kernel)), rfl, fun _ => Or.inr trivial⟩
theorem fl_RX12_13 : ba_fl RX12 13 11 4 true := ⟨_, _, _, rfl, by decide, (tm (i := 778) (by decide +kernel)), rfl, fun _ => Or.inr trivial⟩
theorem lo_RX12_1 : Cond.methodLink RX12 1 Lib.objectInit ∈ lw_tbl := (tm (i := 768) (by decide +kernel))
theorem fl_RX12_16 : ba_fl RX12 16 11 5 true := ⟨_, _, _, rfl, by decide, (tm (i := 779) (by decide +kernel)), rfl, fun _ => Or.inr trivial⟩
theorem fl_RX12_19 : ba_fl RX12 19 11 8 true := ⟨_, _, _, rfl, by decide, (tm (i := 782) (by decide +kernel)), rfl, fun _ => Or.inr trivial⟩
theorem fl_RX12_22 : ba_fl RX12 22 11 12 true := ⟨_, _, _, rfl, by decide, (tm (i := 786) (by decide +kernel)), rfl, fun _ => Or.inr trivial⟩
theorem fl_RX12_25 : ba_fl RX12 25 11 13 true := ⟨_, _, _, rfl, by decide, (tm (i := 787) (by decide +kernel)), rfl, fun _ => Or.inr trivial⟩
theorem fl_RX12_28 : ba_fl RX12 28 11 14 true := ⟨_, _, _, rfl, by decide, (tm (i := 788) (by decide +kernel)), rfl, fun _ => Or.inr trivial⟩
theorem fl_RX12_31 : ba_fl RX12 31 11 15 true := ⟨_, _, _, rfl, by decide, (tm (i := 789) (by decide +kernel)), rfl, fun _ => Or.inr trivial⟩
theorem fl_RX12_34 : ba_fl RX12 34 11 16 true := ⟨_, _, _, rfl, by decide, (tm (i := 790) (by decide +kernel)), rfl, fun _ => Or.inr trivial⟩
theorem fl_RX12_37 : ba_fl RX12 37 11 17 true := ⟨_, _, _, rfl, by decide, (tm (i := 791) (by decide +kernel)), rfl, fun _ => Or.inr trivial⟩
theorem fl_RX12_40 : ba_fl RX12 40 11 19 true := ⟨_, _, _, rfl, by decide, (tm (i := 793) (by decide +kernel)), rfl, fun _ => Or.inr trivial⟩
theorem fl_RX12_47 : ba_fl RX12 47 11 21 true := ⟨_, _, _, rfl, by decide, (tm (i := 795) (by decide +kernel)), rfl, fun _ => Or.inr trivial⟩
theorem fl_RX12_50 : ba_fl RX12 50 11 22 true := ⟨_, _, _, rfl, by decide, (tm (i := 796) (by decide +kernel)), rfl, fun _ => Or.inr trivial⟩
theorem fl_RX12_53 : ba_fl RX12 53 11 23 true := ⟨_, _, _, rfl, by decide, (tm (i := 797) (by decide +kernel)), rfl, fun _ => Or.inr trivial⟩
theorem fl_RX12_56 : ba_fl RX12 56 11 25 true := ⟨_, _, _, rfl, by decide, (tm (i := 799) (by decide +kernel)), rfl, fun _ => Or.inr trivial⟩
theorem fl_RX12_59 : ba_fl RX12 59 11 27 true := ⟨_, _, _, rfl, by decide, (tm (i := 801) (by decide +kernel)), rfl, fun _ => Or.inr trivial⟩
theorem fl_RX12_62 : ba_fl RX12 62 11 28 true := ⟨_, _, _, rfl, by decide, (tm (i := 802) (by decide +kernel)), rfl, fun _ => Or.inr trivial⟩
theorem fl_RX12_65 : ba_fl RX12 65 11 30 true := ⟨_, _, _, rfl, by decide, (tm (i := 804) (by decide +kernel)), rfl, fun _ => Or.inr trivial⟩
theorem fl_RX12_68 : ba_fl RX12 68 11 0 false := ⟨_, _, _, rfl, by decide, (tm (i := 774) (by decide +kernel)), rfl, fun _ => Or.inr trivial⟩
theorem fl_RX12_72 : ba_fl RX12 72 11 1 false := ⟨_, _, _, rfl, by decide, (tm (i := 775) (by decide +kernel)), rfl, fun _ => Or.inr trivial⟩
theorem lk_RX12_78 : Cond.methodLink RX12 78 yX12_lays ∈ lw_tbl := (tm (i := 769) (by decide +kernel))
theorem mt_Mo_lays : ba_mt yX12_lays cX12_lays 7 none 6 := ⟨(tm (i := 772) (by decide +kernel)), (tm (i := 52) (by decide +kernel)), by decide +kernel, by decide +kernel, by decide +kernel⟩
theorem vt_Mo_lays : ba_vt yX12_lays := ⟨(tm (i := 771) (by decide +kernel)), (tm (i := 15) (by decide +kernel))⟩
theorem lk_RX12_84 : Cond.methodLink RX12 84 yX12_in ∈ lw_tbl := (tm (i := 872) (by decide +kernel))
theorem mt_Mo_in : ba_mt yX12_in cX12_in 3 (some .boolean) 3 := ⟨(tm (i := 874) (by decide +kernel)), (tm (i := 52) (by decide +kernel)), by decide +kernel, by decide +kernel, by decide +kernel⟩
theorem sv_Mo_in : Cond.static yX12_in ∈ lw_tbl := (tm (i := 873) (by decide +kernel))
theorem fl_RX12_88 : ba_fl RX12 88 11 6 false := ⟨_, _, _, rfl, by decide, (tm (i := 780) (by decide +kernel)), rfl, fun _ => Or.inr trivial⟩
theorem cl_RX12_91 : Cond.constantLong RX12 91 (255) ∈ lw_tbl := (tm (i := 875) (by decide +kernel))
theorem fl_RX12_93 : ba_fl RX12 93 11 7 false := ⟨_, _, _, rfl, by decide, (tm (i := 781) (by decide +kernel)), rfl, fun _ => Or.inr trivial⟩
theorem lk_RX12_96 : Cond.methodLink RX12 96 yX12_byteAt ∈ lw_tbl := (tm (i := 888) (by decide +kernel))
theorem mt_Mo_byteAt : ba_mt yX12_byteAt cX12_byteAt 2 (some .int) 1 := ⟨(tm (i := 891) (by decide +kernel)), (tm (i := 52) (by decide +kernel)), by decide +kernel, by decide +kernel, by decide +kernel⟩
theorem vt_Mo_byteAt : ba_vt yX12_byteAt := ⟨(tm (i := 890) (by decide +kernel)), (tm (i := 17) (by decide +kernel))⟩
theorem lk_RX12_100 : Cond.methodLink RX12 100 yX12_isFigure ∈ lw_tbl := (tm (i := 900) (by decide +kernel))
theorem mt_Mo_isFigure : ba_mt yX12_isFigure cX12_isFigure 1 (some .boolean) 1 := ⟨(tm (i := 902) (by decide +kernel)), (tm (i := 52) (by decide +kernel)), by decide +kernel, by decide +kernel, by decide +kernel⟩
theorem sv_Mo_isFigure : Cond.static yX12_isFigure ∈ lw_tbl := (tm (i := 901) (by decide +kernel))
theorem lk_RX12_104 : Cond.methodLink RX12 104 yX12_readNumbers ∈ lw_tbl := (tm (i := 896) (by decide +kernel))
theorem mt_Mo_readNumbers : ba_mt yX12_readNumbers cX12_readNumbers 3 (some .boolean) 1 := ⟨(tm (i := 899) (by decide +kernel)), (tm (i := 52) (by decide +kernel)), by decide +kernel, by decide +kernel, by decide +kernel⟩
theorem vt_Mo_readNumbers : ba_vt yX12_readNumbers := ⟨(tm (i := 898) (by decide +kernel)), (tm (i := 19) (by decide +kernel))⟩
theorem fl_RX12_107 : ba_fl RX12 107 11 9 false := ⟨_, _, _, rfl, by decide, (tm (i := 783) (by decide +kernel)), rfl, fun _ => Or.inr trivial⟩
theorem fl_RX12_110 : ba_fl RX12 110 11 10 false := ⟨_, _, _, rfl, by decide, (tm (i := 784) (by decide +kernel)), rfl, fun _ => Or.inr trivial⟩
theorem fl_RX12_113 : ba_fl RX12 113 11 11 false := ⟨_, _, _, rfl, by decide, (tm (i := 785) (by decide +kernel)), rfl, fun _ => Or.inr trivial⟩
theorem lk_RX12_123 : Cond.methodLink RX12 123 yX12_readCalled ∈ lw_tbl := (tm (i := 907) (by decide +kernel))
theorem mt_Mo_readCalled : ba_mt yX12_readCalled cX12_readCalled 1 (some .boolean) 0 := ⟨(tm (i := 910) (by decide +kernel)), (tm (i := 52) (by decide +kernel)), by decide +kernel, by decide +kernel, by decide +kernel⟩
theorem vt_Mo_readCalled : ba_vt yX12_readCalled := ⟨(tm (i := 909) (by decide +kernel)), (tm (i := 21) (by decide +kernel))⟩
theorem lk_RX12_129 : Cond.methodLink RX12 129 yX12_readSlide ∈ lw_tbl := (tm (i := 915) (by decide +kernel))
theorem mt_Mo_readSlide : ba_mt yX12_readSlide cX12_readSlide 1 (some .boolean) 0 := ⟨(tm (i := 918) (by decide +kernel)), (tm (i := 52) (by decide +kernel)), by decide +kernel, by decide +kernel, by decide +kernel⟩
theorem vt_Mo_readSlide : ba_vt yX12_readSlide := ⟨(tm (i := 917) (by decide +kernel)), (tm (i := 23) (by decide +kernel))⟩
theorem lk_RX12_126 : Cond.methodLink RX12 126 yX12_readLettersOf ∈ lw_tbl := (tm (i := 911) (by decide +kernel))
theorem mt_Mo_readLettersOf : ba_mt yX12_readLettersOf cX12_readLettersOf 1 (some .boolean) 0 := ⟨(tm (i := 914) (by decide +kernel)), (tm (i := 52) (by decide +kernel)), by decide +kernel, by decide +kernel, by decide +kernel⟩
theorem vt_Mo_readLettersOf : ba_vt yX12_readLettersOf := ⟨(tm (i := 913) (by decide +kernel)), (tm (i := 22) (by decide +kernel))⟩
theorem lk_RX12_116 : Cond.methodLink RX12 116 yX12_readGround ∈ lw_tbl := (tm (i := 892) (by decide +kernel))
theorem mt_Mo_readGround : ba_mt yX12_readGround cX12_readGround 1 (some .boolean) 0 := ⟨(tm (i := 895) (by decide +kernel)), (tm (i := 52) (by decide +kernel)), by decide +kernel, by decide +kernel, by decide +kernel⟩
theorem vt_Mo_readGround : ba_vt yX12_readGround := ⟨(tm (i := 894) (by decide +kernel)), (tm (i := 18) (by decide +kernel))⟩
theorem lk_RX12_120 : Cond.methodLink RX12 120 yX12_readPlayer ∈ lw_tbl := (tm (i := 903) (by decide +kernel))
theorem mt_Mo_readPlayer : ba_mt yX12_readPlayer cX12_readPlayer 2 (some .boolean) 0 := ⟨(tm (i := 906) (by decide +kernel)), (tm (i := 52) (by decide +kernel)), by decide +kernel, by decide +kernel, by decide +kernel⟩
theorem vt_Mo_readPlayer : ba_vt yX12_readPlayer := ⟨(tm (i := 905) (by decide +kernel)), (tm (i := 20) (by decide +kernel))⟩
theorem lk_RX12_131 : Cond.methodLink RX12 131 yX12_readItem ∈ lw_tbl := (tm (i := 884) (by decide +kernel))
theorem mt_Mo_readItem : ba_mt yX12_readItem cX12_readItem 2 (some .boolean) 0 := ⟨(tm (i := 887) (by decide +kernel)), (tm (i := 52) (by decide +kernel)), by decide +kernel, by decide +kernel, by decide +kernel⟩
theorem vt_Mo_readItem : ba_vt yX12_readItem := ⟨(tm (i := 886) (by decide +kernel)), (tm (i := 16) (by decide +kernel))⟩
theorem fl_RX12_141 : ba_fl RX12 141 11 26 false := ⟨_, _, _, rfl, by decide, (tm (i := 800) (by decide +kernel)), rfl, fun _ => Or.inr trivial⟩
theorem fl_RX12_144 : ba_fl RX12 144 11 24 false := ⟨_, _, _, rfl, by decide, (tm (i := 798) (by decide +kernel)), rfl, fun _ => Or.inr trivial⟩
theorem fl_RX12_147 : ba_fl RX12 147 11 29 false := ⟨_, _, _, rfl, by decide, (tm (i := 803) (by decide +kernel)), rfl, fun _ => Or.inr trivial⟩
theorem lk_RX12_134 : Cond.methodLink RX12 134 yX12_fault ∈ lw_tbl := (tm (i := 923) (by decide +kernel))
theorem mt_Mo_fault : ba_mt yX12_fault cX12_fault 2 (some .int) 0 := ⟨(tm (i := 883) (by decide +kernel)), (tm (i := 52) (by decide +kernel)), by decide +kernel, by decide +kernel, by decide +kernel⟩
theorem vt_Mo_fault : ba_vt yX12_fault := ⟨(tm (i := 881) (by decide +kernel)), (tm (i := 882) (by decide +kernel))⟩
theorem lk_RX12_138 : Cond.methodLink RX12 138 yX12_calls ∈ lw_tbl := (tm (i := 924) (by decide +kernel))
theorem mt_Mo_calls : ba_mt yX12_calls cX12_calls 2 none 0 := ⟨(tm (i := 927) (by decide +kernel)), (tm (i := 52) (by decide +kernel)), by decide +kernel, by decide +kernel, by decide +kernel⟩
theorem vt_Mo_calls : ba_vt yX12_calls := ⟨(tm (i := 926) (by decide +kernel)), (tm (i := 24) (by decide +kernel))⟩
theorem lk_RX12_150 : Cond.methodLink RX12 150 yX12_isPlayer ∈ lw_tbl := (tm (i := 932) (by decide +kernel))
theorem mt_Mo_isPlayer : ba_mt yX12_isPlayer cX12_isPlayer 2 (some .boolean) 1 := ⟨(tm (i := 935) (by decide +kernel)), (tm (i := 52) (by decide +kernel)), by decide +kernel, by decide +kernel, by decide +kernel⟩
theorem vt_Mo_isPlayer : ba_vt yX12_isPlayer := ⟨(tm (i := 934) (by decide +kernel)), (tm (i := 25) (by decide +kernel))⟩
theorem lk_RX12_153 : Cond.methodLink RX12 153 yX12_size ∈ lw_tbl := (tm (i := 944) (by decide +kernel))
theorem mt_Mo_size : ba_mt yX12_size cX12_size 1 (some .int) 1 := ⟨(tm (i := 946) (by decide +kernel)), (tm (i := 52) (by decide +kernel)), by decide +kernel, by decide +kernel, by decide +kernel⟩
theorem sv_Mo_size : Cond.static yX12_size ∈ lw_tbl := (tm (i := 945) (by decide +kernel))
theorem lk_RX12_156 : Cond.methodLink RX12 156 yX12_beatsOf ∈ lw_tbl := (tm (i := 940) (by decide +kernel))
theorem mt_Mo_beatsOf : ba_mt yX12_beatsOf cX12_beatsOf 6 (some .int) 3 := ⟨(tm (i := 943) (by decide +kernel)), (tm (i := 52) (by decide +kernel)), by decide +kernel, by decide +kernel, by decide +kernel⟩
theorem vt_Mo_beatsOf : ba_vt yX12_beatsOf := ⟨(tm (i := 942) (by decide +kernel)), (tm (i := 26) (by decide +kernel))⟩
theorem lk_RX12_160 : Cond.methodLink RX12 160 yX12_hides ∈ lw_tbl := (tm (i := 967) (by decide +kernel))
theorem mt_Mo_hides : ba_mt yX12_hides cX12_hides 7 (some .int) 3 := ⟨(tm (i := 970) (by decide +kernel)), (tm (i := 52) (by decide +kernel)), by decide +kernel, by decide +kernel, by decide +kernel⟩
theorem vt_Mo_hides : ba_vt yX12_hides := ⟨(tm (i := 969) (by decide +kernel)), (tm (i := 31) (by decide +kernel))⟩
theorem fl_RX12_167 : ba_fl RX12 167 11 18 false := ⟨_, _, _, rfl, by decide, (tm (i := 792) (by decide +kernel)), rfl, fun _ => Or.inr trivial⟩
theorem lk_RX12_170 : Cond.methodLink RX12 170 yX12_aims ∈ lw_tbl := (tm (i := 963) (by decide +kernel))
theorem mt_Mo_aims : ba_mt yX12_aims cX12_aims 9 none 3 := ⟨(tm (i := 966) (by decide +kernel)), (tm (i := 52) (by decide +kernel)), by decide +kernel, by decide +kernel, by decide +kernel⟩
theorem vt_Mo_aims : ba_vt yX12_aims := ⟨(tm (i := 965) (by decide +kernel)), (tm (i := 30) (by decide +kernel))⟩
theorem lk_RX12_163 : Cond.methodLink RX12 163 yX12_standsOf ∈ lw_tbl := (tm (i := 959) (by decide +kernel))
theorem mt_Mo_standsOf : ba_mt yX12_standsOf cX12_standsOf 10 (some .int) 4 := ⟨(tm (i := 962) (by decide +kernel)), (tm (i := 52) (by decide +kernel)), by decide +kernel, by decide +kernel, by decide +kernel⟩
theorem vt_Mo_standsOf : ba_vt yX12_standsOf := ⟨(tm (i := 961) (by decide +kernel)), (tm (i := 29) (by decide +kernel))⟩
theorem lk_RX12_174 : Cond.methodLink RX12 174 yX12_goBy ∈ lw_tbl := (tm (i := 955) (by decide +kernel))
theorem mt_Mo_goBy : ba_mt yX12_goBy cX12_goBy 6 none 3 := ⟨(tm (i := 958) (by decide +kernel)), (tm (i := 52) (by decide +kernel)), by decide +kernel, by decide +kernel, by decide +kernel⟩
theorem vt_Mo_goBy : ba_vt yX12_goBy := ⟨(tm (i := 957) (by decide +kernel)), (tm (i := 28) (by decide +kernel))⟩
theorem lk_RX12_177 : Cond.methodLink RX12 177 yX12_go ∈ lw_tbl := (tm (i := 951) (by decide +kernel))
theorem mt_Mo_go : ba_mt yX12_go cX12_go 2 none 1 := ⟨(tm (i := 954) (by decide +kernel)), (tm (i := 52) (by decide +kernel)), by decide +kernel, by decide +kernel, by decide +kernel⟩
theorem vt_Mo_go : ba_vt yX12_go := ⟨(tm (i := 953) (by decide +kernel)), (tm (i := 27) (by decide +kernel))⟩
theorem lk_RX12_181 : Cond.methodLink RX12 181 yX12_areApart ∈ lw_tbl := (tm (i := 975) (by decide +kernel))
theorem mt_Mo_areApart : ba_mt yX12_areApart cX12_areApart 3 (some .boolean) 2 := ⟨(tm (i := 978) (by decide +kernel)), (tm (i := 52) (by decide +kernel)), by decide +kernel, by decide +kernel, by decide +kernel⟩
theorem vt_Mo_areApart : ba_vt yX12_areApart := ⟨(tm (i := 977) (by decide +kernel)), (tm (i := 32) (by decide +kernel))⟩
theorem lk_RX12_185 : Cond.methodLink RX12 185 yX12_left ∈ lw_tbl := (tm (i := 1004) (by decide +kernel))
theorem mt_Mo_left : ba_mt yX12_left cX12_left 4 (some .int) 1 := ⟨(tm (i := 1007) (by decide +kernel)), (tm (i := 52) (by decide +kernel)), by decide +kernel, by decide +kernel, by decide +kernel⟩
theorem vt_Mo_left : ba_vt yX12_left := ⟨(tm (i := 1006) (by decide +kernel)), (tm (i := 34) (by decide +kernel))⟩
theorem lk_RX12_188 : Cond.methodLink RX12 188 yX12_then ∈ lw_tbl := (tm (i := 1008) (by decide +kernel))
theorem mt_Mo_then : ba_mt yX12_then cX12_then 5 (some .long) 3 := ⟨(tm (i := 1011) (by decide +kernel)), (tm (i := 52) (by decide +kernel)), by decide +kernel, by decide +kernel, by decide +kernel⟩
theorem vt_Mo_then : ba_vt yX12_then := ⟨(tm (i := 1010) (by decide +kernel)), (tm (i := 35) (by decide +kernel))⟩
theorem lk_RX12_192 : Cond.methodLink RX12 192 yX12_codeOf ∈ lw_tbl := (tm (i := 1016) (by decide +kernel))
theorem mt_Mo_codeOf : ba_mt yX12_codeOf cX12_codeOf 3 (some .int) 0 := ⟨(tm (i := 1019) (by decide +kernel)), (tm (i := 52) (by decide +kernel)), by decide +kernel, by decide +kernel, by decide +kernel⟩
theorem vt_Mo_codeOf : ba_vt yX12_codeOf := ⟨(tm (i := 1018) (by decide +kernel)), (tm (i := 37) (by decide +kernel))⟩
theorem cl_RX12_195 : Cond.constantLong RX12 195 (-1) ∈ lw_tbl := (tm (i := 999) (by decide +kernel))
theorem lk_RX12_197 : Cond.methodLink RX12 197 yX12_findParts ∈ lw_tbl := (tm (i := 1000) (by decide +kernel))
theorem mt_Mo_findParts : ba_mt yX12_findParts cX12_findParts 6 none 1 := ⟨(tm (i := 1003) (by decide +kernel)), (tm (i := 52) (by decide +kernel)), by decide +kernel, by decide +kernel, by decide +kernel⟩
theorem vt_Mo_findParts : ba_vt yX12_findParts := ⟨(tm (i := 1002) (by decide +kernel)), (tm (i := 33) (by decide +kernel))⟩
theorem lk_RX12_200 : Cond.methodLink RX12 200 yX12_part ∈ lw_tbl := (tm (i := 1012) (by decide +kernel))
theorem mt_Mo_part : ba_mt yX12_part cX12_part 14 (some .long) 2 := ⟨(tm (i := 1015) (by decide +kernel)), (tm (i := 52) (by decide +kernel)), by decide +kernel, by decide +kernel, by decide +kernel⟩
theorem vt_Mo_part : ba_vt yX12_part := ⟨(tm (i := 1014) (by decide +kernel)), (tm (i := 36) (by decide +kernel))⟩
theorem lk_RX12_204 : Cond.methodLink RX12 204 yX12_knows ∈ lw_tbl := (tm (i := 1028) (by decide +kernel))
theorem mt_Mo_knows : ba_mt yX12_knows cX12_knows 3 none 1 := ⟨(tm (i := 1031) (by decide +kernel)), (tm (i := 52) (by decide +kernel)), by decide +kernel, by decide +kernel, by decide +kernel⟩
theorem vt_Mo_knows : ba_vt yX12_knows := ⟨(tm (i := 1030) (by decide +kernel)), (tm (i := 38) (by decide +kernel))⟩
theorem cl_RX12_207 : Cond.constantLong RX12 207 (7919) ∈ lw_tbl := (tm (i := 1056) (by decide +kernel))
theorem cl_RX12_209 : Cond.constantLong RX12 209 (6151) ∈ lw_tbl := (tm (i := 1057) (by decide +kernel))
theorem cl_RX12_211 : Cond.constantLong RX12 211 (65521) ∈ lw_tbl := (tm (i := 1058) (by decide +kernel))
theorem cl_RL_13 : Cond.constantLong RL 13 (4294967295) ∈ lw_tbl := (tm (i := 1071) (by decide +kernel))
theorem lk_RL_15 : Cond.methodLink RL 15 yX11_write ∈ lw_tbl := (tm (i := 394) (by decide +kernel))
theorem mt_Ba_write : ba_mt yX11_write cX11_write 4 (some .int) 2 := ⟨(tm (i := 397) (by decide +kernel)), (tm (i := 40) (by decide +kernel)), by decide +kernel, by decide +kernel, by decide +kernel⟩
theorem vt_Ba_write : ba_vt yX11_write := ⟨(tm (i := 395) (by decide +kernel)), (tm (i := 396) (by decide +kernel))⟩
theorem lk_RL_19 : Cond.methodLink RL 19 yX12_write ∈ lw_tbl := (tm (i := 868) (by decide +kernel))
theorem mt_Mo_write : ba_mt yX12_write cX12_write 5 (some .int) 2 := ⟨(tm (i := 871) (by decide +kernel)), (tm (i := 52) (by decide +kernel)), by decide +kernel, by decide +kernel, by decide +kernel⟩
theorem vt_Mo_write : ba_vt yX12_write := ⟨(tm (i := 869) (by decide +kernel)), (tm (i := 870) (by decide +kernel))⟩
theorem lk_RL_20 : Cond.methodLink RL 20 yX11_wipe ∈ lw_tbl := (tm (i := 412) (by decide +kernel))
theorem mt_Ba_wipe : ba_mt yX11_wipe cX11_wipe 1 (some .int) 0 := ⟨(tm (i := 415) (by decide +kernel)), (tm (i := 40) (by decide +kernel)), by decide +kernel, by decide +kernel, by decide +kernel⟩
theorem vt_Ba_wipe : ba_vt yX11_wipe := ⟨(tm (i := 413) (by decide +kernel)), (tm (i := 414) (by decide +kernel))⟩
theorem lk_RL_24 : Cond.methodLink RL 24 yX12_wipe ∈ lw_tbl := (tm (i := 876) (by decide +kernel))
theorem mt_Mo_wipe : ba_mt yX12_wipe cX12_wipe 2 (some .int) 0 := ⟨(tm (i := 879) (by decide +kernel)), (tm (i := 52) (by decide +kernel)), by decide +kernel, by decide +kernel, by decide +kernel⟩
theorem vt_Mo_wipe : ba_vt yX12_wipe := ⟨(tm (i := 877) (by decide +kernel)), (tm (i := 878) (by decide +kernel))⟩
theorem lk_RL_25 : Cond.methodLink RL 25 yX11_fault ∈ lw_tbl := (tm (i := 420) (by decide +kernel))
theorem mt_Ba_fault : ba_mt yX11_fault cX11_fault 1 (some .int) 0 := ⟨(tm (i := 423) (by decide +kernel)), (tm (i := 40) (by decide +kernel)), by decide +kernel, by decide +kernel, by decide +kernel⟩
theorem vt_Ba_fault : ba_vt yX11_fault := ⟨(tm (i := 421) (by decide +kernel)), (tm (i := 422) (by decide +kernel))⟩
theorem lk_RL_28 : Cond.methodLink RL 28 yX12_fault ∈ lw_tbl := (tm (i := 880) (by decide +kernel))
theorem lk_RL_29 : Cond.methodLink RL 29 yX11_lay ∈ lw_tbl := (tm (i := 487) (by decide +kernel))
theorem mt_Ba_lay : ba_mt yX11_lay cX11_lay 1 (some .int) 0 := ⟨(tm (i := 490) (by decide +kernel)), (tm (i := 40) (by decide +kernel)), by decide +kernel, by decide +kernel, by decide +kernel⟩
theorem vt_Ba_lay : ba_vt yX11_lay := ⟨(tm (i := 488) (by decide +kernel)), (tm (i := 489) (by decide +kernel))⟩
theorem lk_RL_32 : Cond.methodLink RL 32 yX12_lay ∈ lw_tbl := (tm (i := 919) (by decide +kernel))
theorem mt_Mo_lay : ba_mt yX12_lay cX12_lay 2 (some .int) 0 := ⟨(tm (i := 922) (by decide +kernel)), (tm (i := 52) (by decide +kernel)), by decide +kernel, by decide +kernel, by decide +kernel⟩
theorem vt_Mo_lay : ba_vt yX12_lay := ⟨(tm (i := 920) (by decide +kernel)), (tm (i := 921) (by decide +kernel))⟩
theorem lk_RL_33 : Cond.methodLink RL 33 yX11_player ∈ lw_tbl := (tm (i := 521) (by decide +kernel))
theorem mt_Ba_player : ba_mt yX11_player cX11_player 4 (some .int) 2 := ⟨(tm (i := 524) (by decide +kernel)), (tm (i := 40) (by decide +kernel)), by decide +kernel, by decide +kernel, by decide +kernel⟩
theorem vt_Ba_player : ba_vt yX11_player := ⟨(tm (i := 522) (by decide +kernel)), (tm (i := 523) (by decide +kernel))⟩
theorem lk_RL_37 : Cond.methodLink RL 37 yX12_player ∈ lw_tbl := (tm (i := 928) (by decide +kernel))
theorem mt_Mo_player : ba_mt yX12_player cX12_player 3 (some .int) 2 := ⟨(tm (i := 931) (by decide +kernel)), (tm (i := 52) (by decide +kernel)), by decide +kernel, by decide +kernel, by decide +kernel⟩
theorem vt_Mo_player : ba_vt yX12_player := ⟨(tm (i := 929) (by decide +kernel)), (tm (i := 930) (by decide +kernel))⟩
theorem lk_RL_38 : Cond.methodLink RL 38 yX11_called ∈ lw_tbl := (tm (i := 527) (by decide +kernel))
theorem mt_Ba_called : ba_mt yX11_called cX11_called 4 (some .int) 2 := ⟨(tm (i := 530) (by decide +kernel)), (tm (i := 40) (by decide +kernel)), by decide +kernel, by decide +kernel, by decide +kernel⟩
theorem vt_Ba_called : ba_vt yX11_called := ⟨(tm (i := 528) (by decide +kernel)), (tm (i := 529) (by decide +kernel))⟩
theorem lk_RL_41 : Cond.methodLink RL 41 yX12_called ∈ lw_tbl := (tm (i := 936) (by decide +kernel))
theorem mt_Mo_called : ba_mt yX12_called cX12_called 3 (some .int) 2 := ⟨(tm (i := 939) (by decide +kernel)), (tm (i := 52) (by decide +kernel)), by decide +kernel, by decide +kernel, by decide +kernel⟩
theorem vt_Mo_called : ba_vt yX12_called := ⟨(tm (i := 937) (by decide +kernel)), (tm (i := 938) (by decide +kernel))⟩
theorem lk_RL_42 : Cond.methodLink RL 42 yX11_stands ∈ lw_tbl := (tm (i := 559) (by decide +kernel))
theorem mt_Ba_stands : ba_mt yX11_stands cX11_stands 3 (some .int) 2 := ⟨(tm (i := 562) (by decide +kernel)), (tm (i := 40) (by decide +kernel)), by decide +kernel, by decide +kernel, by decide +kernel⟩
theorem vt_Ba_stands : ba_vt yX11_stands := ⟨(tm (i := 560) (by decide +kernel)), (tm (i := 561) (by decide +kernel))⟩
theorem lk_RL_45 : Cond.methodLink RL 45 yX12_stands ∈ lw_tbl := (tm (i := 947) (by decide +kernel))
theorem mt_Mo_stands : ba_mt yX12_stands cX12_stands 3 (some .int) 2 := ⟨(tm (i := 950) (by decide +kernel)), (tm (i := 52) (by decide +kernel)), by decide +kernel, by decide +kernel, by decide +kernel⟩
theorem vt_Mo_stands : ba_vt yX12_stands := ⟨(tm (i := 948) (by decide +kernel)), (tm (i := 949) (by decide +kernel))⟩
theorem lk_RL_46 : Cond.methodLink RL 46 yX11_chance ∈ lw_tbl := (tm (i := 568) (by decide +kernel))
theorem mt_Ba_chance : ba_mt yX11_chance cX11_chance 3 (some .int) 2 := ⟨(tm (i := 571) (by decide +kernel)), (tm (i := 40) (by decide +kernel)), by decide +kernel, by decide +kernel, by decide +kernel⟩
theorem vt_Ba_chance : ba_vt yX11_chance := ⟨(tm (i := 569) (by decide +kernel)), (tm (i := 570) (by decide +kernel))⟩
theorem lk_RL_49 : Cond.methodLink RL 49 yX12_chance ∈ lw_tbl := (tm (i := 971) (by decide +kernel))
theorem mt_Mo_chance : ba_mt yX12_chance cX12_chance 3 (some .int) 2 := ⟨(tm (i := 974) (by decide +kernel)), (tm (i := 52) (by decide +kernel)), by decide +kernel, by decide +kernel, by decide +kernel⟩
theorem vt_Mo_chance : ba_vt yX12_chance := ⟨(tm (i := 972) (by decide +kernel)), (tm (i := 973) (by decide +kernel))⟩
theorem lk_RL_50 : Cond.methodLink RL 50 yX11_thrown ∈ lw_tbl := (tm (i := 584) (by decide +kernel))
theorem mt_Ba_thrown : ba_mt yX11_thrown cX11_thrown 4 (some .int) 2 := ⟨(tm (i := 587) (by decide +kernel)), (tm (i := 40) (by decide +kernel)), by decide +kernel, by decide +kernel, by decide +kernel⟩
theorem vt_Ba_thrown : ba_vt yX11_thrown := ⟨(tm (i := 585) (by decide +kernel)), (tm (i := 586) (by decide +kernel))⟩
theorem lk_RL_53 : Cond.methodLink RL 53 yX12_thrown ∈ lw_tbl := (tm (i := 979) (by decide +kernel))
theorem mt_Mo_thrown : ba_mt yX12_thrown cX12_thrown 3 (some .int) 2 := ⟨(tm (i := 982) (by decide +kernel)), (tm (i := 52) (by decide +kernel)), by decide +kernel, by decide +kernel, by decide +kernel⟩
theorem vt_Mo_thrown : ba_vt yX12_thrown := ⟨(tm (i := 980) (by decide +kernel)), (tm (i := 981) (by decide +kernel))⟩
theorem lk_RL_54 : Cond.methodLink RL 54 yX11_hidden ∈ lw_tbl := (tm (i := 593) (by decide +kernel))
theorem mt_Ba_hidden : ba_mt yX11_hidden cX11_hidden 3 (some .int) 2 := ⟨(tm (i := 596) (by decide +kernel)), (tm (i := 40) (by decide +kernel)), by decide +kernel, by decide +kernel, by decide +kernel⟩
theorem vt_Ba_hidden : ba_vt yX11_hidden := ⟨(tm (i := 594) (by decide +kernel)), (tm (i := 595) (by decide +kernel))⟩
theorem lk_RL_57 : Cond.methodLink RL 57 yX12_hidden ∈ lw_tbl := (tm (i := 983) (by decide +kernel))
theorem mt_Mo_hidden : ba_mt yX12_hidden cX12_hidden 3 (some .int) 2 := ⟨(tm (i := 986) (by decide +kernel)), (tm (i := 52) (by decide +kernel)), by decide +kernel, by decide +kernel, by decide +kernel⟩
theorem vt_Mo_hidden : ba_vt yX12_hidden := ⟨(tm (i := 984) (by decide +kernel)), (tm (i := 985) (by decide +kernel))⟩
theorem lk_RL_58 : Cond.methodLink RL 58 yX11_safe ∈ lw_tbl := (tm (i := 598) (by decide +kernel))
theorem mt_Ba_safe : ba_mt yX11_safe cX11_safe 3 (some .int) 2 := ⟨(tm (i := 601) (by decide +kernel)), (tm (i := 40) (by decide +kernel)), by decide +kernel, by decide +kernel, by decide +kernel⟩
theorem vt_Ba_safe : ba_vt yX11_safe := ⟨(tm (i := 599) (by decide +kernel)), (tm (i := 600) (by decide +kernel))⟩
theorem lk_RL_61 : Cond.methodLink RL 61 yX12_safe ∈ lw_tbl := (tm (i := 987) (by decide +kernel))
theorem mt_Mo_safe : ba_mt yX12_safe cX12_safe 6 (some .int) 2 := ⟨(tm (i := 990) (by decide +kernel)), (tm (i := 52) (by decide +kernel)), by decide +kernel, by decide +kernel, by decide +kernel⟩
theorem vt_Mo_safe : ba_vt yX12_safe := ⟨(tm (i := 988) (by decide +kernel)), (tm (i := 989) (by decide +kernel))⟩
theorem lk_RL_62 : Cond.methodLink RL 62 yX11_run ∈ lw_tbl := (tm (i := 613) (by decide +kernel))
theorem mt_Ba_run : ba_mt yX11_run cX11_run 8 (some .int) 3 := ⟨(tm (i := 616) (by decide +kernel)), (tm (i := 40) (by decide +kernel)), by decide +kernel, by decide +kernel, by decide +kernel⟩
theorem vt_Ba_run : ba_vt yX11_run := ⟨(tm (i := 614) (by decide +kernel)), (tm (i := 615) (by decide +kernel))⟩
theorem lk_RL_66 : Cond.methodLink RL 66 yX12_run ∈ lw_tbl := (tm (i := 991) (by decide +kernel))
theorem mt_Mo_run : ba_mt yX12_run cX12_run 10 (some .int) 3 := ⟨(tm (i := 994) (by decide +kernel)), (tm (i := 52) (by decide +kernel)), by decide +kernel, by decide +kernel, by decide +kernel⟩
theorem vt_Mo_run : ba_vt yX12_run := ⟨(tm (i := 992) (by decide +kernel)), (tm (i := 993) (by decide +kernel))⟩
theorem lk_RL_67 : Cond.methodLink RL 67 yX11_first ∈ lw_tbl := (tm (i := 618) (by decide +kernel))
theorem mt_Ba_first : ba_mt yX11_first cX11_first 4 (some .long) 3 := ⟨(tm (i := 621) (by decide +kernel)), (tm (i := 40) (by decide +kernel)), by decide +kernel, by decide +kernel, by decide +kernel⟩
theorem vt_Ba_first : ba_vt yX11_first := ⟨(tm (i := 619) (by decide +kernel)), (tm (i := 620) (by decide +kernel))⟩
theorem lk_RL_71 : Cond.methodLink RL 71 yX12_first ∈ lw_tbl := (tm (i := 995) (by decide +kernel))
theorem mt_Mo_first : ba_mt yX12_first cX12_first 4 (some .long) 3 := ⟨(tm (i := 998) (by decide +kernel)), (tm (i := 52) (by decide +kernel)), by decide +kernel, by decide +kernel, by decide +kernel⟩
theorem vt_Mo_first : ba_vt yX12_first := ⟨(tm (i := 996) (by decide +kernel)), (tm (i := 997) (by decide +kernel))⟩
theorem lk_RL_72 : Cond.methodLink RL 72 yX11_rounds ∈ lw_tbl := (tm (i := 675) (by decide +kernel))
theorem mt_Ba_rounds : ba_mt yX11_rounds cX11_rounds 3 (some .long) 2 := ⟨(tm (i := 678) (by decide +kernel)), (tm (i := 40) (by decide +kernel)), by decide +kernel, by decide +kernel, by decide +kernel⟩
theorem vt_Ba_rounds : ba_vt yX11_rounds := ⟨(tm (i := 676) (by decide +kernel)), (tm (i := 677) (by decide +kernel))⟩
theorem lk_RL_76 : Cond.methodLink RL 76 yX12_rounds ∈ lw_tbl := (tm (i := 1020) (by decide +kernel))
theorem mt_Mo_rounds : ba_mt yX12_rounds cX12_rounds 3 (some .long) 2 := ⟨(tm (i := 1023) (by decide +kernel)), (tm (i := 52) (by decide +kernel)), by decide +kernel, by decide +kernel, by decide +kernel⟩
theorem vt_Mo_rounds : ba_vt yX12_rounds := ⟨(tm (i := 1021) (by decide +kernel)), (tm (i := 1022) (by decide +kernel))⟩
theorem lk_RL_77 : Cond.methodLink RL 77 yX11_call ∈ lw_tbl := (tm (i := 679) (by decide +kernel))
theorem mt_Ba_call : ba_mt yX11_call cX11_call 5 (some .int) 4 := ⟨(tm (i := 682) (by decide +kernel)), (tm (i := 40) (by decide +kernel)), by decide +kernel, by decide +kernel, by decide +kernel⟩
theorem vt_Ba_call : ba_vt yX11_call := ⟨(tm (i := 680) (by decide +kernel)), (tm (i := 681) (by decide +kernel))⟩
theorem lk_RL_81 : Cond.methodLink RL 81 yX12_call ∈ lw_tbl := (tm (i := 1024) (by decide +kernel))
theorem mt_Mo_call : ba_mt yX12_call cX12_call 5 (some .int) 4 := ⟨(tm (i := 1027) (by decide +kernel)), (tm (i := 52) (by decide +kernel)), by decide +kernel, by decide +kernel, by decide +kernel⟩
theorem vt_Mo_call : ba_vt yX12_call := ⟨(tm (i := 1025) (by decide +kernel)), (tm (i := 1026) (by decide +kernel))⟩
theorem lk_RL_82 : Cond.methodLink RL 82 yX11_letters ∈ lw_tbl := (tm (i := 696) (by decide +kernel))
theorem mt_Ba_letters : ba_mt yX11_letters cX11_letters 5 (some .int) 2 := ⟨(tm (i := 699) (by decide +kernel)), (tm (i := 40) (by decide +kernel)), by decide +kernel, by decide +kernel, by decide +kernel⟩
theorem vt_Ba_letters : ba_vt yX11_letters := ⟨(tm (i := 697) (by decide +kernel)), (tm (i := 698) (by decide +kernel))⟩
theorem lk_RL_85 : Cond.methodLink RL 85 yX12_letters ∈ lw_tbl := (tm (i := 1032) (by decide +kernel))
theorem mt_Mo_letters : ba_mt yX12_letters cX12_letters 4 (some .int) 2 := ⟨(tm (i := 1035) (by decide +kernel)), (tm (i := 52) (by decide +kernel)), by decide +kernel, by decide +kernel, by decide +kernel⟩
theorem vt_Mo_letters : ba_vt yX12_letters := ⟨(tm (i := 1033) (by decide +kernel)), (tm (i := 1034) (by decide +kernel))⟩
theorem lk_RL_86 : Cond.methodLink RL 86 yX11_undo ∈ lw_tbl := (tm (i := 700) (by decide +kernel))
theorem mt_Ba_undo : ba_mt yX11_undo cX11_undo 1 (some .int) 0 := ⟨(tm (i := 703) (by decide +kernel)), (tm (i := 40) (by decide +kernel)), by decide +kernel, by decide +kernel, by decide +kernel⟩
theorem vt_Ba_undo : ba_vt yX11_undo := ⟨(tm (i := 701) (by decide +kernel)), (tm (i := 702) (by decide +kernel))⟩
theorem lk_RL_89 : Cond.methodLink RL 89 yX12_undo ∈ lw_tbl := (tm (i := 1036) (by decide +kernel))
theorem mt_Mo_undo : ba_mt yX12_undo cX12_undo 3 (some .int) 0 := ⟨(tm (i := 1039) (by decide +kernel)), (tm (i := 52) (by decide +kernel)), by decide +kernel, by decide +kernel, by decide +kernel⟩
theorem vt_Mo_undo : ba_vt yX12_undo := ⟨(tm (i := 1037) (by decide +kernel)), (tm (i := 1038) (by decide +kernel))⟩
theorem lk_RL_90 : Cond.methodLink RL 90 yX11_seen ∈ lw_tbl := (tm (i := 708) (by decide +kernel))
theorem mt_Ba_seen : ba_mt yX11_seen cX11_seen 4 (some .int) 3 := ⟨(tm (i := 711) (by decide +kernel)), (tm (i := 40) (by decide +kernel)), by decide +kernel, by decide +kernel, by decide +kernel⟩
theorem vt_Ba_seen : ba_vt yX11_seen := ⟨(tm (i := 709) (by decide +kernel)), (tm (i := 710) (by decide +kernel))⟩
theorem lk_RL_93 : Cond.methodLink RL 93 yX12_seen ∈ lw_tbl := (tm (i := 1040) (by decide +kernel))
theorem mt_Mo_seen : ba_mt yX12_seen cX12_seen 4 (some .int) 3 := ⟨(tm (i := 1043) (by decide +kernel)), (tm (i := 52) (by decide +kernel)), by decide +kernel, by decide +kernel, by decide +kernel⟩
theorem vt_Mo_seen : ba_vt yX12_seen := ⟨(tm (i := 1041) (by decide +kernel)), (tm (i := 1042) (by decide +kernel))⟩
theorem lk_RL_94 : Cond.methodLink RL 94 yX11_forget ∈ lw_tbl := (tm (i := 717) (by decide +kernel))
theorem mt_Ba_forget : ba_mt yX11_forget cX11_forget 1 (some .int) 0 := ⟨(tm (i := 720) (by decide +kernel)), (tm (i := 40) (by decide +kernel)), by decide +kernel, by decide +kernel, by decide +kernel⟩
theorem vt_Ba_forget : ba_vt yX11_forget := ⟨(tm (i := 718) (by decide +kernel)), (tm (i := 719) (by decide +kernel))⟩
theorem lk_RL_97 : Cond.methodLink RL 97 yX12_forget ∈ lw_tbl := (tm (i := 1044) (by decide +kernel))
theorem mt_Mo_forget : ba_mt yX12_forget cX12_forget 2 (some .int) 0 := ⟨(tm (i := 1047) (by decide +kernel)), (tm (i := 52) (by decide +kernel)), by decide +kernel, by decide +kernel, by decide +kernel⟩
theorem vt_Mo_forget : ba_vt yX12_forget := ⟨(tm (i := 1045) (by decide +kernel)), (tm (i := 1046) (by decide +kernel))⟩
theorem lk_RL_98 : Cond.methodLink RL 98 yX11_kinds ∈ lw_tbl := (tm (i := 721) (by decide +kernel))
theorem mt_Ba_kinds : ba_mt yX11_kinds cX11_kinds 2 (some .int) 1 := ⟨(tm (i := 724) (by decide +kernel)), (tm (i := 40) (by decide +kernel)), by decide +kernel, by decide +kernel, by decide +kernel⟩
theorem vt_Ba_kinds : ba_vt yX11_kinds := ⟨(tm (i := 722) (by decide +kernel)), (tm (i := 723) (by decide +kernel))⟩
theorem lk_RL_102 : Cond.methodLink RL 102 yX12_kinds ∈ lw_tbl := (tm (i := 1048) (by decide +kernel))
theorem mt_Mo_kinds : ba_mt yX12_kinds cX12_kinds 8 (some .int) 1 := ⟨(tm (i := 1051) (by decide +kernel)), (tm (i := 52) (by decide +kernel)), by decide +kernel, by decide +kernel, by decide +kernel⟩
theorem vt_Mo_kinds : ba_vt yX12_kinds := ⟨(tm (i := 1049) (by decide +kernel)), (tm (i := 1050) (by decide +kernel))⟩
theorem lk_RL_103 : Cond.methodLink RL 103 yX11_afternoon ∈ lw_tbl := (tm (i := 737) (by decide +kernel))
theorem mt_Ba_afternoon : ba_mt yX11_afternoon cX11_afternoon 3 (some .int) 2 := ⟨(tm (i := 740) (by decide +kernel)), (tm (i := 40) (by decide +kernel)), by decide +kernel, by decide +kernel, by decide +kernel⟩
theorem vt_Ba_afternoon : ba_vt yX11_afternoon := ⟨(tm (i := 738) (by decide +kernel)), (tm (i := 739) (by decide +kernel))⟩
theorem lk_RL_106 : Cond.methodLink RL 106 yX12_afternoon ∈ lw_tbl := (tm (i := 1052) (by decide +kernel))
theorem mt_Mo_afternoon : ba_mt yX12_afternoon cX12_afternoon 8 (some .int) 2 := ⟨(tm (i := 1055) (by decide +kernel)), (tm (i := 52) (by decide +kernel)), by decide +kernel, by decide +kernel, by decide +kernel⟩
theorem vt_Mo_afternoon : ba_vt yX12_afternoon := ⟨(tm (i := 1053) (by decide +kernel)), (tm (i := 1054) (by decide +kernel))⟩
theorem lk_RL_107 : Cond.methodLink RL 107 yX11_keep ∈ lw_tbl := (tm (i := 751) (by decide +kernel))
theorem mt_Ba_keep : ba_mt yX11_keep cX11_keep 1 (some .int) 0 := ⟨(tm (i := 754) (by decide +kernel)), (tm (i := 40) (by decide +kernel)), by decide +kernel, by decide +kernel, by decide +kernel⟩
theorem vt_Ba_keep : ba_vt yX11_keep := ⟨(tm (i := 752) (by decide +kernel)), (tm (i := 753) (by decide +kernel))⟩
theorem lk_RL_110 : Cond.methodLink RL 110 yX12_keep ∈ lw_tbl := (tm (i := 1059) (by decide +kernel))
theorem mt_Mo_keep : ba_mt yX12_keep cX12_keep 2 (some .int) 0 := ⟨(tm (i := 1062) (by decide +kernel)), (tm (i := 52) (by decide +kernel)), by decide +kernel, by decide +kernel, by decide +kernel⟩
theorem vt_Mo_keep : ba_vt yX12_keep := ⟨(tm (i := 1060) (by decide +kernel)), (tm (i := 1061) (by decide +kernel))⟩
theorem lk_RL_111 : Cond.methodLink RL 111 yX11_back ∈ lw_tbl := (tm (i := 755) (by decide +kernel))
theorem mt_Ba_back : ba_mt yX11_back cX11_back 1 (some .int) 0 := ⟨(tm (i := 758) (by decide +kernel)), (tm (i := 40) (by decide +kernel)), by decide +kernel, by decide +kernel, by decide +kernel⟩
theorem vt_Ba_back : ba_vt yX11_back := ⟨(tm (i := 756) (by decide +kernel)), (tm (i := 757) (by decide +kernel))⟩
theorem lk_RL_114 : Cond.methodLink RL 114 yX12_back ∈ lw_tbl := (tm (i := 1063) (by decide +kernel))
theorem mt_Mo_back : ba_mt yX12_back cX12_back 2 (some .int) 0 := ⟨(tm (i := 1066) (by decide +kernel)), (tm (i := 52) (by decide +kernel)), by decide +kernel, by decide +kernel, by decide +kernel⟩
theorem vt_Mo_back : ba_vt yX12_back := ⟨(tm (i := 1064) (by decide +kernel)), (tm (i := 1065) (by decide +kernel))⟩
theorem lk_RL_115 : Cond.methodLink RL 115 yX11_count ∈ lw_tbl := (tm (i := 759) (by decide +kernel))
theorem mt_Ba_count : ba_mt yX11_count cX11_count 2 (some .int) 1 := ⟨(tm (i := 762) (by decide +kernel)), (tm (i := 40) (by decide +kernel)), by decide +kernel, by decide +kernel, by decide +kernel⟩
theorem vt_Ba_count : ba_vt yX11_count := ⟨(tm (i := 760) (by decide +kernel)), (tm (i := 761) (by decide +kernel))⟩
theorem lk_RL_118 : Cond.methodLink RL 118 yX12_count ∈ lw_tbl := (tm (i := 1067) (by decide +kernel))
theorem mt_Mo_count : ba_mt yX12_count cX12_count 2 (some .int) 1 := ⟨(tm (i := 1070) (by decide +kernel)), (tm (i := 52) (by decide +kernel)), by decide +kernel, by decide +kernel, by decide +kernel⟩
theorem vt_Mo_count : ba_vt yX12_count := ⟨(tm (i := 1068) (by decide +kernel)), (tm (i := 1069) (by decide +kernel))⟩
theorem nw_RL_7 : ba_nw RL 7 10 := ⟨_, _, _, rfl, (tm (i := 55) (by decide +kernel)), (tm (i := 56) (by decide +kernel)), (tm (i := 40) (by decide +kernel))⟩
theorem lk_RL_9 : Cond.methodLink RL 9 yX11_init ∈ lw_tbl := (tm (i := 57) (by decide +kernel))
theorem mt_Ba_init : ba_mt yX11_init cX11_init 1 none 0 := ⟨(tm (i := 59) (by decide +kernel)), (tm (i := 40) (by decide +kernel)), by decide +kernel, by decide +kernel, by decide +kernel⟩
theorem iv_Ba_init : Cond.instanceMethod yX11_init ∈ lw_tbl ∧ yX11_init.name = "<init>" := ⟨(tm (i := 58) (by decide +kernel)), rfl⟩
theorem nw_RL_10 : ba_nw RL 10 11 := ⟨_, _, _, rfl, (tm (i := 763) (by decide +kernel)), (tm (i := 764) (by decide +kernel)), (tm (i := 52) (by decide +kernel))⟩
theorem lk_RL_12 : Cond.methodLink RL 12 yX12_init ∈ lw_tbl := (tm (i := 765) (by decide +kernel))
theorem mt_Mo_init : ba_mt yX12_init cX12_init 2 none 0 := ⟨(tm (i := 767) (by decide +kernel)), (tm (i := 52) (by decide +kernel)), by decide +kernel, by decide +kernel, by decide +kernel⟩
theorem iv_Mo_init : Cond.instanceMethod yX12_init ∈ lw_tbl ∧ yX12_init.name = "<init>" := ⟨(tm (i := 766) (by decide +kernel)), rfl⟩
end
section
abbrev Y_To_init : ba_Y (ba_S × ba_M) := mC cX10_init RX10 1 1 20
def f_To_init (S : ba_S) (a0 : Nat) (m : ba_M) : Option (ba_S × ba_M) :=
  (cK S a0 9 (sB S (wI m a0 0 (-4 : Int32)) fun S2 m3 => (cK S2 a0 9 (sB S2 (wI m3 a0 1 (0 : Int32)) fun S5 m6 => (cK S5 a0 9 (sB S5 (wI m6 a0 2 (1 : Int32)) fun S8 m9 => (cK S8 a0 9 (sB S8 (wI m9 a0 3 (0 : Int32)) fun S11 m12 => some (S11, m12)))))))))
set_option maxRecDepth 100000 in
theorem e_To_init (S : ba_S) (a0 : Nat) (m : ba_M) : AW Y_To_init 0 [some (aR (some a0))] [] S m (f_To_init S a0 m) := by
  unfold f_To_init
  refine a_aload_n dX10_init_0 rfl ?_
  refine a_obj dX10_init_1 lo_RX10_3 rfl rfl rfl ?_
  refine a_aload_n dX10_init_4 rfl ?_
  refine a_bipush (v := -4) dX10_init_5 (by decide) ?_
  refine AW.ck (fun h1 => ?_)
  refine a_putI dX10_init_7 fl_RX10_9 (rfl : _ = FieldType.int) rfl rfl rfl h1 ?_
  refine AW.sB (fun S2 m3 => ?_)
  refine a_aload_n dX10_init_10 rfl ?_
  refine a_iconst (v := 0) dX10_init_11 (by decide) ?_
  refine AW.ck (fun h4 => ?_)
  refine a_putI dX10_init_12 fl_RX10_15 (rfl : _ = FieldType.int) rfl rfl rfl h4 ?_
  refine AW.sB (fun S5 m6 => ?_)
  refine a_aload_n dX10_init_15 rfl ?_
  refine a_iconst (v := 1) dX10_init_16 (by decide) ?_
  refine AW.ck (fun h7 => ?_)
  refine a_putI dX10_init_17 fl_RX10_18 (rfl : _ = FieldType.int) rfl rfl rfl h7 ?_
  refine AW.sB (fun S8 m9 => ?_)
  refine a_aload_n dX10_init_20 rfl ?_
  refine a_iconst (v := 0) dX10_init_21 (by decide) ?_
  refine AW.ck (fun h10 => ?_)
  refine a_putI dX10_init_22 fl_RX10_21 (rfl : _ = FieldType.int) rfl rfl rfl h10 ?_
  refine AW.sB (fun S11 m12 => ?_)
  exact AW.ret dX10_init_25 rfl rfl
theorem m_To_init {S : ba_S} {a0 : Nat} {m : ba_M} {q : ba_S × ba_M} (h : f_To_init S a0 m = some q) : MA Y_To_init yX10_init none [aR (some a0)] S m q :=
  ba_met ⟨by decide +kernel, rfl⟩ rfl (fun _ => rfl) (Or.inr (Or.inr (Or.inr (Or.inl ⟨rfl, rfl, rfl⟩)))) rfl (h ▸ e_To_init S a0 m)

abbrev Y_Pl_init : ba_Y (ba_S × ba_M) := mC cX2_init RX2 1 2 40
def f_Pl_init (S : ba_S) (a0 : Nat) (m : ba_M) : Option (ba_S × ba_M) :=
  (sB (pS S 9 0 (nF 9)) (pM (nN S) m) fun S1 m2 => ((f_To_init S1 (nN S) m2).bind fun q3 => (cK q3.1 a0 2 (sB (wR q3.1 a0 0 (some (nN S))) q3.2 fun S5 m6 => (cK S5 a0 2 (sB S5 (wI m6 a0 1 (0 : Int32)) fun S8 m9 => (cK S8 a0 2 (sB S8 (wI m9 a0 2 (1 : Int32)) fun S11 m12 => (cK S11 a0 2 (sB S11 (wI m12 a0 3 (1 : Int32)) fun S14 m15 => (cK S14 a0 2 (sB S14 (wI m15 a0 4 (0 : Int32)) fun S17 m18 => (cK S17 a0 2 (sB S17 (wI m18 a0 5 (0 : Int32)) fun S20 m21 => some (S20, m21)))))))))))))))
set_option maxRecDepth 100000 in
theorem e_Pl_init (S : ba_S) (a0 : Nat) (m : ba_M) : AW Y_Pl_init 0 [some (aR (some a0))] [] S m (f_Pl_init S a0 m) := by
  unfold f_Pl_init
  refine a_aload_n dX2_init_0 rfl ?_
  refine a_obj dX2_init_1 lo_RX2_1 rfl rfl rfl ?_
  refine a_aload_n dX2_init_4 rfl ?_
  refine a_new dX2_init_5 nw_RX2_7 ?_
  refine AW.sB (fun S1 m2 => ?_)
  refine a_dup dX2_init_8 rfl ?_
  refine a_callIN_C dX2_init_9 lk_RX2_9 mt_To_init iv_To_init (fun _ h => m_To_init h) rfl rfl ⟨rfl, rfl, rfl⟩ (fun q3 => ?_)
  refine AW.ck (fun h4 => ?_)
  refine a_putR rfl dX2_init_12 fl_RX2_10 ⟨_, rfl, rfl⟩ rfl rfl (fun _ => ⟨rfl, rfl⟩) h4 ?_
  refine AW.sB (fun S5 m6 => ?_)
  refine a_aload_n dX2_init_15 rfl ?_
  refine a_iconst (v := 0) dX2_init_16 (by decide) ?_
  refine AW.ck (fun h7 => ?_)
  refine a_putI dX2_init_17 fl_RX2_16 (rfl : _ = FieldType.int) rfl rfl rfl h7 ?_
  refine AW.sB (fun S8 m9 => ?_)
  refine a_aload_n dX2_init_20 rfl ?_
  refine a_iconst (v := 1) dX2_init_21 (by decide) ?_
  refine AW.ck (fun h10 => ?_)
  refine a_putI dX2_init_22 fl_RX2_20 (rfl : _ = FieldType.int) rfl rfl rfl h10 ?_
  refine AW.sB (fun S11 m12 => ?_)
  refine a_aload_n dX2_init_25 rfl ?_
  refine a_iconst (v := 1) dX2_init_26 (by decide) ?_
  refine AW.ck (fun h13 => ?_)
  refine a_putI dX2_init_27 fl_RX2_23 (rfl : _ = FieldType.int) rfl rfl rfl h13 ?_
  refine AW.sB (fun S14 m15 => ?_)
  refine a_aload_n dX2_init_30 rfl ?_
  refine a_iconst (v := 0) dX2_init_31 (by decide) ?_
  refine AW.ck (fun h16 => ?_)
  refine a_putI dX2_init_32 fl_RX2_26 (rfl : _ = FieldType.int) rfl rfl rfl h16 ?_
  refine AW.sB (fun S17 m18 => ?_)
  refine a_aload_n dX2_init_35 rfl ?_
  refine a_iconst (v := 0) dX2_init_36 (by decide) ?_
  refine AW.ck (fun h19 => ?_)
  refine a_putI dX2_init_37 fl_RX2_29 (rfl : _ = FieldType.int) rfl rfl rfl h19 ?_
  refine AW.sB (fun S20 m21 => ?_)
  exact AW.ret dX2_init_40 rfl rfl
theorem m_Pl_init {S : ba_S} {a0 : Nat} {m : ba_M} {q : ba_S × ba_M} (h : f_Pl_init S a0 m = some q) : MA Y_Pl_init yX2_init none [aR (some a0)] S m q :=
  ba_met ⟨by decide +kernel, rfl⟩ rfl (fun _ => rfl) (Or.inr (Or.inr (Or.inr (Or.inl ⟨rfl, rfl, rfl⟩)))) rfl (h ▸ e_Pl_init S a0 m)

abbrev Y_Ma_max (S : ba_S) : ba_Y (Int32 × ba_M) := mI cJ9_max_7cf53 RJ9 2 0 0 S
def f_Ma_max_10 (S : ba_S) (s0 : Int32) (m : ba_M) : Option (Int32 × ba_M) :=
  some (s0, m)
set_option maxRecDepth 100000 in
theorem w_Ma_max_10 {S : ba_S} : ∀ (s0 : Int32) (m : ba_M), AW (Y_Ma_max S) 10 [none, none] [aI s0] S m (f_Ma_max_10 S s0 m) := by
  intro s0 m
  unfold f_Ma_max_10
  exact AW.ret dJ9_max_7cf53_10 rfl rfl
def f_Ma_max (S : ba_S) (a0 : Int32) (a1 : Int32) (m : ba_M) : Option (Int32 × ba_M) :=
  (if a0 < a1 then (f_Ma_max_10 S a1 m) else (f_Ma_max_10 S a0 m))
set_option maxRecDepth 100000 in
theorem e_Ma_max (S : ba_S) (a0 : Int32) (a1 : Int32) (m : ba_M) : AW (Y_Ma_max S) 0 [some (aI a0), some (aI a1)] [] S m (f_Ma_max S a0 a1 m) := by
  unfold f_Ma_max
  refine a_iload_n dJ9_max_7cf53_0 rfl ?_
  refine a_iload_n dJ9_max_7cf53_1 rfl ?_
  refine a_ilt (tgt := 9) dJ9_max_7cf53_2 (by decide) (fun _ => ?_) (fun _ => ?_)
  · skip
    refine a_iload_n dJ9_max_7cf53_9 rfl ?_
    exact AW.weak (Lw_no (Lw_no Lw_end)) (w_Ma_max_10 _ _)
  · skip
    refine a_iload_n dJ9_max_7cf53_5 rfl ?_
    refine a_goto (tgt := 10) dJ9_max_7cf53_6 (by decide) ?_
    exact AW.weak (Lw_no (Lw_no Lw_end)) (w_Ma_max_10 _ _)
theorem m_Ma_max {S : ba_S} {a0 : Int32} {a1 : Int32} {m : ba_M} {q : Int32 × ba_M} (h : f_Ma_max S a0 a1 m = some q) : MA (Y_Ma_max S) yJ9_max_7cf53 (some .int) [aI a0, aI a1] S m q :=
  ba_met ⟨by decide +kernel, rfl⟩ rfl (fun h => by cases h) (Or.inl ⟨rfl, rfl, _, rfl⟩) rfl (h ▸ e_Ma_max S a0 a1 m)

abbrev Y_Pl_become (S : ba_S) : ba_Y (ba_M) := mV cX2_become RX2 6 0 0 S
def f_Pl_become (S : ba_S) (a0 : Nat) (a1 : Int32) (a2 : Int32) (a3 : Int32) (a4 : Int32) (a5 : Int32) (m : ba_M) : Option (ba_M) :=
  cK S a0 2 (some (wI (wI (wI (wI (wI m a0 1 a1) a0 2 a2) a0 3 a3) a0 4 a4) a0 5 a5))
set_option maxRecDepth 100000 in
theorem e_Pl_become (S : ba_S) (a0 : Nat) (a1 : Int32) (a2 : Int32) (a3 : Int32) (a4 : Int32) (a5 : Int32) (m : ba_M) : AW (Y_Pl_become S) 0 [some (aR (some a0)), some (aI a1), some (aI a2), some (aI a3), some (aI a4), some (aI a5)] [] S m (f_Pl_become S a0 a1 a2 a3 a4 a5 m) := by
  unfold f_Pl_become
  refine AW.ck (fun g0 => ?_)
  refine a_aload_n dX2_become_0 rfl ?_
  refine a_iload_n dX2_become_1 rfl ?_
  refine a_putI dX2_become_2 fl_RX2_16 (rfl : _ = FieldType.int) rfl rfl rfl g0 ?_
  refine a_aload_n dX2_become_5 rfl ?_
  refine a_iload_n dX2_become_6 rfl ?_
  refine a_putI dX2_become_7 fl_RX2_20 (rfl : _ = FieldType.int) rfl rfl rfl g0 ?_
  refine a_aload_n dX2_become_10 rfl ?_
  refine a_iload_n dX2_become_11 rfl ?_
  refine a_putI dX2_become_12 fl_RX2_23 (rfl : _ = FieldType.int) rfl rfl rfl g0 ?_
  refine a_aload_n dX2_become_15 rfl ?_
  refine a_iload dX2_become_16 rfl ?_
  refine a_putI dX2_become_18 fl_RX2_26 (rfl : _ = FieldType.int) rfl rfl rfl g0 ?_
  refine a_aload_n dX2_become_21 rfl ?_
  refine a_iload dX2_become_22 rfl ?_
  refine a_putI dX2_become_24 fl_RX2_29 (rfl : _ = FieldType.int) rfl rfl rfl g0 ?_
  exact AW.ret dX2_become_27 rfl rfl
theorem m_Pl_become {S : ba_S} {a0 : Nat} {a1 : Int32} {a2 : Int32} {a3 : Int32} {a4 : Int32} {a5 : Int32} {m : ba_M} {q : ba_M} (h : f_Pl_become S a0 a1 a2 a3 a4 a5 m = some q) : MA (Y_Pl_become S) yX2_become none [aR (some a0), aI a1, aI a2, aI a3, aI a4, aI a5] S m q :=
  ba_met ⟨by decide +kernel, rfl⟩ rfl (fun h => by cases h) (Or.inr (Or.inr (Or.inr (Or.inl ⟨rfl, rfl, rfl⟩)))) rfl (h ▸ e_Pl_become S a0 a1 a2 a3 a4 a5 m)

abbrev Y_To_tellCall (S : ba_S) : ba_Y (ba_M) := mV cX10_tellCall RX10 4 0 0 S
def f_To_tellCall (S : ba_S) (a0 : Nat) (a1 : Int32) (a2 : Int32) (a3 : Int32) (m : ba_M) : Option (ba_M) :=
  cK S a0 9 (some (wI (wI (wI m a0 0 a1) a0 1 a2) a0 2 a3))
set_option maxRecDepth 100000 in
theorem e_To_tellCall (S : ba_S) (a0 : Nat) (a1 : Int32) (a2 : Int32) (a3 : Int32) (m : ba_M) : AW (Y_To_tellCall S) 0 [some (aR (some a0)), some (aI a1), some (aI a2), some (aI a3)] [] S m (f_To_tellCall S a0 a1 a2 a3 m) := by
  unfold f_To_tellCall
  refine AW.ck (fun g0 => ?_)
  refine a_aload_n dX10_tellCall_0 rfl ?_
  refine a_iload_n dX10_tellCall_1 rfl ?_
  refine a_putI dX10_tellCall_2 fl_RX10_9 (rfl : _ = FieldType.int) rfl rfl rfl g0 ?_
  refine a_aload_n dX10_tellCall_5 rfl ?_
  refine a_iload_n dX10_tellCall_6 rfl ?_
  refine a_putI dX10_tellCall_7 fl_RX10_15 (rfl : _ = FieldType.int) rfl rfl rfl g0 ?_
  refine a_aload_n dX10_tellCall_10 rfl ?_
  refine a_iload_n dX10_tellCall_11 rfl ?_
  refine a_putI dX10_tellCall_12 fl_RX10_18 (rfl : _ = FieldType.int) rfl rfl rfl g0 ?_
  exact AW.ret dX10_tellCall_15 rfl rfl
theorem m_To_tellCall {S : ba_S} {a0 : Nat} {a1 : Int32} {a2 : Int32} {a3 : Int32} {m : ba_M} {q : ba_M} (h : f_To_tellCall S a0 a1 a2 a3 m = some q) : MA (Y_To_tellCall S) yX10_tellCall none [aR (some a0), aI a1, aI a2, aI a3] S m q :=
  ba_met ⟨by decide +kernel, rfl⟩ rfl (fun h => by cases h) (Or.inr (Or.inr (Or.inr (Or.inl ⟨rfl, rfl, rfl⟩)))) rfl (h ▸ e_To_tellCall S a0 a1 a2 a3 m)

abbrev Y_Rw_put (S : ba_S) : ba_Y (ba_M) := mV cX5_put RX5 3 0 0 S
def f_Rw_put_14 (S : ba_S) (m : ba_M) : Option (ba_M) :=
  some m
set_option maxRecDepth 100000 in
theorem w_Rw_put_14 {S : ba_S} : ∀ (m : ba_M), AW (Y_Rw_put S) 14 [none, none, none] [] S m (f_Rw_put_14 S m) := by
  intro m
  unfold f_Rw_put_14
  exact AW.ret dX5_put_14 rfl rfl
def f_Rw_put (S : ba_S) (a0 : Nat) (a1 : Int32) (a2 : Int32) (m : ba_M) : Option (ba_M) :=
  cK S a0 20 ((if a1 < 0 then (f_Rw_put_14 S m) else (if (Int32.ofNat (kL S a0)) ≤ a1 then (f_Rw_put_14 S m) else (bD S a0 a1 (f_Rw_put_14 S (wI m a0 (a1).toNatClampNeg a2))))))
set_option maxRecDepth 100000 in
theorem e_Rw_put (S : ba_S) (a0 : Nat) (a1 : Int32) (a2 : Int32) (m : ba_M) : AW (Y_Rw_put S) 0 [some (aR (some a0)), some (aI a1), some (aI a2)] [] S m (f_Rw_put S a0 a1 a2 m) := by
  unfold f_Rw_put
  refine AW.ck (fun g0 => ?_)
  refine a_iload_n dX5_put_0 rfl ?_
  refine a_zlt (tgt := 14) dX5_put_1 (by decide) (fun _ => ?_) (fun _ => ?_)
  · skip
    exact AW.weak (Lw_no (Lw_no (Lw_no Lw_end))) (w_Rw_put_14 _)
  · skip
    refine a_iload_n dX5_put_4 rfl ?_
    refine a_aload_n dX5_put_5 rfl ?_
    refine a_alen dX5_put_6 g0 (by decide) ?_
    refine a_ige (tgt := 14) dX5_put_7 (by decide) (fun _ => ?_) (fun _ => ?_)
    · skip
      exact AW.weak (Lw_no (Lw_no (Lw_no Lw_end))) (w_Rw_put_14 _)
    · skip
      refine a_aload_n dX5_put_10 rfl ?_
      refine a_iload_n dX5_put_11 rfl ?_
      refine a_iload_n dX5_put_12 rfl ?_
      refine a_iast dX5_put_13 g0 ?_
      exact AW.weak (Lw_no (Lw_no (Lw_no Lw_end))) (w_Rw_put_14 _)
theorem m_Rw_put {S : ba_S} {a0 : Nat} {a1 : Int32} {a2 : Int32} {m : ba_M} {q : ba_M} (h : f_Rw_put S a0 a1 a2 m = some q) : MA (Y_Rw_put S) yX5_put none [aR (some a0), aI a1, aI a2] S m q :=
  ba_met ⟨by decide +kernel, rfl⟩ rfl (fun h => by cases h) (Or.inr (Or.inr (Or.inr (Or.inl ⟨rfl, rfl, rfl⟩)))) rfl (h ▸ e_Rw_put S a0 a1 a2 m)

abbrev Y_Rw_at (S : ba_S) : ba_Y (Int32 × ba_M) := mI cX5_at RX5 2 0 0 S
def f_Rw_at_17 (S : ba_S) (s0 : Int32) (m : ba_M) : Option (Int32 × ba_M) :=
  some (s0, m)
set_option maxRecDepth 100000 in
theorem w_Rw_at_17 {S : ba_S} : ∀ (s0 : Int32) (m : ba_M), AW (Y_Rw_at S) 17 [none, none] [aI s0] S m (f_Rw_at_17 S s0 m) := by
  intro s0 m
  unfold f_Rw_at_17
  exact AW.ret dX5_at_17 rfl rfl
def f_Rw_at_16 (S : ba_S) (m : ba_M) : Option (Int32 × ba_M) :=
  (f_Rw_at_17 S (0 : Int32) m)
set_option maxRecDepth 100000 in
theorem w_Rw_at_16 {S : ba_S} : ∀ (m : ba_M), AW (Y_Rw_at S) 16 [none, none] [] S m (f_Rw_at_16 S m) := by
  intro m
  unfold f_Rw_at_16
  refine a_iconst (v := 0) dX5_at_16 (by decide) ?_
  exact AW.weak (Lw_no (Lw_no Lw_end)) (w_Rw_at_17 _ _)
def f_Rw_at (S : ba_S) (a0 : Nat) (a1 : Int32) (m : ba_M) : Option (Int32 × ba_M) :=
  cK S a0 20 ((if a1 < 0 then (f_Rw_at_16 S m) else (if (Int32.ofNat (kL S a0)) ≤ a1 then (f_Rw_at_16 S m) else (bD S a0 a1 (f_Rw_at_17 S (gI m a0 (a1).toNatClampNeg) m)))))
set_option maxRecDepth 100000 in
theorem e_Rw_at (S : ba_S) (a0 : Nat) (a1 : Int32) (m : ba_M) : AW (Y_Rw_at S) 0 [some (aR (some a0)), some (aI a1)] [] S m (f_Rw_at S a0 a1 m) := by
  unfold f_Rw_at
  refine AW.ck (fun g0 => ?_)
  refine a_iload_n dX5_at_0 rfl ?_
  refine a_zlt (tgt := 16) dX5_at_1 (by decide) (fun _ => ?_) (fun _ => ?_)
  · skip
    exact AW.weak (Lw_no (Lw_no Lw_end)) (w_Rw_at_16 _)
  · skip
    refine a_iload_n dX5_at_4 rfl ?_
    refine a_aload_n dX5_at_5 rfl ?_
    refine a_alen dX5_at_6 g0 (by decide) ?_
    refine a_ige (tgt := 16) dX5_at_7 (by decide) (fun _ => ?_) (fun _ => ?_)
    · skip
      exact AW.weak (Lw_no (Lw_no Lw_end)) (w_Rw_at_16 _)
    · skip
      refine a_aload_n dX5_at_10 rfl ?_
      refine a_iload_n dX5_at_11 rfl ?_
      refine a_iald dX5_at_12 g0 ?_
      refine a_goto (tgt := 17) dX5_at_13 (by decide) ?_
      exact AW.weak (Lw_no (Lw_no Lw_end)) (w_Rw_at_17 _ _)
theorem m_Rw_at {S : ba_S} {a0 : Nat} {a1 : Int32} {m : ba_M} {q : Int32 × ba_M} (h : f_Rw_at S a0 a1 m = some q) : MA (Y_Rw_at S) yX5_at (some .int) [aR (some a0), aI a1] S m q :=
  ba_met ⟨by decide +kernel, rfl⟩ rfl (fun h => by cases h) (Or.inl ⟨rfl, rfl, _, rfl⟩) rfl (h ▸ e_Rw_at S a0 a1 m)

abbrev Y_To_copyFrom (S : ba_S) : ba_Y (ba_M) := mV cX10_copyFrom RX10 2 1 23 S
def f_To_copyFrom (S : ba_S) (a0 : Nat) (a1 : Nat) (m : ba_M) : Option (ba_M) :=
  cK S a0 9 (cK S a1 9 (((f_To_tellCall S a0 (gI m a1 0) (gI m a1 1) (gI m a1 2) m).bind fun q1 => some (wI q1 a0 3 (gI q1 a1 3)))))
set_option maxRecDepth 100000 in
theorem e_To_copyFrom (S : ba_S) (a0 : Nat) (a1 : Nat) (m : ba_M) : AW (Y_To_copyFrom S) 0 [some (aR (some a0)), some (aR (some a1))] [] S m (f_To_copyFrom S a0 a1 m) := by
  unfold f_To_copyFrom
  refine AW.ck (fun g0 => ?_)
  refine AW.ck (fun g1 => ?_)
  refine a_aload_n dX10_copyFrom_0 rfl ?_
  refine a_aload_n dX10_copyFrom_1 rfl ?_
  refine a_getI dX10_copyFrom_2 fl_RX10_9 rfl g1 ?_
  refine a_aload_n dX10_copyFrom_5 rfl ?_
  refine a_getI dX10_copyFrom_6 fl_RX10_15 rfl g1 ?_
  refine a_aload_n dX10_copyFrom_9 rfl ?_
  refine a_getI dX10_copyFrom_10 fl_RX10_18 rfl g1 ?_
  refine a_callV_V dX10_copyFrom_13 lk_RX10_24 mt_To_tellCall vt_To_tellCall ⟨_, rfl, rfl⟩ (fun _ h => m_To_tellCall h) rfl rfl g0 ⟨rfl, rfl, rfl⟩ (fun q1 => ?_)
  refine a_aload_n dX10_copyFrom_16 rfl ?_
  refine a_aload_n dX10_copyFrom_17 rfl ?_
  refine a_getI dX10_copyFrom_18 fl_RX10_21 rfl g1 ?_
  refine a_putI dX10_copyFrom_21 fl_RX10_21 (rfl : _ = FieldType.int) rfl rfl rfl g0 ?_
  exact AW.ret dX10_copyFrom_24 rfl rfl
theorem m_To_copyFrom {S : ba_S} {a0 : Nat} {a1 : Nat} {m : ba_M} {q : ba_M} (h : f_To_copyFrom S a0 a1 m = some q) : MA (Y_To_copyFrom S) yX10_copyFrom none [aR (some a0), aR (some a1)] S m q :=
  ba_met ⟨by decide +kernel, rfl⟩ rfl (fun h => by cases h) (Or.inr (Or.inr (Or.inr (Or.inl ⟨rfl, rfl, rfl⟩)))) rfl (h ▸ e_To_copyFrom S a0 a1 m)

abbrev Y_Pl_copyFrom (S : ba_S) : ba_Y (ba_M) := mV cX2_copyFrom RX2 2 2 44 S
def f_Pl_copyFrom (S : ba_S) (a0 : Nat) (a1 : Nat) (m : ba_M) : Option (ba_M) :=
  cK S a0 2 (cK S a1 2 (((f_Pl_become S a0 (gI m a1 1) (gI m a1 2) (gI m a1 3) (gI m a1 4) (gI m a1 5) m).bind fun q1 => (ldR S a0 0 9 fun r2 => (ldR S a1 0 9 fun r4 => ((f_To_copyFrom S r2 r4 q1).bind fun q6 => some q6))))))
set_option maxRecDepth 100000 in
theorem e_Pl_copyFrom (S : ba_S) (a0 : Nat) (a1 : Nat) (m : ba_M) : AW (Y_Pl_copyFrom S) 0 [some (aR (some a0)), some (aR (some a1))] [] S m (f_Pl_copyFrom S a0 a1 m) := by
  unfold f_Pl_copyFrom
  refine AW.ck (fun g0 => ?_)
  refine AW.ck (fun g1 => ?_)
  refine a_aload_n dX2_copyFrom_0 rfl ?_
  refine a_aload_n dX2_copyFrom_1 rfl ?_
  refine a_getI dX2_copyFrom_2 fl_RX2_16 rfl g1 ?_
  refine a_aload_n dX2_copyFrom_5 rfl ?_
  refine a_getI dX2_copyFrom_6 fl_RX2_20 rfl g1 ?_
  refine a_aload_n dX2_copyFrom_9 rfl ?_
  refine a_getI dX2_copyFrom_10 fl_RX2_23 rfl g1 ?_
  refine a_aload_n dX2_copyFrom_13 rfl ?_
  refine a_getI dX2_copyFrom_14 fl_RX2_26 rfl g1 ?_
  refine a_aload_n dX2_copyFrom_17 rfl ?_
  refine a_getI dX2_copyFrom_18 fl_RX2_29 rfl g1 ?_
  refine a_callV_V dX2_copyFrom_21 lk_RX2_32 mt_Pl_become vt_Pl_become ⟨_, rfl, rfl⟩ (fun _ h => m_Pl_become h) rfl rfl g0 ⟨rfl, rfl, rfl⟩ (fun q1 => ?_)
  refine a_aload_n dX2_copyFrom_24 rfl ?_
  refine a_getR dX2_copyFrom_25 fl_RX2_10 rfl g0 (fun r2 h3 => ?_)
  refine a_aload_n dX2_copyFrom_28 rfl ?_
  refine a_getR dX2_copyFrom_29 fl_RX2_10 rfl g1 (fun r4 h5 => ?_)
  refine a_callV_V dX2_copyFrom_32 lk_RX2_36 mt_To_copyFrom vt_To_copyFrom ⟨_, rfl, rfl⟩ (fun _ h => m_To_copyFrom h) rfl rfl h3 ⟨rfl, rfl, rfl⟩ (fun q6 => ?_)
  exact AW.ret dX2_copyFrom_35 rfl rfl
theorem m_Pl_copyFrom {S : ba_S} {a0 : Nat} {a1 : Nat} {m : ba_M} {q : ba_M} (h : f_Pl_copyFrom S a0 a1 m = some q) : MA (Y_Pl_copyFrom S) yX2_copyFrom none [aR (some a0), aR (some a1)] S m q :=
  ba_met ⟨by decide +kernel, rfl⟩ rfl (fun h => by cases h) (Or.inr (Or.inr (Or.inr (Or.inl ⟨rfl, rfl, rfl⟩)))) rfl (h ▸ e_Pl_copyFrom S a0 a1 m)

abbrev Y_Ma_abs (S : ba_S) : ba_Y (Int32 × ba_M) := mI cJ9_abs_0f7a4 RJ9 1 0 0 S
def f_Ma_abs_10 (S : ba_S) (s0 : Int32) (m : ba_M) : Option (Int32 × ba_M) :=
  some (s0, m)
set_option maxRecDepth 100000 in
theorem w_Ma_abs_10 {S : ba_S} : ∀ (s0 : Int32) (m : ba_M), AW (Y_Ma_abs S) 10 [none] [aI s0] S m (f_Ma_abs_10 S s0 m) := by
  intro s0 m
  unfold f_Ma_abs_10
  exact AW.ret dJ9_abs_0f7a4_10 rfl rfl
def f_Ma_abs (S : ba_S) (a0 : Int32) (m : ba_M) : Option (Int32 × ba_M) :=
  (if 0 ≤ a0 then (f_Ma_abs_10 S a0 m) else (f_Ma_abs_10 S (-a0) m))
set_option maxRecDepth 100000 in
theorem e_Ma_abs (S : ba_S) (a0 : Int32) (m : ba_M) : AW (Y_Ma_abs S) 0 [some (aI a0)] [] S m (f_Ma_abs S a0 m) := by
  unfold f_Ma_abs
  refine a_iload_n dJ9_abs_0f7a4_0 rfl ?_
  refine a_zge (tgt := 9) dJ9_abs_0f7a4_1 (by decide) (fun _ => ?_) (fun _ => ?_)
  · skip
    refine a_iload_n dJ9_abs_0f7a4_9 rfl ?_
    exact AW.weak (Lw_no Lw_end) (w_Ma_abs_10 _ _)
  · skip
    refine a_iload_n dJ9_abs_0f7a4_4 rfl ?_
    refine a_ineg dJ9_abs_0f7a4_5 ?_
    refine a_goto (tgt := 10) dJ9_abs_0f7a4_6 (by decide) ?_
    exact AW.weak (Lw_no Lw_end) (w_Ma_abs_10 _ _)
theorem m_Ma_abs {S : ba_S} {a0 : Int32} {m : ba_M} {q : Int32 × ba_M} (h : f_Ma_abs S a0 m = some q) : MA (Y_Ma_abs S) yJ9_abs_0f7a4 (some .int) [aI a0] S m q :=
  ba_met ⟨by decide +kernel, rfl⟩ rfl (fun h => by cases h) (Or.inl ⟨rfl, rfl, _, rfl⟩) rfl (h ▸ e_Ma_abs S a0 m)

abbrev Y_Ma_min (S : ba_S) : ba_Y (Int32 × ba_M) := mI cJ9_min_7cf53 RJ9 2 0 0 S
def f_Ma_min_10 (S : ba_S) (s0 : Int32) (m : ba_M) : Option (Int32 × ba_M) :=
  some (s0, m)
set_option maxRecDepth 100000 in
theorem w_Ma_min_10 {S : ba_S} : ∀ (s0 : Int32) (m : ba_M), AW (Y_Ma_min S) 10 [none, none] [aI s0] S m (f_Ma_min_10 S s0 m) := by
  intro s0 m
  unfold f_Ma_min_10
  exact AW.ret dJ9_min_7cf53_10 rfl rfl
def f_Ma_min (S : ba_S) (a0 : Int32) (a1 : Int32) (m : ba_M) : Option (Int32 × ba_M) :=
  (if a1 < a0 then (f_Ma_min_10 S a1 m) else (f_Ma_min_10 S a0 m))
set_option maxRecDepth 100000 in
theorem e_Ma_min (S : ba_S) (a0 : Int32) (a1 : Int32) (m : ba_M) : AW (Y_Ma_min S) 0 [some (aI a0), some (aI a1)] [] S m (f_Ma_min S a0 a1 m) := by
  unfold f_Ma_min
  refine a_iload_n dJ9_min_7cf53_0 rfl ?_
  refine a_iload_n dJ9_min_7cf53_1 rfl ?_
  refine a_igt (tgt := 9) dJ9_min_7cf53_2 (by decide) (fun _ => ?_) (fun _ => ?_)
  · skip
    refine a_iload_n dJ9_min_7cf53_9 rfl ?_
    exact AW.weak (Lw_no (Lw_no Lw_end)) (w_Ma_min_10 _ _)
  · skip
    refine a_iload_n dJ9_min_7cf53_5 rfl ?_
    refine a_goto (tgt := 10) dJ9_min_7cf53_6 (by decide) ?_
    exact AW.weak (Lw_no (Lw_no Lw_end)) (w_Ma_min_10 _ _)
theorem m_Ma_min {S : ba_S} {a0 : Int32} {a1 : Int32} {m : ba_M} {q : Int32 × ba_M} (h : f_Ma_min S a0 a1 m = some q) : MA (Y_Ma_min S) yJ9_min_7cf53 (some .int) [aI a0, aI a1] S m q :=
  ba_met ⟨by decide +kernel, rfl⟩ rfl (fun h => by cases h) (Or.inl ⟨rfl, rfl, _, rfl⟩) rfl (h ▸ e_Ma_min S a0 a1 m)

abbrev Y_Ar_fill (S : ba_S) : ba_Y (ba_M) := mV cJ7_fill_d0a16 RJ7 5 0 0 S
def b_Ar_fill_6 (S : ba_S) (k6 : Nat → Int64 → Int32 → Int32 → ba_M → Option (ba_M)) (v0 : Nat) (v1 : Int64) (v3 : Int32) (v4 : Int32) (m : ba_M) : Option (ba_M) :=
  (if v4 ≤ v3 then some m else (bD S v0 v3 (k6 v0 v1 (v3 + (1 : Int32)) v4 (wL m v0 (v3).toNatClampNeg v1))))
set_option maxRecDepth 100000 in
theorem w_Ar_fill_6 {S : ba_S} {k6 : Nat → Int64 → Int32 → Int32 → ba_M → Option (ba_M)} (hk6 : ∀ (v0 : Nat) (v1 : Int64) (v3 : Int32) (v4 : Int32) (m : ba_M), ck S v0 21 = true → AW (Y_Ar_fill S) 6 [some (aR (some v0)), some (aJ v1), none, some (aI v3), some (aI v4)] [] S m (k6 v0 v1 v3 v4 m)) : ∀ (v0 : Nat) (v1 : Int64) (v3 : Int32) (v4 : Int32) (m : ba_M), ck S v0 21 = true → AW (Y_Ar_fill S) 6 [some (aR (some v0)), some (aJ v1), none, some (aI v3), some (aI v4)] [] S m (b_Ar_fill_6 S k6 v0 v1 v3 v4 m) := by
  intro v0 v1 v3 v4 m g0
  unfold b_Ar_fill_6
  refine a_iload_n dJ7_fill_d0a16_6 rfl ?_
  refine a_iload dJ7_fill_d0a16_7 rfl ?_
  refine a_ige (tgt := 22) dJ7_fill_d0a16_9 (by decide) (fun _ => ?_) (fun _ => ?_)
  · skip
    exact AW.ret dJ7_fill_d0a16_22 rfl rfl
  · skip
    refine a_aload_n dJ7_fill_d0a16_12 rfl ?_
    refine a_iload_n dJ7_fill_d0a16_13 rfl ?_
    refine a_lload_n dJ7_fill_d0a16_14 rfl ?_
    refine a_last dJ7_fill_d0a16_15 g0 ?_
    refine a_iinc (v := 1) dJ7_fill_d0a16_16 rfl (by decide) rfl rfl ?_
    refine a_goto (tgt := 6) dJ7_fill_d0a16_19 (by decide) ?_
    exact AW.weak (Lw_so rfl (Lw_so rfl (Lw_no (Lw_so rfl (Lw_so rfl Lw_end))))) (hk6 _ _ _ _ _ g0)
def f_Ar_fill_6 (S : ba_S) : Nat → Int64 → Int32 → Int32 → ba_M → Option (ba_M) := fx (fun _ _ _ _ _ => none) (b_Ar_fill_6 S) FU
theorem l_Ar_fill_6 {S : ba_S} : ∀ (n : Nat) (v0 : Nat) (v1 : Int64) (v3 : Int32) (v4 : Int32) (m : ba_M), ck S v0 21 = true → AW (Y_Ar_fill S) 6 [some (aR (some v0)), some (aJ v1), none, some (aI v3), some (aI v4)] [] S m ((fx (F := Nat → Int64 → Int32 → Int32 → ba_M → Option (ba_M)) (fun _ _ _ _ _ => none) (b_Ar_fill_6 S) n) v0 v1 v3 v4 m) := by
  intro n
  induction n with
  | zero => intro _ _ _ _ _ _; exact AW.none
  | succ n ih => exact w_Ar_fill_6 ih
def f_Ar_fill (S : ba_S) (a0 : Nat) (a1 : Int64) (m : ba_M) : Option (ba_M) :=
  cK S a0 21 ((f_Ar_fill_6 S a0 a1 (0 : Int32) (Int32.ofNat (kL S a0)) m))
set_option maxRecDepth 100000 in
theorem e_Ar_fill (S : ba_S) (a0 : Nat) (a1 : Int64) (m : ba_M) : AW (Y_Ar_fill S) 0 [some (aR (some a0)), some (aJ a1), none, none, none] [] S m (f_Ar_fill S a0 a1 m) := by
  unfold f_Ar_fill
  refine AW.ck (fun g0 => ?_)
  refine a_iconst (v := 0) dJ7_fill_d0a16_0 (by decide) ?_
  refine a_istore_n dJ7_fill_d0a16_1 rfl rfl ?_
  refine a_aload_n dJ7_fill_d0a16_2 rfl ?_
  refine a_alen dJ7_fill_d0a16_3 g0 (by decide) ?_
  refine a_istore dJ7_fill_d0a16_4 rfl rfl ?_
  exact AW.weak (Lw_so rfl (Lw_so rfl (Lw_no (Lw_so rfl (Lw_so rfl Lw_end))))) (l_Ar_fill_6 FU _ _ _ _ _ g0)
theorem m_Ar_fill {S : ba_S} {a0 : Nat} {a1 : Int64} {m : ba_M} {q : ba_M} (h : f_Ar_fill S a0 a1 m = some q) : MA (Y_Ar_fill S) yJ7_fill_d0a16 none [aR (some a0), aJ a1] S m q :=
  ba_met ⟨by decide +kernel, rfl⟩ rfl (fun h => by cases h) (Or.inr (Or.inr (Or.inr (Or.inl ⟨rfl, rfl, rfl⟩)))) rfl (h ▸ e_Ar_fill S a0 a1 m)

abbrev Y_Rw_addLong (S : ba_S) : ba_Y (ba_M) := mV cX5_addLong RX5 4 0 0 S
def f_Rw_addLong_17 (S : ba_S) (m : ba_M) : Option (ba_M) :=
  some m
set_option maxRecDepth 100000 in
theorem w_Rw_addLong_17 {S : ba_S} : ∀ (m : ba_M), AW (Y_Rw_addLong S) 17 [none, none, none, none] [] S m (f_Rw_addLong_17 S m) := by
  intro m
  unfold f_Rw_addLong_17
  exact AW.ret dX5_addLong_17 rfl rfl
def f_Rw_addLong (S : ba_S) (a0 : Nat) (a1 : Int32) (a2 : Int64) (m : ba_M) : Option (ba_M) :=
  cK S a0 21 ((if a1 < 0 then (f_Rw_addLong_17 S m) else (if (Int32.ofNat (kL S a0)) ≤ a1 then (f_Rw_addLong_17 S m) else (bD S a0 a1 (bD S a0 a1 (f_Rw_addLong_17 S (wL m a0 (a1).toNatClampNeg ((gL m a0 (a1).toNatClampNeg) + a2))))))))
set_option maxRecDepth 100000 in
theorem e_Rw_addLong (S : ba_S) (a0 : Nat) (a1 : Int32) (a2 : Int64) (m : ba_M) : AW (Y_Rw_addLong S) 0 [some (aR (some a0)), some (aI a1), some (aJ a2), none] [] S m (f_Rw_addLong S a0 a1 a2 m) := by
  unfold f_Rw_addLong
  refine AW.ck (fun g0 => ?_)
  refine a_iload_n dX5_addLong_0 rfl ?_
  refine a_zlt (tgt := 17) dX5_addLong_1 (by decide) (fun _ => ?_) (fun _ => ?_)
  · skip
    exact AW.weak (Lw_no (Lw_no (Lw_no (Lw_no Lw_end)))) (w_Rw_addLong_17 _)
  · skip
    refine a_iload_n dX5_addLong_4 rfl ?_
    refine a_aload_n dX5_addLong_5 rfl ?_
    refine a_alen dX5_addLong_6 g0 (by decide) ?_
    refine a_ige (tgt := 17) dX5_addLong_7 (by decide) (fun _ => ?_) (fun _ => ?_)
    · skip
      exact AW.weak (Lw_no (Lw_no (Lw_no (Lw_no Lw_end)))) (w_Rw_addLong_17 _)
    · skip
      refine a_aload_n dX5_addLong_10 rfl ?_
      refine a_iload_n dX5_addLong_11 rfl ?_
      refine a_dup2 dX5_addLong_12 rfl rfl ?_
      refine a_lald dX5_addLong_13 g0 ?_
      refine a_lload_n dX5_addLong_14 rfl ?_
      refine a_ladd dX5_addLong_15 ?_
      refine a_last dX5_addLong_16 g0 ?_
      exact AW.weak (Lw_no (Lw_no (Lw_no (Lw_no Lw_end)))) (w_Rw_addLong_17 _)
theorem m_Rw_addLong {S : ba_S} {a0 : Nat} {a1 : Int32} {a2 : Int64} {m : ba_M} {q : ba_M} (h : f_Rw_addLong S a0 a1 a2 m = some q) : MA (Y_Rw_addLong S) yX5_addLong none [aR (some a0), aI a1, aJ a2] S m q :=
  ba_met ⟨by decide +kernel, rfl⟩ rfl (fun h => by cases h) (Or.inr (Or.inr (Or.inr (Or.inl ⟨rfl, rfl, rfl⟩)))) rfl (h ▸ e_Rw_addLong S a0 a1 a2 m)

abbrev Y_Rw_longAt (S : ba_S) : ba_Y (Int64 × ba_M) := mJ cX5_longAt RX5 2 0 0 S
def f_Rw_longAt_17 (S : ba_S) (s0 : Int64) (m : ba_M) : Option (Int64 × ba_M) :=
  some (s0, m)
set_option maxRecDepth 100000 in
theorem w_Rw_longAt_17 {S : ba_S} : ∀ (s0 : Int64) (m : ba_M), AW (Y_Rw_longAt S) 17 [none, none] [aJ s0] S m (f_Rw_longAt_17 S s0 m) := by
  intro s0 m
  unfold f_Rw_longAt_17
  exact AW.ret dX5_longAt_17 rfl rfl
def f_Rw_longAt_16 (S : ba_S) (m : ba_M) : Option (Int64 × ba_M) :=
  (f_Rw_longAt_17 S (0 : Int64) m)
set_option maxRecDepth 100000 in
theorem w_Rw_longAt_16 {S : ba_S} : ∀ (m : ba_M), AW (Y_Rw_longAt S) 16 [none, none] [] S m (f_Rw_longAt_16 S m) := by
  intro m
  unfold f_Rw_longAt_16
  refine a_lconst (v := 0) dX5_longAt_16 (by decide) ?_
  exact AW.weak (Lw_no (Lw_no Lw_end)) (w_Rw_longAt_17 _ _)
def f_Rw_longAt (S : ba_S) (a0 : Nat) (a1 : Int32) (m : ba_M) : Option (Int64 × ba_M) :=
  cK S a0 21 ((if a1 < 0 then (f_Rw_longAt_16 S m) else (if (Int32.ofNat (kL S a0)) ≤ a1 then (f_Rw_longAt_16 S m) else (bD S a0 a1 (f_Rw_longAt_17 S (gL m a0 (a1).toNatClampNeg) m)))))
set_option maxRecDepth 100000 in
theorem e_Rw_longAt (S : ba_S) (a0 : Nat) (a1 : Int32) (m : ba_M) : AW (Y_Rw_longAt S) 0 [some (aR (some a0)), some (aI a1)] [] S m (f_Rw_longAt S a0 a1 m) := by
  unfold f_Rw_longAt
  refine AW.ck (fun g0 => ?_)
  refine a_iload_n dX5_longAt_0 rfl ?_
  refine a_zlt (tgt := 16) dX5_longAt_1 (by decide) (fun _ => ?_) (fun _ => ?_)
  · skip
    exact AW.weak (Lw_no (Lw_no Lw_end)) (w_Rw_longAt_16 _)
  · skip
    refine a_iload_n dX5_longAt_4 rfl ?_
    refine a_aload_n dX5_longAt_5 rfl ?_
    refine a_alen dX5_longAt_6 g0 (by decide) ?_
    refine a_ige (tgt := 16) dX5_longAt_7 (by decide) (fun _ => ?_) (fun _ => ?_)
    · skip
      exact AW.weak (Lw_no (Lw_no Lw_end)) (w_Rw_longAt_16 _)
    · skip
      refine a_aload_n dX5_longAt_10 rfl ?_
      refine a_iload_n dX5_longAt_11 rfl ?_
      refine a_lald dX5_longAt_12 g0 ?_
      refine a_goto (tgt := 17) dX5_longAt_13 (by decide) ?_
      exact AW.weak (Lw_no (Lw_no Lw_end)) (w_Rw_longAt_17 _ _)
theorem m_Rw_longAt {S : ba_S} {a0 : Nat} {a1 : Int32} {m : ba_M} {q : Int64 × ba_M} (h : f_Rw_longAt S a0 a1 m = some q) : MA (Y_Rw_longAt S) yX5_longAt (some .long) [aR (some a0), aI a1] S m q :=
  ba_met ⟨by decide +kernel, rfl⟩ rfl (fun h => by cases h) (Or.inr (Or.inr (Or.inl ⟨rfl, rfl, _, rfl⟩))) rfl (h ▸ e_Rw_longAt S a0 a1 m)
end
