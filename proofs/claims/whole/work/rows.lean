section
-- ===== PART A: goes FIRST, ahead of the names: the tables' words, and 'selects' of the private methods out of them =====
/-- a private method of a class that the tables say can be made, by its rows of tables_1 -/
def lw_okq (q : MethodName × Nat) : Prop := (q.1.cls ≠ "java/lang/invoke/MethodHandle" ∧ q.1.cls ≠ "java/lang/invoke/VarHandle") ∧ Cond.instantiable q.1.cls q.2 ∈ tables_1 ∧ Cond.privateMethod q.1 ∈ tables_1 ∧ Cond.instanceMethod q.1 ∈ tables_1
theorem lw_p0 : lw_okq (⟨"RingGames$History", "dropOldest", "()V"⟩, 2) := ⟨⟨by decide +kernel, by decide +kernel⟩, List.mem_of_getElem? (i := 79) (by decide +kernel), List.mem_of_getElem? (i := 191) (by decide +kernel), List.mem_of_getElem? (i := 192) (by decide +kernel)⟩
theorem lw_p1 : lw_okq (⟨"RingGames", "wonBy", "(I)I"⟩, 8) := ⟨⟨by decide +kernel, by decide +kernel⟩, List.mem_of_getElem? (i := 13) (by decide +kernel), List.mem_of_getElem? (i := 219) (by decide +kernel), List.mem_of_getElem? (i := 220) (by decide +kernel)⟩
theorem lw_p2 : lw_okq (⟨"RingGames", "solveFor", "(I)V"⟩, 8) := ⟨⟨by decide +kernel, by decide +kernel⟩, List.mem_of_getElem? (i := 13) (by decide +kernel), List.mem_of_getElem? (i := 223) (by decide +kernel), List.mem_of_getElem? (i := 224) (by decide +kernel)⟩
theorem lw_p3 : lw_okq (⟨"RingGames$Measures", "raise", "(LRingGames$Game;)Z"⟩, 3) := ⟨⟨by decide +kernel, by decide +kernel⟩, List.mem_of_getElem? (i := 113) (by decide +kernel), List.mem_of_getElem? (i := 237) (by decide +kernel), List.mem_of_getElem? (i := 238) (by decide +kernel)⟩
theorem lw_p4 : lw_okq (⟨"RingGames$Measures", "asked", "(LRingGames$Game;I)I"⟩, 3) := ⟨⟨by decide +kernel, by decide +kernel⟩, List.mem_of_getElem? (i := 113) (by decide +kernel), List.mem_of_getElem? (i := 241) (by decide +kernel), List.mem_of_getElem? (i := 242) (by decide +kernel)⟩
theorem lw_p5 : lw_okq (⟨"RingGames$Measures", "wanted", "(LRingGames$Game;II)I"⟩, 3) := ⟨⟨by decide +kernel, by decide +kernel⟩, List.mem_of_getElem? (i := 113) (by decide +kernel), List.mem_of_getElem? (i := 249) (by decide +kernel), List.mem_of_getElem? (i := 250) (by decide +kernel)⟩
theorem lw_p6 : lw_okq (⟨"RingGames", "winnerOf", "(I)I"⟩, 8) := ⟨⟨by decide +kernel, by decide +kernel⟩, List.mem_of_getElem? (i := 13) (by decide +kernel), List.mem_of_getElem? (i := 340) (by decide +kernel), List.mem_of_getElem? (i := 341) (by decide +kernel)⟩
theorem lw_p7 : lw_okq (⟨"RingGames", "findWays", "()V"⟩, 8) := ⟨⟨by decide +kernel, by decide +kernel⟩, List.mem_of_getElem? (i := 13) (by decide +kernel), List.mem_of_getElem? (i := 353) (by decide +kernel), List.mem_of_getElem? (i := 354) (by decide +kernel)⟩
theorem lw_p8 : lw_okq (⟨"RingGames", "wayOn", "(I)I"⟩, 8) := ⟨⟨by decide +kernel, by decide +kernel⟩, List.mem_of_getElem? (i := 13) (by decide +kernel), List.mem_of_getElem? (i := 357) (by decide +kernel), List.mem_of_getElem? (i := 358) (by decide +kernel)⟩
theorem lw_p9 : lw_okq (⟨"RingGames", "judgeFor", "(I)V"⟩, 8) := ⟨⟨by decide +kernel, by decide +kernel⟩, List.mem_of_getElem? (i := 13) (by decide +kernel), List.mem_of_getElem? (i := 464) (by decide +kernel), List.mem_of_getElem? (i := 465) (by decide +kernel)⟩
theorem lw_p10 : lw_okq (⟨"RingGamesModel", "record", "()V"⟩, 19) := ⟨⟨by decide +kernel, by decide +kernel⟩, List.mem_of_getElem? (i := 565) (by decide +kernel), List.mem_of_getElem? (i := 636) (by decide +kernel), List.mem_of_getElem? (i := 637) (by decide +kernel)⟩
theorem lw_p11 : lw_okq (⟨"RingGamesModel", "puts", "(III)V"⟩, 19) := ⟨⟨by decide +kernel, by decide +kernel⟩, List.mem_of_getElem? (i := 565) (by decide +kernel), List.mem_of_getElem? (i := 640) (by decide +kernel), List.mem_of_getElem? (i := 641) (by decide +kernel)⟩
theorem lw_p12 : lw_okq (⟨"RingGamesModel", "no", "(I)Z"⟩, 19) := ⟨⟨by decide +kernel, by decide +kernel⟩, List.mem_of_getElem? (i := 565) (by decide +kernel), List.mem_of_getElem? (i := 648) (by decide +kernel), List.mem_of_getElem? (i := 649) (by decide +kernel)⟩
theorem lw_p13 : lw_okq (⟨"RingGamesModel", "of", "(II)I"⟩, 19) := ⟨⟨by decide +kernel, by decide +kernel⟩, List.mem_of_getElem? (i := 565) (by decide +kernel), List.mem_of_getElem? (i := 652) (by decide +kernel), List.mem_of_getElem? (i := 653) (by decide +kernel)⟩
end
section
theorem lw_p14 : lw_okq (⟨"RingGamesModel", "winsOf", "(I)I"⟩, 19) := ⟨⟨by decide +kernel, by decide +kernel⟩, List.mem_of_getElem? (i := 565) (by decide +kernel), List.mem_of_getElem? (i := 656) (by decide +kernel), List.mem_of_getElem? (i := 657) (by decide +kernel)⟩
theorem lw_p15 : lw_okq (⟨"RingGamesModel", "finds", "(I)V"⟩, 19) := ⟨⟨by decide +kernel, by decide +kernel⟩, List.mem_of_getElem? (i := 565) (by decide +kernel), List.mem_of_getElem? (i := 660) (by decide +kernel), List.mem_of_getElem? (i := 661) (by decide +kernel)⟩
def lw_privs_1 : List (MethodName × Nat) := [(⟨"RingGames$History", "dropOldest", "()V"⟩, 2), (⟨"RingGames", "wonBy", "(I)I"⟩, 8), (⟨"RingGames", "solveFor", "(I)V"⟩, 8), (⟨"RingGames$Measures", "raise", "(LRingGames$Game;)Z"⟩, 3), (⟨"RingGames$Measures", "asked", "(LRingGames$Game;I)I"⟩, 3), (⟨"RingGames$Measures", "wanted", "(LRingGames$Game;II)I"⟩, 3), (⟨"RingGames", "winnerOf", "(I)I"⟩, 8), (⟨"RingGames", "findWays", "()V"⟩, 8), (⟨"RingGames", "wayOn", "(I)I"⟩, 8), (⟨"RingGames", "judgeFor", "(I)V"⟩, 8), (⟨"RingGamesModel", "record", "()V"⟩, 19), (⟨"RingGamesModel", "puts", "(III)V"⟩, 19), (⟨"RingGamesModel", "no", "(I)Z"⟩, 19), (⟨"RingGamesModel", "of", "(II)I"⟩, 19), (⟨"RingGamesModel", "winsOf", "(I)I"⟩, 19), (⟨"RingGamesModel", "finds", "(I)V"⟩, 19)]
theorem lw_r1 : ∀ q ∈ lw_privs_1, lw_okq q := List.forall_mem_cons.mpr ⟨lw_p0, List.forall_mem_cons.mpr ⟨lw_p1, List.forall_mem_cons.mpr ⟨lw_p2, List.forall_mem_cons.mpr ⟨lw_p3, List.forall_mem_cons.mpr ⟨lw_p4, List.forall_mem_cons.mpr ⟨lw_p5, List.forall_mem_cons.mpr ⟨lw_p6, List.forall_mem_cons.mpr ⟨lw_p7, List.forall_mem_cons.mpr ⟨lw_p8, List.forall_mem_cons.mpr ⟨lw_p9, List.forall_mem_cons.mpr ⟨lw_p10, List.forall_mem_cons.mpr ⟨lw_p11, List.forall_mem_cons.mpr ⟨lw_p12, List.forall_mem_cons.mpr ⟨lw_p13, List.forall_mem_cons.mpr ⟨lw_p14, List.forall_mem_cons.mpr ⟨lw_p15, fun _ h => absurd h List.not_mem_nil⟩⟩⟩⟩⟩⟩⟩⟩⟩⟩⟩⟩⟩⟩⟩⟩
theorem lw_p16 : lw_okq (⟨"RingGamesModel", "colourIn", "(I)I"⟩, 19) := ⟨⟨by decide +kernel, by decide +kernel⟩, List.mem_of_getElem? (i := 565) (by decide +kernel), List.mem_of_getElem? (i := 664) (by decide +kernel), List.mem_of_getElem? (i := 665) (by decide +kernel)⟩
theorem lw_p17 : lw_okq (⟨"RingGamesModel", "asks", "(I)I"⟩, 19) := ⟨⟨by decide +kernel, by decide +kernel⟩, List.mem_of_getElem? (i := 565) (by decide +kernel), List.mem_of_getElem? (i := 668) (by decide +kernel), List.mem_of_getElem? (i := 669) (by decide +kernel)⟩
theorem lw_p18 : lw_okq (⟨"RingGamesModel", "ownerIn", "(I)I"⟩, 19) := ⟨⟨by decide +kernel, by decide +kernel⟩, List.mem_of_getElem? (i := 565) (by decide +kernel), List.mem_of_getElem? (i := 672) (by decide +kernel), List.mem_of_getElem? (i := 673) (by decide +kernel)⟩
theorem lw_p19 : lw_okq (⟨"RingGamesModel", "hasArrow", "(II)Z"⟩, 19) := ⟨⟨by decide +kernel, by decide +kernel⟩, List.mem_of_getElem? (i := 565) (by decide +kernel), List.mem_of_getElem? (i := 677) (by decide +kernel), List.mem_of_getElem? (i := 678) (by decide +kernel)⟩
theorem lw_p20 : lw_okq (⟨"RingGamesModel", "wanted", "(II)I"⟩, 19) := ⟨⟨by decide +kernel, by decide +kernel⟩, List.mem_of_getElem? (i := 565) (by decide +kernel), List.mem_of_getElem? (i := 681) (by decide +kernel), List.mem_of_getElem? (i := 682) (by decide +kernel)⟩
theorem lw_p21 : lw_okq (⟨"RingGamesModel", "won", "()I"⟩, 19) := ⟨⟨by decide +kernel, by decide +kernel⟩, List.mem_of_getElem? (i := 565) (by decide +kernel), List.mem_of_getElem? (i := 685) (by decide +kernel), List.mem_of_getElem? (i := 686) (by decide +kernel)⟩
theorem lw_p22 : lw_okq (⟨"RingGamesModel", "arrows", "()I"⟩, 19) := ⟨⟨by decide +kernel, by decide +kernel⟩, List.mem_of_getElem? (i := 565) (by decide +kernel), List.mem_of_getElem? (i := 697) (by decide +kernel), List.mem_of_getElem? (i := 698) (by decide +kernel)⟩
theorem lw_p23 : lw_okq (⟨"RingGamesModel", "choiceAt", "(I)I"⟩, 19) := ⟨⟨by decide +kernel, by decide +kernel⟩, List.mem_of_getElem? (i := 565) (by decide +kernel), List.mem_of_getElem? (i := 723) (by decide +kernel), List.mem_of_getElem? (i := 724) (by decide +kernel)⟩
theorem lw_p24 : lw_okq (⟨"RingGamesModel", "winner", "(I)I"⟩, 19) := ⟨⟨by decide +kernel, by decide +kernel⟩, List.mem_of_getElem? (i := 565) (by decide +kernel), List.mem_of_getElem? (i := 731) (by decide +kernel), List.mem_of_getElem? (i := 732) (by decide +kernel)⟩
theorem lw_p25 : lw_okq (⟨"RingGamesModel", "goesTo", "(I)I"⟩, 19) := ⟨⟨by decide +kernel, by decide +kernel⟩, List.mem_of_getElem? (i := 565) (by decide +kernel), List.mem_of_getElem? (i := 739) (by decide +kernel), List.mem_of_getElem? (i := 740) (by decide +kernel)⟩
theorem lw_p26 : lw_okq (⟨"RingGamesModel", "bestChoice", "(I)I"⟩, 19) := ⟨⟨by decide +kernel, by decide +kernel⟩, List.mem_of_getElem? (i := 565) (by decide +kernel), List.mem_of_getElem? (i := 743) (by decide +kernel), List.mem_of_getElem? (i := 744) (by decide +kernel)⟩
theorem lw_p27 : lw_okq (⟨"RingGamesModel", "isRead", "()Z"⟩, 19) := ⟨⟨by decide +kernel, by decide +kernel⟩, List.mem_of_getElem? (i := 565) (by decide +kernel), List.mem_of_getElem? (i := 762) (by decide +kernel), List.mem_of_getElem? (i := 763) (by decide +kernel)⟩
end
section
theorem lw_p28 : lw_okq (⟨"RingGamesModel", "takesNumber", "()Z"⟩, 19) := ⟨⟨by decide +kernel, by decide +kernel⟩, List.mem_of_getElem? (i := 565) (by decide +kernel), List.mem_of_getElem? (i := 766) (by decide +kernel), List.mem_of_getElem? (i := 767) (by decide +kernel)⟩
theorem lw_p29 : lw_okq (⟨"RingGamesModel", "isDigit", "()Z"⟩, 19) := ⟨⟨by decide +kernel, by decide +kernel⟩, List.mem_of_getElem? (i := 565) (by decide +kernel), List.mem_of_getElem? (i := 770) (by decide +kernel), List.mem_of_getElem? (i := 771) (by decide +kernel)⟩
theorem lw_p30 : lw_okq (⟨"RingGamesModel", "takes", "(I)Z"⟩, 19) := ⟨⟨by decide +kernel, by decide +kernel⟩, List.mem_of_getElem? (i := 565) (by decide +kernel), List.mem_of_getElem? (i := 774) (by decide +kernel), List.mem_of_getElem? (i := 775) (by decide +kernel)⟩
theorem lw_p31 : lw_okq (⟨"RingGamesModel", "sources", "(I)I"⟩, 19) := ⟨⟨by decide +kernel, by decide +kernel⟩, List.mem_of_getElem? (i := 565) (by decide +kernel), List.mem_of_getElem? (i := 794) (by decide +kernel), List.mem_of_getElem? (i := 795) (by decide +kernel)⟩
def lw_privs_2 : List (MethodName × Nat) := [(⟨"RingGamesModel", "colourIn", "(I)I"⟩, 19), (⟨"RingGamesModel", "asks", "(I)I"⟩, 19), (⟨"RingGamesModel", "ownerIn", "(I)I"⟩, 19), (⟨"RingGamesModel", "hasArrow", "(II)Z"⟩, 19), (⟨"RingGamesModel", "wanted", "(II)I"⟩, 19), (⟨"RingGamesModel", "won", "()I"⟩, 19), (⟨"RingGamesModel", "arrows", "()I"⟩, 19), (⟨"RingGamesModel", "choiceAt", "(I)I"⟩, 19), (⟨"RingGamesModel", "winner", "(I)I"⟩, 19), (⟨"RingGamesModel", "goesTo", "(I)I"⟩, 19), (⟨"RingGamesModel", "bestChoice", "(I)I"⟩, 19), (⟨"RingGamesModel", "isRead", "()Z"⟩, 19), (⟨"RingGamesModel", "takesNumber", "()Z"⟩, 19), (⟨"RingGamesModel", "isDigit", "()Z"⟩, 19), (⟨"RingGamesModel", "takes", "(I)Z"⟩, 19), (⟨"RingGamesModel", "sources", "(I)I"⟩, 19)]
theorem lw_r2 : ∀ q ∈ lw_privs_2, lw_okq q := List.forall_mem_cons.mpr ⟨lw_p16, List.forall_mem_cons.mpr ⟨lw_p17, List.forall_mem_cons.mpr ⟨lw_p18, List.forall_mem_cons.mpr ⟨lw_p19, List.forall_mem_cons.mpr ⟨lw_p20, List.forall_mem_cons.mpr ⟨lw_p21, List.forall_mem_cons.mpr ⟨lw_p22, List.forall_mem_cons.mpr ⟨lw_p23, List.forall_mem_cons.mpr ⟨lw_p24, List.forall_mem_cons.mpr ⟨lw_p25, List.forall_mem_cons.mpr ⟨lw_p26, List.forall_mem_cons.mpr ⟨lw_p27, List.forall_mem_cons.mpr ⟨lw_p28, List.forall_mem_cons.mpr ⟨lw_p29, List.forall_mem_cons.mpr ⟨lw_p30, List.forall_mem_cons.mpr ⟨lw_p31, fun _ h => absurd h List.not_mem_nil⟩⟩⟩⟩⟩⟩⟩⟩⟩⟩⟩⟩⟩⟩⟩⟩
theorem lw_p32 : lw_okq (⟨"RingGamesModel", "isBad", "(I)Z"⟩, 19) := ⟨⟨by decide +kernel, by decide +kernel⟩, List.mem_of_getElem? (i := 565) (by decide +kernel), List.mem_of_getElem? (i := 818) (by decide +kernel), List.mem_of_getElem? (i := 819) (by decide +kernel)⟩
theorem lw_p33 : lw_okq (⟨"RingGamesModel", "coming", "(II)I"⟩, 19) := ⟨⟨by decide +kernel, by decide +kernel⟩, List.mem_of_getElem? (i := 565) (by decide +kernel), List.mem_of_getElem? (i := 822) (by decide +kernel), List.mem_of_getElem? (i := 823) (by decide +kernel)⟩
theorem lw_p34 : lw_okq (⟨"RingGamesModel", "comes", "(III)Z"⟩, 19) := ⟨⟨by decide +kernel, by decide +kernel⟩, List.mem_of_getElem? (i := 565) (by decide +kernel), List.mem_of_getElem? (i := 826) (by decide +kernel), List.mem_of_getElem? (i := 827) (by decide +kernel)⟩
theorem lw_p35 : lw_okq (⟨"RingGamesModel", "allBad", "(I)I"⟩, 19) := ⟨⟨by decide +kernel, by decide +kernel⟩, List.mem_of_getElem? (i := 565) (by decide +kernel), List.mem_of_getElem? (i := 842) (by decide +kernel), List.mem_of_getElem? (i := 843) (by decide +kernel)⟩
theorem lw_p36 : lw_okq (⟨"RingGamesModel", "judges", "(I)V"⟩, 19) := ⟨⟨by decide +kernel, by decide +kernel⟩, List.mem_of_getElem? (i := 565) (by decide +kernel), List.mem_of_getElem? (i := 846) (by decide +kernel), List.mem_of_getElem? (i := 847) (by decide +kernel)⟩
theorem lw_p37 : lw_okq (⟨"RingGamesModel", "onRings", "(I)I"⟩, 19) := ⟨⟨by decide +kernel, by decide +kernel⟩, List.mem_of_getElem? (i := 565) (by decide +kernel), List.mem_of_getElem? (i := 850) (by decide +kernel), List.mem_of_getElem? (i := 851) (by decide +kernel)⟩
theorem lw_p38 : lw_okq (⟨"RingGamesModel", "reaches", "(I)V"⟩, 19) := ⟨⟨by decide +kernel, by decide +kernel⟩, List.mem_of_getElem? (i := 565) (by decide +kernel), List.mem_of_getElem? (i := 854) (by decide +kernel), List.mem_of_getElem? (i := 855) (by decide +kernel)⟩
theorem lw_p39 : lw_okq (⟨"RingGamesModel", "ringAt", "(I)I"⟩, 19) := ⟨⟨by decide +kernel, by decide +kernel⟩, List.mem_of_getElem? (i := 565) (by decide +kernel), List.mem_of_getElem? (i := 862) (by decide +kernel), List.mem_of_getElem? (i := 863) (by decide +kernel)⟩
theorem lw_p40 : lw_okq (⟨"RingGamesModel", "placesThat", "(I)I"⟩, 19) := ⟨⟨by decide +kernel, by decide +kernel⟩, List.mem_of_getElem? (i := 565) (by decide +kernel), List.mem_of_getElem? (i := 882) (by decide +kernel), List.mem_of_getElem? (i := 883) (by decide +kernel)⟩
theorem lw_p41 : lw_okq (⟨"RingGamesModel", "leastColour", "()I"⟩, 19) := ⟨⟨by decide +kernel, by decide +kernel⟩, List.mem_of_getElem? (i := 565) (by decide +kernel), List.mem_of_getElem? (i := 886) (by decide +kernel), List.mem_of_getElem? (i := 887) (by decide +kernel)⟩
end
section
def lw_privs_3 : List (MethodName × Nat) := [(⟨"RingGamesModel", "isBad", "(I)Z"⟩, 19), (⟨"RingGamesModel", "coming", "(II)I"⟩, 19), (⟨"RingGamesModel", "comes", "(III)Z"⟩, 19), (⟨"RingGamesModel", "allBad", "(I)I"⟩, 19), (⟨"RingGamesModel", "judges", "(I)V"⟩, 19), (⟨"RingGamesModel", "onRings", "(I)I"⟩, 19), (⟨"RingGamesModel", "reaches", "(I)V"⟩, 19), (⟨"RingGamesModel", "ringAt", "(I)I"⟩, 19), (⟨"RingGamesModel", "placesThat", "(I)I"⟩, 19), (⟨"RingGamesModel", "leastColour", "()I"⟩, 19)]
theorem lw_r3 : ∀ q ∈ lw_privs_3, lw_okq q := List.forall_mem_cons.mpr ⟨lw_p32, List.forall_mem_cons.mpr ⟨lw_p33, List.forall_mem_cons.mpr ⟨lw_p34, List.forall_mem_cons.mpr ⟨lw_p35, List.forall_mem_cons.mpr ⟨lw_p36, List.forall_mem_cons.mpr ⟨lw_p37, List.forall_mem_cons.mpr ⟨lw_p38, List.forall_mem_cons.mpr ⟨lw_p39, List.forall_mem_cons.mpr ⟨lw_p40, List.forall_mem_cons.mpr ⟨lw_p41, fun _ h => absurd h List.not_mem_nil⟩⟩⟩⟩⟩⟩⟩⟩⟩⟩
def lw_privs : List (MethodName × Nat) := lw_privs_1 ++ (lw_privs_2 ++ (lw_privs_3))
def lw_tbl : List Cond := k2_sels lw_privs ++ tables_1
theorem lw_privs_ok : ∀ q ∈ lw_privs, lw_okq q := by
  show ∀ q ∈ lw_privs_1 ++ (lw_privs_2 ++ (lw_privs_3)), lw_okq q
  exact List.forall_mem_append.mpr ⟨lw_r1, List.forall_mem_append.mpr ⟨lw_r2, lw_r3⟩⟩
end
section
/-! ===== BEGIN words of one list among another's, by their places ===== -/
theorem goodIn_r {big : List Cond} (ws : List Cond) (ps : List Nat) (hp : ws = ps.filterMap (fun i => big[i]?)) (h : ws.all goodWord = true) : GoodIn big ws := by
  intro w hw
  have h1 := List.all_eq_true.mp h w hw
  rw [hp] at hw
  obtain ⟨i, -, hi⟩ := List.mem_filterMap.mp hw
  have hm : w ∈ big := by first | exact List.mem_of_getElem? hi | exact List.getElem?_mem hi
  exact ⟨hm, good_of_word h1⟩
theorem goodIn_app {big a b : List Cond} (ha : GoodIn big a) (hb : GoodIn big b) : GoodIn big (a ++ b) := fun w h => (List.mem_append.mp h).elim (ha w) (hb w)
theorem goodIn_ca {big a b : List Cond} {c : Cond} (ha : GoodIn big (c :: a)) (hb : GoodIn big b) : GoodIn big (c :: (a ++ b)) := fun w h => (List.mem_cons.mp h).elim (fun e => ha w (List.mem_cons.mpr (Or.inl e))) (fun h => (List.mem_append.mp h).elim (fun h => ha w (List.mem_cons.mpr (Or.inr h))) (hb w))
theorem goodIn_sub {big ws : List Cond} (hm : ∀ w ∈ ws, w ∈ big) (h : ws.all goodWord = true) : GoodIn big ws := fun w hw => ⟨hm w hw, good_of_word (List.all_eq_true.mp h w hw)⟩
/-! ===== END ===== -/

/-! ===== BEGIN printed: names, fields, word lists, decode rows ===== -/
def RX0 : String := "RingGames$ArrowText"
def TX0 : u_T := fun k => match k with
  | 0 => ("RingGames$ArrowText", "signs", "[C", true)
  | _ => ("RingGames$ArrowText", "length", "I", false)
def tyX0 : Nat → FieldType := fun k => match k with
  | 0 => .array .char
  | _ => .int
abbrev wsX00 : List Cond := u_ws RX0 TX0 2
theorem nmX0 : ∀ a, a < 2 → ∀ b, b < 2 → a ≠ b → (TX0 a).2.1 ≠ (TX0 b).2.1 := by decide +kernel
theorem tyX0_ok : ∀ k, k < 2 → parseFieldDescriptor (TX0 k).2.2.1 = some (tyX0 k) := by decide +kernel
abbrev cX0_init : ByteArray := prog_2_method_1_code
def yX0_init : MethodName := ⟨RX0, "<init>", "()V"⟩
abbrev cX0_append : ByteArray := prog_2_method_2_code
def yX0_append : MethodName := ⟨RX0, "append", "(C)Z"⟩
abbrev cX0_isDigit : ByteArray := prog_2_method_3_code
def yX0_isDigit : MethodName := ⟨RX0, "isDigit", "(C)Z"⟩
abbrev cX0_isSignBehind : ByteArray := prog_2_method_4_code
def yX0_isSignBehind : MethodName := ⟨RX0, "isSignBehind", "(CZ)Z"⟩
abbrev cX0_fault : ByteArray := prog_2_method_5_code
def yX0_fault : MethodName := ⟨RX0, "fault", "()I"⟩
abbrev cX0_drawInto : ByteArray := prog_2_method_6_code
def yX0_drawInto : MethodName := ⟨RX0, "drawInto", "(LRingGames$Game;)Z"⟩
def RX1 : String := "RingGames$Game"
def TX1 : u_T := fun k => match k with
  | 0 => ("RingGames$Game", "size", "I", false)
  | 1 => ("RingGames$Game", "owners", "[I", true)
  | 2 => ("RingGames$Game", "colours", "[I", true)
  | _ => ("RingGames$Game", "arrows", "[I", true)
def tyX1 : Nat → FieldType := fun k => match k with
  | 0 => .int
  | 1 => .array .int
  | 2 => .array .int
  | _ => .array .int
abbrev wsX10 : List Cond := u_ws RX1 TX1 4
theorem nmX1 : ∀ a, a < 4 → ∀ b, b < 4 → a ≠ b → (TX1 a).2.1 ≠ (TX1 b).2.1 := by decide +kernel
theorem tyX1_ok : ∀ k, k < 4 → parseFieldDescriptor (TX1 k).2.2.1 = some (tyX1 k) := by decide +kernel
abbrev cX1_init : ByteArray := prog_3_method_1_code
def yX1_init : MethodName := ⟨RX1, "<init>", "()V"⟩
abbrev cX1_become : ByteArray := prog_3_method_2_code
def yX1_become : MethodName := ⟨RX1, "become", "(LRingGames$Game;)V"⟩
abbrev cX1_has : ByteArray := prog_3_method_3_code
def yX1_has : MethodName := ⟨RX1, "has", "(I)Z"⟩
abbrev cX1_all : ByteArray := prog_3_method_4_code
def yX1_all : MethodName := ⟨RX1, "all", "()I"⟩
abbrev cX1_hasAll : ByteArray := prog_3_method_5_code
def yX1_hasAll : MethodName := ⟨RX1, "hasAll", "(I)Z"⟩
abbrev cX1_leads : ByteArray := prog_3_method_6_code
def yX1_leads : MethodName := ⟨RX1, "leads", "(II)Z"⟩
abbrev cX1_arrowCount : ByteArray := prog_3_method_7_code
def yX1_arrowCount : MethodName := ⟨RX1, "arrowCount", "()I"⟩
abbrev cX1_lowestArrow : ByteArray := prog_3_method_8_code
def yX1_lowestArrow : MethodName := ⟨RX1, "lowestArrow", "(I)I"⟩
abbrev cX1_owned : ByteArray := prog_3_method_9_code
def yX1_owned : MethodName := ⟨RX1, "owned", "(I)I"⟩
abbrev cX1_withoutArrows : ByteArray := prog_3_method_10_code
def yX1_withoutArrows : MethodName := ⟨RX1, "withoutArrows", "()I"⟩
abbrev cX1_hasColour : ByteArray := prog_3_method_11_code
def yX1_hasColour : MethodName := ⟨RX1, "hasColour", "(I)Z"⟩
abbrev cX1_leastColour : ByteArray := prog_3_method_12_code
def yX1_leastColour : MethodName := ⟨RX1, "leastColour", "()I"⟩
abbrev cX1_exchange : ByteArray := prog_3_method_13_code
def yX1_exchange : MethodName := ⟨RX1, "exchange", "()V"⟩
abbrev cX1_sources : ByteArray := prog_3_method_14_code
def yX1_sources : MethodName := ⟨RX1, "sources", "(I)I"⟩
abbrev cX1_targets : ByteArray := prog_3_method_15_code
def yX1_targets : MethodName := ⟨RX1, "targets", "(I)I"⟩
abbrev cX1_forcedNext : ByteArray := prog_3_method_16_code
def yX1_forcedNext : MethodName := ⟨RX1, "forcedNext", "(II)I"⟩
abbrev cX1_isTrap : ByteArray := prog_3_method_17_code
def yX1_isTrap : MethodName := ⟨RX1, "isTrap", "(II)Z"⟩
abbrev cX1_reached : ByteArray := prog_3_method_18_code
def yX1_reached : MethodName := ⟨RX1, "reached", "(II)I"⟩
abbrev cX1_reaching : ByteArray := prog_3_method_19_code
def yX1_reaching : MethodName := ⟨RX1, "reaching", "(II)I"⟩
abbrev cX1_notLess : ByteArray := prog_3_method_20_code
def yX1_notLess : MethodName := ⟨RX1, "notLess", "(I)I"⟩
abbrev cX1_ringPlaces : ByteArray := prog_3_method_21_code
def yX1_ringPlaces : MethodName := ⟨RX1, "ringPlaces", "(I)I"⟩
abbrev cX1_isBadColour : ByteArray := prog_3_method_22_code
def yX1_isBadColour : MethodName := ⟨RX1, "isBadColour", "(II)Z"⟩
abbrev cX1_badRingPlaces : ByteArray := prog_3_method_23_code
def yX1_badRingPlaces : MethodName := ⟨RX1, "badRingPlaces", "(I)I"⟩
abbrev cX1_leastBadColour : ByteArray := prog_3_method_24_code
def yX1_leastBadColour : MethodName := ⟨RX1, "leastBadColour", "(I)I"⟩
abbrev cX1_shortestBadRing : ByteArray := prog_3_method_25_code
def yX1_shortestBadRing : MethodName := ⟨RX1, "shortestBadRing", "(I)I"⟩
abbrev cX1_shortestRing : ByteArray := prog_3_method_26_code
def yX1_shortestRing : MethodName := ⟨RX1, "shortestRing", "(I)I"⟩
def RX2 : String := "RingGames$History"
def TX2 : u_T := fun k => match k with
  | 0 => ("RingGames$History", "states", "[LRingGames$State;", true)
  | _ => ("RingGames$History", "count", "I", false)
def tyX2 : Nat → FieldType := fun k => match k with
  | 0 => .array (.object "RingGames$State")
  | _ => .int
abbrev wsX20 : List Cond := u_ws RX2 TX2 2
theorem nmX2 : ∀ a, a < 2 → ∀ b, b < 2 → a ≠ b → (TX2 a).2.1 ≠ (TX2 b).2.1 := by decide +kernel
theorem tyX2_ok : ∀ k, k < 2 → parseFieldDescriptor (TX2 k).2.2.1 = some (tyX2 k) := by decide +kernel
abbrev cX2_init : ByteArray := prog_4_method_1_code
def yX2_init : MethodName := ⟨RX2, "<init>", "()V"⟩
abbrev cX2_remember : ByteArray := prog_4_method_2_code
def yX2_remember : MethodName := ⟨RX2, "remember", "(LRingGames$State;)V"⟩
abbrev cX2_dropOldest : ByteArray := prog_4_method_3_code
def yX2_dropOldest : MethodName := ⟨RX2, "dropOldest", "()V"⟩
abbrev cX2_takeInto : ByteArray := prog_4_method_4_code
def yX2_takeInto : MethodName := ⟨RX2, "takeInto", "(LRingGames$State;)Z"⟩
def RX3 : String := "RingGames$Measures"
def TX3 : u_T := fun k => match k with
  | 0 => ("RingGames$Measures", "most", "[I", true)
  | 1 => ("RingGames$Measures", "found", "[I", true)
  | _ => ("RingGames$Measures", "lastRound", "I", false)
def tyX3 : Nat → FieldType := fun k => match k with
  | 0 => .array .int
  | 1 => .array .int
  | _ => .int
abbrev wsX30 : List Cond := u_ws RX3 TX3 3
theorem nmX3 : ∀ a, a < 3 → ∀ b, b < 3 → a ≠ b → (TX3 a).2.1 ≠ (TX3 b).2.1 := by decide +kernel
theorem tyX3_ok : ∀ k, k < 3 → parseFieldDescriptor (TX3 k).2.2.1 = some (tyX3 k) := by decide +kernel
abbrev cX3_init : ByteArray := prog_5_method_1_code
def yX3_init : MethodName := ⟨RX3, "<init>", "()V"⟩
abbrev cX3_find : ByteArray := prog_5_method_2_code
def yX3_find : MethodName := ⟨RX3, "find", "(LRingGames$Game;)V"⟩
abbrev cX3_raise : ByteArray := prog_5_method_3_code
def yX3_raise : MethodName := ⟨RX3, "raise", "(LRingGames$Game;)Z"⟩
abbrev cX3_asked : ByteArray := prog_5_method_4_code
def yX3_asked : MethodName := ⟨RX3, "asked", "(LRingGames$Game;I)I"⟩
abbrev cX3_wanted : ByteArray := prog_5_method_5_code
def yX3_wanted : MethodName := ⟨RX3, "wanted", "(LRingGames$Game;II)I"⟩
abbrev cX3_isLost : ByteArray := prog_5_method_6_code
def yX3_isLost : MethodName := ⟨RX3, "isLost", "(I)Z"⟩
abbrev cX3_winner : ByteArray := prog_5_method_7_code
def yX3_winner : MethodName := ⟨RX3, "winner", "(I)I"⟩
abbrev cX3_number : ByteArray := prog_5_method_8_code
def yX3_number : MethodName := ⟨RX3, "number", "(II)I"⟩
abbrev cX3_bestArrow : ByteArray := prog_5_method_9_code
def yX3_bestArrow : MethodName := ⟨RX3, "bestArrow", "(LRingGames$Game;I)I"⟩
def RX4 : String := "RingGames$State"
def TX4 : u_T := fun k => match k with
  | 0 => ("RingGames$State", "game", "LRingGames$Game;", true)
  | 1 => ("RingGames$State", "choices", "[I", true)
  | 2 => ("RingGames$State", "tokenAt", "I", false)
  | _ => ("RingGames$State", "tokenSteps", "I", false)
def tyX4 : Nat → FieldType := fun k => match k with
  | 0 => .object "RingGames$Game"
  | 1 => .array .int
  | 2 => .int
  | _ => .int
abbrev wsX40 : List Cond := u_ws RX4 TX4 4
theorem nmX4 : ∀ a, a < 4 → ∀ b, b < 4 → a ≠ b → (TX4 a).2.1 ≠ (TX4 b).2.1 := by decide +kernel
theorem tyX4_ok : ∀ k, k < 4 → parseFieldDescriptor (TX4 k).2.2.1 = some (tyX4 k) := by decide +kernel
abbrev cX4_init : ByteArray := prog_6_method_1_code
def yX4_init : MethodName := ⟨RX4, "<init>", "()V"⟩
abbrev cX4_become : ByteArray := prog_6_method_2_code
def yX4_become : MethodName := ⟨RX4, "become", "(LRingGames$State;)V"⟩
abbrev cX4_append : ByteArray := prog_6_method_3_code
def yX4_append : MethodName := ⟨RX4, "append", "(II)I"⟩
abbrev cX4_choiceCount : ByteArray := prog_6_method_4_code
def yX4_choiceCount : MethodName := ⟨RX4, "choiceCount", "()I"⟩
def RX5 : String := "RingGames$Walk"
def TX5 : u_T := fun k => match k with
  | 0 => ("RingGames$Walk", "ways", "[I", true)
  | 1 => ("RingGames$Walk", "steps", "I", false)
  | 2 => ("RingGames$Walk", "endless", "Z", false)
  | _ => ("RingGames$Walk", "last", "I", false)
def tyX5 : Nat → FieldType := fun k => match k with
  | 0 => .array .int
  | 1 => .int
  | 2 => .boolean
  | _ => .int
abbrev wsX50 : List Cond := u_ws RX5 TX5 4
theorem nmX5 : ∀ a, a < 4 → ∀ b, b < 4 → a ≠ b → (TX5 a).2.1 ≠ (TX5 b).2.1 := by decide +kernel
theorem tyX5_ok : ∀ k, k < 4 → parseFieldDescriptor (TX5 k).2.2.1 = some (tyX5 k) := by decide +kernel
abbrev cX5_init : ByteArray := prog_7_method_1_code
def yX5_init : MethodName := ⟨RX5, "<init>", "()V"⟩
abbrev cX5_wayFrom : ByteArray := prog_7_method_2_code
def yX5_wayFrom : MethodName := ⟨RX5, "wayFrom", "(I)I"⟩
abbrev cX5_follow : ByteArray := prog_7_method_3_code
def yX5_follow : MethodName := ⟨RX5, "follow", "(I)V"⟩
abbrev cX5_leastColourAgain : ByteArray := prog_7_method_4_code
def yX5_leastColourAgain : MethodName := ⟨RX5, "leastColourAgain", "(LRingGames$Game;)I"⟩
abbrev cX5_winner : ByteArray := prog_7_method_5_code
def yX5_winner : MethodName := ⟨RX5, "winner", "(LRingGames$Game;)I"⟩
def RX6 : String := "RingGames"
def TX6 : u_T := fun k => match k with
  | 0 => ("RingGames", "now", "LRingGames$State;", true)
  | 1 => ("RingGames", "history", "LRingGames$History;", true)
  | 2 => ("RingGames", "snapshot", "LRingGames$State;", true)
  | 3 => ("RingGames", "hasSnapshot", "Z", false)
  | 4 => ("RingGames", "text", "LRingGames$ArrowText;", true)
  | 5 => ("RingGames", "trial", "LRingGames$Game;", true)
  | 6 => ("RingGames", "measures", "LRingGames$Measures;", true)
  | _ => ("RingGames", "walk", "LRingGames$Walk;", true)
def tyX6 : Nat → FieldType := fun k => match k with
  | 0 => .object "RingGames$State"
  | 1 => .object "RingGames$History"
  | 2 => .object "RingGames$State"
  | 3 => .boolean
  | 4 => .object "RingGames$ArrowText"
  | 5 => .object "RingGames$Game"
  | 6 => .object "RingGames$Measures"
  | _ => .object "RingGames$Walk"
abbrev wsX60 : List Cond := u_ws RX6 TX6 8
theorem nmX6 : ∀ a, a < 8 → ∀ b, b < 8 → a ≠ b → (TX6 a).2.1 ≠ (TX6 b).2.1 := by decide +kernel
theorem tyX6_ok : ∀ k, k < 8 → parseFieldDescriptor (TX6 k).2.2.1 = some (tyX6 k) := by decide +kernel
abbrev cX6_init : ByteArray := prog_1_method_1_code
def yX6_init : MethodName := ⟨RX6, "<init>", "()V"⟩
abbrev cX6_addPlace : ByteArray := prog_1_method_2_code
def yX6_addPlace : MethodName := ⟨RX6, "addPlace", "(II)I"⟩
abbrev cX6_setOwner : ByteArray := prog_1_method_3_code
def yX6_setOwner : MethodName := ⟨RX6, "setOwner", "(II)I"⟩
abbrev cX6_setColour : ByteArray := prog_1_method_4_code
def yX6_setColour : MethodName := ⟨RX6, "setColour", "(II)I"⟩
abbrev cX6_addArrow : ByteArray := prog_1_method_5_code
def yX6_addArrow : MethodName := ⟨RX6, "addArrow", "(II)I"⟩
abbrev cX6_removeArrow : ByteArray := prog_1_method_6_code
def yX6_removeArrow : MethodName := ⟨RX6, "removeArrow", "(II)I"⟩
abbrev cX6_readArrows : ByteArray := prog_1_method_7_code
def yX6_readArrows : MethodName := ⟨RX6, "readArrows", "()I"⟩
abbrev cX6_turnOver : ByteArray := prog_1_method_8_code
def yX6_turnOver : MethodName := ⟨RX6, "turnOver", "()I"⟩
abbrev cX6_choose : ByteArray := prog_1_method_9_code
def yX6_choose : MethodName := ⟨RX6, "choose", "(II)I"⟩
abbrev cX6_chooseWell : ByteArray := prog_1_method_10_code
def yX6_chooseWell : MethodName := ⟨RX6, "chooseWell", "(I)I"⟩
abbrev cX6_start : ByteArray := prog_1_method_11_code
def yX6_start : MethodName := ⟨RX6, "start", "(I)I"⟩
abbrev cX6_step : ByteArray := prog_1_method_12_code
def yX6_step : MethodName := ⟨RX6, "step", "(I)I"⟩
abbrev cX6_type : ByteArray := prog_1_method_13_code
def yX6_type : MethodName := ⟨RX6, "type", "(C)I"⟩
abbrev cX6_clearText : ByteArray := prog_1_method_14_code
def yX6_clearText : MethodName := ⟨RX6, "clearText", "()I"⟩
abbrev cX6_undo : ByteArray := prog_1_method_15_code
def yX6_undo : MethodName := ⟨RX6, "undo", "()I"⟩
abbrev cX6_keep : ByteArray := prog_1_method_16_code
def yX6_keep : MethodName := ⟨RX6, "keep", "()I"⟩
abbrev cX6_restore : ByteArray := prog_1_method_17_code
def yX6_restore : MethodName := ⟨RX6, "restore", "()I"⟩
abbrev cX6_place : ByteArray := prog_1_method_18_code
def yX6_place : MethodName := ⟨RX6, "place", "(II)I"⟩
abbrev cX6_wins : ByteArray := prog_1_method_19_code
def yX6_wins : MethodName := ⟨RX6, "wins", "(I)I"⟩
abbrev cX6_winningChoice : ByteArray := prog_1_method_20_code
def yX6_winningChoice : MethodName := ⟨RX6, "winningChoice", "(I)I"⟩
abbrev cX6_measure : ByteArray := prog_1_method_21_code
def yX6_measure : MethodName := ⟨RX6, "measure", "(III)I"⟩
abbrev cX6_rounds : ByteArray := prog_1_method_22_code
def yX6_rounds : MethodName := ⟨RX6, "rounds", "(I)I"⟩
abbrev cX6_forced : ByteArray := prog_1_method_23_code
def yX6_forced : MethodName := ⟨RX6, "forced", "(II)I"⟩
abbrev cX6_rank : ByteArray := prog_1_method_24_code
def yX6_rank : MethodName := ⟨RX6, "rank", "(III)I"⟩
abbrev cX6_trap : ByteArray := prog_1_method_25_code
def yX6_trap : MethodName := ⟨RX6, "trap", "(II)I"⟩
abbrev cX6_judged : ByteArray := prog_1_method_26_code
def yX6_judged : MethodName := ⟨RX6, "judged", "(II)I"⟩
abbrev cX6_badRings : ByteArray := prog_1_method_27_code
def yX6_badRings : MethodName := ⟨RX6, "badRings", "(II)I"⟩
abbrev cX6_pivots : ByteArray := prog_1_method_28_code
def yX6_pivots : MethodName := ⟨RX6, "pivots", "(I)I"⟩
abbrev cX6_weakArrows : ByteArray := prog_1_method_29_code
def yX6_weakArrows : MethodName := ⟨RX6, "weakArrows", "(I)I"⟩
abbrev cX6_token : ByteArray := prog_1_method_30_code
def yX6_token : MethodName := ⟨RX6, "token", "(I)I"⟩
abbrev cX6_count : ByteArray := prog_1_method_31_code
def yX6_count : MethodName := ⟨RX6, "count", "(I)I"⟩
abbrev cX6_isPlayer : ByteArray := prog_1_method_32_code
def yX6_isPlayer : MethodName := ⟨RX6, "isPlayer", "(I)Z"⟩
abbrev cX6_isColour : ByteArray := prog_1_method_33_code
def yX6_isColour : MethodName := ⟨RX6, "isColour", "(I)Z"⟩
abbrev cX6_bit : ByteArray := prog_1_method_34_code
def yX6_bit : MethodName := ⟨RX6, "bit", "(I)I"⟩
abbrev cX6_contains : ByteArray := prog_1_method_35_code
def yX6_contains : MethodName := ⟨RX6, "contains", "(II)Z"⟩
abbrev cX6_placeOrNone : ByteArray := prog_1_method_36_code
def yX6_placeOrNone : MethodName := ⟨RX6, "placeOrNone", "(I)I"⟩
abbrev cX6_solveFor : ByteArray := prog_1_method_37_code
def yX6_solveFor : MethodName := ⟨RX6, "solveFor", "(I)V"⟩
abbrev cX6_wonBy : ByteArray := prog_1_method_38_code
def yX6_wonBy : MethodName := ⟨RX6, "wonBy", "(I)I"⟩
abbrev cX6_winnerOf : ByteArray := prog_1_method_39_code
def yX6_winnerOf : MethodName := ⟨RX6, "winnerOf", "(I)I"⟩
abbrev cX6_findWays : ByteArray := prog_1_method_40_code
def yX6_findWays : MethodName := ⟨RX6, "findWays", "()V"⟩
abbrev cX6_wayOn : ByteArray := prog_1_method_41_code
def yX6_wayOn : MethodName := ⟨RX6, "wayOn", "(I)I"⟩
abbrev cX6_judgeFor : ByteArray := prog_1_method_42_code
def yX6_judgeFor : MethodName := ⟨RX6, "judgeFor", "(I)V"⟩
def RX7 : String := "RingGamesModel"
def TX7 : u_T := fun k => match k with
  | 0 => ("RingGamesModel", "now", "[I", true)
  | 1 => ("RingGamesModel", "history", "[I", true)
  | 2 => ("RingGamesModel", "kept", "I", false)
  | 3 => ("RingGamesModel", "slot", "[I", true)
  | 4 => ("RingGamesModel", "isFilled", "Z", false)
  | 5 => ("RingGamesModel", "game", "I", false)
  | 6 => ("RingGamesModel", "measures", "[I", true)
  | 7 => ("RingGamesModel", "most", "[I", true)
  | 8 => ("RingGamesModel", "numbers", "[I", true)
  | 9 => ("RingGamesModel", "round", "I", false)
  | 10 => ("RingGamesModel", "typed", "I", false)
  | 11 => ("RingGamesModel", "text", "[C", true)
  | 12 => ("RingGamesModel", "at", "I", false)
  | 13 => ("RingGamesModel", "number", "I", false)
  | 14 => ("RingGamesModel", "reads", "[I", true)
  | 15 => ("RingGamesModel", "beyond", "I", false)
  | 16 => ("RingGamesModel", "judgedTo", "[I", true)
  | 17 => ("RingGamesModel", "reach", "[I", true)
  | _ => ("RingGamesModel", "goes", "[I", true)
def tyX7 : Nat → FieldType := fun k => match k with
  | 0 => .array .int
  | 1 => .array .int
  | 2 => .int
  | 3 => .array .int
  | 4 => .boolean
  | 5 => .int
  | 6 => .array .int
  | 7 => .array .int
  | 8 => .array .int
  | 9 => .int
  | 10 => .int
  | 11 => .array .char
  | 12 => .int
  | 13 => .int
  | 14 => .array .int
  | 15 => .int
  | 16 => .array .int
  | 17 => .array .int
  | _ => .array .int
abbrev wsX70 : List Cond := u_ws RX7 TX7 19
theorem nmX7 : ∀ a, a < 19 → ∀ b, b < 19 → a ≠ b → (TX7 a).2.1 ≠ (TX7 b).2.1 := by decide +kernel
theorem tyX7_ok : ∀ k, k < 19 → parseFieldDescriptor (TX7 k).2.2.1 = some (tyX7 k) := by decide +kernel
abbrev cX7_init : ByteArray := prog_9_method_1_code
def yX7_init : MethodName := ⟨RX7, "<init>", "()V"⟩
abbrev cX7_in : ByteArray := prog_9_method_2_code
def yX7_in : MethodName := ⟨RX7, "in", "(III)Z"⟩
abbrev cX7_of : ByteArray := prog_9_method_3_code
def yX7_of : MethodName := ⟨RX7, "of", "(II)I"⟩
abbrev cX7_puts : ByteArray := prog_9_method_4_code
def yX7_puts : MethodName := ⟨RX7, "puts", "(III)V"⟩
abbrev cX7_no : ByteArray := prog_9_method_5_code
def yX7_no : MethodName := ⟨RX7, "no", "(I)Z"⟩
abbrev cX7_noPlayer : ByteArray := prog_9_method_6_code
def yX7_noPlayer : MethodName := ⟨RX7, "noPlayer", "(I)Z"⟩
abbrev cX7_hasArrow : ByteArray := prog_9_method_7_code
def yX7_hasArrow : MethodName := ⟨RX7, "hasArrow", "(II)Z"⟩
abbrev cX7_bits : ByteArray := prog_9_method_8_code
def yX7_bits : MethodName := ⟨RX7, "bits", "(I)I"⟩
abbrev cX7_lowest : ByteArray := prog_9_method_9_code
def yX7_lowest : MethodName := ⟨RX7, "lowest", "(I)I"⟩
abbrev cX7_arrows : ByteArray := prog_9_method_10_code
def yX7_arrows : MethodName := ⟨RX7, "arrows", "()I"⟩
abbrev cX7_record : ByteArray := prog_9_method_11_code
def yX7_record : MethodName := ⟨RX7, "record", "()V"⟩
abbrev cX7_colourIn : ByteArray := prog_9_method_12_code
def yX7_colourIn : MethodName := ⟨RX7, "colourIn", "(I)I"⟩
abbrev cX7_ownerIn : ByteArray := prog_9_method_13_code
def yX7_ownerIn : MethodName := ⟨RX7, "ownerIn", "(I)I"⟩
abbrev cX7_wanted : ByteArray := prog_9_method_14_code
def yX7_wanted : MethodName := ⟨RX7, "wanted", "(II)I"⟩
abbrev cX7_asks : ByteArray := prog_9_method_15_code
def yX7_asks : MethodName := ⟨RX7, "asks", "(I)I"⟩
abbrev cX7_finds : ByteArray := prog_9_method_16_code
def yX7_finds : MethodName := ⟨RX7, "finds", "(I)V"⟩
abbrev cX7_won : ByteArray := prog_9_method_17_code
def yX7_won : MethodName := ⟨RX7, "won", "()I"⟩
abbrev cX7_winsOf : ByteArray := prog_9_method_18_code
def yX7_winsOf : MethodName := ⟨RX7, "winsOf", "(I)I"⟩
abbrev cX7_choiceAt : ByteArray := prog_9_method_19_code
def yX7_choiceAt : MethodName := ⟨RX7, "choiceAt", "(I)I"⟩
abbrev cX7_bestChoice : ByteArray := prog_9_method_20_code
def yX7_bestChoice : MethodName := ⟨RX7, "bestChoice", "(I)I"⟩
abbrev cX7_winner : ByteArray := prog_9_method_21_code
def yX7_winner : MethodName := ⟨RX7, "winner", "(I)I"⟩
abbrev cX7_addPlace : ByteArray := prog_9_method_22_code
def yX7_addPlace : MethodName := ⟨RX7, "addPlace", "(II)I"⟩
abbrev cX7_setOwner : ByteArray := prog_9_method_23_code
def yX7_setOwner : MethodName := ⟨RX7, "setOwner", "(II)I"⟩
abbrev cX7_setColour : ByteArray := prog_9_method_24_code
def yX7_setColour : MethodName := ⟨RX7, "setColour", "(II)I"⟩
abbrev cX7_addArrow : ByteArray := prog_9_method_25_code
def yX7_addArrow : MethodName := ⟨RX7, "addArrow", "(II)I"⟩
abbrev cX7_removeArrow : ByteArray := prog_9_method_26_code
def yX7_removeArrow : MethodName := ⟨RX7, "removeArrow", "(II)I"⟩
abbrev cX7_turnOver : ByteArray := prog_9_method_27_code
def yX7_turnOver : MethodName := ⟨RX7, "turnOver", "()I"⟩
abbrev cX7_choose : ByteArray := prog_9_method_28_code
def yX7_choose : MethodName := ⟨RX7, "choose", "(II)I"⟩
abbrev cX7_chooseWell : ByteArray := prog_9_method_29_code
def yX7_chooseWell : MethodName := ⟨RX7, "chooseWell", "(I)I"⟩
abbrev cX7_start : ByteArray := prog_9_method_30_code
def yX7_start : MethodName := ⟨RX7, "start", "(I)I"⟩
abbrev cX7_goesTo : ByteArray := prog_9_method_31_code
def yX7_goesTo : MethodName := ⟨RX7, "goesTo", "(I)I"⟩
abbrev cX7_step : ByteArray := prog_9_method_32_code
def yX7_step : MethodName := ⟨RX7, "step", "(I)I"⟩
abbrev cX7_type : ByteArray := prog_9_method_33_code
def yX7_type : MethodName := ⟨RX7, "type", "(C)I"⟩
abbrev cX7_clearText : ByteArray := prog_9_method_34_code
def yX7_clearText : MethodName := ⟨RX7, "clearText", "()I"⟩
abbrev cX7_isDigit : ByteArray := prog_9_method_35_code
def yX7_isDigit : MethodName := ⟨RX7, "isDigit", "()Z"⟩
abbrev cX7_takes : ByteArray := prog_9_method_36_code
def yX7_takes : MethodName := ⟨RX7, "takes", "(I)Z"⟩
abbrev cX7_takesNumber : ByteArray := prog_9_method_37_code
def yX7_takesNumber : MethodName := ⟨RX7, "takesNumber", "()Z"⟩
abbrev cX7_isRead : ByteArray := prog_9_method_38_code
def yX7_isRead : MethodName := ⟨RX7, "isRead", "()Z"⟩
abbrev cX7_readArrows : ByteArray := prog_9_method_39_code
def yX7_readArrows : MethodName := ⟨RX7, "readArrows", "()I"⟩
abbrev cX7_undo : ByteArray := prog_9_method_40_code
def yX7_undo : MethodName := ⟨RX7, "undo", "()I"⟩
abbrev cX7_keep : ByteArray := prog_9_method_41_code
def yX7_keep : MethodName := ⟨RX7, "keep", "()I"⟩
abbrev cX7_restore : ByteArray := prog_9_method_42_code
def yX7_restore : MethodName := ⟨RX7, "restore", "()I"⟩
abbrev cX7_sources : ByteArray := prog_9_method_43_code
def yX7_sources : MethodName := ⟨RX7, "sources", "(I)I"⟩
abbrev cX7_place : ByteArray := prog_9_method_44_code
def yX7_place : MethodName := ⟨RX7, "place", "(II)I"⟩
abbrev cX7_wins : ByteArray := prog_9_method_45_code
def yX7_wins : MethodName := ⟨RX7, "wins", "(I)I"⟩
abbrev cX7_winningChoice : ByteArray := prog_9_method_46_code
def yX7_winningChoice : MethodName := ⟨RX7, "winningChoice", "(I)I"⟩
abbrev cX7_measure : ByteArray := prog_9_method_47_code
def yX7_measure : MethodName := ⟨RX7, "measure", "(III)I"⟩
abbrev cX7_rounds : ByteArray := prog_9_method_48_code
def yX7_rounds : MethodName := ⟨RX7, "rounds", "(I)I"⟩
abbrev cX7_isBad : ByteArray := prog_9_method_49_code
def yX7_isBad : MethodName := ⟨RX7, "isBad", "(I)Z"⟩
abbrev cX7_comes : ByteArray := prog_9_method_50_code
def yX7_comes : MethodName := ⟨RX7, "comes", "(III)Z"⟩
abbrev cX7_coming : ByteArray := prog_9_method_51_code
def yX7_coming : MethodName := ⟨RX7, "coming", "(II)I"⟩
abbrev cX7_forced : ByteArray := prog_9_method_52_code
def yX7_forced : MethodName := ⟨RX7, "forced", "(II)I"⟩
abbrev cX7_rank : ByteArray := prog_9_method_53_code
def yX7_rank : MethodName := ⟨RX7, "rank", "(III)I"⟩
abbrev cX7_trap : ByteArray := prog_9_method_54_code
def yX7_trap : MethodName := ⟨RX7, "trap", "(II)I"⟩
abbrev cX7_judges : ByteArray := prog_9_method_55_code
def yX7_judges : MethodName := ⟨RX7, "judges", "(I)V"⟩
abbrev cX7_reaches : ByteArray := prog_9_method_56_code
def yX7_reaches : MethodName := ⟨RX7, "reaches", "(I)V"⟩
abbrev cX7_onRings : ByteArray := prog_9_method_57_code
def yX7_onRings : MethodName := ⟨RX7, "onRings", "(I)I"⟩
abbrev cX7_allBad : ByteArray := prog_9_method_58_code
def yX7_allBad : MethodName := ⟨RX7, "allBad", "(I)I"⟩
abbrev cX7_judged : ByteArray := prog_9_method_59_code
def yX7_judged : MethodName := ⟨RX7, "judged", "(II)I"⟩
abbrev cX7_ringAt : ByteArray := prog_9_method_60_code
def yX7_ringAt : MethodName := ⟨RX7, "ringAt", "(I)I"⟩
abbrev cX7_badRings : ByteArray := prog_9_method_61_code
def yX7_badRings : MethodName := ⟨RX7, "badRings", "(II)I"⟩
abbrev cX7_pivots : ByteArray := prog_9_method_62_code
def yX7_pivots : MethodName := ⟨RX7, "pivots", "(I)I"⟩
abbrev cX7_weakArrows : ByteArray := prog_9_method_63_code
def yX7_weakArrows : MethodName := ⟨RX7, "weakArrows", "(I)I"⟩
abbrev cX7_token : ByteArray := prog_9_method_64_code
def yX7_token : MethodName := ⟨RX7, "token", "(I)I"⟩
abbrev cX7_placesThat : ByteArray := prog_9_method_65_code
def yX7_placesThat : MethodName := ⟨RX7, "placesThat", "(I)I"⟩
abbrev cX7_leastColour : ByteArray := prog_9_method_66_code
def yX7_leastColour : MethodName := ⟨RX7, "leastColour", "()I"⟩
abbrev cX7_count : ByteArray := prog_9_method_67_code
def yX7_count : MethodName := ⟨RX7, "count", "(I)I"⟩
def RJ6 : String := "java/lang/Integer"
def TJ6 : u_T := fun k => match k with
  | _ => ("", "", "", false)
def tyJ6 : Nat → FieldType := fun k => match k with
  | _ => .int
abbrev wsJ60 : List Cond := u_ws RJ6 TJ6 0
theorem nmJ6 : ∀ a, a < 0 → ∀ b, b < 0 → a ≠ b → (TJ6 a).2.1 ≠ (TJ6 b).2.1 := by decide +kernel
theorem tyJ6_ok : ∀ k, k < 0 → parseFieldDescriptor (TJ6 k).2.2.1 = some (tyJ6 k) := by decide +kernel
abbrev cJ6_bitCount_0f7a4 : ByteArray := prog_10_method_49_code
def yJ6_bitCount_0f7a4 : MethodName := ⟨RJ6, "bitCount", "(I)I"⟩
def RJ9 : String := "java/lang/Math"
def TJ9 : u_T := fun k => match k with
  | _ => ("", "", "", false)
def tyJ9 : Nat → FieldType := fun k => match k with
  | _ => .int
abbrev wsJ90 : List Cond := u_ws RJ9 TJ9 0
theorem nmJ9 : ∀ a, a < 0 → ∀ b, b < 0 → a ≠ b → (TJ9 a).2.1 ≠ (TJ9 b).2.1 := by decide +kernel
theorem tyJ9_ok : ∀ k, k < 0 → parseFieldDescriptor (TJ9 k).2.2.1 = some (tyJ9 k) := by decide +kernel
abbrev cJ9_max_7cf53 : ByteArray := prog_11_method_65_code
def yJ9_max_7cf53 : MethodName := ⟨RJ9, "max", "(II)I"⟩
abbrev cJ9_min_7cf53 : ByteArray := prog_11_method_69_code
def yJ9_min_7cf53 : MethodName := ⟨RJ9, "min", "(II)I"⟩
def RJ10 : String := "java/lang/System"
def TJ10 : u_T := fun k => match k with
  | _ => ("", "", "", false)
def tyJ10 : Nat → FieldType := fun k => match k with
  | _ => .int
abbrev wsJ100 : List Cond := u_ws RJ10 TJ10 0
theorem nmJ10 : ∀ a, a < 0 → ∀ b, b < 0 → a ≠ b → (TJ10 a).2.1 ≠ (TJ10 b).2.1 := by decide +kernel
theorem tyJ10_ok : ∀ k, k < 0 → parseFieldDescriptor (TJ10 k).2.2.1 = some (tyJ10 k) := by decide +kernel
def RL : String := "RingGamesLaw"
abbrev cL_law : ByteArray := code
def yL_law : MethodName := ⟨RL, "law", "([I)Z"⟩
def wsX0_init : List Cond := .code yX0_init cX0_init 1 none :: ([.methodLink RX0 3 objectInit, .instanceMethod objectInit, .code objectInit ⟨#[0xb1]⟩ 1 none, .arrayClass .char, .fieldLink RX0 9 "RingGames$ArrowText" "signs" "[C"] ++ wsX00)
def wsX0_append : List Cond := .code yX0_append cX0_append 2 (some .boolean) :: ([.fieldLink RX0 15 "RingGames$ArrowText" "length" "I", .fieldLink RX0 9 "RingGames$ArrowText" "signs" "[C"] ++ wsX00)
def wsX0_isDigit : List Cond := .code yX0_isDigit cX0_isDigit 1 (some .boolean) :: ([])
def wsX0_isSignBehind : List Cond := .code yX0_isSignBehind cX0_isSignBehind 2 (some .boolean) :: ([])
def wsX0_fault : List Cond := .code yX0_fault cX0_fault 6 (some .int) :: ([.fieldLink RX0 15 "RingGames$ArrowText" "length" "I", .fieldLink RX0 9 "RingGames$ArrowText" "signs" "[C", .methodLink RX0 19 yX0_isDigit, .static yX0_isDigit, .initialized RX0, .code yX0_isDigit cX0_isDigit 1 (some .boolean), .methodLink RX0 23 yX0_isSignBehind, .static yX0_isSignBehind, .code yX0_isSignBehind cX0_isSignBehind 2 (some .boolean)] ++ wsX00)
def wsX1_has : List Cond := .code yX1_has cX1_has 2 (some .boolean) :: ([.fieldLink RX1 21 "RingGames$Game" "size" "I"] ++ wsX10)
def wsX6_bit : List Cond := .code yX6_bit cX6_bit 1 (some .int) :: ([])
def wsX0_drawInto : List Cond := .code yX0_drawInto cX0_drawInto 6 (some .boolean) :: ([.fieldLink RX0 15 "RingGames$ArrowText" "length" "I", .fieldLink RX0 9 "RingGames$ArrowText" "signs" "[C", .fieldLink RX0 33 "RingGames$Game" "arrows" "[I", .methodLink RX0 19 yX0_isDigit, .static yX0_isDigit, .initialized RX0, .code yX0_isDigit cX0_isDigit 1 (some .boolean), .methodLink RX0 27 yX1_has, .instanceMethod yX1_has, .selects RX1 yX1_has yX1_has, .initialized RX1, .code yX1_has cX1_has 2 (some .boolean), .fieldLink RX1 21 "RingGames$Game" "size" "I", .static yX6_bit, .initialized RX6, .code yX6_bit cX6_bit 1 (some .int)] ++ wsX00 ++ wsX10)
def wsX1_init : List Cond := .code yX1_init cX1_init 1 none :: ([.methodLink RX1 3 objectInit, .instanceMethod objectInit, .code objectInit ⟨#[0xb1]⟩ 1 none, .arrayClass .int, .fieldLink RX1 9 "RingGames$Game" "owners" "[I", .fieldLink RX1 15 "RingGames$Game" "colours" "[I", .fieldLink RX1 18 "RingGames$Game" "arrows" "[I"] ++ wsX10)
def wsX1_become : List Cond := .code yX1_become cX1_become 2 none :: ([.fieldLink RX1 21 "RingGames$Game" "size" "I", .fieldLink RX1 9 "RingGames$Game" "owners" "[I", .methodLink RX1 25 arraycopyName, .native arraycopyName, .static arraycopyName, .initialized "java/lang/System", .fieldLink RX1 15 "RingGames$Game" "colours" "[I", .fieldLink RX1 18 "RingGames$Game" "arrows" "[I"] ++ wsX10)
def wsX1_all : List Cond := .code yX1_all cX1_all 1 (some .int) :: ([.fieldLink RX1 21 "RingGames$Game" "size" "I", .static yX6_bit, .initialized RX6, .code yX6_bit cX6_bit 1 (some .int)] ++ wsX10)
def wsX1_hasAll : List Cond := .code yX1_hasAll cX1_hasAll 2 (some .boolean) :: ([.methodLink RX1 35 yX1_all, .instanceMethod yX1_all, .selects RX1 yX1_all yX1_all, .initialized RX1, .code yX1_all cX1_all 1 (some .int), .fieldLink RX1 21 "RingGames$Game" "size" "I", .static yX6_bit, .initialized RX6, .code yX6_bit cX6_bit 1 (some .int)] ++ wsX10)
def wsX6_contains : List Cond := .code yX6_contains cX6_contains 2 (some .boolean) :: ([])
def wsX1_leads : List Cond := .code yX1_leads cX1_leads 3 (some .boolean) :: ([.fieldLink RX1 18 "RingGames$Game" "arrows" "[I", .methodLink RX1 39 yX1_has, .instanceMethod yX1_has, .selects RX1 yX1_has yX1_has, .initialized RX1, .code yX1_has cX1_has 2 (some .boolean), .fieldLink RX1 21 "RingGames$Game" "size" "I", .static yX6_contains, .initialized RX6, .code yX6_contains cX6_contains 2 (some .boolean)] ++ wsX10)
def wsJ6_bitCount_0f7a4 : List Cond := .code yJ6_bitCount_0f7a4 cJ6_bitCount_0f7a4 1 (some .int) :: ([.constant RJ6 265 (1431655765), .constant RJ6 266 (858993459), .constant RJ6 267 (252645135)])
def wsX1_arrowCount : List Cond := .code yX1_arrowCount cX1_arrowCount 3 (some .int) :: ([.fieldLink RX1 21 "RingGames$Game" "size" "I", .fieldLink RX1 18 "RingGames$Game" "arrows" "[I", .methodLink RX1 47 yJ6_bitCount_0f7a4, .static yJ6_bitCount_0f7a4, .initialized RJ6, .code yJ6_bitCount_0f7a4 cJ6_bitCount_0f7a4 1 (some .int), .constant RJ6 265 (1431655765), .constant RJ6 266 (858993459), .constant RJ6 267 (252645135)] ++ wsX10)
def wsX1_lowestArrow : List Cond := .code yX1_lowestArrow cX1_lowestArrow 3 (some .int) :: ([.fieldLink RX1 21 "RingGames$Game" "size" "I", .methodLink RX1 52 yX1_leads, .instanceMethod yX1_leads, .selects RX1 yX1_leads yX1_leads, .initialized RX1, .code yX1_leads cX1_leads 3 (some .boolean), .fieldLink RX1 18 "RingGames$Game" "arrows" "[I", .methodLink RX1 39 yX1_has, .instanceMethod yX1_has, .selects RX1 yX1_has yX1_has, .code yX1_has cX1_has 2 (some .boolean), .static yX6_contains, .initialized RX6, .code yX6_contains cX6_contains 2 (some .boolean)] ++ wsX10)
def wsX1_owned : List Cond := .code yX1_owned cX1_owned 4 (some .int) :: ([.fieldLink RX1 21 "RingGames$Game" "size" "I", .fieldLink RX1 9 "RingGames$Game" "owners" "[I", .static yX6_bit, .initialized RX6, .code yX6_bit cX6_bit 1 (some .int)] ++ wsX10)
def wsX1_withoutArrows : List Cond := .code yX1_withoutArrows cX1_withoutArrows 3 (some .int) :: ([.fieldLink RX1 21 "RingGames$Game" "size" "I", .fieldLink RX1 18 "RingGames$Game" "arrows" "[I", .static yX6_bit, .initialized RX6, .code yX6_bit cX6_bit 1 (some .int)] ++ wsX10)
def wsX1_hasColour : List Cond := .code yX1_hasColour cX1_hasColour 4 (some .boolean) :: ([.fieldLink RX1 21 "RingGames$Game" "size" "I", .fieldLink RX1 15 "RingGames$Game" "colours" "[I"] ++ wsX10)
def wsX1_leastColour : List Cond := .code yX1_leastColour cX1_leastColour 3 (some .int) :: ([.fieldLink RX1 21 "RingGames$Game" "size" "I", .fieldLink RX1 15 "RingGames$Game" "colours" "[I"] ++ wsX10)
def wsX1_exchange : List Cond := .code yX1_exchange cX1_exchange 2 none :: ([.fieldLink RX1 21 "RingGames$Game" "size" "I", .fieldLink RX1 9 "RingGames$Game" "owners" "[I", .fieldLink RX1 15 "RingGames$Game" "colours" "[I"] ++ wsX10)
def wsX1_sources : List Cond := .code yX1_sources cX1_sources 4 (some .int) :: ([.fieldLink RX1 21 "RingGames$Game" "size" "I", .fieldLink RX1 18 "RingGames$Game" "arrows" "[I", .static yX6_bit, .initialized RX6, .code yX6_bit cX6_bit 1 (some .int)] ++ wsX10)
def wsX1_targets : List Cond := .code yX1_targets cX1_targets 4 (some .int) :: ([.fieldLink RX1 21 "RingGames$Game" "size" "I", .fieldLink RX1 18 "RingGames$Game" "arrows" "[I", .static yX6_contains, .initialized RX6, .code yX6_contains cX6_contains 2 (some .boolean)] ++ wsX10)
def wsX1_forcedNext : List Cond := .code yX1_forcedNext cX1_forcedNext 7 (some .int) :: ([.fieldLink RX1 21 "RingGames$Game" "size" "I", .fieldLink RX1 18 "RingGames$Game" "arrows" "[I", .fieldLink RX1 9 "RingGames$Game" "owners" "[I", .static yX6_bit, .initialized RX6, .code yX6_bit cX6_bit 1 (some .int)] ++ wsX10)
def wsX1_isTrap : List Cond := .code yX1_isTrap cX1_isTrap 5 (some .boolean) :: ([.fieldLink RX1 21 "RingGames$Game" "size" "I", .fieldLink RX1 9 "RingGames$Game" "owners" "[I", .fieldLink RX1 18 "RingGames$Game" "arrows" "[I", .static yX6_contains, .initialized RX6, .code yX6_contains cX6_contains 2 (some .boolean)] ++ wsX10)
def wsX1_reached : List Cond := .code yX1_reached cX1_reached 5 (some .int) :: ([.fieldLink RX1 21 "RingGames$Game" "size" "I", .methodLink RX1 55 yX1_targets, .instanceMethod yX1_targets, .selects RX1 yX1_targets yX1_targets, .initialized RX1, .code yX1_targets cX1_targets 4 (some .int), .fieldLink RX1 18 "RingGames$Game" "arrows" "[I", .static yX6_contains, .initialized RX6, .code yX6_contains cX6_contains 2 (some .boolean)] ++ wsX10)
def wsX1_reaching : List Cond := .code yX1_reaching cX1_reaching 5 (some .int) :: ([.fieldLink RX1 21 "RingGames$Game" "size" "I", .methodLink RX1 58 yX1_sources, .instanceMethod yX1_sources, .selects RX1 yX1_sources yX1_sources, .initialized RX1, .code yX1_sources cX1_sources 4 (some .int), .fieldLink RX1 18 "RingGames$Game" "arrows" "[I", .static yX6_bit, .initialized RX6, .code yX6_bit cX6_bit 1 (some .int)] ++ wsX10)
def wsX1_notLess : List Cond := .code yX1_notLess cX1_notLess 4 (some .int) :: ([.fieldLink RX1 21 "RingGames$Game" "size" "I", .fieldLink RX1 15 "RingGames$Game" "colours" "[I", .static yX6_bit, .initialized RX6, .code yX6_bit cX6_bit 1 (some .int)] ++ wsX10)
def wsX1_ringPlaces_r1 : List Cond := [Cond.methodLink RX1 61 yX1_notLess, Cond.instanceMethod yX1_notLess, Cond.selects RX1 yX1_notLess yX1_notLess, Cond.initialized RX1, Cond.code yX1_notLess cX1_notLess 4 (some .int), Cond.fieldLink RX1 21 "RingGames$Game" "size" "I", Cond.fieldLink RX1 15 "RingGames$Game" "colours" "[I", Cond.static yX6_bit, Cond.initialized RX6, Cond.code yX6_bit cX6_bit 1 (some .int), Cond.methodLink RX1 64 yX1_reached, Cond.instanceMethod yX1_reached, Cond.selects RX1 yX1_reached yX1_reached, Cond.code yX1_reached cX1_reached 5 (some .int), Cond.methodLink RX1 55 yX1_targets, Cond.instanceMethod yX1_targets, Cond.selects RX1 yX1_targets yX1_targets, Cond.code yX1_targets cX1_targets 4 (some .int), Cond.fieldLink RX1 18 "RingGames$Game" "arrows" "[I", Cond.static yX6_contains, Cond.code yX6_contains cX6_contains 2 (some .boolean), Cond.methodLink RX1 68 yX1_reaching, Cond.instanceMethod yX1_reaching, Cond.selects RX1 yX1_reaching yX1_reaching]
def wsX1_ringPlaces_r2 : List Cond := [Cond.code yX1_reaching cX1_reaching 5 (some .int), Cond.methodLink RX1 58 yX1_sources, Cond.instanceMethod yX1_sources, Cond.selects RX1 yX1_sources yX1_sources, Cond.code yX1_sources cX1_sources 4 (some .int)]
def wsX1_ringPlaces : List Cond := .code yX1_ringPlaces cX1_ringPlaces 4 (some .int) :: ((wsX1_ringPlaces_r1 ++ wsX1_ringPlaces_r2) ++ wsX10)
def wsX1_isBadColour : List Cond := .code yX1_isBadColour cX1_isBadColour 3 (some .boolean) :: ([])
def wsX1_badRingPlaces_r1 : List Cond := [Cond.fieldLink RX1 21 "RingGames$Game" "size" "I", Cond.fieldLink RX1 15 "RingGames$Game" "colours" "[I", Cond.methodLink RX1 71 yX1_isBadColour, Cond.instanceMethod yX1_isBadColour, Cond.selects RX1 yX1_isBadColour yX1_isBadColour, Cond.initialized RX1, Cond.code yX1_isBadColour cX1_isBadColour 3 (some .boolean), Cond.methodLink RX1 74 yX1_ringPlaces, Cond.instanceMethod yX1_ringPlaces, Cond.selects RX1 yX1_ringPlaces yX1_ringPlaces, Cond.code yX1_ringPlaces cX1_ringPlaces 4 (some .int), Cond.methodLink RX1 61 yX1_notLess, Cond.instanceMethod yX1_notLess, Cond.selects RX1 yX1_notLess yX1_notLess, Cond.code yX1_notLess cX1_notLess 4 (some .int), Cond.static yX6_bit, Cond.initialized RX6, Cond.code yX6_bit cX6_bit 1 (some .int), Cond.methodLink RX1 64 yX1_reached, Cond.instanceMethod yX1_reached, Cond.selects RX1 yX1_reached yX1_reached, Cond.code yX1_reached cX1_reached 5 (some .int), Cond.methodLink RX1 55 yX1_targets, Cond.instanceMethod yX1_targets]
def wsX1_badRingPlaces_r2 : List Cond := [Cond.selects RX1 yX1_targets yX1_targets, Cond.code yX1_targets cX1_targets 4 (some .int), Cond.fieldLink RX1 18 "RingGames$Game" "arrows" "[I", Cond.static yX6_contains, Cond.code yX6_contains cX6_contains 2 (some .boolean), Cond.methodLink RX1 68 yX1_reaching, Cond.instanceMethod yX1_reaching, Cond.selects RX1 yX1_reaching yX1_reaching, Cond.code yX1_reaching cX1_reaching 5 (some .int), Cond.methodLink RX1 58 yX1_sources, Cond.instanceMethod yX1_sources, Cond.selects RX1 yX1_sources yX1_sources, Cond.code yX1_sources cX1_sources 4 (some .int)]
def wsX1_badRingPlaces : List Cond := .code yX1_badRingPlaces cX1_badRingPlaces 4 (some .int) :: ((wsX1_badRingPlaces_r1 ++ wsX1_badRingPlaces_r2) ++ wsX10)
def wsX1_leastBadColour_r1 : List Cond := [Cond.fieldLink RX1 21 "RingGames$Game" "size" "I", Cond.fieldLink RX1 15 "RingGames$Game" "colours" "[I", Cond.methodLink RX1 71 yX1_isBadColour, Cond.instanceMethod yX1_isBadColour, Cond.selects RX1 yX1_isBadColour yX1_isBadColour, Cond.initialized RX1, Cond.code yX1_isBadColour cX1_isBadColour 3 (some .boolean), Cond.methodLink RX1 74 yX1_ringPlaces, Cond.instanceMethod yX1_ringPlaces, Cond.selects RX1 yX1_ringPlaces yX1_ringPlaces, Cond.code yX1_ringPlaces cX1_ringPlaces 4 (some .int), Cond.methodLink RX1 61 yX1_notLess, Cond.instanceMethod yX1_notLess, Cond.selects RX1 yX1_notLess yX1_notLess, Cond.code yX1_notLess cX1_notLess 4 (some .int), Cond.static yX6_bit, Cond.initialized RX6, Cond.code yX6_bit cX6_bit 1 (some .int), Cond.methodLink RX1 64 yX1_reached, Cond.instanceMethod yX1_reached, Cond.selects RX1 yX1_reached yX1_reached, Cond.code yX1_reached cX1_reached 5 (some .int), Cond.methodLink RX1 55 yX1_targets, Cond.instanceMethod yX1_targets]
def wsX1_leastBadColour_r2 : List Cond := [Cond.selects RX1 yX1_targets yX1_targets, Cond.code yX1_targets cX1_targets 4 (some .int), Cond.fieldLink RX1 18 "RingGames$Game" "arrows" "[I", Cond.static yX6_contains, Cond.code yX6_contains cX6_contains 2 (some .boolean), Cond.methodLink RX1 68 yX1_reaching, Cond.instanceMethod yX1_reaching, Cond.selects RX1 yX1_reaching yX1_reaching, Cond.code yX1_reaching cX1_reaching 5 (some .int), Cond.methodLink RX1 58 yX1_sources, Cond.instanceMethod yX1_sources, Cond.selects RX1 yX1_sources yX1_sources, Cond.code yX1_sources cX1_sources 4 (some .int)]
def wsX1_leastBadColour : List Cond := .code yX1_leastBadColour cX1_leastBadColour 5 (some .int) :: ((wsX1_leastBadColour_r1 ++ wsX1_leastBadColour_r2) ++ wsX10)
def wsX1_shortestRing : List Cond := .code yX1_shortestRing cX1_shortestRing 5 (some .int) :: ([.fieldLink RX1 21 "RingGames$Game" "size" "I", .methodLink RX1 61 yX1_notLess, .instanceMethod yX1_notLess, .selects RX1 yX1_notLess yX1_notLess, .initialized RX1, .code yX1_notLess cX1_notLess 4 (some .int), .fieldLink RX1 15 "RingGames$Game" "colours" "[I", .static yX6_bit, .initialized RX6, .code yX6_bit cX6_bit 1 (some .int), .methodLink RX1 55 yX1_targets, .instanceMethod yX1_targets, .selects RX1 yX1_targets yX1_targets, .code yX1_targets cX1_targets 4 (some .int), .fieldLink RX1 18 "RingGames$Game" "arrows" "[I", .static yX6_contains, .code yX6_contains cX6_contains 2 (some .boolean)] ++ wsX10)
def wsX1_shortestBadRing_r1 : List Cond := [Cond.fieldLink RX1 21 "RingGames$Game" "size" "I", Cond.fieldLink RX1 15 "RingGames$Game" "colours" "[I", Cond.methodLink RX1 71 yX1_isBadColour, Cond.instanceMethod yX1_isBadColour, Cond.selects RX1 yX1_isBadColour yX1_isBadColour, Cond.initialized RX1, Cond.code yX1_isBadColour cX1_isBadColour 3 (some .boolean), Cond.methodLink RX1 77 yX1_shortestRing, Cond.instanceMethod yX1_shortestRing, Cond.selects RX1 yX1_shortestRing yX1_shortestRing, Cond.code yX1_shortestRing cX1_shortestRing 5 (some .int), Cond.methodLink RX1 61 yX1_notLess, Cond.instanceMethod yX1_notLess, Cond.selects RX1 yX1_notLess yX1_notLess, Cond.code yX1_notLess cX1_notLess 4 (some .int), Cond.static yX6_bit, Cond.initialized RX6, Cond.code yX6_bit cX6_bit 1 (some .int), Cond.methodLink RX1 55 yX1_targets, Cond.instanceMethod yX1_targets, Cond.selects RX1 yX1_targets yX1_targets, Cond.code yX1_targets cX1_targets 4 (some .int), Cond.fieldLink RX1 18 "RingGames$Game" "arrows" "[I", Cond.static yX6_contains]
def wsX1_shortestBadRing_r2 : List Cond := [Cond.code yX6_contains cX6_contains 2 (some .boolean)]
def wsX1_shortestBadRing : List Cond := .code yX1_shortestBadRing cX1_shortestBadRing 5 (some .int) :: ((wsX1_shortestBadRing_r1 ++ wsX1_shortestBadRing_r2) ++ wsX10)
def wsX4_init : List Cond := .code yX4_init cX4_init 1 none :: ([.methodLink RX4 3 objectInit, .instanceMethod objectInit, .code objectInit ⟨#[0xb1]⟩ 1 none, .classLink RX4 9 RX1, .instantiable RX1 4, .initialized RX1, .fieldLink RX4 12 "RingGames$State" "game" "LRingGames$Game;", .arrayClass .int, .fieldLink RX4 18 "RingGames$State" "choices" "[I", .fieldLink RX4 22 "RingGames$State" "tokenAt" "I", .instanceMethod yX1_init, .code yX1_init cX1_init 1 none, .methodLink RX1 3 objectInit, .fieldLink RX1 9 "RingGames$Game" "owners" "[I", .fieldLink RX1 15 "RingGames$Game" "colours" "[I", .fieldLink RX1 18 "RingGames$Game" "arrows" "[I"] ++ wsX10 ++ wsX40)
def wsX2_init : List Cond := .code yX2_init cX2_init 2 none :: ([.methodLink RX2 3 objectInit, .instanceMethod objectInit, .code objectInit ⟨#[0xb1]⟩ 1 none, .classLink RX2 9 RX4, .fieldLink RX2 11 "RingGames$History" "states" "[LRingGames$State;", .instantiable RX4 4, .initialized RX4, .instanceMethod yX4_init, .code yX4_init cX4_init 1 none, .methodLink RX4 3 objectInit, .classLink RX4 9 RX1, .instantiable RX1 4, .initialized RX1, .fieldLink RX4 12 "RingGames$State" "game" "LRingGames$Game;", .arrayClass .int, .fieldLink RX4 18 "RingGames$State" "choices" "[I", .fieldLink RX4 22 "RingGames$State" "tokenAt" "I", .instanceMethod yX1_init, .code yX1_init cX1_init 1 none, .methodLink RX1 3 objectInit, .fieldLink RX1 9 "RingGames$Game" "owners" "[I", .fieldLink RX1 15 "RingGames$Game" "colours" "[I", .fieldLink RX1 18 "RingGames$Game" "arrows" "[I"] ++ wsX20 ++ wsX40 ++ wsX10)
def wsX2_dropOldest : List Cond := .code yX2_dropOldest cX2_dropOldest 3 none :: ([.fieldLink RX2 11 "RingGames$History" "states" "[LRingGames$State;", .fieldLink RX2 18 "RingGames$History" "count" "I"] ++ wsX20)
def wsX4_become : List Cond := .code yX4_become cX4_become 2 none :: ([.fieldLink RX4 12 "RingGames$State" "game" "LRingGames$Game;", .fieldLink RX4 18 "RingGames$State" "choices" "[I", .methodLink RX4 30 arraycopyName, .native arraycopyName, .static arraycopyName, .initialized "java/lang/System", .fieldLink RX4 22 "RingGames$State" "tokenAt" "I", .fieldLink RX4 36 "RingGames$State" "tokenSteps" "I", .methodLink RX4 26 yX1_become, .instanceMethod yX1_become, .selects RX1 yX1_become yX1_become, .initialized RX1, .code yX1_become cX1_become 2 none, .fieldLink RX1 21 "RingGames$Game" "size" "I", .fieldLink RX1 9 "RingGames$Game" "owners" "[I", .methodLink RX1 25 arraycopyName, .fieldLink RX1 15 "RingGames$Game" "colours" "[I", .fieldLink RX1 18 "RingGames$Game" "arrows" "[I"] ++ wsX40 ++ wsX10)
def wsX2_remember_r1 : List Cond := [Cond.fieldLink RX2 18 "RingGames$History" "count" "I", Cond.fieldLink RX2 11 "RingGames$History" "states" "[LRingGames$State;", Cond.methodLink RX2 22 yX2_dropOldest, Cond.instanceMethod yX2_dropOldest, Cond.selects RX2 yX2_dropOldest yX2_dropOldest, Cond.initialized RX2, Cond.code yX2_dropOldest cX2_dropOldest 3 none, Cond.methodLink RX2 25 yX4_become, Cond.instanceMethod yX4_become, Cond.selects RX4 yX4_become yX4_become, Cond.initialized RX4, Cond.code yX4_become cX4_become 2 none, Cond.fieldLink RX4 12 "RingGames$State" "game" "LRingGames$Game;", Cond.fieldLink RX4 18 "RingGames$State" "choices" "[I", Cond.methodLink RX4 30 arraycopyName, Cond.native arraycopyName, Cond.static arraycopyName, Cond.initialized "java/lang/System", Cond.fieldLink RX4 22 "RingGames$State" "tokenAt" "I", Cond.fieldLink RX4 36 "RingGames$State" "tokenSteps" "I", Cond.methodLink RX4 26 yX1_become, Cond.instanceMethod yX1_become, Cond.selects RX1 yX1_become yX1_become, Cond.initialized RX1]
def wsX2_remember_r2 : List Cond := [Cond.code yX1_become cX1_become 2 none, Cond.fieldLink RX1 21 "RingGames$Game" "size" "I", Cond.fieldLink RX1 9 "RingGames$Game" "owners" "[I", Cond.methodLink RX1 25 arraycopyName, Cond.fieldLink RX1 15 "RingGames$Game" "colours" "[I", Cond.fieldLink RX1 18 "RingGames$Game" "arrows" "[I"]
def wsX2_remember : List Cond := .code yX2_remember cX2_remember 2 none :: ((wsX2_remember_r1 ++ wsX2_remember_r2) ++ wsX20 ++ wsX40 ++ wsX10)
def wsX2_takeInto_r1 : List Cond := [Cond.fieldLink RX2 18 "RingGames$History" "count" "I", Cond.fieldLink RX2 11 "RingGames$History" "states" "[LRingGames$State;", Cond.methodLink RX2 25 yX4_become, Cond.instanceMethod yX4_become, Cond.selects RX4 yX4_become yX4_become, Cond.initialized RX4, Cond.code yX4_become cX4_become 2 none, Cond.fieldLink RX4 12 "RingGames$State" "game" "LRingGames$Game;", Cond.fieldLink RX4 18 "RingGames$State" "choices" "[I", Cond.methodLink RX4 30 arraycopyName, Cond.native arraycopyName, Cond.static arraycopyName, Cond.initialized "java/lang/System", Cond.fieldLink RX4 22 "RingGames$State" "tokenAt" "I", Cond.fieldLink RX4 36 "RingGames$State" "tokenSteps" "I", Cond.methodLink RX4 26 yX1_become, Cond.instanceMethod yX1_become, Cond.selects RX1 yX1_become yX1_become, Cond.initialized RX1, Cond.code yX1_become cX1_become 2 none, Cond.fieldLink RX1 21 "RingGames$Game" "size" "I", Cond.fieldLink RX1 9 "RingGames$Game" "owners" "[I", Cond.methodLink RX1 25 arraycopyName, Cond.fieldLink RX1 15 "RingGames$Game" "colours" "[I"]
def wsX2_takeInto_r2 : List Cond := [Cond.fieldLink RX1 18 "RingGames$Game" "arrows" "[I"]
def wsX2_takeInto : List Cond := .code yX2_takeInto cX2_takeInto 2 (some .boolean) :: ((wsX2_takeInto_r1 ++ wsX2_takeInto_r2) ++ wsX20 ++ wsX40 ++ wsX10)
def wsX3_init : List Cond := .code yX3_init cX3_init 1 none :: ([.methodLink RX3 5 objectInit, .instanceMethod objectInit, .code objectInit ⟨#[0xb1]⟩ 1 none, .arrayClass .int, .fieldLink RX3 11 "RingGames$Measures" "most" "[I", .fieldLink RX3 15 "RingGames$Measures" "found" "[I"] ++ wsX30)
def wsX3_wanted : List Cond := .code yX3_wanted cX3_wanted 10 (some .int) :: ([.fieldLink RX3 15 "RingGames$Measures" "found" "[I", .constant RX3 42 (65536), .fieldLink RX3 24 "RingGames$Game" "colours" "[I", .fieldLink RX3 11 "RingGames$Measures" "most" "[I"] ++ wsX30 ++ wsX10)
def wsX3_asked : List Cond := .code yX3_asked cX3_asked 7 (some .int) :: ([.fieldLink RX3 39 "RingGames$Game" "owners" "[I", .constant RX3 42 (65536), .fieldLink RX3 18 "RingGames$Game" "size" "I", .fieldLink RX3 43 "RingGames$Game" "arrows" "[I", .methodLink RX3 54 Lib.Math.min.name, .static Lib.Math.min.name, .initialized "java/lang/Math", .code Lib.Math.min.name Lib.Math.min.code 2 (some .int), .methodLink RX3 60 Lib.Math.max.name, .static Lib.Math.max.name, .code Lib.Math.max.name Lib.Math.max.code 2 (some .int), .static yX6_contains, .initialized RX6, .code yX6_contains cX6_contains 2 (some .boolean), .methodLink RX3 50 yX3_wanted, .instanceMethod yX3_wanted, .selects RX3 yX3_wanted yX3_wanted, .initialized RX3, .code yX3_wanted cX3_wanted 10 (some .int), .fieldLink RX3 15 "RingGames$Measures" "found" "[I", .fieldLink RX3 24 "RingGames$Game" "colours" "[I", .fieldLink RX3 11 "RingGames$Measures" "most" "[I"] ++ wsX10 ++ wsX30)
def wsX3_raise_r1 : List Cond := [Cond.fieldLink RX3 18 "RingGames$Game" "size" "I", Cond.fieldLink RX3 15 "RingGames$Measures" "found" "[I", Cond.methodLink RX3 35 yX3_asked, Cond.instanceMethod yX3_asked, Cond.selects RX3 yX3_asked yX3_asked, Cond.initialized RX3, Cond.code yX3_asked cX3_asked 7 (some .int), Cond.fieldLink RX3 39 "RingGames$Game" "owners" "[I", Cond.constant RX3 42 (65536), Cond.fieldLink RX3 43 "RingGames$Game" "arrows" "[I", Cond.methodLink RX3 54 Lib.Math.min.name, Cond.static Lib.Math.min.name, Cond.initialized "java/lang/Math", Cond.code Lib.Math.min.name Lib.Math.min.code 2 (some .int), Cond.methodLink RX3 60 Lib.Math.max.name, Cond.static Lib.Math.max.name, Cond.code Lib.Math.max.name Lib.Math.max.code 2 (some .int), Cond.static yX6_contains, Cond.initialized RX6, Cond.code yX6_contains cX6_contains 2 (some .boolean), Cond.methodLink RX3 50 yX3_wanted, Cond.instanceMethod yX3_wanted, Cond.selects RX3 yX3_wanted yX3_wanted, Cond.code yX3_wanted cX3_wanted 10 (some .int)]
def wsX3_raise_r2 : List Cond := [Cond.fieldLink RX3 24 "RingGames$Game" "colours" "[I", Cond.fieldLink RX3 11 "RingGames$Measures" "most" "[I"]
def wsX3_raise : List Cond := .code yX3_raise cX3_raise 5 (some .boolean) :: ((wsX3_raise_r1 ++ wsX3_raise_r2) ++ wsX10 ++ wsX30)
def wsX3_find_r1 : List Cond := [Cond.fieldLink RX3 11 "RingGames$Measures" "most" "[I", Cond.fieldLink RX3 18 "RingGames$Game" "size" "I", Cond.fieldLink RX3 15 "RingGames$Measures" "found" "[I", Cond.fieldLink RX3 24 "RingGames$Game" "colours" "[I", Cond.fieldLink RX3 27 "RingGames$Measures" "lastRound" "I", Cond.constant RX3 30 (1000000), Cond.methodLink RX3 31 yX3_raise, Cond.instanceMethod yX3_raise, Cond.selects RX3 yX3_raise yX3_raise, Cond.initialized RX3, Cond.code yX3_raise cX3_raise 5 (some .boolean), Cond.methodLink RX3 35 yX3_asked, Cond.instanceMethod yX3_asked, Cond.selects RX3 yX3_asked yX3_asked, Cond.code yX3_asked cX3_asked 7 (some .int), Cond.fieldLink RX3 39 "RingGames$Game" "owners" "[I", Cond.constant RX3 42 (65536), Cond.fieldLink RX3 43 "RingGames$Game" "arrows" "[I", Cond.methodLink RX3 54 Lib.Math.min.name, Cond.static Lib.Math.min.name, Cond.initialized "java/lang/Math", Cond.code Lib.Math.min.name Lib.Math.min.code 2 (some .int), Cond.methodLink RX3 60 Lib.Math.max.name, Cond.static Lib.Math.max.name]
def wsX3_find_r2 : List Cond := [Cond.code Lib.Math.max.name Lib.Math.max.code 2 (some .int), Cond.static yX6_contains, Cond.initialized RX6, Cond.code yX6_contains cX6_contains 2 (some .boolean), Cond.methodLink RX3 50 yX3_wanted, Cond.instanceMethod yX3_wanted, Cond.selects RX3 yX3_wanted yX3_wanted, Cond.code yX3_wanted cX3_wanted 10 (some .int)]
def wsX3_find : List Cond := .code yX3_find cX3_find 3 none :: ((wsX3_find_r1 ++ wsX3_find_r2) ++ wsX30 ++ wsX10)
def wsX3_isLost : List Cond := .code yX3_isLost cX3_isLost 2 (some .boolean) :: ([.fieldLink RX3 15 "RingGames$Measures" "found" "[I", .constant RX3 42 (65536)] ++ wsX30)
def wsX3_winner : List Cond := .code yX3_winner cX3_winner 2 (some .int) :: ([.methodLink RX3 63 yX3_isLost, .instanceMethod yX3_isLost, .selects RX3 yX3_isLost yX3_isLost, .initialized RX3, .code yX3_isLost cX3_isLost 2 (some .boolean), .fieldLink RX3 15 "RingGames$Measures" "found" "[I", .constant RX3 42 (65536)] ++ wsX30)
def wsX3_number : List Cond := .code yX3_number cX3_number 3 (some .int) :: ([.fieldLink RX3 15 "RingGames$Measures" "found" "[I"] ++ wsX30)
def wsX3_bestArrow_r1 : List Cond := [Cond.constant RX3 42 (65536), Cond.fieldLink RX3 18 "RingGames$Game" "size" "I", Cond.fieldLink RX3 39 "RingGames$Game" "owners" "[I", Cond.methodLink RX3 67 yX1_leads, Cond.instanceMethod yX1_leads, Cond.selects RX1 yX1_leads yX1_leads, Cond.initialized RX1, Cond.code yX1_leads cX1_leads 3 (some .boolean), Cond.fieldLink RX1 18 "RingGames$Game" "arrows" "[I", Cond.methodLink RX1 39 yX1_has, Cond.instanceMethod yX1_has, Cond.selects RX1 yX1_has yX1_has, Cond.code yX1_has cX1_has 2 (some .boolean), Cond.fieldLink RX1 21 "RingGames$Game" "size" "I", Cond.static yX6_contains, Cond.initialized RX6, Cond.code yX6_contains cX6_contains 2 (some .boolean), Cond.methodLink RX3 50 yX3_wanted, Cond.instanceMethod yX3_wanted, Cond.selects RX3 yX3_wanted yX3_wanted, Cond.initialized RX3, Cond.code yX3_wanted cX3_wanted 10 (some .int), Cond.fieldLink RX3 15 "RingGames$Measures" "found" "[I", Cond.fieldLink RX3 24 "RingGames$Game" "colours" "[I"]
def wsX3_bestArrow_r2 : List Cond := [Cond.fieldLink RX3 11 "RingGames$Measures" "most" "[I"]
def wsX3_bestArrow : List Cond := .code yX3_bestArrow cX3_bestArrow 7 (some .int) :: ((wsX3_bestArrow_r1 ++ wsX3_bestArrow_r2) ++ wsX10 ++ wsX30)
def wsX4_append : List Cond := .code yX4_append cX4_append 4 (some .int) :: ([.fieldLink RX4 12 "RingGames$State" "game" "LRingGames$Game;", .fieldLink RX4 39 "RingGames$Game" "size" "I", .fieldLink RX4 42 "RingGames$Game" "owners" "[I", .fieldLink RX4 45 "RingGames$Game" "colours" "[I", .fieldLink RX4 48 "RingGames$Game" "arrows" "[I", .fieldLink RX4 18 "RingGames$State" "choices" "[I"] ++ wsX40 ++ wsX10)
def wsX4_choiceCount : List Cond := .code yX4_choiceCount cX4_choiceCount 3 (some .int) :: ([.fieldLink RX4 12 "RingGames$State" "game" "LRingGames$Game;", .fieldLink RX4 39 "RingGames$Game" "size" "I", .fieldLink RX4 18 "RingGames$State" "choices" "[I"] ++ wsX40 ++ wsX10)
def wsX5_init : List Cond := .code yX5_init cX5_init 1 none :: ([.methodLink RX5 3 objectInit, .instanceMethod objectInit, .code objectInit ⟨#[0xb1]⟩ 1 none, .arrayClass .int, .fieldLink RX5 9 "RingGames$Walk" "ways" "[I"] ++ wsX50)
def wsX5_wayFrom : List Cond := .code yX5_wayFrom cX5_wayFrom 2 (some .int) :: ([.fieldLink RX5 9 "RingGames$Walk" "ways" "[I"] ++ wsX50)
def wsX5_follow : List Cond := .code yX5_follow cX5_follow 3 none :: ([.fieldLink RX5 19 "RingGames$Walk" "steps" "I", .fieldLink RX5 23 "RingGames$Walk" "endless" "Z", .fieldLink RX5 27 "RingGames$Walk" "last" "I", .static yX6_bit, .initialized RX6, .code yX6_bit cX6_bit 1 (some .int), .methodLink RX5 30 yX5_wayFrom, .instanceMethod yX5_wayFrom, .selects RX5 yX5_wayFrom yX5_wayFrom, .initialized RX5, .code yX5_wayFrom cX5_wayFrom 2 (some .int), .fieldLink RX5 9 "RingGames$Walk" "ways" "[I", .static yX6_contains, .code yX6_contains cX6_contains 2 (some .boolean)] ++ wsX50)
def wsX5_leastColourAgain : List Cond := .code yX5_leastColourAgain cX5_leastColourAgain 5 (some .int) :: ([.fieldLink RX5 37 "RingGames$Game" "colours" "[I", .fieldLink RX5 27 "RingGames$Walk" "last" "I", .methodLink RX5 46 Lib.Math.min.name, .static Lib.Math.min.name, .initialized "java/lang/Math", .code Lib.Math.min.name Lib.Math.min.code 2 (some .int), .methodLink RX5 30 yX5_wayFrom, .instanceMethod yX5_wayFrom, .selects RX5 yX5_wayFrom yX5_wayFrom, .initialized RX5, .code yX5_wayFrom cX5_wayFrom 2 (some .int), .fieldLink RX5 9 "RingGames$Walk" "ways" "[I", .methodLink RX5 42 yX1_has, .instanceMethod yX1_has, .selects RX1 yX1_has yX1_has, .initialized RX1, .code yX1_has cX1_has 2 (some .boolean), .fieldLink RX1 21 "RingGames$Game" "size" "I"] ++ wsX10 ++ wsX50)
def wsX5_winner : List Cond := .code yX5_winner cX5_winner 2 (some .int) :: ([.fieldLink RX5 23 "RingGames$Walk" "endless" "Z", .fieldLink RX5 56 "RingGames$Game" "owners" "[I", .fieldLink RX5 27 "RingGames$Walk" "last" "I", .methodLink RX5 52 yX5_leastColourAgain, .instanceMethod yX5_leastColourAgain, .selects RX5 yX5_leastColourAgain yX5_leastColourAgain, .initialized RX5, .code yX5_leastColourAgain cX5_leastColourAgain 5 (some .int), .fieldLink RX5 37 "RingGames$Game" "colours" "[I", .methodLink RX5 46 Lib.Math.min.name, .static Lib.Math.min.name, .initialized "java/lang/Math", .code Lib.Math.min.name Lib.Math.min.code 2 (some .int), .methodLink RX5 30 yX5_wayFrom, .instanceMethod yX5_wayFrom, .selects RX5 yX5_wayFrom yX5_wayFrom, .code yX5_wayFrom cX5_wayFrom 2 (some .int), .fieldLink RX5 9 "RingGames$Walk" "ways" "[I", .methodLink RX5 42 yX1_has, .instanceMethod yX1_has, .selects RX1 yX1_has yX1_has, .initialized RX1, .code yX1_has cX1_has 2 (some .boolean), .fieldLink RX1 21 "RingGames$Game" "size" "I"] ++ wsX50 ++ wsX10)
def wsX6_init_r1 : List Cond := [Cond.methodLink RX6 3 objectInit, Cond.instanceMethod objectInit, Cond.code objectInit ⟨#[0xb1]⟩ 1 none, Cond.classLink RX6 9 RX4, Cond.instantiable RX4 4, Cond.initialized RX4, Cond.fieldLink RX6 12 "RingGames" "now" "LRingGames$State;", Cond.classLink RX6 16 RX2, Cond.instantiable RX2 2, Cond.initialized RX2, Cond.fieldLink RX6 19 "RingGames" "history" "LRingGames$History;", Cond.fieldLink RX6 23 "RingGames" "snapshot" "LRingGames$State;", Cond.fieldLink RX6 26 "RingGames" "hasSnapshot" "Z", Cond.classLink RX6 30 RX0, Cond.instantiable RX0 2, Cond.initialized RX0, Cond.fieldLink RX6 33 "RingGames" "text" "LRingGames$ArrowText;", Cond.classLink RX6 37 RX1, Cond.instantiable RX1 4, Cond.initialized RX1, Cond.fieldLink RX6 40 "RingGames" "trial" "LRingGames$Game;", Cond.classLink RX6 44 RX3, Cond.instantiable RX3 3, Cond.initialized RX3]
def wsX6_init_r2 : List Cond := [Cond.fieldLink RX6 47 "RingGames" "measures" "LRingGames$Measures;", Cond.classLink RX6 51 RX5, Cond.instantiable RX5 4, Cond.initialized RX5, Cond.fieldLink RX6 54 "RingGames" "walk" "LRingGames$Walk;", Cond.instanceMethod yX4_init, Cond.code yX4_init cX4_init 1 none, Cond.methodLink RX4 3 objectInit, Cond.classLink RX4 9 RX1, Cond.fieldLink RX4 12 "RingGames$State" "game" "LRingGames$Game;", Cond.arrayClass .int, Cond.fieldLink RX4 18 "RingGames$State" "choices" "[I", Cond.fieldLink RX4 22 "RingGames$State" "tokenAt" "I", Cond.instanceMethod yX1_init, Cond.code yX1_init cX1_init 1 none, Cond.methodLink RX1 3 objectInit, Cond.fieldLink RX1 9 "RingGames$Game" "owners" "[I", Cond.fieldLink RX1 15 "RingGames$Game" "colours" "[I", Cond.fieldLink RX1 18 "RingGames$Game" "arrows" "[I", Cond.methodLink RX6 18 yX2_init, Cond.instanceMethod yX2_init, Cond.code yX2_init cX2_init 2 none, Cond.methodLink RX2 3 objectInit, Cond.classLink RX2 9 RX4]
def wsX6_init_r3 : List Cond := [Cond.fieldLink RX2 11 "RingGames$History" "states" "[LRingGames$State;", Cond.instanceMethod yX0_init, Cond.code yX0_init cX0_init 1 none, Cond.methodLink RX0 3 objectInit, Cond.arrayClass .char, Cond.fieldLink RX0 9 "RingGames$ArrowText" "signs" "[C", Cond.instanceMethod yX3_init, Cond.code yX3_init cX3_init 1 none, Cond.methodLink RX3 5 objectInit, Cond.fieldLink RX3 11 "RingGames$Measures" "most" "[I", Cond.fieldLink RX3 15 "RingGames$Measures" "found" "[I", Cond.instanceMethod yX5_init, Cond.code yX5_init cX5_init 1 none, Cond.methodLink RX5 3 objectInit, Cond.fieldLink RX5 9 "RingGames$Walk" "ways" "[I"]
def wsX6_init : List Cond := .code yX6_init cX6_init 1 none :: ((wsX6_init_r1 ++ (wsX6_init_r2 ++ wsX6_init_r3)) ++ wsX40 ++ wsX60 ++ wsX20 ++ wsX00 ++ wsX10 ++ wsX30 ++ wsX50)
def wsX6_isPlayer : List Cond := .code yX6_isPlayer cX6_isPlayer 1 (some .boolean) :: ([])
def wsX6_isColour : List Cond := .code yX6_isColour cX6_isColour 1 (some .boolean) :: ([])
def wsX6_addPlace_r1 : List Cond := [Cond.fieldLink RX6 12 "RingGames" "now" "LRingGames$State;", Cond.fieldLink RX6 65 "RingGames$State" "game" "LRingGames$Game;", Cond.fieldLink RX6 68 "RingGames$Game" "size" "I", Cond.fieldLink RX6 19 "RingGames" "history" "LRingGames$History;", Cond.methodLink RX6 58 yX6_isPlayer, Cond.static yX6_isPlayer, Cond.initialized RX6, Cond.code yX6_isPlayer cX6_isPlayer 1 (some .boolean), Cond.methodLink RX6 62 yX6_isColour, Cond.static yX6_isColour, Cond.code yX6_isColour cX6_isColour 1 (some .boolean), Cond.methodLink RX6 72 yX2_remember, Cond.instanceMethod yX2_remember, Cond.selects RX2 yX2_remember yX2_remember, Cond.initialized RX2, Cond.code yX2_remember cX2_remember 2 none, Cond.fieldLink RX2 18 "RingGames$History" "count" "I", Cond.fieldLink RX2 11 "RingGames$History" "states" "[LRingGames$State;", Cond.methodLink RX2 22 yX2_dropOldest, Cond.instanceMethod yX2_dropOldest, Cond.selects RX2 yX2_dropOldest yX2_dropOldest, Cond.code yX2_dropOldest cX2_dropOldest 3 none, Cond.methodLink RX2 25 yX4_become, Cond.instanceMethod yX4_become]
def wsX6_addPlace_r2 : List Cond := [Cond.selects RX4 yX4_become yX4_become, Cond.initialized RX4, Cond.code yX4_become cX4_become 2 none, Cond.fieldLink RX4 12 "RingGames$State" "game" "LRingGames$Game;", Cond.fieldLink RX4 18 "RingGames$State" "choices" "[I", Cond.methodLink RX4 30 arraycopyName, Cond.native arraycopyName, Cond.static arraycopyName, Cond.initialized "java/lang/System", Cond.fieldLink RX4 22 "RingGames$State" "tokenAt" "I", Cond.fieldLink RX4 36 "RingGames$State" "tokenSteps" "I", Cond.methodLink RX4 26 yX1_become, Cond.instanceMethod yX1_become, Cond.selects RX1 yX1_become yX1_become, Cond.initialized RX1, Cond.code yX1_become cX1_become 2 none, Cond.fieldLink RX1 21 "RingGames$Game" "size" "I", Cond.fieldLink RX1 9 "RingGames$Game" "owners" "[I", Cond.methodLink RX1 25 arraycopyName, Cond.fieldLink RX1 15 "RingGames$Game" "colours" "[I", Cond.fieldLink RX1 18 "RingGames$Game" "arrows" "[I", Cond.methodLink RX6 76 yX4_append, Cond.instanceMethod yX4_append, Cond.selects RX4 yX4_append yX4_append]
def wsX6_addPlace_r3 : List Cond := [Cond.code yX4_append cX4_append 4 (some .int), Cond.fieldLink RX4 39 "RingGames$Game" "size" "I", Cond.fieldLink RX4 42 "RingGames$Game" "owners" "[I", Cond.fieldLink RX4 45 "RingGames$Game" "colours" "[I", Cond.fieldLink RX4 48 "RingGames$Game" "arrows" "[I"]
def wsX6_addPlace : List Cond := .code yX6_addPlace cX6_addPlace 3 (some .int) :: ((wsX6_addPlace_r1 ++ (wsX6_addPlace_r2 ++ wsX6_addPlace_r3)) ++ wsX60 ++ wsX40 ++ wsX10 ++ wsX20)
def wsX6_solveFor_r1 : List Cond := [Cond.fieldLink RX6 40 "RingGames" "trial" "LRingGames$Game;", Cond.fieldLink RX6 12 "RingGames" "now" "LRingGames$State;", Cond.fieldLink RX6 65 "RingGames$State" "game" "LRingGames$Game;", Cond.fieldLink RX6 47 "RingGames" "measures" "LRingGames$Measures;", Cond.methodLink RX6 119 yX1_become, Cond.instanceMethod yX1_become, Cond.selects RX1 yX1_become yX1_become, Cond.initialized RX1, Cond.code yX1_become cX1_become 2 none, Cond.fieldLink RX1 21 "RingGames$Game" "size" "I", Cond.fieldLink RX1 9 "RingGames$Game" "owners" "[I", Cond.methodLink RX1 25 arraycopyName, Cond.native arraycopyName, Cond.static arraycopyName, Cond.initialized "java/lang/System", Cond.fieldLink RX1 15 "RingGames$Game" "colours" "[I", Cond.fieldLink RX1 18 "RingGames$Game" "arrows" "[I", Cond.methodLink RX6 130 yX1_exchange, Cond.instanceMethod yX1_exchange, Cond.selects RX1 yX1_exchange yX1_exchange, Cond.code yX1_exchange cX1_exchange 2 none, Cond.methodLink RX6 222 yX3_find, Cond.instanceMethod yX3_find, Cond.selects RX3 yX3_find yX3_find]
def wsX6_solveFor_r2 : List Cond := [Cond.initialized RX3, Cond.code yX3_find cX3_find 3 none, Cond.fieldLink RX3 11 "RingGames$Measures" "most" "[I", Cond.fieldLink RX3 18 "RingGames$Game" "size" "I", Cond.fieldLink RX3 15 "RingGames$Measures" "found" "[I", Cond.fieldLink RX3 24 "RingGames$Game" "colours" "[I", Cond.fieldLink RX3 27 "RingGames$Measures" "lastRound" "I", Cond.constant RX3 30 (1000000), Cond.methodLink RX3 31 yX3_raise, Cond.instanceMethod yX3_raise, Cond.selects RX3 yX3_raise yX3_raise, Cond.code yX3_raise cX3_raise 5 (some .boolean), Cond.methodLink RX3 35 yX3_asked, Cond.instanceMethod yX3_asked, Cond.selects RX3 yX3_asked yX3_asked, Cond.code yX3_asked cX3_asked 7 (some .int), Cond.fieldLink RX3 39 "RingGames$Game" "owners" "[I", Cond.constant RX3 42 (65536), Cond.fieldLink RX3 43 "RingGames$Game" "arrows" "[I", Cond.methodLink RX3 54 Lib.Math.min.name, Cond.static Lib.Math.min.name, Cond.initialized "java/lang/Math", Cond.code Lib.Math.min.name Lib.Math.min.code 2 (some .int), Cond.methodLink RX3 60 Lib.Math.max.name]
def wsX6_solveFor_r3 : List Cond := [Cond.static Lib.Math.max.name, Cond.code Lib.Math.max.name Lib.Math.max.code 2 (some .int), Cond.static yX6_contains, Cond.initialized RX6, Cond.code yX6_contains cX6_contains 2 (some .boolean), Cond.methodLink RX3 50 yX3_wanted, Cond.instanceMethod yX3_wanted, Cond.selects RX3 yX3_wanted yX3_wanted, Cond.code yX3_wanted cX3_wanted 10 (some .int)]
def wsX6_solveFor : List Cond := .code yX6_solveFor cX6_solveFor 2 none :: ((wsX6_solveFor_r1 ++ (wsX6_solveFor_r2 ++ wsX6_solveFor_r3)) ++ wsX60 ++ wsX40 ++ wsX10 ++ wsX30)
def wsX6_wonBy_r1 : List Cond := [Cond.fieldLink RX6 12 "RingGames" "now" "LRingGames$State;", Cond.fieldLink RX6 65 "RingGames$State" "game" "LRingGames$Game;", Cond.fieldLink RX6 68 "RingGames$Game" "size" "I", Cond.fieldLink RX6 47 "RingGames" "measures" "LRingGames$Measures;", Cond.methodLink RX6 133 yX6_solveFor, Cond.instanceMethod yX6_solveFor, Cond.selects RX6 yX6_solveFor yX6_solveFor, Cond.initialized RX6, Cond.code yX6_solveFor cX6_solveFor 2 none, Cond.fieldLink RX6 40 "RingGames" "trial" "LRingGames$Game;", Cond.methodLink RX6 119 yX1_become, Cond.instanceMethod yX1_become, Cond.selects RX1 yX1_become yX1_become, Cond.initialized RX1, Cond.code yX1_become cX1_become 2 none, Cond.fieldLink RX1 21 "RingGames$Game" "size" "I", Cond.fieldLink RX1 9 "RingGames$Game" "owners" "[I", Cond.methodLink RX1 25 arraycopyName, Cond.native arraycopyName, Cond.static arraycopyName, Cond.initialized "java/lang/System", Cond.fieldLink RX1 15 "RingGames$Game" "colours" "[I", Cond.fieldLink RX1 18 "RingGames$Game" "arrows" "[I", Cond.methodLink RX6 130 yX1_exchange]
def wsX6_wonBy_r2 : List Cond := [Cond.instanceMethod yX1_exchange, Cond.selects RX1 yX1_exchange yX1_exchange, Cond.code yX1_exchange cX1_exchange 2 none, Cond.methodLink RX6 222 yX3_find, Cond.instanceMethod yX3_find, Cond.selects RX3 yX3_find yX3_find, Cond.initialized RX3, Cond.code yX3_find cX3_find 3 none, Cond.fieldLink RX3 11 "RingGames$Measures" "most" "[I", Cond.fieldLink RX3 18 "RingGames$Game" "size" "I", Cond.fieldLink RX3 15 "RingGames$Measures" "found" "[I", Cond.fieldLink RX3 24 "RingGames$Game" "colours" "[I", Cond.fieldLink RX3 27 "RingGames$Measures" "lastRound" "I", Cond.constant RX3 30 (1000000), Cond.methodLink RX3 31 yX3_raise, Cond.instanceMethod yX3_raise, Cond.selects RX3 yX3_raise yX3_raise, Cond.code yX3_raise cX3_raise 5 (some .boolean), Cond.methodLink RX3 35 yX3_asked, Cond.instanceMethod yX3_asked, Cond.selects RX3 yX3_asked yX3_asked, Cond.code yX3_asked cX3_asked 7 (some .int), Cond.fieldLink RX3 39 "RingGames$Game" "owners" "[I", Cond.constant RX3 42 (65536)]
def wsX6_wonBy_r3 : List Cond := [Cond.fieldLink RX3 43 "RingGames$Game" "arrows" "[I", Cond.methodLink RX3 54 Lib.Math.min.name, Cond.static Lib.Math.min.name, Cond.initialized "java/lang/Math", Cond.code Lib.Math.min.name Lib.Math.min.code 2 (some .int), Cond.methodLink RX3 60 Lib.Math.max.name, Cond.static Lib.Math.max.name, Cond.code Lib.Math.max.name Lib.Math.max.code 2 (some .int), Cond.static yX6_contains, Cond.code yX6_contains cX6_contains 2 (some .boolean), Cond.methodLink RX3 50 yX3_wanted, Cond.instanceMethod yX3_wanted, Cond.selects RX3 yX3_wanted yX3_wanted, Cond.code yX3_wanted cX3_wanted 10 (some .int), Cond.methodLink RX6 177 yX3_isLost, Cond.instanceMethod yX3_isLost, Cond.selects RX3 yX3_isLost yX3_isLost, Cond.code yX3_isLost cX3_isLost 2 (some .boolean), Cond.methodLink RX6 105 yX6_bit, Cond.static yX6_bit, Cond.code yX6_bit cX6_bit 1 (some .int)]
def wsX6_wonBy : List Cond := .code yX6_wonBy cX6_wonBy 4 (some .int) :: ((wsX6_wonBy_r1 ++ (wsX6_wonBy_r2 ++ wsX6_wonBy_r3)) ++ wsX60 ++ wsX40 ++ wsX10 ++ wsX30)
def wsX6_setOwner_r1 : List Cond := [Cond.fieldLink RX6 12 "RingGames" "now" "LRingGames$State;", Cond.fieldLink RX6 65 "RingGames$State" "game" "LRingGames$Game;", Cond.fieldLink RX6 83 "RingGames$Game" "owners" "[I", Cond.fieldLink RX6 19 "RingGames" "history" "LRingGames$History;", Cond.methodLink RX6 80 yX1_has, Cond.instanceMethod yX1_has, Cond.selects RX1 yX1_has yX1_has, Cond.initialized RX1, Cond.code yX1_has cX1_has 2 (some .boolean), Cond.fieldLink RX1 21 "RingGames$Game" "size" "I", Cond.methodLink RX6 58 yX6_isPlayer, Cond.static yX6_isPlayer, Cond.initialized RX6, Cond.code yX6_isPlayer cX6_isPlayer 1 (some .boolean), Cond.methodLink RX6 72 yX2_remember, Cond.instanceMethod yX2_remember, Cond.selects RX2 yX2_remember yX2_remember, Cond.initialized RX2, Cond.code yX2_remember cX2_remember 2 none, Cond.fieldLink RX2 18 "RingGames$History" "count" "I", Cond.fieldLink RX2 11 "RingGames$History" "states" "[LRingGames$State;", Cond.methodLink RX2 22 yX2_dropOldest, Cond.instanceMethod yX2_dropOldest, Cond.selects RX2 yX2_dropOldest yX2_dropOldest]
def wsX6_setOwner_r2 : List Cond := [Cond.code yX2_dropOldest cX2_dropOldest 3 none, Cond.methodLink RX2 25 yX4_become, Cond.instanceMethod yX4_become, Cond.selects RX4 yX4_become yX4_become, Cond.initialized RX4, Cond.code yX4_become cX4_become 2 none, Cond.fieldLink RX4 12 "RingGames$State" "game" "LRingGames$Game;", Cond.fieldLink RX4 18 "RingGames$State" "choices" "[I", Cond.methodLink RX4 30 arraycopyName, Cond.native arraycopyName, Cond.static arraycopyName, Cond.initialized "java/lang/System", Cond.fieldLink RX4 22 "RingGames$State" "tokenAt" "I", Cond.fieldLink RX4 36 "RingGames$State" "tokenSteps" "I", Cond.methodLink RX4 26 yX1_become, Cond.instanceMethod yX1_become, Cond.selects RX1 yX1_become yX1_become, Cond.code yX1_become cX1_become 2 none, Cond.fieldLink RX1 9 "RingGames$Game" "owners" "[I", Cond.methodLink RX1 25 arraycopyName, Cond.fieldLink RX1 15 "RingGames$Game" "colours" "[I", Cond.fieldLink RX1 18 "RingGames$Game" "arrows" "[I", Cond.methodLink RX6 87 yX6_wonBy, Cond.instanceMethod yX6_wonBy]
def wsX6_setOwner_r3 : List Cond := [Cond.selects RX6 yX6_wonBy yX6_wonBy, Cond.code yX6_wonBy cX6_wonBy 4 (some .int), Cond.fieldLink RX6 68 "RingGames$Game" "size" "I", Cond.fieldLink RX6 47 "RingGames" "measures" "LRingGames$Measures;", Cond.methodLink RX6 133 yX6_solveFor, Cond.instanceMethod yX6_solveFor, Cond.selects RX6 yX6_solveFor yX6_solveFor, Cond.code yX6_solveFor cX6_solveFor 2 none, Cond.fieldLink RX6 40 "RingGames" "trial" "LRingGames$Game;", Cond.methodLink RX6 119 yX1_become, Cond.methodLink RX6 130 yX1_exchange, Cond.instanceMethod yX1_exchange, Cond.selects RX1 yX1_exchange yX1_exchange, Cond.code yX1_exchange cX1_exchange 2 none, Cond.methodLink RX6 222 yX3_find, Cond.instanceMethod yX3_find, Cond.selects RX3 yX3_find yX3_find, Cond.initialized RX3, Cond.code yX3_find cX3_find 3 none, Cond.fieldLink RX3 11 "RingGames$Measures" "most" "[I", Cond.fieldLink RX3 18 "RingGames$Game" "size" "I", Cond.fieldLink RX3 15 "RingGames$Measures" "found" "[I", Cond.fieldLink RX3 24 "RingGames$Game" "colours" "[I", Cond.fieldLink RX3 27 "RingGames$Measures" "lastRound" "I"]
def wsX6_setOwner_r4 : List Cond := [Cond.constant RX3 30 (1000000), Cond.methodLink RX3 31 yX3_raise, Cond.instanceMethod yX3_raise, Cond.selects RX3 yX3_raise yX3_raise, Cond.code yX3_raise cX3_raise 5 (some .boolean), Cond.methodLink RX3 35 yX3_asked, Cond.instanceMethod yX3_asked, Cond.selects RX3 yX3_asked yX3_asked, Cond.code yX3_asked cX3_asked 7 (some .int), Cond.fieldLink RX3 39 "RingGames$Game" "owners" "[I", Cond.constant RX3 42 (65536), Cond.fieldLink RX3 43 "RingGames$Game" "arrows" "[I", Cond.methodLink RX3 54 Lib.Math.min.name, Cond.static Lib.Math.min.name, Cond.initialized "java/lang/Math", Cond.code Lib.Math.min.name Lib.Math.min.code 2 (some .int), Cond.methodLink RX3 60 Lib.Math.max.name, Cond.static Lib.Math.max.name, Cond.code Lib.Math.max.name Lib.Math.max.code 2 (some .int), Cond.static yX6_contains, Cond.code yX6_contains cX6_contains 2 (some .boolean), Cond.methodLink RX3 50 yX3_wanted, Cond.instanceMethod yX3_wanted, Cond.selects RX3 yX3_wanted yX3_wanted]
def wsX6_setOwner_r5 : List Cond := [Cond.code yX3_wanted cX3_wanted 10 (some .int), Cond.methodLink RX6 177 yX3_isLost, Cond.instanceMethod yX3_isLost, Cond.selects RX3 yX3_isLost yX3_isLost, Cond.code yX3_isLost cX3_isLost 2 (some .boolean), Cond.methodLink RX6 105 yX6_bit, Cond.static yX6_bit, Cond.code yX6_bit cX6_bit 1 (some .int)]
def wsX6_setOwner : List Cond := .code yX6_setOwner cX6_setOwner 3 (some .int) :: ((wsX6_setOwner_r1 ++ (wsX6_setOwner_r2 ++ (wsX6_setOwner_r3 ++ (wsX6_setOwner_r4 ++ wsX6_setOwner_r5)))) ++ wsX60 ++ wsX40 ++ wsX10 ++ wsX20 ++ wsX30)
def wsX6_setColour_r1 : List Cond := [Cond.fieldLink RX6 12 "RingGames" "now" "LRingGames$State;", Cond.fieldLink RX6 65 "RingGames$State" "game" "LRingGames$Game;", Cond.fieldLink RX6 91 "RingGames$Game" "colours" "[I", Cond.fieldLink RX6 19 "RingGames" "history" "LRingGames$History;", Cond.methodLink RX6 80 yX1_has, Cond.instanceMethod yX1_has, Cond.selects RX1 yX1_has yX1_has, Cond.initialized RX1, Cond.code yX1_has cX1_has 2 (some .boolean), Cond.fieldLink RX1 21 "RingGames$Game" "size" "I", Cond.methodLink RX6 62 yX6_isColour, Cond.static yX6_isColour, Cond.initialized RX6, Cond.code yX6_isColour cX6_isColour 1 (some .boolean), Cond.methodLink RX6 72 yX2_remember, Cond.instanceMethod yX2_remember, Cond.selects RX2 yX2_remember yX2_remember, Cond.initialized RX2, Cond.code yX2_remember cX2_remember 2 none, Cond.fieldLink RX2 18 "RingGames$History" "count" "I", Cond.fieldLink RX2 11 "RingGames$History" "states" "[LRingGames$State;", Cond.methodLink RX2 22 yX2_dropOldest, Cond.instanceMethod yX2_dropOldest, Cond.selects RX2 yX2_dropOldest yX2_dropOldest]
def wsX6_setColour_r2 : List Cond := [Cond.code yX2_dropOldest cX2_dropOldest 3 none, Cond.methodLink RX2 25 yX4_become, Cond.instanceMethod yX4_become, Cond.selects RX4 yX4_become yX4_become, Cond.initialized RX4, Cond.code yX4_become cX4_become 2 none, Cond.fieldLink RX4 12 "RingGames$State" "game" "LRingGames$Game;", Cond.fieldLink RX4 18 "RingGames$State" "choices" "[I", Cond.methodLink RX4 30 arraycopyName, Cond.native arraycopyName, Cond.static arraycopyName, Cond.initialized "java/lang/System", Cond.fieldLink RX4 22 "RingGames$State" "tokenAt" "I", Cond.fieldLink RX4 36 "RingGames$State" "tokenSteps" "I", Cond.methodLink RX4 26 yX1_become, Cond.instanceMethod yX1_become, Cond.selects RX1 yX1_become yX1_become, Cond.code yX1_become cX1_become 2 none, Cond.fieldLink RX1 9 "RingGames$Game" "owners" "[I", Cond.methodLink RX1 25 arraycopyName, Cond.fieldLink RX1 15 "RingGames$Game" "colours" "[I", Cond.fieldLink RX1 18 "RingGames$Game" "arrows" "[I"]
def wsX6_setColour : List Cond := .code yX6_setColour cX6_setColour 4 (some .int) :: ((wsX6_setColour_r1 ++ wsX6_setColour_r2) ++ wsX60 ++ wsX40 ++ wsX10 ++ wsX20)
def wsX6_addArrow_r1 : List Cond := [Cond.fieldLink RX6 12 "RingGames" "now" "LRingGames$State;", Cond.fieldLink RX6 65 "RingGames$State" "game" "LRingGames$Game;", Cond.fieldLink RX6 19 "RingGames" "history" "LRingGames$History;", Cond.fieldLink RX6 102 "RingGames$Game" "arrows" "[I", Cond.methodLink RX6 80 yX1_has, Cond.instanceMethod yX1_has, Cond.selects RX1 yX1_has yX1_has, Cond.initialized RX1, Cond.code yX1_has cX1_has 2 (some .boolean), Cond.fieldLink RX1 21 "RingGames$Game" "size" "I", Cond.methodLink RX6 94 yX1_arrowCount, Cond.instanceMethod yX1_arrowCount, Cond.selects RX1 yX1_arrowCount yX1_arrowCount, Cond.code yX1_arrowCount cX1_arrowCount 3 (some .int), Cond.fieldLink RX1 18 "RingGames$Game" "arrows" "[I", Cond.methodLink RX1 47 yJ6_bitCount_0f7a4, Cond.static yJ6_bitCount_0f7a4, Cond.initialized RJ6, Cond.code yJ6_bitCount_0f7a4 cJ6_bitCount_0f7a4 1 (some .int), Cond.constant RJ6 265 (1431655765), Cond.constant RJ6 266 (858993459), Cond.constant RJ6 267 (252645135), Cond.methodLink RX6 98 yX1_leads, Cond.instanceMethod yX1_leads]
def wsX6_addArrow_r2 : List Cond := [Cond.selects RX1 yX1_leads yX1_leads, Cond.code yX1_leads cX1_leads 3 (some .boolean), Cond.methodLink RX1 39 yX1_has, Cond.static yX6_contains, Cond.initialized RX6, Cond.code yX6_contains cX6_contains 2 (some .boolean), Cond.methodLink RX6 72 yX2_remember, Cond.instanceMethod yX2_remember, Cond.selects RX2 yX2_remember yX2_remember, Cond.initialized RX2, Cond.code yX2_remember cX2_remember 2 none, Cond.fieldLink RX2 18 "RingGames$History" "count" "I", Cond.fieldLink RX2 11 "RingGames$History" "states" "[LRingGames$State;", Cond.methodLink RX2 22 yX2_dropOldest, Cond.instanceMethod yX2_dropOldest, Cond.selects RX2 yX2_dropOldest yX2_dropOldest, Cond.code yX2_dropOldest cX2_dropOldest 3 none, Cond.methodLink RX2 25 yX4_become, Cond.instanceMethod yX4_become, Cond.selects RX4 yX4_become yX4_become, Cond.initialized RX4, Cond.code yX4_become cX4_become 2 none, Cond.fieldLink RX4 12 "RingGames$State" "game" "LRingGames$Game;", Cond.fieldLink RX4 18 "RingGames$State" "choices" "[I"]
def wsX6_addArrow_r3 : List Cond := [Cond.methodLink RX4 30 arraycopyName, Cond.native arraycopyName, Cond.static arraycopyName, Cond.initialized "java/lang/System", Cond.fieldLink RX4 22 "RingGames$State" "tokenAt" "I", Cond.fieldLink RX4 36 "RingGames$State" "tokenSteps" "I", Cond.methodLink RX4 26 yX1_become, Cond.instanceMethod yX1_become, Cond.selects RX1 yX1_become yX1_become, Cond.code yX1_become cX1_become 2 none, Cond.fieldLink RX1 9 "RingGames$Game" "owners" "[I", Cond.methodLink RX1 25 arraycopyName, Cond.fieldLink RX1 15 "RingGames$Game" "colours" "[I", Cond.methodLink RX6 105 yX6_bit, Cond.static yX6_bit, Cond.code yX6_bit cX6_bit 1 (some .int), Cond.methodLink RX6 108 yJ6_bitCount_0f7a4]
def wsX6_addArrow : List Cond := .code yX6_addArrow cX6_addArrow 3 (some .int) :: ((wsX6_addArrow_r1 ++ (wsX6_addArrow_r2 ++ wsX6_addArrow_r3)) ++ wsX60 ++ wsX40 ++ wsX10 ++ wsX20)
def wsX6_removeArrow_r1 : List Cond := [Cond.fieldLink RX6 12 "RingGames" "now" "LRingGames$State;", Cond.fieldLink RX6 65 "RingGames$State" "game" "LRingGames$Game;", Cond.fieldLink RX6 19 "RingGames" "history" "LRingGames$History;", Cond.fieldLink RX6 102 "RingGames$Game" "arrows" "[I", Cond.fieldLink RX6 113 "RingGames$State" "choices" "[I", Cond.methodLink RX6 80 yX1_has, Cond.instanceMethod yX1_has, Cond.selects RX1 yX1_has yX1_has, Cond.initialized RX1, Cond.code yX1_has cX1_has 2 (some .boolean), Cond.fieldLink RX1 21 "RingGames$Game" "size" "I", Cond.methodLink RX6 98 yX1_leads, Cond.instanceMethod yX1_leads, Cond.selects RX1 yX1_leads yX1_leads, Cond.code yX1_leads cX1_leads 3 (some .boolean), Cond.fieldLink RX1 18 "RingGames$Game" "arrows" "[I", Cond.methodLink RX1 39 yX1_has, Cond.static yX6_contains, Cond.initialized RX6, Cond.code yX6_contains cX6_contains 2 (some .boolean), Cond.methodLink RX6 72 yX2_remember, Cond.instanceMethod yX2_remember, Cond.selects RX2 yX2_remember yX2_remember, Cond.initialized RX2]
def wsX6_removeArrow_r2 : List Cond := [Cond.code yX2_remember cX2_remember 2 none, Cond.fieldLink RX2 18 "RingGames$History" "count" "I", Cond.fieldLink RX2 11 "RingGames$History" "states" "[LRingGames$State;", Cond.methodLink RX2 22 yX2_dropOldest, Cond.instanceMethod yX2_dropOldest, Cond.selects RX2 yX2_dropOldest yX2_dropOldest, Cond.code yX2_dropOldest cX2_dropOldest 3 none, Cond.methodLink RX2 25 yX4_become, Cond.instanceMethod yX4_become, Cond.selects RX4 yX4_become yX4_become, Cond.initialized RX4, Cond.code yX4_become cX4_become 2 none, Cond.fieldLink RX4 12 "RingGames$State" "game" "LRingGames$Game;", Cond.fieldLink RX4 18 "RingGames$State" "choices" "[I", Cond.methodLink RX4 30 arraycopyName, Cond.native arraycopyName, Cond.static arraycopyName, Cond.initialized "java/lang/System", Cond.fieldLink RX4 22 "RingGames$State" "tokenAt" "I", Cond.fieldLink RX4 36 "RingGames$State" "tokenSteps" "I", Cond.methodLink RX4 26 yX1_become, Cond.instanceMethod yX1_become, Cond.selects RX1 yX1_become yX1_become, Cond.code yX1_become cX1_become 2 none]
def wsX6_removeArrow_r3 : List Cond := [Cond.fieldLink RX1 9 "RingGames$Game" "owners" "[I", Cond.methodLink RX1 25 arraycopyName, Cond.fieldLink RX1 15 "RingGames$Game" "colours" "[I", Cond.methodLink RX6 105 yX6_bit, Cond.static yX6_bit, Cond.code yX6_bit cX6_bit 1 (some .int), Cond.methodLink RX6 108 yJ6_bitCount_0f7a4, Cond.static yJ6_bitCount_0f7a4, Cond.initialized RJ6, Cond.code yJ6_bitCount_0f7a4 cJ6_bitCount_0f7a4 1 (some .int), Cond.constant RJ6 265 (1431655765), Cond.constant RJ6 266 (858993459), Cond.constant RJ6 267 (252645135)]
def wsX6_removeArrow : List Cond := .code yX6_removeArrow cX6_removeArrow 3 (some .int) :: ((wsX6_removeArrow_r1 ++ (wsX6_removeArrow_r2 ++ wsX6_removeArrow_r3)) ++ wsX60 ++ wsX40 ++ wsX10 ++ wsX20)
def wsX6_readArrows_r1 : List Cond := [Cond.fieldLink RX6 33 "RingGames" "text" "LRingGames$ArrowText;", Cond.fieldLink RX6 40 "RingGames" "trial" "LRingGames$Game;", Cond.fieldLink RX6 12 "RingGames" "now" "LRingGames$State;", Cond.fieldLink RX6 65 "RingGames$State" "game" "LRingGames$Game;", Cond.fieldLink RX6 19 "RingGames" "history" "LRingGames$History;", Cond.methodLink RX6 116 yX0_fault, Cond.instanceMethod yX0_fault, Cond.selects RX0 yX0_fault yX0_fault, Cond.initialized RX0, Cond.code yX0_fault cX0_fault 6 (some .int), Cond.fieldLink RX0 15 "RingGames$ArrowText" "length" "I", Cond.fieldLink RX0 9 "RingGames$ArrowText" "signs" "[C", Cond.methodLink RX0 19 yX0_isDigit, Cond.static yX0_isDigit, Cond.code yX0_isDigit cX0_isDigit 1 (some .boolean), Cond.methodLink RX0 23 yX0_isSignBehind, Cond.static yX0_isSignBehind, Cond.code yX0_isSignBehind cX0_isSignBehind 2 (some .boolean), Cond.methodLink RX6 119 yX1_become, Cond.instanceMethod yX1_become, Cond.selects RX1 yX1_become yX1_become, Cond.initialized RX1, Cond.code yX1_become cX1_become 2 none, Cond.fieldLink RX1 21 "RingGames$Game" "size" "I"]
def wsX6_readArrows_r2 : List Cond := [Cond.fieldLink RX1 9 "RingGames$Game" "owners" "[I", Cond.methodLink RX1 25 arraycopyName, Cond.native arraycopyName, Cond.static arraycopyName, Cond.initialized "java/lang/System", Cond.fieldLink RX1 15 "RingGames$Game" "colours" "[I", Cond.fieldLink RX1 18 "RingGames$Game" "arrows" "[I", Cond.methodLink RX6 123 yX0_drawInto, Cond.instanceMethod yX0_drawInto, Cond.selects RX0 yX0_drawInto yX0_drawInto, Cond.code yX0_drawInto cX0_drawInto 6 (some .boolean), Cond.fieldLink RX0 33 "RingGames$Game" "arrows" "[I", Cond.methodLink RX0 27 yX1_has, Cond.instanceMethod yX1_has, Cond.selects RX1 yX1_has yX1_has, Cond.code yX1_has cX1_has 2 (some .boolean), Cond.static yX6_bit, Cond.initialized RX6, Cond.code yX6_bit cX6_bit 1 (some .int), Cond.methodLink RX6 94 yX1_arrowCount, Cond.instanceMethod yX1_arrowCount, Cond.selects RX1 yX1_arrowCount yX1_arrowCount, Cond.code yX1_arrowCount cX1_arrowCount 3 (some .int), Cond.methodLink RX1 47 yJ6_bitCount_0f7a4]
def wsX6_readArrows_r3 : List Cond := [Cond.static yJ6_bitCount_0f7a4, Cond.initialized RJ6, Cond.code yJ6_bitCount_0f7a4 cJ6_bitCount_0f7a4 1 (some .int), Cond.constant RJ6 265 (1431655765), Cond.constant RJ6 266 (858993459), Cond.constant RJ6 267 (252645135), Cond.methodLink RX6 72 yX2_remember, Cond.instanceMethod yX2_remember, Cond.selects RX2 yX2_remember yX2_remember, Cond.initialized RX2, Cond.code yX2_remember cX2_remember 2 none, Cond.fieldLink RX2 18 "RingGames$History" "count" "I", Cond.fieldLink RX2 11 "RingGames$History" "states" "[LRingGames$State;", Cond.methodLink RX2 22 yX2_dropOldest, Cond.instanceMethod yX2_dropOldest, Cond.selects RX2 yX2_dropOldest yX2_dropOldest, Cond.code yX2_dropOldest cX2_dropOldest 3 none, Cond.methodLink RX2 25 yX4_become, Cond.instanceMethod yX4_become, Cond.selects RX4 yX4_become yX4_become, Cond.initialized RX4, Cond.code yX4_become cX4_become 2 none, Cond.fieldLink RX4 12 "RingGames$State" "game" "LRingGames$Game;", Cond.fieldLink RX4 18 "RingGames$State" "choices" "[I"]
def wsX6_readArrows_r4 : List Cond := [Cond.methodLink RX4 30 arraycopyName, Cond.fieldLink RX4 22 "RingGames$State" "tokenAt" "I", Cond.fieldLink RX4 36 "RingGames$State" "tokenSteps" "I", Cond.methodLink RX4 26 yX1_become]
def wsX6_readArrows : List Cond := .code yX6_readArrows cX6_readArrows 3 (some .int) :: ((wsX6_readArrows_r1 ++ (wsX6_readArrows_r2 ++ (wsX6_readArrows_r3 ++ wsX6_readArrows_r4))) ++ wsX60 ++ wsX40 ++ wsX00 ++ wsX10 ++ wsX20)
def wsX6_turnOver_r1 : List Cond := [Cond.fieldLink RX6 12 "RingGames" "now" "LRingGames$State;", Cond.fieldLink RX6 65 "RingGames$State" "game" "LRingGames$Game;", Cond.fieldLink RX6 19 "RingGames" "history" "LRingGames$History;", Cond.methodLink RX6 127 yX1_hasColour, Cond.instanceMethod yX1_hasColour, Cond.selects RX1 yX1_hasColour yX1_hasColour, Cond.initialized RX1, Cond.code yX1_hasColour cX1_hasColour 4 (some .boolean), Cond.fieldLink RX1 21 "RingGames$Game" "size" "I", Cond.fieldLink RX1 15 "RingGames$Game" "colours" "[I", Cond.methodLink RX6 72 yX2_remember, Cond.instanceMethod yX2_remember, Cond.selects RX2 yX2_remember yX2_remember, Cond.initialized RX2, Cond.code yX2_remember cX2_remember 2 none, Cond.fieldLink RX2 18 "RingGames$History" "count" "I", Cond.fieldLink RX2 11 "RingGames$History" "states" "[LRingGames$State;", Cond.methodLink RX2 22 yX2_dropOldest, Cond.instanceMethod yX2_dropOldest, Cond.selects RX2 yX2_dropOldest yX2_dropOldest, Cond.code yX2_dropOldest cX2_dropOldest 3 none, Cond.methodLink RX2 25 yX4_become, Cond.instanceMethod yX4_become, Cond.selects RX4 yX4_become yX4_become]
def wsX6_turnOver_r2 : List Cond := [Cond.initialized RX4, Cond.code yX4_become cX4_become 2 none, Cond.fieldLink RX4 12 "RingGames$State" "game" "LRingGames$Game;", Cond.fieldLink RX4 18 "RingGames$State" "choices" "[I", Cond.methodLink RX4 30 arraycopyName, Cond.native arraycopyName, Cond.static arraycopyName, Cond.initialized "java/lang/System", Cond.fieldLink RX4 22 "RingGames$State" "tokenAt" "I", Cond.fieldLink RX4 36 "RingGames$State" "tokenSteps" "I", Cond.methodLink RX4 26 yX1_become, Cond.instanceMethod yX1_become, Cond.selects RX1 yX1_become yX1_become, Cond.code yX1_become cX1_become 2 none, Cond.fieldLink RX1 9 "RingGames$Game" "owners" "[I", Cond.methodLink RX1 25 arraycopyName, Cond.fieldLink RX1 18 "RingGames$Game" "arrows" "[I", Cond.methodLink RX6 130 yX1_exchange, Cond.instanceMethod yX1_exchange, Cond.selects RX1 yX1_exchange yX1_exchange, Cond.code yX1_exchange cX1_exchange 2 none, Cond.methodLink RX6 87 yX6_wonBy, Cond.instanceMethod yX6_wonBy, Cond.selects RX6 yX6_wonBy yX6_wonBy]
def wsX6_turnOver_r3 : List Cond := [Cond.initialized RX6, Cond.code yX6_wonBy cX6_wonBy 4 (some .int), Cond.fieldLink RX6 68 "RingGames$Game" "size" "I", Cond.fieldLink RX6 47 "RingGames" "measures" "LRingGames$Measures;", Cond.methodLink RX6 133 yX6_solveFor, Cond.instanceMethod yX6_solveFor, Cond.selects RX6 yX6_solveFor yX6_solveFor, Cond.code yX6_solveFor cX6_solveFor 2 none, Cond.fieldLink RX6 40 "RingGames" "trial" "LRingGames$Game;", Cond.methodLink RX6 119 yX1_become, Cond.methodLink RX6 222 yX3_find, Cond.instanceMethod yX3_find, Cond.selects RX3 yX3_find yX3_find, Cond.initialized RX3, Cond.code yX3_find cX3_find 3 none, Cond.fieldLink RX3 11 "RingGames$Measures" "most" "[I", Cond.fieldLink RX3 18 "RingGames$Game" "size" "I", Cond.fieldLink RX3 15 "RingGames$Measures" "found" "[I", Cond.fieldLink RX3 24 "RingGames$Game" "colours" "[I", Cond.fieldLink RX3 27 "RingGames$Measures" "lastRound" "I", Cond.constant RX3 30 (1000000), Cond.methodLink RX3 31 yX3_raise, Cond.instanceMethod yX3_raise, Cond.selects RX3 yX3_raise yX3_raise]
def wsX6_turnOver_r4 : List Cond := [Cond.code yX3_raise cX3_raise 5 (some .boolean), Cond.methodLink RX3 35 yX3_asked, Cond.instanceMethod yX3_asked, Cond.selects RX3 yX3_asked yX3_asked, Cond.code yX3_asked cX3_asked 7 (some .int), Cond.fieldLink RX3 39 "RingGames$Game" "owners" "[I", Cond.constant RX3 42 (65536), Cond.fieldLink RX3 43 "RingGames$Game" "arrows" "[I", Cond.methodLink RX3 54 Lib.Math.min.name, Cond.static Lib.Math.min.name, Cond.initialized "java/lang/Math", Cond.code Lib.Math.min.name Lib.Math.min.code 2 (some .int), Cond.methodLink RX3 60 Lib.Math.max.name, Cond.static Lib.Math.max.name, Cond.code Lib.Math.max.name Lib.Math.max.code 2 (some .int), Cond.static yX6_contains, Cond.code yX6_contains cX6_contains 2 (some .boolean), Cond.methodLink RX3 50 yX3_wanted, Cond.instanceMethod yX3_wanted, Cond.selects RX3 yX3_wanted yX3_wanted, Cond.code yX3_wanted cX3_wanted 10 (some .int), Cond.methodLink RX6 177 yX3_isLost, Cond.instanceMethod yX3_isLost, Cond.selects RX3 yX3_isLost yX3_isLost]
def wsX6_turnOver_r5 : List Cond := [Cond.code yX3_isLost cX3_isLost 2 (some .boolean), Cond.methodLink RX6 105 yX6_bit, Cond.static yX6_bit, Cond.code yX6_bit cX6_bit 1 (some .int)]
def wsX6_turnOver : List Cond := .code yX6_turnOver cX6_turnOver 1 (some .int) :: ((wsX6_turnOver_r1 ++ (wsX6_turnOver_r2 ++ (wsX6_turnOver_r3 ++ (wsX6_turnOver_r4 ++ wsX6_turnOver_r5)))) ++ wsX60 ++ wsX40 ++ wsX10 ++ wsX20 ++ wsX30)
def wsX6_choose_r1 : List Cond := [Cond.fieldLink RX6 12 "RingGames" "now" "LRingGames$State;", Cond.fieldLink RX6 65 "RingGames$State" "game" "LRingGames$Game;", Cond.fieldLink RX6 113 "RingGames$State" "choices" "[I", Cond.fieldLink RX6 19 "RingGames" "history" "LRingGames$History;", Cond.methodLink RX6 80 yX1_has, Cond.instanceMethod yX1_has, Cond.selects RX1 yX1_has yX1_has, Cond.initialized RX1, Cond.code yX1_has cX1_has 2 (some .boolean), Cond.fieldLink RX1 21 "RingGames$Game" "size" "I", Cond.methodLink RX6 98 yX1_leads, Cond.instanceMethod yX1_leads, Cond.selects RX1 yX1_leads yX1_leads, Cond.code yX1_leads cX1_leads 3 (some .boolean), Cond.fieldLink RX1 18 "RingGames$Game" "arrows" "[I", Cond.methodLink RX1 39 yX1_has, Cond.static yX6_contains, Cond.initialized RX6, Cond.code yX6_contains cX6_contains 2 (some .boolean), Cond.methodLink RX6 72 yX2_remember, Cond.instanceMethod yX2_remember, Cond.selects RX2 yX2_remember yX2_remember, Cond.initialized RX2, Cond.code yX2_remember cX2_remember 2 none]
def wsX6_choose_r2 : List Cond := [Cond.fieldLink RX2 18 "RingGames$History" "count" "I", Cond.fieldLink RX2 11 "RingGames$History" "states" "[LRingGames$State;", Cond.methodLink RX2 22 yX2_dropOldest, Cond.instanceMethod yX2_dropOldest, Cond.selects RX2 yX2_dropOldest yX2_dropOldest, Cond.code yX2_dropOldest cX2_dropOldest 3 none, Cond.methodLink RX2 25 yX4_become, Cond.instanceMethod yX4_become, Cond.selects RX4 yX4_become yX4_become, Cond.initialized RX4, Cond.code yX4_become cX4_become 2 none, Cond.fieldLink RX4 12 "RingGames$State" "game" "LRingGames$Game;", Cond.fieldLink RX4 18 "RingGames$State" "choices" "[I", Cond.methodLink RX4 30 arraycopyName, Cond.native arraycopyName, Cond.static arraycopyName, Cond.initialized "java/lang/System", Cond.fieldLink RX4 22 "RingGames$State" "tokenAt" "I", Cond.fieldLink RX4 36 "RingGames$State" "tokenSteps" "I", Cond.methodLink RX4 26 yX1_become, Cond.instanceMethod yX1_become, Cond.selects RX1 yX1_become yX1_become, Cond.code yX1_become cX1_become 2 none, Cond.fieldLink RX1 9 "RingGames$Game" "owners" "[I"]
def wsX6_choose_r3 : List Cond := [Cond.methodLink RX1 25 arraycopyName, Cond.fieldLink RX1 15 "RingGames$Game" "colours" "[I"]
def wsX6_choose : List Cond := .code yX6_choose cX6_choose 4 (some .int) :: ((wsX6_choose_r1 ++ (wsX6_choose_r2 ++ wsX6_choose_r3)) ++ wsX60 ++ wsX40 ++ wsX10 ++ wsX20)
def wsX6_chooseWell_r1 : List Cond := [Cond.fieldLink RX6 19 "RingGames" "history" "LRingGames$History;", Cond.fieldLink RX6 12 "RingGames" "now" "LRingGames$State;", Cond.fieldLink RX6 65 "RingGames$State" "game" "LRingGames$Game;", Cond.fieldLink RX6 68 "RingGames$Game" "size" "I", Cond.fieldLink RX6 83 "RingGames$Game" "owners" "[I", Cond.fieldLink RX6 113 "RingGames$State" "choices" "[I", Cond.fieldLink RX6 47 "RingGames" "measures" "LRingGames$Measures;", Cond.fieldLink RX6 40 "RingGames" "trial" "LRingGames$Game;", Cond.methodLink RX6 58 yX6_isPlayer, Cond.static yX6_isPlayer, Cond.initialized RX6, Cond.code yX6_isPlayer cX6_isPlayer 1 (some .boolean), Cond.methodLink RX6 72 yX2_remember, Cond.instanceMethod yX2_remember, Cond.selects RX2 yX2_remember yX2_remember, Cond.initialized RX2, Cond.code yX2_remember cX2_remember 2 none, Cond.fieldLink RX2 18 "RingGames$History" "count" "I", Cond.fieldLink RX2 11 "RingGames$History" "states" "[LRingGames$State;", Cond.methodLink RX2 22 yX2_dropOldest, Cond.instanceMethod yX2_dropOldest, Cond.selects RX2 yX2_dropOldest yX2_dropOldest, Cond.code yX2_dropOldest cX2_dropOldest 3 none, Cond.methodLink RX2 25 yX4_become]
def wsX6_chooseWell_r2 : List Cond := [Cond.instanceMethod yX4_become, Cond.selects RX4 yX4_become yX4_become, Cond.initialized RX4, Cond.code yX4_become cX4_become 2 none, Cond.fieldLink RX4 12 "RingGames$State" "game" "LRingGames$Game;", Cond.fieldLink RX4 18 "RingGames$State" "choices" "[I", Cond.methodLink RX4 30 arraycopyName, Cond.native arraycopyName, Cond.static arraycopyName, Cond.initialized "java/lang/System", Cond.fieldLink RX4 22 "RingGames$State" "tokenAt" "I", Cond.fieldLink RX4 36 "RingGames$State" "tokenSteps" "I", Cond.methodLink RX4 26 yX1_become, Cond.instanceMethod yX1_become, Cond.selects RX1 yX1_become yX1_become, Cond.initialized RX1, Cond.code yX1_become cX1_become 2 none, Cond.fieldLink RX1 21 "RingGames$Game" "size" "I", Cond.fieldLink RX1 9 "RingGames$Game" "owners" "[I", Cond.methodLink RX1 25 arraycopyName, Cond.fieldLink RX1 15 "RingGames$Game" "colours" "[I", Cond.fieldLink RX1 18 "RingGames$Game" "arrows" "[I", Cond.methodLink RX6 133 yX6_solveFor, Cond.instanceMethod yX6_solveFor]
def wsX6_chooseWell_r3 : List Cond := [Cond.selects RX6 yX6_solveFor yX6_solveFor, Cond.code yX6_solveFor cX6_solveFor 2 none, Cond.methodLink RX6 119 yX1_become, Cond.methodLink RX6 130 yX1_exchange, Cond.instanceMethod yX1_exchange, Cond.selects RX1 yX1_exchange yX1_exchange, Cond.code yX1_exchange cX1_exchange 2 none, Cond.methodLink RX6 222 yX3_find, Cond.instanceMethod yX3_find, Cond.selects RX3 yX3_find yX3_find, Cond.initialized RX3, Cond.code yX3_find cX3_find 3 none, Cond.fieldLink RX3 11 "RingGames$Measures" "most" "[I", Cond.fieldLink RX3 18 "RingGames$Game" "size" "I", Cond.fieldLink RX3 15 "RingGames$Measures" "found" "[I", Cond.fieldLink RX3 24 "RingGames$Game" "colours" "[I", Cond.fieldLink RX3 27 "RingGames$Measures" "lastRound" "I", Cond.constant RX3 30 (1000000), Cond.methodLink RX3 31 yX3_raise, Cond.instanceMethod yX3_raise, Cond.selects RX3 yX3_raise yX3_raise, Cond.code yX3_raise cX3_raise 5 (some .boolean), Cond.methodLink RX3 35 yX3_asked, Cond.instanceMethod yX3_asked]
def wsX6_chooseWell_r4 : List Cond := [Cond.selects RX3 yX3_asked yX3_asked, Cond.code yX3_asked cX3_asked 7 (some .int), Cond.fieldLink RX3 39 "RingGames$Game" "owners" "[I", Cond.constant RX3 42 (65536), Cond.fieldLink RX3 43 "RingGames$Game" "arrows" "[I", Cond.methodLink RX3 54 Lib.Math.min.name, Cond.static Lib.Math.min.name, Cond.initialized "java/lang/Math", Cond.code Lib.Math.min.name Lib.Math.min.code 2 (some .int), Cond.methodLink RX3 60 Lib.Math.max.name, Cond.static Lib.Math.max.name, Cond.code Lib.Math.max.name Lib.Math.max.code 2 (some .int), Cond.static yX6_contains, Cond.code yX6_contains cX6_contains 2 (some .boolean), Cond.methodLink RX3 50 yX3_wanted, Cond.instanceMethod yX3_wanted, Cond.selects RX3 yX3_wanted yX3_wanted, Cond.code yX3_wanted cX3_wanted 10 (some .int), Cond.methodLink RX6 137 yX3_bestArrow, Cond.instanceMethod yX3_bestArrow, Cond.selects RX3 yX3_bestArrow yX3_bestArrow, Cond.code yX3_bestArrow cX3_bestArrow 7 (some .int), Cond.methodLink RX3 67 yX1_leads, Cond.instanceMethod yX1_leads]
def wsX6_chooseWell_r5 : List Cond := [Cond.selects RX1 yX1_leads yX1_leads, Cond.code yX1_leads cX1_leads 3 (some .boolean), Cond.methodLink RX1 39 yX1_has, Cond.instanceMethod yX1_has, Cond.selects RX1 yX1_has yX1_has, Cond.code yX1_has cX1_has 2 (some .boolean)]
def wsX6_chooseWell : List Cond := .code yX6_chooseWell cX6_chooseWell 4 (some .int) :: ((wsX6_chooseWell_r1 ++ (wsX6_chooseWell_r2 ++ (wsX6_chooseWell_r3 ++ (wsX6_chooseWell_r4 ++ wsX6_chooseWell_r5)))) ++ wsX60 ++ wsX40 ++ wsX10 ++ wsX20 ++ wsX30)
def wsX6_winnerOf_r1 : List Cond := [Cond.fieldLink RX6 47 "RingGames" "measures" "LRingGames$Measures;", Cond.methodLink RX6 133 yX6_solveFor, Cond.instanceMethod yX6_solveFor, Cond.selects RX6 yX6_solveFor yX6_solveFor, Cond.initialized RX6, Cond.code yX6_solveFor cX6_solveFor 2 none, Cond.fieldLink RX6 40 "RingGames" "trial" "LRingGames$Game;", Cond.fieldLink RX6 12 "RingGames" "now" "LRingGames$State;", Cond.fieldLink RX6 65 "RingGames$State" "game" "LRingGames$Game;", Cond.methodLink RX6 119 yX1_become, Cond.instanceMethod yX1_become, Cond.selects RX1 yX1_become yX1_become, Cond.initialized RX1, Cond.code yX1_become cX1_become 2 none, Cond.fieldLink RX1 21 "RingGames$Game" "size" "I", Cond.fieldLink RX1 9 "RingGames$Game" "owners" "[I", Cond.methodLink RX1 25 arraycopyName, Cond.native arraycopyName, Cond.static arraycopyName, Cond.initialized "java/lang/System", Cond.fieldLink RX1 15 "RingGames$Game" "colours" "[I", Cond.fieldLink RX1 18 "RingGames$Game" "arrows" "[I", Cond.methodLink RX6 130 yX1_exchange, Cond.instanceMethod yX1_exchange]
def wsX6_winnerOf_r2 : List Cond := [Cond.selects RX1 yX1_exchange yX1_exchange, Cond.code yX1_exchange cX1_exchange 2 none, Cond.methodLink RX6 222 yX3_find, Cond.instanceMethod yX3_find, Cond.selects RX3 yX3_find yX3_find, Cond.initialized RX3, Cond.code yX3_find cX3_find 3 none, Cond.fieldLink RX3 11 "RingGames$Measures" "most" "[I", Cond.fieldLink RX3 18 "RingGames$Game" "size" "I", Cond.fieldLink RX3 15 "RingGames$Measures" "found" "[I", Cond.fieldLink RX3 24 "RingGames$Game" "colours" "[I", Cond.fieldLink RX3 27 "RingGames$Measures" "lastRound" "I", Cond.constant RX3 30 (1000000), Cond.methodLink RX3 31 yX3_raise, Cond.instanceMethod yX3_raise, Cond.selects RX3 yX3_raise yX3_raise, Cond.code yX3_raise cX3_raise 5 (some .boolean), Cond.methodLink RX3 35 yX3_asked, Cond.instanceMethod yX3_asked, Cond.selects RX3 yX3_asked yX3_asked, Cond.code yX3_asked cX3_asked 7 (some .int), Cond.fieldLink RX3 39 "RingGames$Game" "owners" "[I", Cond.constant RX3 42 (65536), Cond.fieldLink RX3 43 "RingGames$Game" "arrows" "[I"]
def wsX6_winnerOf_r3 : List Cond := [Cond.methodLink RX3 54 Lib.Math.min.name, Cond.static Lib.Math.min.name, Cond.initialized "java/lang/Math", Cond.code Lib.Math.min.name Lib.Math.min.code 2 (some .int), Cond.methodLink RX3 60 Lib.Math.max.name, Cond.static Lib.Math.max.name, Cond.code Lib.Math.max.name Lib.Math.max.code 2 (some .int), Cond.static yX6_contains, Cond.code yX6_contains cX6_contains 2 (some .boolean), Cond.methodLink RX3 50 yX3_wanted, Cond.instanceMethod yX3_wanted, Cond.selects RX3 yX3_wanted yX3_wanted, Cond.code yX3_wanted cX3_wanted 10 (some .int), Cond.methodLink RX6 225 yX3_winner, Cond.instanceMethod yX3_winner, Cond.selects RX3 yX3_winner yX3_winner, Cond.code yX3_winner cX3_winner 2 (some .int), Cond.methodLink RX3 63 yX3_isLost, Cond.instanceMethod yX3_isLost, Cond.selects RX3 yX3_isLost yX3_isLost, Cond.code yX3_isLost cX3_isLost 2 (some .boolean)]
def wsX6_winnerOf : List Cond := .code yX6_winnerOf cX6_winnerOf 2 (some .int) :: ((wsX6_winnerOf_r1 ++ (wsX6_winnerOf_r2 ++ wsX6_winnerOf_r3)) ++ wsX60 ++ wsX40 ++ wsX10 ++ wsX30)
def wsX6_start_r1 : List Cond := [Cond.fieldLink RX6 12 "RingGames" "now" "LRingGames$State;", Cond.fieldLink RX6 65 "RingGames$State" "game" "LRingGames$Game;", Cond.fieldLink RX6 19 "RingGames" "history" "LRingGames$History;", Cond.fieldLink RX6 141 "RingGames$State" "tokenAt" "I", Cond.fieldLink RX6 144 "RingGames$State" "tokenSteps" "I", Cond.methodLink RX6 80 yX1_has, Cond.instanceMethod yX1_has, Cond.selects RX1 yX1_has yX1_has, Cond.initialized RX1, Cond.code yX1_has cX1_has 2 (some .boolean), Cond.fieldLink RX1 21 "RingGames$Game" "size" "I", Cond.methodLink RX6 72 yX2_remember, Cond.instanceMethod yX2_remember, Cond.selects RX2 yX2_remember yX2_remember, Cond.initialized RX2, Cond.code yX2_remember cX2_remember 2 none, Cond.fieldLink RX2 18 "RingGames$History" "count" "I", Cond.fieldLink RX2 11 "RingGames$History" "states" "[LRingGames$State;", Cond.methodLink RX2 22 yX2_dropOldest, Cond.instanceMethod yX2_dropOldest, Cond.selects RX2 yX2_dropOldest yX2_dropOldest, Cond.code yX2_dropOldest cX2_dropOldest 3 none, Cond.methodLink RX2 25 yX4_become, Cond.instanceMethod yX4_become]
def wsX6_start_r2 : List Cond := [Cond.selects RX4 yX4_become yX4_become, Cond.initialized RX4, Cond.code yX4_become cX4_become 2 none, Cond.fieldLink RX4 12 "RingGames$State" "game" "LRingGames$Game;", Cond.fieldLink RX4 18 "RingGames$State" "choices" "[I", Cond.methodLink RX4 30 arraycopyName, Cond.native arraycopyName, Cond.static arraycopyName, Cond.initialized "java/lang/System", Cond.fieldLink RX4 22 "RingGames$State" "tokenAt" "I", Cond.fieldLink RX4 36 "RingGames$State" "tokenSteps" "I", Cond.methodLink RX4 26 yX1_become, Cond.instanceMethod yX1_become, Cond.selects RX1 yX1_become yX1_become, Cond.code yX1_become cX1_become 2 none, Cond.fieldLink RX1 9 "RingGames$Game" "owners" "[I", Cond.methodLink RX1 25 arraycopyName, Cond.fieldLink RX1 15 "RingGames$Game" "colours" "[I", Cond.fieldLink RX1 18 "RingGames$Game" "arrows" "[I", Cond.methodLink RX6 147 yX6_winnerOf, Cond.instanceMethod yX6_winnerOf, Cond.selects RX6 yX6_winnerOf yX6_winnerOf, Cond.initialized RX6, Cond.code yX6_winnerOf cX6_winnerOf 2 (some .int)]
def wsX6_start_r3 : List Cond := [Cond.fieldLink RX6 47 "RingGames" "measures" "LRingGames$Measures;", Cond.methodLink RX6 133 yX6_solveFor, Cond.instanceMethod yX6_solveFor, Cond.selects RX6 yX6_solveFor yX6_solveFor, Cond.code yX6_solveFor cX6_solveFor 2 none, Cond.fieldLink RX6 40 "RingGames" "trial" "LRingGames$Game;", Cond.methodLink RX6 119 yX1_become, Cond.methodLink RX6 130 yX1_exchange, Cond.instanceMethod yX1_exchange, Cond.selects RX1 yX1_exchange yX1_exchange, Cond.code yX1_exchange cX1_exchange 2 none, Cond.methodLink RX6 222 yX3_find, Cond.instanceMethod yX3_find, Cond.selects RX3 yX3_find yX3_find, Cond.initialized RX3, Cond.code yX3_find cX3_find 3 none, Cond.fieldLink RX3 11 "RingGames$Measures" "most" "[I", Cond.fieldLink RX3 18 "RingGames$Game" "size" "I", Cond.fieldLink RX3 15 "RingGames$Measures" "found" "[I", Cond.fieldLink RX3 24 "RingGames$Game" "colours" "[I", Cond.fieldLink RX3 27 "RingGames$Measures" "lastRound" "I", Cond.constant RX3 30 (1000000), Cond.methodLink RX3 31 yX3_raise, Cond.instanceMethod yX3_raise]
def wsX6_start_r4 : List Cond := [Cond.selects RX3 yX3_raise yX3_raise, Cond.code yX3_raise cX3_raise 5 (some .boolean), Cond.methodLink RX3 35 yX3_asked, Cond.instanceMethod yX3_asked, Cond.selects RX3 yX3_asked yX3_asked, Cond.code yX3_asked cX3_asked 7 (some .int), Cond.fieldLink RX3 39 "RingGames$Game" "owners" "[I", Cond.constant RX3 42 (65536), Cond.fieldLink RX3 43 "RingGames$Game" "arrows" "[I", Cond.methodLink RX3 54 Lib.Math.min.name, Cond.static Lib.Math.min.name, Cond.initialized "java/lang/Math", Cond.code Lib.Math.min.name Lib.Math.min.code 2 (some .int), Cond.methodLink RX3 60 Lib.Math.max.name, Cond.static Lib.Math.max.name, Cond.code Lib.Math.max.name Lib.Math.max.code 2 (some .int), Cond.static yX6_contains, Cond.code yX6_contains cX6_contains 2 (some .boolean), Cond.methodLink RX3 50 yX3_wanted, Cond.instanceMethod yX3_wanted, Cond.selects RX3 yX3_wanted yX3_wanted, Cond.code yX3_wanted cX3_wanted 10 (some .int), Cond.methodLink RX6 225 yX3_winner, Cond.instanceMethod yX3_winner]
def wsX6_start_r5 : List Cond := [Cond.selects RX3 yX3_winner yX3_winner, Cond.code yX3_winner cX3_winner 2 (some .int), Cond.methodLink RX3 63 yX3_isLost, Cond.instanceMethod yX3_isLost, Cond.selects RX3 yX3_isLost yX3_isLost, Cond.code yX3_isLost cX3_isLost 2 (some .boolean)]
def wsX6_start : List Cond := .code yX6_start cX6_start 2 (some .int) :: ((wsX6_start_r1 ++ (wsX6_start_r2 ++ (wsX6_start_r3 ++ (wsX6_start_r4 ++ wsX6_start_r5)))) ++ wsX60 ++ wsX40 ++ wsX10 ++ wsX20 ++ wsX30)
def wsX6_wayOn_r1 : List Cond := [Cond.fieldLink RX6 12 "RingGames" "now" "LRingGames$State;", Cond.fieldLink RX6 113 "RingGames$State" "choices" "[I", Cond.fieldLink RX6 47 "RingGames" "measures" "LRingGames$Measures;", Cond.fieldLink RX6 40 "RingGames" "trial" "LRingGames$Game;", Cond.fieldLink RX6 65 "RingGames$State" "game" "LRingGames$Game;", Cond.methodLink RX6 137 yX3_bestArrow, Cond.instanceMethod yX3_bestArrow, Cond.selects RX3 yX3_bestArrow yX3_bestArrow, Cond.initialized RX3, Cond.code yX3_bestArrow cX3_bestArrow 7 (some .int), Cond.constant RX3 42 (65536), Cond.fieldLink RX3 18 "RingGames$Game" "size" "I", Cond.fieldLink RX3 39 "RingGames$Game" "owners" "[I", Cond.methodLink RX3 67 yX1_leads, Cond.instanceMethod yX1_leads, Cond.selects RX1 yX1_leads yX1_leads, Cond.initialized RX1, Cond.code yX1_leads cX1_leads 3 (some .boolean), Cond.fieldLink RX1 18 "RingGames$Game" "arrows" "[I", Cond.methodLink RX1 39 yX1_has, Cond.instanceMethod yX1_has, Cond.selects RX1 yX1_has yX1_has, Cond.code yX1_has cX1_has 2 (some .boolean), Cond.fieldLink RX1 21 "RingGames$Game" "size" "I"]
def wsX6_wayOn_r2 : List Cond := [Cond.static yX6_contains, Cond.initialized RX6, Cond.code yX6_contains cX6_contains 2 (some .boolean), Cond.methodLink RX3 50 yX3_wanted, Cond.instanceMethod yX3_wanted, Cond.selects RX3 yX3_wanted yX3_wanted, Cond.code yX3_wanted cX3_wanted 10 (some .int), Cond.fieldLink RX3 15 "RingGames$Measures" "found" "[I", Cond.fieldLink RX3 24 "RingGames$Game" "colours" "[I", Cond.fieldLink RX3 11 "RingGames$Measures" "most" "[I", Cond.methodLink RX6 255 yX1_lowestArrow, Cond.instanceMethod yX1_lowestArrow, Cond.selects RX1 yX1_lowestArrow yX1_lowestArrow, Cond.code yX1_lowestArrow cX1_lowestArrow 3 (some .int), Cond.methodLink RX1 52 yX1_leads]
def wsX6_wayOn : List Cond := .code yX6_wayOn cX6_wayOn 3 (some .int) :: ((wsX6_wayOn_r1 ++ wsX6_wayOn_r2) ++ wsX60 ++ wsX40 ++ wsX10 ++ wsX30)
def wsX6_findWays_r1 : List Cond := [Cond.fieldLink RX6 12 "RingGames" "now" "LRingGames$State;", Cond.fieldLink RX6 65 "RingGames$State" "game" "LRingGames$Game;", Cond.fieldLink RX6 68 "RingGames$Game" "size" "I", Cond.fieldLink RX6 83 "RingGames$Game" "owners" "[I", Cond.fieldLink RX6 54 "RingGames" "walk" "LRingGames$Walk;", Cond.fieldLink RX6 249 "RingGames$Walk" "ways" "[I", Cond.methodLink RX6 133 yX6_solveFor, Cond.instanceMethod yX6_solveFor, Cond.selects RX6 yX6_solveFor yX6_solveFor, Cond.initialized RX6, Cond.code yX6_solveFor cX6_solveFor 2 none, Cond.fieldLink RX6 40 "RingGames" "trial" "LRingGames$Game;", Cond.fieldLink RX6 47 "RingGames" "measures" "LRingGames$Measures;", Cond.methodLink RX6 119 yX1_become, Cond.instanceMethod yX1_become, Cond.selects RX1 yX1_become yX1_become, Cond.initialized RX1, Cond.code yX1_become cX1_become 2 none, Cond.fieldLink RX1 21 "RingGames$Game" "size" "I", Cond.fieldLink RX1 9 "RingGames$Game" "owners" "[I", Cond.methodLink RX1 25 arraycopyName, Cond.native arraycopyName, Cond.static arraycopyName, Cond.initialized "java/lang/System"]
def wsX6_findWays_r2 : List Cond := [Cond.fieldLink RX1 15 "RingGames$Game" "colours" "[I", Cond.fieldLink RX1 18 "RingGames$Game" "arrows" "[I", Cond.methodLink RX6 130 yX1_exchange, Cond.instanceMethod yX1_exchange, Cond.selects RX1 yX1_exchange yX1_exchange, Cond.code yX1_exchange cX1_exchange 2 none, Cond.methodLink RX6 222 yX3_find, Cond.instanceMethod yX3_find, Cond.selects RX3 yX3_find yX3_find, Cond.initialized RX3, Cond.code yX3_find cX3_find 3 none, Cond.fieldLink RX3 11 "RingGames$Measures" "most" "[I", Cond.fieldLink RX3 18 "RingGames$Game" "size" "I", Cond.fieldLink RX3 15 "RingGames$Measures" "found" "[I", Cond.fieldLink RX3 24 "RingGames$Game" "colours" "[I", Cond.fieldLink RX3 27 "RingGames$Measures" "lastRound" "I", Cond.constant RX3 30 (1000000), Cond.methodLink RX3 31 yX3_raise, Cond.instanceMethod yX3_raise, Cond.selects RX3 yX3_raise yX3_raise, Cond.code yX3_raise cX3_raise 5 (some .boolean), Cond.methodLink RX3 35 yX3_asked, Cond.instanceMethod yX3_asked, Cond.selects RX3 yX3_asked yX3_asked]
def wsX6_findWays_r3 : List Cond := [Cond.code yX3_asked cX3_asked 7 (some .int), Cond.fieldLink RX3 39 "RingGames$Game" "owners" "[I", Cond.constant RX3 42 (65536), Cond.fieldLink RX3 43 "RingGames$Game" "arrows" "[I", Cond.methodLink RX3 54 Lib.Math.min.name, Cond.static Lib.Math.min.name, Cond.initialized "java/lang/Math", Cond.code Lib.Math.min.name Lib.Math.min.code 2 (some .int), Cond.methodLink RX3 60 Lib.Math.max.name, Cond.static Lib.Math.max.name, Cond.code Lib.Math.max.name Lib.Math.max.code 2 (some .int), Cond.static yX6_contains, Cond.code yX6_contains cX6_contains 2 (some .boolean), Cond.methodLink RX3 50 yX3_wanted, Cond.instanceMethod yX3_wanted, Cond.selects RX3 yX3_wanted yX3_wanted, Cond.code yX3_wanted cX3_wanted 10 (some .int), Cond.methodLink RX6 252 yX6_wayOn, Cond.instanceMethod yX6_wayOn, Cond.selects RX6 yX6_wayOn yX6_wayOn, Cond.code yX6_wayOn cX6_wayOn 3 (some .int), Cond.fieldLink RX6 113 "RingGames$State" "choices" "[I", Cond.methodLink RX6 137 yX3_bestArrow, Cond.instanceMethod yX3_bestArrow]
def wsX6_findWays_r4 : List Cond := [Cond.selects RX3 yX3_bestArrow yX3_bestArrow, Cond.code yX3_bestArrow cX3_bestArrow 7 (some .int), Cond.methodLink RX3 67 yX1_leads, Cond.instanceMethod yX1_leads, Cond.selects RX1 yX1_leads yX1_leads, Cond.code yX1_leads cX1_leads 3 (some .boolean), Cond.methodLink RX1 39 yX1_has, Cond.instanceMethod yX1_has, Cond.selects RX1 yX1_has yX1_has, Cond.code yX1_has cX1_has 2 (some .boolean), Cond.methodLink RX6 255 yX1_lowestArrow, Cond.instanceMethod yX1_lowestArrow, Cond.selects RX1 yX1_lowestArrow yX1_lowestArrow, Cond.code yX1_lowestArrow cX1_lowestArrow 3 (some .int), Cond.methodLink RX1 52 yX1_leads]
def wsX6_findWays : List Cond := .code yX6_findWays cX6_findWays 3 none :: ((wsX6_findWays_r1 ++ (wsX6_findWays_r2 ++ (wsX6_findWays_r3 ++ wsX6_findWays_r4))) ++ wsX60 ++ wsX40 ++ wsX10 ++ wsX50 ++ wsX30)
def wsX6_step_r1 : List Cond := [Cond.fieldLink RX6 12 "RingGames" "now" "LRingGames$State;", Cond.fieldLink RX6 65 "RingGames$State" "game" "LRingGames$Game;", Cond.fieldLink RX6 141 "RingGames$State" "tokenAt" "I", Cond.fieldLink RX6 54 "RingGames" "walk" "LRingGames$Walk;", Cond.fieldLink RX6 19 "RingGames" "history" "LRingGames$History;", Cond.fieldLink RX6 144 "RingGames$State" "tokenSteps" "I", Cond.methodLink RX6 80 yX1_has, Cond.instanceMethod yX1_has, Cond.selects RX1 yX1_has yX1_has, Cond.initialized RX1, Cond.code yX1_has cX1_has 2 (some .boolean), Cond.fieldLink RX1 21 "RingGames$Game" "size" "I", Cond.methodLink RX6 150 yX6_findWays, Cond.instanceMethod yX6_findWays, Cond.selects RX6 yX6_findWays yX6_findWays, Cond.initialized RX6, Cond.code yX6_findWays cX6_findWays 3 none, Cond.fieldLink RX6 68 "RingGames$Game" "size" "I", Cond.fieldLink RX6 83 "RingGames$Game" "owners" "[I", Cond.fieldLink RX6 249 "RingGames$Walk" "ways" "[I", Cond.methodLink RX6 133 yX6_solveFor, Cond.instanceMethod yX6_solveFor, Cond.selects RX6 yX6_solveFor yX6_solveFor, Cond.code yX6_solveFor cX6_solveFor 2 none]
def wsX6_step_r2 : List Cond := [Cond.fieldLink RX6 40 "RingGames" "trial" "LRingGames$Game;", Cond.fieldLink RX6 47 "RingGames" "measures" "LRingGames$Measures;", Cond.methodLink RX6 119 yX1_become, Cond.instanceMethod yX1_become, Cond.selects RX1 yX1_become yX1_become, Cond.code yX1_become cX1_become 2 none, Cond.fieldLink RX1 9 "RingGames$Game" "owners" "[I", Cond.methodLink RX1 25 arraycopyName, Cond.native arraycopyName, Cond.static arraycopyName, Cond.initialized "java/lang/System", Cond.fieldLink RX1 15 "RingGames$Game" "colours" "[I", Cond.fieldLink RX1 18 "RingGames$Game" "arrows" "[I", Cond.methodLink RX6 130 yX1_exchange, Cond.instanceMethod yX1_exchange, Cond.selects RX1 yX1_exchange yX1_exchange, Cond.code yX1_exchange cX1_exchange 2 none, Cond.methodLink RX6 222 yX3_find, Cond.instanceMethod yX3_find, Cond.selects RX3 yX3_find yX3_find, Cond.initialized RX3, Cond.code yX3_find cX3_find 3 none, Cond.fieldLink RX3 11 "RingGames$Measures" "most" "[I", Cond.fieldLink RX3 18 "RingGames$Game" "size" "I"]
def wsX6_step_r3 : List Cond := [Cond.fieldLink RX3 15 "RingGames$Measures" "found" "[I", Cond.fieldLink RX3 24 "RingGames$Game" "colours" "[I", Cond.fieldLink RX3 27 "RingGames$Measures" "lastRound" "I", Cond.constant RX3 30 (1000000), Cond.methodLink RX3 31 yX3_raise, Cond.instanceMethod yX3_raise, Cond.selects RX3 yX3_raise yX3_raise, Cond.code yX3_raise cX3_raise 5 (some .boolean), Cond.methodLink RX3 35 yX3_asked, Cond.instanceMethod yX3_asked, Cond.selects RX3 yX3_asked yX3_asked, Cond.code yX3_asked cX3_asked 7 (some .int), Cond.fieldLink RX3 39 "RingGames$Game" "owners" "[I", Cond.constant RX3 42 (65536), Cond.fieldLink RX3 43 "RingGames$Game" "arrows" "[I", Cond.methodLink RX3 54 Lib.Math.min.name, Cond.static Lib.Math.min.name, Cond.initialized "java/lang/Math", Cond.code Lib.Math.min.name Lib.Math.min.code 2 (some .int), Cond.methodLink RX3 60 Lib.Math.max.name, Cond.static Lib.Math.max.name, Cond.code Lib.Math.max.name Lib.Math.max.code 2 (some .int), Cond.static yX6_contains, Cond.code yX6_contains cX6_contains 2 (some .boolean)]
def wsX6_step_r4 : List Cond := [Cond.methodLink RX3 50 yX3_wanted, Cond.instanceMethod yX3_wanted, Cond.selects RX3 yX3_wanted yX3_wanted, Cond.code yX3_wanted cX3_wanted 10 (some .int), Cond.methodLink RX6 252 yX6_wayOn, Cond.instanceMethod yX6_wayOn, Cond.selects RX6 yX6_wayOn yX6_wayOn, Cond.code yX6_wayOn cX6_wayOn 3 (some .int), Cond.fieldLink RX6 113 "RingGames$State" "choices" "[I", Cond.methodLink RX6 137 yX3_bestArrow, Cond.instanceMethod yX3_bestArrow, Cond.selects RX3 yX3_bestArrow yX3_bestArrow, Cond.code yX3_bestArrow cX3_bestArrow 7 (some .int), Cond.methodLink RX3 67 yX1_leads, Cond.instanceMethod yX1_leads, Cond.selects RX1 yX1_leads yX1_leads, Cond.code yX1_leads cX1_leads 3 (some .boolean), Cond.methodLink RX1 39 yX1_has, Cond.methodLink RX6 255 yX1_lowestArrow, Cond.instanceMethod yX1_lowestArrow, Cond.selects RX1 yX1_lowestArrow yX1_lowestArrow, Cond.code yX1_lowestArrow cX1_lowestArrow 3 (some .int), Cond.methodLink RX1 52 yX1_leads, Cond.methodLink RX6 153 yX5_wayFrom]
def wsX6_step_r5 : List Cond := [Cond.instanceMethod yX5_wayFrom, Cond.selects RX5 yX5_wayFrom yX5_wayFrom, Cond.initialized RX5, Cond.code yX5_wayFrom cX5_wayFrom 2 (some .int), Cond.fieldLink RX5 9 "RingGames$Walk" "ways" "[I", Cond.methodLink RX6 72 yX2_remember, Cond.instanceMethod yX2_remember, Cond.selects RX2 yX2_remember yX2_remember, Cond.initialized RX2, Cond.code yX2_remember cX2_remember 2 none, Cond.fieldLink RX2 18 "RingGames$History" "count" "I", Cond.fieldLink RX2 11 "RingGames$History" "states" "[LRingGames$State;", Cond.methodLink RX2 22 yX2_dropOldest, Cond.instanceMethod yX2_dropOldest, Cond.selects RX2 yX2_dropOldest yX2_dropOldest, Cond.code yX2_dropOldest cX2_dropOldest 3 none, Cond.methodLink RX2 25 yX4_become, Cond.instanceMethod yX4_become, Cond.selects RX4 yX4_become yX4_become, Cond.initialized RX4, Cond.code yX4_become cX4_become 2 none, Cond.fieldLink RX4 12 "RingGames$State" "game" "LRingGames$Game;", Cond.fieldLink RX4 18 "RingGames$State" "choices" "[I", Cond.methodLink RX4 30 arraycopyName]
def wsX6_step_r6 : List Cond := [Cond.fieldLink RX4 22 "RingGames$State" "tokenAt" "I", Cond.fieldLink RX4 36 "RingGames$State" "tokenSteps" "I", Cond.methodLink RX4 26 yX1_become]
def wsX6_step : List Cond := .code yX6_step cX6_step 3 (some .int) :: ((wsX6_step_r1 ++ (wsX6_step_r2 ++ (wsX6_step_r3 ++ (wsX6_step_r4 ++ (wsX6_step_r5 ++ wsX6_step_r6))))) ++ wsX60 ++ wsX40 ++ wsX10 ++ wsX50 ++ wsX30 ++ wsX20)
def wsX6_type : List Cond := .code yX6_type cX6_type 2 (some .int) :: ([.fieldLink RX6 33 "RingGames" "text" "LRingGames$ArrowText;", .fieldLink RX6 159 "RingGames$ArrowText" "length" "I", .methodLink RX6 156 yX0_append, .instanceMethod yX0_append, .selects RX0 yX0_append yX0_append, .initialized RX0, .code yX0_append cX0_append 2 (some .boolean), .fieldLink RX0 15 "RingGames$ArrowText" "length" "I", .fieldLink RX0 9 "RingGames$ArrowText" "signs" "[C"] ++ wsX60 ++ wsX00)
def wsX6_clearText : List Cond := .code yX6_clearText cX6_clearText 2 (some .int) :: ([.fieldLink RX6 33 "RingGames" "text" "LRingGames$ArrowText;", .fieldLink RX6 159 "RingGames$ArrowText" "length" "I"] ++ wsX60 ++ wsX00)
def wsX6_undo_r1 : List Cond := [Cond.fieldLink RX6 19 "RingGames" "history" "LRingGames$History;", Cond.fieldLink RX6 12 "RingGames" "now" "LRingGames$State;", Cond.fieldLink RX6 166 "RingGames$History" "count" "I", Cond.methodLink RX6 162 yX2_takeInto, Cond.instanceMethod yX2_takeInto, Cond.selects RX2 yX2_takeInto yX2_takeInto, Cond.initialized RX2, Cond.code yX2_takeInto cX2_takeInto 2 (some .boolean), Cond.fieldLink RX2 18 "RingGames$History" "count" "I", Cond.fieldLink RX2 11 "RingGames$History" "states" "[LRingGames$State;", Cond.methodLink RX2 25 yX4_become, Cond.instanceMethod yX4_become, Cond.selects RX4 yX4_become yX4_become, Cond.initialized RX4, Cond.code yX4_become cX4_become 2 none, Cond.fieldLink RX4 12 "RingGames$State" "game" "LRingGames$Game;", Cond.fieldLink RX4 18 "RingGames$State" "choices" "[I", Cond.methodLink RX4 30 arraycopyName, Cond.native arraycopyName, Cond.static arraycopyName, Cond.initialized "java/lang/System", Cond.fieldLink RX4 22 "RingGames$State" "tokenAt" "I", Cond.fieldLink RX4 36 "RingGames$State" "tokenSteps" "I", Cond.methodLink RX4 26 yX1_become]
def wsX6_undo_r2 : List Cond := [Cond.instanceMethod yX1_become, Cond.selects RX1 yX1_become yX1_become, Cond.initialized RX1, Cond.code yX1_become cX1_become 2 none, Cond.fieldLink RX1 21 "RingGames$Game" "size" "I", Cond.fieldLink RX1 9 "RingGames$Game" "owners" "[I", Cond.methodLink RX1 25 arraycopyName, Cond.fieldLink RX1 15 "RingGames$Game" "colours" "[I", Cond.fieldLink RX1 18 "RingGames$Game" "arrows" "[I"]
def wsX6_undo : List Cond := .code yX6_undo cX6_undo 1 (some .int) :: ((wsX6_undo_r1 ++ wsX6_undo_r2) ++ wsX60 ++ wsX20 ++ wsX40 ++ wsX10)
def wsX6_keep_r1 : List Cond := [Cond.fieldLink RX6 23 "RingGames" "snapshot" "LRingGames$State;", Cond.fieldLink RX6 12 "RingGames" "now" "LRingGames$State;", Cond.fieldLink RX6 26 "RingGames" "hasSnapshot" "Z", Cond.fieldLink RX6 65 "RingGames$State" "game" "LRingGames$Game;", Cond.fieldLink RX6 68 "RingGames$Game" "size" "I", Cond.methodLink RX6 169 yX4_become, Cond.instanceMethod yX4_become, Cond.selects RX4 yX4_become yX4_become, Cond.initialized RX4, Cond.code yX4_become cX4_become 2 none, Cond.fieldLink RX4 12 "RingGames$State" "game" "LRingGames$Game;", Cond.fieldLink RX4 18 "RingGames$State" "choices" "[I", Cond.methodLink RX4 30 arraycopyName, Cond.native arraycopyName, Cond.static arraycopyName, Cond.initialized "java/lang/System", Cond.fieldLink RX4 22 "RingGames$State" "tokenAt" "I", Cond.fieldLink RX4 36 "RingGames$State" "tokenSteps" "I", Cond.methodLink RX4 26 yX1_become, Cond.instanceMethod yX1_become, Cond.selects RX1 yX1_become yX1_become, Cond.initialized RX1, Cond.code yX1_become cX1_become 2 none, Cond.fieldLink RX1 21 "RingGames$Game" "size" "I"]
def wsX6_keep_r2 : List Cond := [Cond.fieldLink RX1 9 "RingGames$Game" "owners" "[I", Cond.methodLink RX1 25 arraycopyName, Cond.fieldLink RX1 15 "RingGames$Game" "colours" "[I", Cond.fieldLink RX1 18 "RingGames$Game" "arrows" "[I"]
def wsX6_keep : List Cond := .code yX6_keep cX6_keep 1 (some .int) :: ((wsX6_keep_r1 ++ wsX6_keep_r2) ++ wsX60 ++ wsX40 ++ wsX10)
def wsX6_restore_r1 : List Cond := [Cond.fieldLink RX6 26 "RingGames" "hasSnapshot" "Z", Cond.fieldLink RX6 19 "RingGames" "history" "LRingGames$History;", Cond.fieldLink RX6 12 "RingGames" "now" "LRingGames$State;", Cond.fieldLink RX6 23 "RingGames" "snapshot" "LRingGames$State;", Cond.fieldLink RX6 65 "RingGames$State" "game" "LRingGames$Game;", Cond.fieldLink RX6 68 "RingGames$Game" "size" "I", Cond.methodLink RX6 72 yX2_remember, Cond.instanceMethod yX2_remember, Cond.selects RX2 yX2_remember yX2_remember, Cond.initialized RX2, Cond.code yX2_remember cX2_remember 2 none, Cond.fieldLink RX2 18 "RingGames$History" "count" "I", Cond.fieldLink RX2 11 "RingGames$History" "states" "[LRingGames$State;", Cond.methodLink RX2 22 yX2_dropOldest, Cond.instanceMethod yX2_dropOldest, Cond.selects RX2 yX2_dropOldest yX2_dropOldest, Cond.code yX2_dropOldest cX2_dropOldest 3 none, Cond.methodLink RX2 25 yX4_become, Cond.instanceMethod yX4_become, Cond.selects RX4 yX4_become yX4_become, Cond.initialized RX4, Cond.code yX4_become cX4_become 2 none, Cond.fieldLink RX4 12 "RingGames$State" "game" "LRingGames$Game;", Cond.fieldLink RX4 18 "RingGames$State" "choices" "[I"]
def wsX6_restore_r2 : List Cond := [Cond.methodLink RX4 30 arraycopyName, Cond.native arraycopyName, Cond.static arraycopyName, Cond.initialized "java/lang/System", Cond.fieldLink RX4 22 "RingGames$State" "tokenAt" "I", Cond.fieldLink RX4 36 "RingGames$State" "tokenSteps" "I", Cond.methodLink RX4 26 yX1_become, Cond.instanceMethod yX1_become, Cond.selects RX1 yX1_become yX1_become, Cond.initialized RX1, Cond.code yX1_become cX1_become 2 none, Cond.fieldLink RX1 21 "RingGames$Game" "size" "I", Cond.fieldLink RX1 9 "RingGames$Game" "owners" "[I", Cond.methodLink RX1 25 arraycopyName, Cond.fieldLink RX1 15 "RingGames$Game" "colours" "[I", Cond.fieldLink RX1 18 "RingGames$Game" "arrows" "[I", Cond.methodLink RX6 169 yX4_become]
def wsX6_restore : List Cond := .code yX6_restore cX6_restore 1 (some .int) :: ((wsX6_restore_r1 ++ wsX6_restore_r2) ++ wsX60 ++ wsX40 ++ wsX10 ++ wsX20)
def wsX6_placeOrNone : List Cond := .code yX6_placeOrNone cX6_placeOrNone 1 (some .int) :: ([])
def wsX6_place_r1 : List Cond := [Cond.fieldLink RX6 12 "RingGames" "now" "LRingGames$State;", Cond.fieldLink RX6 65 "RingGames$State" "game" "LRingGames$Game;", Cond.fieldLink RX6 83 "RingGames$Game" "owners" "[I", Cond.fieldLink RX6 91 "RingGames$Game" "colours" "[I", Cond.fieldLink RX6 102 "RingGames$Game" "arrows" "[I", Cond.fieldLink RX6 113 "RingGames$State" "choices" "[I", Cond.methodLink RX6 80 yX1_has, Cond.instanceMethod yX1_has, Cond.selects RX1 yX1_has yX1_has, Cond.initialized RX1, Cond.code yX1_has cX1_has 2 (some .boolean), Cond.fieldLink RX1 21 "RingGames$Game" "size" "I", Cond.methodLink RX6 105 yX6_bit, Cond.static yX6_bit, Cond.initialized RX6, Cond.code yX6_bit cX6_bit 1 (some .int), Cond.methodLink RX6 171 yX1_sources, Cond.instanceMethod yX1_sources, Cond.selects RX1 yX1_sources yX1_sources, Cond.code yX1_sources cX1_sources 4 (some .int), Cond.fieldLink RX1 18 "RingGames$Game" "arrows" "[I", Cond.methodLink RX6 147 yX6_winnerOf, Cond.instanceMethod yX6_winnerOf, Cond.selects RX6 yX6_winnerOf yX6_winnerOf]
def wsX6_place_r2 : List Cond := [Cond.code yX6_winnerOf cX6_winnerOf 2 (some .int), Cond.fieldLink RX6 47 "RingGames" "measures" "LRingGames$Measures;", Cond.methodLink RX6 133 yX6_solveFor, Cond.instanceMethod yX6_solveFor, Cond.selects RX6 yX6_solveFor yX6_solveFor, Cond.code yX6_solveFor cX6_solveFor 2 none, Cond.fieldLink RX6 40 "RingGames" "trial" "LRingGames$Game;", Cond.methodLink RX6 119 yX1_become, Cond.instanceMethod yX1_become, Cond.selects RX1 yX1_become yX1_become, Cond.code yX1_become cX1_become 2 none, Cond.fieldLink RX1 9 "RingGames$Game" "owners" "[I", Cond.methodLink RX1 25 arraycopyName, Cond.native arraycopyName, Cond.static arraycopyName, Cond.initialized "java/lang/System", Cond.fieldLink RX1 15 "RingGames$Game" "colours" "[I", Cond.methodLink RX6 130 yX1_exchange, Cond.instanceMethod yX1_exchange, Cond.selects RX1 yX1_exchange yX1_exchange, Cond.code yX1_exchange cX1_exchange 2 none, Cond.methodLink RX6 222 yX3_find, Cond.instanceMethod yX3_find, Cond.selects RX3 yX3_find yX3_find]
def wsX6_place_r3 : List Cond := [Cond.initialized RX3, Cond.code yX3_find cX3_find 3 none, Cond.fieldLink RX3 11 "RingGames$Measures" "most" "[I", Cond.fieldLink RX3 18 "RingGames$Game" "size" "I", Cond.fieldLink RX3 15 "RingGames$Measures" "found" "[I", Cond.fieldLink RX3 24 "RingGames$Game" "colours" "[I", Cond.fieldLink RX3 27 "RingGames$Measures" "lastRound" "I", Cond.constant RX3 30 (1000000), Cond.methodLink RX3 31 yX3_raise, Cond.instanceMethod yX3_raise, Cond.selects RX3 yX3_raise yX3_raise, Cond.code yX3_raise cX3_raise 5 (some .boolean), Cond.methodLink RX3 35 yX3_asked, Cond.instanceMethod yX3_asked, Cond.selects RX3 yX3_asked yX3_asked, Cond.code yX3_asked cX3_asked 7 (some .int), Cond.fieldLink RX3 39 "RingGames$Game" "owners" "[I", Cond.constant RX3 42 (65536), Cond.fieldLink RX3 43 "RingGames$Game" "arrows" "[I", Cond.methodLink RX3 54 Lib.Math.min.name, Cond.static Lib.Math.min.name, Cond.initialized "java/lang/Math", Cond.code Lib.Math.min.name Lib.Math.min.code 2 (some .int), Cond.methodLink RX3 60 Lib.Math.max.name]
def wsX6_place_r4 : List Cond := [Cond.static Lib.Math.max.name, Cond.code Lib.Math.max.name Lib.Math.max.code 2 (some .int), Cond.static yX6_contains, Cond.code yX6_contains cX6_contains 2 (some .boolean), Cond.methodLink RX3 50 yX3_wanted, Cond.instanceMethod yX3_wanted, Cond.selects RX3 yX3_wanted yX3_wanted, Cond.code yX3_wanted cX3_wanted 10 (some .int), Cond.methodLink RX6 225 yX3_winner, Cond.instanceMethod yX3_winner, Cond.selects RX3 yX3_winner yX3_winner, Cond.code yX3_winner cX3_winner 2 (some .int), Cond.methodLink RX3 63 yX3_isLost, Cond.instanceMethod yX3_isLost, Cond.selects RX3 yX3_isLost yX3_isLost, Cond.code yX3_isLost cX3_isLost 2 (some .boolean), Cond.methodLink RX6 174 yX6_placeOrNone, Cond.static yX6_placeOrNone, Cond.code yX6_placeOrNone cX6_placeOrNone 1 (some .int)]
def wsX6_place : List Cond := .code yX6_place cX6_place 3 (some .int) :: ((wsX6_place_r1 ++ (wsX6_place_r2 ++ (wsX6_place_r3 ++ wsX6_place_r4))) ++ wsX60 ++ wsX40 ++ wsX10 ++ wsX30)
def wsX6_wins_r1 : List Cond := [Cond.methodLink RX6 58 yX6_isPlayer, Cond.static yX6_isPlayer, Cond.initialized RX6, Cond.code yX6_isPlayer cX6_isPlayer 1 (some .boolean), Cond.methodLink RX6 87 yX6_wonBy, Cond.instanceMethod yX6_wonBy, Cond.selects RX6 yX6_wonBy yX6_wonBy, Cond.code yX6_wonBy cX6_wonBy 4 (some .int), Cond.fieldLink RX6 12 "RingGames" "now" "LRingGames$State;", Cond.fieldLink RX6 65 "RingGames$State" "game" "LRingGames$Game;", Cond.fieldLink RX6 68 "RingGames$Game" "size" "I", Cond.fieldLink RX6 47 "RingGames" "measures" "LRingGames$Measures;", Cond.methodLink RX6 133 yX6_solveFor, Cond.instanceMethod yX6_solveFor, Cond.selects RX6 yX6_solveFor yX6_solveFor, Cond.code yX6_solveFor cX6_solveFor 2 none, Cond.fieldLink RX6 40 "RingGames" "trial" "LRingGames$Game;", Cond.methodLink RX6 119 yX1_become, Cond.instanceMethod yX1_become, Cond.selects RX1 yX1_become yX1_become, Cond.initialized RX1, Cond.code yX1_become cX1_become 2 none, Cond.fieldLink RX1 21 "RingGames$Game" "size" "I", Cond.fieldLink RX1 9 "RingGames$Game" "owners" "[I"]
def wsX6_wins_r2 : List Cond := [Cond.methodLink RX1 25 arraycopyName, Cond.native arraycopyName, Cond.static arraycopyName, Cond.initialized "java/lang/System", Cond.fieldLink RX1 15 "RingGames$Game" "colours" "[I", Cond.fieldLink RX1 18 "RingGames$Game" "arrows" "[I", Cond.methodLink RX6 130 yX1_exchange, Cond.instanceMethod yX1_exchange, Cond.selects RX1 yX1_exchange yX1_exchange, Cond.code yX1_exchange cX1_exchange 2 none, Cond.methodLink RX6 222 yX3_find, Cond.instanceMethod yX3_find, Cond.selects RX3 yX3_find yX3_find, Cond.initialized RX3, Cond.code yX3_find cX3_find 3 none, Cond.fieldLink RX3 11 "RingGames$Measures" "most" "[I", Cond.fieldLink RX3 18 "RingGames$Game" "size" "I", Cond.fieldLink RX3 15 "RingGames$Measures" "found" "[I", Cond.fieldLink RX3 24 "RingGames$Game" "colours" "[I", Cond.fieldLink RX3 27 "RingGames$Measures" "lastRound" "I", Cond.constant RX3 30 (1000000), Cond.methodLink RX3 31 yX3_raise, Cond.instanceMethod yX3_raise, Cond.selects RX3 yX3_raise yX3_raise]
def wsX6_wins_r3 : List Cond := [Cond.code yX3_raise cX3_raise 5 (some .boolean), Cond.methodLink RX3 35 yX3_asked, Cond.instanceMethod yX3_asked, Cond.selects RX3 yX3_asked yX3_asked, Cond.code yX3_asked cX3_asked 7 (some .int), Cond.fieldLink RX3 39 "RingGames$Game" "owners" "[I", Cond.constant RX3 42 (65536), Cond.fieldLink RX3 43 "RingGames$Game" "arrows" "[I", Cond.methodLink RX3 54 Lib.Math.min.name, Cond.static Lib.Math.min.name, Cond.initialized "java/lang/Math", Cond.code Lib.Math.min.name Lib.Math.min.code 2 (some .int), Cond.methodLink RX3 60 Lib.Math.max.name, Cond.static Lib.Math.max.name, Cond.code Lib.Math.max.name Lib.Math.max.code 2 (some .int), Cond.static yX6_contains, Cond.code yX6_contains cX6_contains 2 (some .boolean), Cond.methodLink RX3 50 yX3_wanted, Cond.instanceMethod yX3_wanted, Cond.selects RX3 yX3_wanted yX3_wanted, Cond.code yX3_wanted cX3_wanted 10 (some .int), Cond.methodLink RX6 177 yX3_isLost, Cond.instanceMethod yX3_isLost, Cond.selects RX3 yX3_isLost yX3_isLost]
def wsX6_wins_r4 : List Cond := [Cond.code yX3_isLost cX3_isLost 2 (some .boolean), Cond.methodLink RX6 105 yX6_bit, Cond.static yX6_bit, Cond.code yX6_bit cX6_bit 1 (some .int)]
def wsX6_wins : List Cond := .code yX6_wins cX6_wins 2 (some .int) :: ((wsX6_wins_r1 ++ (wsX6_wins_r2 ++ (wsX6_wins_r3 ++ wsX6_wins_r4))) ++ wsX60 ++ wsX40 ++ wsX10 ++ wsX30)
def wsX6_winningChoice_r1 : List Cond := [Cond.fieldLink RX6 12 "RingGames" "now" "LRingGames$State;", Cond.fieldLink RX6 65 "RingGames$State" "game" "LRingGames$Game;", Cond.fieldLink RX6 83 "RingGames$Game" "owners" "[I", Cond.fieldLink RX6 47 "RingGames" "measures" "LRingGames$Measures;", Cond.fieldLink RX6 40 "RingGames" "trial" "LRingGames$Game;", Cond.methodLink RX6 80 yX1_has, Cond.instanceMethod yX1_has, Cond.selects RX1 yX1_has yX1_has, Cond.initialized RX1, Cond.code yX1_has cX1_has 2 (some .boolean), Cond.fieldLink RX1 21 "RingGames$Game" "size" "I", Cond.methodLink RX6 133 yX6_solveFor, Cond.instanceMethod yX6_solveFor, Cond.selects RX6 yX6_solveFor yX6_solveFor, Cond.initialized RX6, Cond.code yX6_solveFor cX6_solveFor 2 none, Cond.methodLink RX6 119 yX1_become, Cond.instanceMethod yX1_become, Cond.selects RX1 yX1_become yX1_become, Cond.code yX1_become cX1_become 2 none, Cond.fieldLink RX1 9 "RingGames$Game" "owners" "[I", Cond.methodLink RX1 25 arraycopyName, Cond.native arraycopyName, Cond.static arraycopyName]
def wsX6_winningChoice_r2 : List Cond := [Cond.initialized "java/lang/System", Cond.fieldLink RX1 15 "RingGames$Game" "colours" "[I", Cond.fieldLink RX1 18 "RingGames$Game" "arrows" "[I", Cond.methodLink RX6 130 yX1_exchange, Cond.instanceMethod yX1_exchange, Cond.selects RX1 yX1_exchange yX1_exchange, Cond.code yX1_exchange cX1_exchange 2 none, Cond.methodLink RX6 222 yX3_find, Cond.instanceMethod yX3_find, Cond.selects RX3 yX3_find yX3_find, Cond.initialized RX3, Cond.code yX3_find cX3_find 3 none, Cond.fieldLink RX3 11 "RingGames$Measures" "most" "[I", Cond.fieldLink RX3 18 "RingGames$Game" "size" "I", Cond.fieldLink RX3 15 "RingGames$Measures" "found" "[I", Cond.fieldLink RX3 24 "RingGames$Game" "colours" "[I", Cond.fieldLink RX3 27 "RingGames$Measures" "lastRound" "I", Cond.constant RX3 30 (1000000), Cond.methodLink RX3 31 yX3_raise, Cond.instanceMethod yX3_raise, Cond.selects RX3 yX3_raise yX3_raise, Cond.code yX3_raise cX3_raise 5 (some .boolean), Cond.methodLink RX3 35 yX3_asked, Cond.instanceMethod yX3_asked]
def wsX6_winningChoice_r3 : List Cond := [Cond.selects RX3 yX3_asked yX3_asked, Cond.code yX3_asked cX3_asked 7 (some .int), Cond.fieldLink RX3 39 "RingGames$Game" "owners" "[I", Cond.constant RX3 42 (65536), Cond.fieldLink RX3 43 "RingGames$Game" "arrows" "[I", Cond.methodLink RX3 54 Lib.Math.min.name, Cond.static Lib.Math.min.name, Cond.initialized "java/lang/Math", Cond.code Lib.Math.min.name Lib.Math.min.code 2 (some .int), Cond.methodLink RX3 60 Lib.Math.max.name, Cond.static Lib.Math.max.name, Cond.code Lib.Math.max.name Lib.Math.max.code 2 (some .int), Cond.static yX6_contains, Cond.code yX6_contains cX6_contains 2 (some .boolean), Cond.methodLink RX3 50 yX3_wanted, Cond.instanceMethod yX3_wanted, Cond.selects RX3 yX3_wanted yX3_wanted, Cond.code yX3_wanted cX3_wanted 10 (some .int), Cond.methodLink RX6 137 yX3_bestArrow, Cond.instanceMethod yX3_bestArrow, Cond.selects RX3 yX3_bestArrow yX3_bestArrow, Cond.code yX3_bestArrow cX3_bestArrow 7 (some .int), Cond.methodLink RX3 67 yX1_leads, Cond.instanceMethod yX1_leads]
def wsX6_winningChoice_r4 : List Cond := [Cond.selects RX1 yX1_leads yX1_leads, Cond.code yX1_leads cX1_leads 3 (some .boolean), Cond.methodLink RX1 39 yX1_has, Cond.methodLink RX6 174 yX6_placeOrNone, Cond.static yX6_placeOrNone, Cond.code yX6_placeOrNone cX6_placeOrNone 1 (some .int)]
def wsX6_winningChoice : List Cond := .code yX6_winningChoice cX6_winningChoice 2 (some .int) :: ((wsX6_winningChoice_r1 ++ (wsX6_winningChoice_r2 ++ (wsX6_winningChoice_r3 ++ wsX6_winningChoice_r4))) ++ wsX60 ++ wsX40 ++ wsX10 ++ wsX30)
def wsX6_measure_r1 : List Cond := [Cond.fieldLink RX6 12 "RingGames" "now" "LRingGames$State;", Cond.fieldLink RX6 65 "RingGames$State" "game" "LRingGames$Game;", Cond.fieldLink RX6 47 "RingGames" "measures" "LRingGames$Measures;", Cond.methodLink RX6 58 yX6_isPlayer, Cond.static yX6_isPlayer, Cond.initialized RX6, Cond.code yX6_isPlayer cX6_isPlayer 1 (some .boolean), Cond.methodLink RX6 80 yX1_has, Cond.instanceMethod yX1_has, Cond.selects RX1 yX1_has yX1_has, Cond.initialized RX1, Cond.code yX1_has cX1_has 2 (some .boolean), Cond.fieldLink RX1 21 "RingGames$Game" "size" "I", Cond.methodLink RX6 62 yX6_isColour, Cond.static yX6_isColour, Cond.code yX6_isColour cX6_isColour 1 (some .boolean), Cond.methodLink RX6 133 yX6_solveFor, Cond.instanceMethod yX6_solveFor, Cond.selects RX6 yX6_solveFor yX6_solveFor, Cond.code yX6_solveFor cX6_solveFor 2 none, Cond.fieldLink RX6 40 "RingGames" "trial" "LRingGames$Game;", Cond.methodLink RX6 119 yX1_become, Cond.instanceMethod yX1_become, Cond.selects RX1 yX1_become yX1_become]
def wsX6_measure_r2 : List Cond := [Cond.code yX1_become cX1_become 2 none, Cond.fieldLink RX1 9 "RingGames$Game" "owners" "[I", Cond.methodLink RX1 25 arraycopyName, Cond.native arraycopyName, Cond.static arraycopyName, Cond.initialized "java/lang/System", Cond.fieldLink RX1 15 "RingGames$Game" "colours" "[I", Cond.fieldLink RX1 18 "RingGames$Game" "arrows" "[I", Cond.methodLink RX6 130 yX1_exchange, Cond.instanceMethod yX1_exchange, Cond.selects RX1 yX1_exchange yX1_exchange, Cond.code yX1_exchange cX1_exchange 2 none, Cond.methodLink RX6 222 yX3_find, Cond.instanceMethod yX3_find, Cond.selects RX3 yX3_find yX3_find, Cond.initialized RX3, Cond.code yX3_find cX3_find 3 none, Cond.fieldLink RX3 11 "RingGames$Measures" "most" "[I", Cond.fieldLink RX3 18 "RingGames$Game" "size" "I", Cond.fieldLink RX3 15 "RingGames$Measures" "found" "[I", Cond.fieldLink RX3 24 "RingGames$Game" "colours" "[I", Cond.fieldLink RX3 27 "RingGames$Measures" "lastRound" "I", Cond.constant RX3 30 (1000000), Cond.methodLink RX3 31 yX3_raise]
def wsX6_measure_r3 : List Cond := [Cond.instanceMethod yX3_raise, Cond.selects RX3 yX3_raise yX3_raise, Cond.code yX3_raise cX3_raise 5 (some .boolean), Cond.methodLink RX3 35 yX3_asked, Cond.instanceMethod yX3_asked, Cond.selects RX3 yX3_asked yX3_asked, Cond.code yX3_asked cX3_asked 7 (some .int), Cond.fieldLink RX3 39 "RingGames$Game" "owners" "[I", Cond.constant RX3 42 (65536), Cond.fieldLink RX3 43 "RingGames$Game" "arrows" "[I", Cond.methodLink RX3 54 Lib.Math.min.name, Cond.static Lib.Math.min.name, Cond.initialized "java/lang/Math", Cond.code Lib.Math.min.name Lib.Math.min.code 2 (some .int), Cond.methodLink RX3 60 Lib.Math.max.name, Cond.static Lib.Math.max.name, Cond.code Lib.Math.max.name Lib.Math.max.code 2 (some .int), Cond.static yX6_contains, Cond.code yX6_contains cX6_contains 2 (some .boolean), Cond.methodLink RX3 50 yX3_wanted, Cond.instanceMethod yX3_wanted, Cond.selects RX3 yX3_wanted yX3_wanted, Cond.code yX3_wanted cX3_wanted 10 (some .int), Cond.methodLink RX6 177 yX3_isLost]
def wsX6_measure_r4 : List Cond := [Cond.instanceMethod yX3_isLost, Cond.selects RX3 yX3_isLost yX3_isLost, Cond.code yX3_isLost cX3_isLost 2 (some .boolean), Cond.methodLink RX6 180 yX3_number, Cond.instanceMethod yX3_number, Cond.selects RX3 yX3_number yX3_number, Cond.code yX3_number cX3_number 3 (some .int)]
def wsX6_measure : List Cond := .code yX6_measure cX6_measure 4 (some .int) :: ((wsX6_measure_r1 ++ (wsX6_measure_r2 ++ (wsX6_measure_r3 ++ wsX6_measure_r4))) ++ wsX60 ++ wsX40 ++ wsX10 ++ wsX30)
def wsX6_rounds_r1 : List Cond := [Cond.fieldLink RX6 47 "RingGames" "measures" "LRingGames$Measures;", Cond.fieldLink RX6 183 "RingGames$Measures" "lastRound" "I", Cond.methodLink RX6 58 yX6_isPlayer, Cond.static yX6_isPlayer, Cond.initialized RX6, Cond.code yX6_isPlayer cX6_isPlayer 1 (some .boolean), Cond.methodLink RX6 133 yX6_solveFor, Cond.instanceMethod yX6_solveFor, Cond.selects RX6 yX6_solveFor yX6_solveFor, Cond.code yX6_solveFor cX6_solveFor 2 none, Cond.fieldLink RX6 40 "RingGames" "trial" "LRingGames$Game;", Cond.fieldLink RX6 12 "RingGames" "now" "LRingGames$State;", Cond.fieldLink RX6 65 "RingGames$State" "game" "LRingGames$Game;", Cond.methodLink RX6 119 yX1_become, Cond.instanceMethod yX1_become, Cond.selects RX1 yX1_become yX1_become, Cond.initialized RX1, Cond.code yX1_become cX1_become 2 none, Cond.fieldLink RX1 21 "RingGames$Game" "size" "I", Cond.fieldLink RX1 9 "RingGames$Game" "owners" "[I", Cond.methodLink RX1 25 arraycopyName, Cond.native arraycopyName, Cond.static arraycopyName, Cond.initialized "java/lang/System"]
def wsX6_rounds_r2 : List Cond := [Cond.fieldLink RX1 15 "RingGames$Game" "colours" "[I", Cond.fieldLink RX1 18 "RingGames$Game" "arrows" "[I", Cond.methodLink RX6 130 yX1_exchange, Cond.instanceMethod yX1_exchange, Cond.selects RX1 yX1_exchange yX1_exchange, Cond.code yX1_exchange cX1_exchange 2 none, Cond.methodLink RX6 222 yX3_find, Cond.instanceMethod yX3_find, Cond.selects RX3 yX3_find yX3_find, Cond.initialized RX3, Cond.code yX3_find cX3_find 3 none, Cond.fieldLink RX3 11 "RingGames$Measures" "most" "[I", Cond.fieldLink RX3 18 "RingGames$Game" "size" "I", Cond.fieldLink RX3 15 "RingGames$Measures" "found" "[I", Cond.fieldLink RX3 24 "RingGames$Game" "colours" "[I", Cond.fieldLink RX3 27 "RingGames$Measures" "lastRound" "I", Cond.constant RX3 30 (1000000), Cond.methodLink RX3 31 yX3_raise, Cond.instanceMethod yX3_raise, Cond.selects RX3 yX3_raise yX3_raise, Cond.code yX3_raise cX3_raise 5 (some .boolean), Cond.methodLink RX3 35 yX3_asked, Cond.instanceMethod yX3_asked, Cond.selects RX3 yX3_asked yX3_asked]
def wsX6_rounds_r3 : List Cond := [Cond.code yX3_asked cX3_asked 7 (some .int), Cond.fieldLink RX3 39 "RingGames$Game" "owners" "[I", Cond.constant RX3 42 (65536), Cond.fieldLink RX3 43 "RingGames$Game" "arrows" "[I", Cond.methodLink RX3 54 Lib.Math.min.name, Cond.static Lib.Math.min.name, Cond.initialized "java/lang/Math", Cond.code Lib.Math.min.name Lib.Math.min.code 2 (some .int), Cond.methodLink RX3 60 Lib.Math.max.name, Cond.static Lib.Math.max.name, Cond.code Lib.Math.max.name Lib.Math.max.code 2 (some .int), Cond.static yX6_contains, Cond.code yX6_contains cX6_contains 2 (some .boolean), Cond.methodLink RX3 50 yX3_wanted, Cond.instanceMethod yX3_wanted, Cond.selects RX3 yX3_wanted yX3_wanted, Cond.code yX3_wanted cX3_wanted 10 (some .int)]
def wsX6_rounds : List Cond := .code yX6_rounds cX6_rounds 2 (some .int) :: ((wsX6_rounds_r1 ++ (wsX6_rounds_r2 ++ wsX6_rounds_r3)) ++ wsX60 ++ wsX30 ++ wsX40 ++ wsX10)
def wsX6_forced_r1 : List Cond := [Cond.fieldLink RX6 12 "RingGames" "now" "LRingGames$State;", Cond.fieldLink RX6 65 "RingGames$State" "game" "LRingGames$Game;", Cond.fieldLink RX6 68 "RingGames$Game" "size" "I", Cond.methodLink RX6 58 yX6_isPlayer, Cond.static yX6_isPlayer, Cond.initialized RX6, Cond.code yX6_isPlayer cX6_isPlayer 1 (some .boolean), Cond.methodLink RX6 186 yX1_hasAll, Cond.instanceMethod yX1_hasAll, Cond.selects RX1 yX1_hasAll yX1_hasAll, Cond.initialized RX1, Cond.code yX1_hasAll cX1_hasAll 2 (some .boolean), Cond.methodLink RX1 35 yX1_all, Cond.instanceMethod yX1_all, Cond.selects RX1 yX1_all yX1_all, Cond.code yX1_all cX1_all 1 (some .int), Cond.fieldLink RX1 21 "RingGames$Game" "size" "I", Cond.static yX6_bit, Cond.code yX6_bit cX6_bit 1 (some .int), Cond.methodLink RX6 189 yX1_forcedNext, Cond.instanceMethod yX1_forcedNext, Cond.selects RX1 yX1_forcedNext yX1_forcedNext, Cond.code yX1_forcedNext cX1_forcedNext 7 (some .int), Cond.fieldLink RX1 18 "RingGames$Game" "arrows" "[I"]
def wsX6_forced_r2 : List Cond := [Cond.fieldLink RX1 9 "RingGames$Game" "owners" "[I"]
def wsX6_forced : List Cond := .code yX6_forced cX6_forced 5 (some .int) :: ((wsX6_forced_r1 ++ wsX6_forced_r2) ++ wsX60 ++ wsX40 ++ wsX10)
def wsX6_rank_r1 : List Cond := [Cond.fieldLink RX6 12 "RingGames" "now" "LRingGames$State;", Cond.fieldLink RX6 65 "RingGames$State" "game" "LRingGames$Game;", Cond.fieldLink RX6 68 "RingGames$Game" "size" "I", Cond.methodLink RX6 58 yX6_isPlayer, Cond.static yX6_isPlayer, Cond.initialized RX6, Cond.code yX6_isPlayer cX6_isPlayer 1 (some .boolean), Cond.methodLink RX6 80 yX1_has, Cond.instanceMethod yX1_has, Cond.selects RX1 yX1_has yX1_has, Cond.initialized RX1, Cond.code yX1_has cX1_has 2 (some .boolean), Cond.fieldLink RX1 21 "RingGames$Game" "size" "I", Cond.methodLink RX6 186 yX1_hasAll, Cond.instanceMethod yX1_hasAll, Cond.selects RX1 yX1_hasAll yX1_hasAll, Cond.code yX1_hasAll cX1_hasAll 2 (some .boolean), Cond.methodLink RX1 35 yX1_all, Cond.instanceMethod yX1_all, Cond.selects RX1 yX1_all yX1_all, Cond.code yX1_all cX1_all 1 (some .int), Cond.static yX6_bit, Cond.code yX6_bit cX6_bit 1 (some .int), Cond.methodLink RX6 192 yX6_contains]
def wsX6_rank_r2 : List Cond := [Cond.static yX6_contains, Cond.code yX6_contains cX6_contains 2 (some .boolean), Cond.methodLink RX6 189 yX1_forcedNext, Cond.instanceMethod yX1_forcedNext, Cond.selects RX1 yX1_forcedNext yX1_forcedNext, Cond.code yX1_forcedNext cX1_forcedNext 7 (some .int), Cond.fieldLink RX1 18 "RingGames$Game" "arrows" "[I", Cond.fieldLink RX1 9 "RingGames$Game" "owners" "[I"]
def wsX6_rank : List Cond := .code yX6_rank cX6_rank 6 (some .int) :: ((wsX6_rank_r1 ++ wsX6_rank_r2) ++ wsX60 ++ wsX40 ++ wsX10)
def wsX6_trap_r1 : List Cond := [Cond.fieldLink RX6 12 "RingGames" "now" "LRingGames$State;", Cond.fieldLink RX6 65 "RingGames$State" "game" "LRingGames$Game;", Cond.methodLink RX6 58 yX6_isPlayer, Cond.static yX6_isPlayer, Cond.initialized RX6, Cond.code yX6_isPlayer cX6_isPlayer 1 (some .boolean), Cond.methodLink RX6 186 yX1_hasAll, Cond.instanceMethod yX1_hasAll, Cond.selects RX1 yX1_hasAll yX1_hasAll, Cond.initialized RX1, Cond.code yX1_hasAll cX1_hasAll 2 (some .boolean), Cond.methodLink RX1 35 yX1_all, Cond.instanceMethod yX1_all, Cond.selects RX1 yX1_all yX1_all, Cond.code yX1_all cX1_all 1 (some .int), Cond.fieldLink RX1 21 "RingGames$Game" "size" "I", Cond.static yX6_bit, Cond.code yX6_bit cX6_bit 1 (some .int), Cond.methodLink RX6 195 yX1_isTrap, Cond.instanceMethod yX1_isTrap, Cond.selects RX1 yX1_isTrap yX1_isTrap, Cond.code yX1_isTrap cX1_isTrap 5 (some .boolean), Cond.fieldLink RX1 9 "RingGames$Game" "owners" "[I", Cond.fieldLink RX1 18 "RingGames$Game" "arrows" "[I"]
def wsX6_trap_r2 : List Cond := [Cond.static yX6_contains, Cond.code yX6_contains cX6_contains 2 (some .boolean)]
def wsX6_trap : List Cond := .code yX6_trap cX6_trap 3 (some .int) :: ((wsX6_trap_r1 ++ wsX6_trap_r2) ++ wsX60 ++ wsX40 ++ wsX10)
def wsX6_judgeFor : List Cond := .code yX6_judgeFor cX6_judgeFor 3 none :: ([.fieldLink RX6 40 "RingGames" "trial" "LRingGames$Game;", .fieldLink RX6 12 "RingGames" "now" "LRingGames$State;", .fieldLink RX6 65 "RingGames$State" "game" "LRingGames$Game;", .fieldLink RX6 68 "RingGames$Game" "size" "I", .fieldLink RX6 83 "RingGames$Game" "owners" "[I", .fieldLink RX6 113 "RingGames$State" "choices" "[I", .fieldLink RX6 102 "RingGames$Game" "arrows" "[I", .methodLink RX6 119 yX1_become, .instanceMethod yX1_become, .selects RX1 yX1_become yX1_become, .initialized RX1, .code yX1_become cX1_become 2 none, .fieldLink RX1 21 "RingGames$Game" "size" "I", .fieldLink RX1 9 "RingGames$Game" "owners" "[I", .methodLink RX1 25 arraycopyName, .native arraycopyName, .static arraycopyName, .initialized "java/lang/System", .fieldLink RX1 15 "RingGames$Game" "colours" "[I", .fieldLink RX1 18 "RingGames$Game" "arrows" "[I", .methodLink RX6 105 yX6_bit, .static yX6_bit, .initialized RX6, .code yX6_bit cX6_bit 1 (some .int)] ++ wsX60 ++ wsX40 ++ wsX10)
def wsX6_judged_r1 : List Cond := [Cond.fieldLink RX6 12 "RingGames" "now" "LRingGames$State;", Cond.fieldLink RX6 65 "RingGames$State" "game" "LRingGames$Game;", Cond.fieldLink RX6 40 "RingGames" "trial" "LRingGames$Game;", Cond.methodLink RX6 58 yX6_isPlayer, Cond.static yX6_isPlayer, Cond.initialized RX6, Cond.code yX6_isPlayer cX6_isPlayer 1 (some .boolean), Cond.methodLink RX6 80 yX1_has, Cond.instanceMethod yX1_has, Cond.selects RX1 yX1_has yX1_has, Cond.initialized RX1, Cond.code yX1_has cX1_has 2 (some .boolean), Cond.fieldLink RX1 21 "RingGames$Game" "size" "I", Cond.methodLink RX6 198 yX6_judgeFor, Cond.instanceMethod yX6_judgeFor, Cond.selects RX6 yX6_judgeFor yX6_judgeFor, Cond.code yX6_judgeFor cX6_judgeFor 3 none, Cond.fieldLink RX6 68 "RingGames$Game" "size" "I", Cond.fieldLink RX6 83 "RingGames$Game" "owners" "[I", Cond.fieldLink RX6 113 "RingGames$State" "choices" "[I", Cond.fieldLink RX6 102 "RingGames$Game" "arrows" "[I", Cond.methodLink RX6 119 yX1_become, Cond.instanceMethod yX1_become, Cond.selects RX1 yX1_become yX1_become]
def wsX6_judged_r2 : List Cond := [Cond.code yX1_become cX1_become 2 none, Cond.fieldLink RX1 9 "RingGames$Game" "owners" "[I", Cond.methodLink RX1 25 arraycopyName, Cond.native arraycopyName, Cond.static arraycopyName, Cond.initialized "java/lang/System", Cond.fieldLink RX1 15 "RingGames$Game" "colours" "[I", Cond.fieldLink RX1 18 "RingGames$Game" "arrows" "[I", Cond.methodLink RX6 105 yX6_bit, Cond.static yX6_bit, Cond.code yX6_bit cX6_bit 1 (some .int), Cond.methodLink RX6 201 yX1_badRingPlaces, Cond.instanceMethod yX1_badRingPlaces, Cond.selects RX1 yX1_badRingPlaces yX1_badRingPlaces, Cond.code yX1_badRingPlaces cX1_badRingPlaces 4 (some .int), Cond.methodLink RX1 71 yX1_isBadColour, Cond.instanceMethod yX1_isBadColour, Cond.selects RX1 yX1_isBadColour yX1_isBadColour, Cond.code yX1_isBadColour cX1_isBadColour 3 (some .boolean), Cond.methodLink RX1 74 yX1_ringPlaces, Cond.instanceMethod yX1_ringPlaces, Cond.selects RX1 yX1_ringPlaces yX1_ringPlaces, Cond.code yX1_ringPlaces cX1_ringPlaces 4 (some .int), Cond.methodLink RX1 61 yX1_notLess]
def wsX6_judged_r3 : List Cond := [Cond.instanceMethod yX1_notLess, Cond.selects RX1 yX1_notLess yX1_notLess, Cond.code yX1_notLess cX1_notLess 4 (some .int), Cond.methodLink RX1 64 yX1_reached, Cond.instanceMethod yX1_reached, Cond.selects RX1 yX1_reached yX1_reached, Cond.code yX1_reached cX1_reached 5 (some .int), Cond.methodLink RX1 55 yX1_targets, Cond.instanceMethod yX1_targets, Cond.selects RX1 yX1_targets yX1_targets, Cond.code yX1_targets cX1_targets 4 (some .int), Cond.static yX6_contains, Cond.code yX6_contains cX6_contains 2 (some .boolean), Cond.methodLink RX1 68 yX1_reaching, Cond.instanceMethod yX1_reaching, Cond.selects RX1 yX1_reaching yX1_reaching, Cond.code yX1_reaching cX1_reaching 5 (some .int), Cond.methodLink RX1 58 yX1_sources, Cond.instanceMethod yX1_sources, Cond.selects RX1 yX1_sources yX1_sources, Cond.code yX1_sources cX1_sources 4 (some .int), Cond.methodLink RX6 204 yX1_owned, Cond.instanceMethod yX1_owned, Cond.selects RX1 yX1_owned yX1_owned]
def wsX6_judged_r4 : List Cond := [Cond.code yX1_owned cX1_owned 4 (some .int), Cond.methodLink RX6 207 yX1_withoutArrows, Cond.instanceMethod yX1_withoutArrows, Cond.selects RX1 yX1_withoutArrows yX1_withoutArrows, Cond.code yX1_withoutArrows cX1_withoutArrows 3 (some .int), Cond.methodLink RX6 210 yX1_all, Cond.instanceMethod yX1_all, Cond.selects RX1 yX1_all yX1_all, Cond.code yX1_all cX1_all 1 (some .int), Cond.methodLink RX6 213 yX1_reached]
def wsX6_judged : List Cond := .code yX6_judged cX6_judged 5 (some .int) :: ((wsX6_judged_r1 ++ (wsX6_judged_r2 ++ (wsX6_judged_r3 ++ wsX6_judged_r4))) ++ wsX60 ++ wsX40 ++ wsX10)
def wsX6_badRings_r1 : List Cond := [Cond.fieldLink RX6 40 "RingGames" "trial" "LRingGames$Game;", Cond.methodLink RX6 58 yX6_isPlayer, Cond.static yX6_isPlayer, Cond.initialized RX6, Cond.code yX6_isPlayer cX6_isPlayer 1 (some .boolean), Cond.methodLink RX6 198 yX6_judgeFor, Cond.instanceMethod yX6_judgeFor, Cond.selects RX6 yX6_judgeFor yX6_judgeFor, Cond.code yX6_judgeFor cX6_judgeFor 3 none, Cond.fieldLink RX6 12 "RingGames" "now" "LRingGames$State;", Cond.fieldLink RX6 65 "RingGames$State" "game" "LRingGames$Game;", Cond.fieldLink RX6 68 "RingGames$Game" "size" "I", Cond.fieldLink RX6 83 "RingGames$Game" "owners" "[I", Cond.fieldLink RX6 113 "RingGames$State" "choices" "[I", Cond.fieldLink RX6 102 "RingGames$Game" "arrows" "[I", Cond.methodLink RX6 119 yX1_become, Cond.instanceMethod yX1_become, Cond.selects RX1 yX1_become yX1_become, Cond.initialized RX1, Cond.code yX1_become cX1_become 2 none, Cond.fieldLink RX1 21 "RingGames$Game" "size" "I", Cond.fieldLink RX1 9 "RingGames$Game" "owners" "[I", Cond.methodLink RX1 25 arraycopyName, Cond.native arraycopyName]
def wsX6_badRings_r2 : List Cond := [Cond.static arraycopyName, Cond.initialized "java/lang/System", Cond.fieldLink RX1 15 "RingGames$Game" "colours" "[I", Cond.fieldLink RX1 18 "RingGames$Game" "arrows" "[I", Cond.methodLink RX6 105 yX6_bit, Cond.static yX6_bit, Cond.code yX6_bit cX6_bit 1 (some .int), Cond.methodLink RX6 201 yX1_badRingPlaces, Cond.instanceMethod yX1_badRingPlaces, Cond.selects RX1 yX1_badRingPlaces yX1_badRingPlaces, Cond.code yX1_badRingPlaces cX1_badRingPlaces 4 (some .int), Cond.methodLink RX1 71 yX1_isBadColour, Cond.instanceMethod yX1_isBadColour, Cond.selects RX1 yX1_isBadColour yX1_isBadColour, Cond.code yX1_isBadColour cX1_isBadColour 3 (some .boolean), Cond.methodLink RX1 74 yX1_ringPlaces, Cond.instanceMethod yX1_ringPlaces, Cond.selects RX1 yX1_ringPlaces yX1_ringPlaces, Cond.code yX1_ringPlaces cX1_ringPlaces 4 (some .int), Cond.methodLink RX1 61 yX1_notLess, Cond.instanceMethod yX1_notLess, Cond.selects RX1 yX1_notLess yX1_notLess, Cond.code yX1_notLess cX1_notLess 4 (some .int), Cond.methodLink RX1 64 yX1_reached]
def wsX6_badRings_r3 : List Cond := [Cond.instanceMethod yX1_reached, Cond.selects RX1 yX1_reached yX1_reached, Cond.code yX1_reached cX1_reached 5 (some .int), Cond.methodLink RX1 55 yX1_targets, Cond.instanceMethod yX1_targets, Cond.selects RX1 yX1_targets yX1_targets, Cond.code yX1_targets cX1_targets 4 (some .int), Cond.static yX6_contains, Cond.code yX6_contains cX6_contains 2 (some .boolean), Cond.methodLink RX1 68 yX1_reaching, Cond.instanceMethod yX1_reaching, Cond.selects RX1 yX1_reaching yX1_reaching, Cond.code yX1_reaching cX1_reaching 5 (some .int), Cond.methodLink RX1 58 yX1_sources, Cond.instanceMethod yX1_sources, Cond.selects RX1 yX1_sources yX1_sources, Cond.code yX1_sources cX1_sources 4 (some .int), Cond.methodLink RX6 216 yX1_leastBadColour, Cond.instanceMethod yX1_leastBadColour, Cond.selects RX1 yX1_leastBadColour yX1_leastBadColour, Cond.code yX1_leastBadColour cX1_leastBadColour 5 (some .int), Cond.methodLink RX6 219 yX1_shortestBadRing, Cond.instanceMethod yX1_shortestBadRing, Cond.selects RX1 yX1_shortestBadRing yX1_shortestBadRing]
def wsX6_badRings_r4 : List Cond := [Cond.code yX1_shortestBadRing cX1_shortestBadRing 5 (some .int), Cond.methodLink RX1 77 yX1_shortestRing, Cond.instanceMethod yX1_shortestRing, Cond.selects RX1 yX1_shortestRing yX1_shortestRing, Cond.code yX1_shortestRing cX1_shortestRing 5 (some .int)]
def wsX6_badRings : List Cond := .code yX6_badRings cX6_badRings 3 (some .int) :: ((wsX6_badRings_r1 ++ (wsX6_badRings_r2 ++ (wsX6_badRings_r3 ++ wsX6_badRings_r4))) ++ wsX60 ++ wsX40 ++ wsX10)
def wsX6_pivots_r1 : List Cond := [Cond.fieldLink RX6 12 "RingGames" "now" "LRingGames$State;", Cond.fieldLink RX6 65 "RingGames$State" "game" "LRingGames$Game;", Cond.fieldLink RX6 40 "RingGames" "trial" "LRingGames$Game;", Cond.fieldLink RX6 68 "RingGames$Game" "size" "I", Cond.fieldLink RX6 83 "RingGames$Game" "owners" "[I", Cond.fieldLink RX6 47 "RingGames" "measures" "LRingGames$Measures;", Cond.methodLink RX6 80 yX1_has, Cond.instanceMethod yX1_has, Cond.selects RX1 yX1_has yX1_has, Cond.initialized RX1, Cond.code yX1_has cX1_has 2 (some .boolean), Cond.fieldLink RX1 21 "RingGames$Game" "size" "I", Cond.methodLink RX6 147 yX6_winnerOf, Cond.instanceMethod yX6_winnerOf, Cond.selects RX6 yX6_winnerOf yX6_winnerOf, Cond.initialized RX6, Cond.code yX6_winnerOf cX6_winnerOf 2 (some .int), Cond.methodLink RX6 133 yX6_solveFor, Cond.instanceMethod yX6_solveFor, Cond.selects RX6 yX6_solveFor yX6_solveFor, Cond.code yX6_solveFor cX6_solveFor 2 none, Cond.methodLink RX6 119 yX1_become, Cond.instanceMethod yX1_become, Cond.selects RX1 yX1_become yX1_become]
def wsX6_pivots_r2 : List Cond := [Cond.code yX1_become cX1_become 2 none, Cond.fieldLink RX1 9 "RingGames$Game" "owners" "[I", Cond.methodLink RX1 25 arraycopyName, Cond.native arraycopyName, Cond.static arraycopyName, Cond.initialized "java/lang/System", Cond.fieldLink RX1 15 "RingGames$Game" "colours" "[I", Cond.fieldLink RX1 18 "RingGames$Game" "arrows" "[I", Cond.methodLink RX6 130 yX1_exchange, Cond.instanceMethod yX1_exchange, Cond.selects RX1 yX1_exchange yX1_exchange, Cond.code yX1_exchange cX1_exchange 2 none, Cond.methodLink RX6 222 yX3_find, Cond.instanceMethod yX3_find, Cond.selects RX3 yX3_find yX3_find, Cond.initialized RX3, Cond.code yX3_find cX3_find 3 none, Cond.fieldLink RX3 11 "RingGames$Measures" "most" "[I", Cond.fieldLink RX3 18 "RingGames$Game" "size" "I", Cond.fieldLink RX3 15 "RingGames$Measures" "found" "[I", Cond.fieldLink RX3 24 "RingGames$Game" "colours" "[I", Cond.fieldLink RX3 27 "RingGames$Measures" "lastRound" "I", Cond.constant RX3 30 (1000000), Cond.methodLink RX3 31 yX3_raise]
def wsX6_pivots_r3 : List Cond := [Cond.instanceMethod yX3_raise, Cond.selects RX3 yX3_raise yX3_raise, Cond.code yX3_raise cX3_raise 5 (some .boolean), Cond.methodLink RX3 35 yX3_asked, Cond.instanceMethod yX3_asked, Cond.selects RX3 yX3_asked yX3_asked, Cond.code yX3_asked cX3_asked 7 (some .int), Cond.fieldLink RX3 39 "RingGames$Game" "owners" "[I", Cond.constant RX3 42 (65536), Cond.fieldLink RX3 43 "RingGames$Game" "arrows" "[I", Cond.methodLink RX3 54 Lib.Math.min.name, Cond.static Lib.Math.min.name, Cond.initialized "java/lang/Math", Cond.code Lib.Math.min.name Lib.Math.min.code 2 (some .int), Cond.methodLink RX3 60 Lib.Math.max.name, Cond.static Lib.Math.max.name, Cond.code Lib.Math.max.name Lib.Math.max.code 2 (some .int), Cond.static yX6_contains, Cond.code yX6_contains cX6_contains 2 (some .boolean), Cond.methodLink RX3 50 yX3_wanted, Cond.instanceMethod yX3_wanted, Cond.selects RX3 yX3_wanted yX3_wanted, Cond.code yX3_wanted cX3_wanted 10 (some .int), Cond.methodLink RX6 225 yX3_winner]
def wsX6_pivots_r4 : List Cond := [Cond.instanceMethod yX3_winner, Cond.selects RX3 yX3_winner yX3_winner, Cond.code yX3_winner cX3_winner 2 (some .int), Cond.methodLink RX3 63 yX3_isLost, Cond.instanceMethod yX3_isLost, Cond.selects RX3 yX3_isLost yX3_isLost, Cond.code yX3_isLost cX3_isLost 2 (some .boolean), Cond.methodLink RX6 105 yX6_bit, Cond.static yX6_bit, Cond.code yX6_bit cX6_bit 1 (some .int)]
def wsX6_pivots : List Cond := .code yX6_pivots cX6_pivots 5 (some .int) :: ((wsX6_pivots_r1 ++ (wsX6_pivots_r2 ++ (wsX6_pivots_r3 ++ wsX6_pivots_r4))) ++ wsX60 ++ wsX40 ++ wsX10 ++ wsX30)
def wsX6_weakArrows_r1 : List Cond := [Cond.fieldLink RX6 12 "RingGames" "now" "LRingGames$State;", Cond.fieldLink RX6 65 "RingGames$State" "game" "LRingGames$Game;", Cond.fieldLink RX6 40 "RingGames" "trial" "LRingGames$Game;", Cond.fieldLink RX6 68 "RingGames$Game" "size" "I", Cond.fieldLink RX6 102 "RingGames$Game" "arrows" "[I", Cond.fieldLink RX6 47 "RingGames" "measures" "LRingGames$Measures;", Cond.methodLink RX6 80 yX1_has, Cond.instanceMethod yX1_has, Cond.selects RX1 yX1_has yX1_has, Cond.initialized RX1, Cond.code yX1_has cX1_has 2 (some .boolean), Cond.fieldLink RX1 21 "RingGames$Game" "size" "I", Cond.methodLink RX6 147 yX6_winnerOf, Cond.instanceMethod yX6_winnerOf, Cond.selects RX6 yX6_winnerOf yX6_winnerOf, Cond.initialized RX6, Cond.code yX6_winnerOf cX6_winnerOf 2 (some .int), Cond.methodLink RX6 133 yX6_solveFor, Cond.instanceMethod yX6_solveFor, Cond.selects RX6 yX6_solveFor yX6_solveFor, Cond.code yX6_solveFor cX6_solveFor 2 none, Cond.methodLink RX6 119 yX1_become, Cond.instanceMethod yX1_become, Cond.selects RX1 yX1_become yX1_become]
def wsX6_weakArrows_r2 : List Cond := [Cond.code yX1_become cX1_become 2 none, Cond.fieldLink RX1 9 "RingGames$Game" "owners" "[I", Cond.methodLink RX1 25 arraycopyName, Cond.native arraycopyName, Cond.static arraycopyName, Cond.initialized "java/lang/System", Cond.fieldLink RX1 15 "RingGames$Game" "colours" "[I", Cond.fieldLink RX1 18 "RingGames$Game" "arrows" "[I", Cond.methodLink RX6 130 yX1_exchange, Cond.instanceMethod yX1_exchange, Cond.selects RX1 yX1_exchange yX1_exchange, Cond.code yX1_exchange cX1_exchange 2 none, Cond.methodLink RX6 222 yX3_find, Cond.instanceMethod yX3_find, Cond.selects RX3 yX3_find yX3_find, Cond.initialized RX3, Cond.code yX3_find cX3_find 3 none, Cond.fieldLink RX3 11 "RingGames$Measures" "most" "[I", Cond.fieldLink RX3 18 "RingGames$Game" "size" "I", Cond.fieldLink RX3 15 "RingGames$Measures" "found" "[I", Cond.fieldLink RX3 24 "RingGames$Game" "colours" "[I", Cond.fieldLink RX3 27 "RingGames$Measures" "lastRound" "I", Cond.constant RX3 30 (1000000), Cond.methodLink RX3 31 yX3_raise]
def wsX6_weakArrows_r3 : List Cond := [Cond.instanceMethod yX3_raise, Cond.selects RX3 yX3_raise yX3_raise, Cond.code yX3_raise cX3_raise 5 (some .boolean), Cond.methodLink RX3 35 yX3_asked, Cond.instanceMethod yX3_asked, Cond.selects RX3 yX3_asked yX3_asked, Cond.code yX3_asked cX3_asked 7 (some .int), Cond.fieldLink RX3 39 "RingGames$Game" "owners" "[I", Cond.constant RX3 42 (65536), Cond.fieldLink RX3 43 "RingGames$Game" "arrows" "[I", Cond.methodLink RX3 54 Lib.Math.min.name, Cond.static Lib.Math.min.name, Cond.initialized "java/lang/Math", Cond.code Lib.Math.min.name Lib.Math.min.code 2 (some .int), Cond.methodLink RX3 60 Lib.Math.max.name, Cond.static Lib.Math.max.name, Cond.code Lib.Math.max.name Lib.Math.max.code 2 (some .int), Cond.static yX6_contains, Cond.code yX6_contains cX6_contains 2 (some .boolean), Cond.methodLink RX3 50 yX3_wanted, Cond.instanceMethod yX3_wanted, Cond.selects RX3 yX3_wanted yX3_wanted, Cond.code yX3_wanted cX3_wanted 10 (some .int), Cond.methodLink RX6 225 yX3_winner]
def wsX6_weakArrows_r4 : List Cond := [Cond.instanceMethod yX3_winner, Cond.selects RX3 yX3_winner yX3_winner, Cond.code yX3_winner cX3_winner 2 (some .int), Cond.methodLink RX3 63 yX3_isLost, Cond.instanceMethod yX3_isLost, Cond.selects RX3 yX3_isLost yX3_isLost, Cond.code yX3_isLost cX3_isLost 2 (some .boolean), Cond.methodLink RX6 98 yX1_leads, Cond.instanceMethod yX1_leads, Cond.selects RX1 yX1_leads yX1_leads, Cond.code yX1_leads cX1_leads 3 (some .boolean), Cond.methodLink RX1 39 yX1_has, Cond.methodLink RX6 105 yX6_bit, Cond.static yX6_bit, Cond.code yX6_bit cX6_bit 1 (some .int)]
def wsX6_weakArrows : List Cond := .code yX6_weakArrows cX6_weakArrows 5 (some .int) :: ((wsX6_weakArrows_r1 ++ (wsX6_weakArrows_r2 ++ (wsX6_weakArrows_r3 ++ wsX6_weakArrows_r4))) ++ wsX60 ++ wsX40 ++ wsX10 ++ wsX30)
def wsX6_token_r1 : List Cond := [Cond.fieldLink RX6 12 "RingGames" "now" "LRingGames$State;", Cond.fieldLink RX6 65 "RingGames$State" "game" "LRingGames$Game;", Cond.fieldLink RX6 141 "RingGames$State" "tokenAt" "I", Cond.fieldLink RX6 54 "RingGames" "walk" "LRingGames$Walk;", Cond.fieldLink RX6 231 "RingGames$Walk" "endless" "Z", Cond.fieldLink RX6 234 "RingGames$Walk" "steps" "I", Cond.methodLink RX6 80 yX1_has, Cond.instanceMethod yX1_has, Cond.selects RX1 yX1_has yX1_has, Cond.initialized RX1, Cond.code yX1_has cX1_has 2 (some .boolean), Cond.fieldLink RX1 21 "RingGames$Game" "size" "I", Cond.methodLink RX6 150 yX6_findWays, Cond.instanceMethod yX6_findWays, Cond.selects RX6 yX6_findWays yX6_findWays, Cond.initialized RX6, Cond.code yX6_findWays cX6_findWays 3 none, Cond.fieldLink RX6 68 "RingGames$Game" "size" "I", Cond.fieldLink RX6 83 "RingGames$Game" "owners" "[I", Cond.fieldLink RX6 249 "RingGames$Walk" "ways" "[I", Cond.methodLink RX6 133 yX6_solveFor, Cond.instanceMethod yX6_solveFor, Cond.selects RX6 yX6_solveFor yX6_solveFor, Cond.code yX6_solveFor cX6_solveFor 2 none]
def wsX6_token_r2 : List Cond := [Cond.fieldLink RX6 40 "RingGames" "trial" "LRingGames$Game;", Cond.fieldLink RX6 47 "RingGames" "measures" "LRingGames$Measures;", Cond.methodLink RX6 119 yX1_become, Cond.instanceMethod yX1_become, Cond.selects RX1 yX1_become yX1_become, Cond.code yX1_become cX1_become 2 none, Cond.fieldLink RX1 9 "RingGames$Game" "owners" "[I", Cond.methodLink RX1 25 arraycopyName, Cond.native arraycopyName, Cond.static arraycopyName, Cond.initialized "java/lang/System", Cond.fieldLink RX1 15 "RingGames$Game" "colours" "[I", Cond.fieldLink RX1 18 "RingGames$Game" "arrows" "[I", Cond.methodLink RX6 130 yX1_exchange, Cond.instanceMethod yX1_exchange, Cond.selects RX1 yX1_exchange yX1_exchange, Cond.code yX1_exchange cX1_exchange 2 none, Cond.methodLink RX6 222 yX3_find, Cond.instanceMethod yX3_find, Cond.selects RX3 yX3_find yX3_find, Cond.initialized RX3, Cond.code yX3_find cX3_find 3 none, Cond.fieldLink RX3 11 "RingGames$Measures" "most" "[I", Cond.fieldLink RX3 18 "RingGames$Game" "size" "I"]
def wsX6_token_r3 : List Cond := [Cond.fieldLink RX3 15 "RingGames$Measures" "found" "[I", Cond.fieldLink RX3 24 "RingGames$Game" "colours" "[I", Cond.fieldLink RX3 27 "RingGames$Measures" "lastRound" "I", Cond.constant RX3 30 (1000000), Cond.methodLink RX3 31 yX3_raise, Cond.instanceMethod yX3_raise, Cond.selects RX3 yX3_raise yX3_raise, Cond.code yX3_raise cX3_raise 5 (some .boolean), Cond.methodLink RX3 35 yX3_asked, Cond.instanceMethod yX3_asked, Cond.selects RX3 yX3_asked yX3_asked, Cond.code yX3_asked cX3_asked 7 (some .int), Cond.fieldLink RX3 39 "RingGames$Game" "owners" "[I", Cond.constant RX3 42 (65536), Cond.fieldLink RX3 43 "RingGames$Game" "arrows" "[I", Cond.methodLink RX3 54 Lib.Math.min.name, Cond.static Lib.Math.min.name, Cond.initialized "java/lang/Math", Cond.code Lib.Math.min.name Lib.Math.min.code 2 (some .int), Cond.methodLink RX3 60 Lib.Math.max.name, Cond.static Lib.Math.max.name, Cond.code Lib.Math.max.name Lib.Math.max.code 2 (some .int), Cond.static yX6_contains, Cond.code yX6_contains cX6_contains 2 (some .boolean)]
def wsX6_token_r4 : List Cond := [Cond.methodLink RX3 50 yX3_wanted, Cond.instanceMethod yX3_wanted, Cond.selects RX3 yX3_wanted yX3_wanted, Cond.code yX3_wanted cX3_wanted 10 (some .int), Cond.methodLink RX6 252 yX6_wayOn, Cond.instanceMethod yX6_wayOn, Cond.selects RX6 yX6_wayOn yX6_wayOn, Cond.code yX6_wayOn cX6_wayOn 3 (some .int), Cond.fieldLink RX6 113 "RingGames$State" "choices" "[I", Cond.methodLink RX6 137 yX3_bestArrow, Cond.instanceMethod yX3_bestArrow, Cond.selects RX3 yX3_bestArrow yX3_bestArrow, Cond.code yX3_bestArrow cX3_bestArrow 7 (some .int), Cond.methodLink RX3 67 yX1_leads, Cond.instanceMethod yX1_leads, Cond.selects RX1 yX1_leads yX1_leads, Cond.code yX1_leads cX1_leads 3 (some .boolean), Cond.methodLink RX1 39 yX1_has, Cond.methodLink RX6 255 yX1_lowestArrow, Cond.instanceMethod yX1_lowestArrow, Cond.selects RX1 yX1_lowestArrow yX1_lowestArrow, Cond.code yX1_lowestArrow cX1_lowestArrow 3 (some .int), Cond.methodLink RX1 52 yX1_leads, Cond.methodLink RX6 228 yX5_follow]
def wsX6_token_r5 : List Cond := [Cond.instanceMethod yX5_follow, Cond.selects RX5 yX5_follow yX5_follow, Cond.initialized RX5, Cond.code yX5_follow cX5_follow 3 none, Cond.fieldLink RX5 19 "RingGames$Walk" "steps" "I", Cond.fieldLink RX5 23 "RingGames$Walk" "endless" "Z", Cond.fieldLink RX5 27 "RingGames$Walk" "last" "I", Cond.static yX6_bit, Cond.code yX6_bit cX6_bit 1 (some .int), Cond.methodLink RX5 30 yX5_wayFrom, Cond.instanceMethod yX5_wayFrom, Cond.selects RX5 yX5_wayFrom yX5_wayFrom, Cond.code yX5_wayFrom cX5_wayFrom 2 (some .int), Cond.fieldLink RX5 9 "RingGames$Walk" "ways" "[I", Cond.methodLink RX6 237 yX5_leastColourAgain, Cond.instanceMethod yX5_leastColourAgain, Cond.selects RX5 yX5_leastColourAgain yX5_leastColourAgain, Cond.code yX5_leastColourAgain cX5_leastColourAgain 5 (some .int), Cond.fieldLink RX5 37 "RingGames$Game" "colours" "[I", Cond.methodLink RX5 46 Lib.Math.min.name, Cond.methodLink RX5 42 yX1_has, Cond.methodLink RX6 241 yX5_winner, Cond.instanceMethod yX5_winner, Cond.selects RX5 yX5_winner yX5_winner]
def wsX6_token_r6 : List Cond := [Cond.code yX5_winner cX5_winner 2 (some .int), Cond.fieldLink RX5 56 "RingGames$Game" "owners" "[I", Cond.methodLink RX5 52 yX5_leastColourAgain]
def wsX6_token : List Cond := .code yX6_token cX6_token 2 (some .int) :: ((wsX6_token_r1 ++ (wsX6_token_r2 ++ (wsX6_token_r3 ++ (wsX6_token_r4 ++ (wsX6_token_r5 ++ wsX6_token_r6))))) ++ wsX60 ++ wsX40 ++ wsX50 ++ wsX10 ++ wsX30)
def wsX6_count_r1 : List Cond := [Cond.fieldLink RX6 12 "RingGames" "now" "LRingGames$State;", Cond.fieldLink RX6 65 "RingGames$State" "game" "LRingGames$Game;", Cond.fieldLink RX6 68 "RingGames$Game" "size" "I", Cond.fieldLink RX6 144 "RingGames$State" "tokenSteps" "I", Cond.fieldLink RX6 19 "RingGames" "history" "LRingGames$History;", Cond.fieldLink RX6 166 "RingGames$History" "count" "I", Cond.fieldLink RX6 33 "RingGames" "text" "LRingGames$ArrowText;", Cond.fieldLink RX6 159 "RingGames$ArrowText" "length" "I", Cond.methodLink RX6 94 yX1_arrowCount, Cond.instanceMethod yX1_arrowCount, Cond.selects RX1 yX1_arrowCount yX1_arrowCount, Cond.initialized RX1, Cond.code yX1_arrowCount cX1_arrowCount 3 (some .int), Cond.fieldLink RX1 21 "RingGames$Game" "size" "I", Cond.fieldLink RX1 18 "RingGames$Game" "arrows" "[I", Cond.methodLink RX1 47 yJ6_bitCount_0f7a4, Cond.static yJ6_bitCount_0f7a4, Cond.initialized RJ6, Cond.code yJ6_bitCount_0f7a4 cJ6_bitCount_0f7a4 1 (some .int), Cond.constant RJ6 265 (1431655765), Cond.constant RJ6 266 (858993459), Cond.constant RJ6 267 (252645135), Cond.methodLink RX6 204 yX1_owned, Cond.instanceMethod yX1_owned]
def wsX6_count_r2 : List Cond := [Cond.selects RX1 yX1_owned yX1_owned, Cond.code yX1_owned cX1_owned 4 (some .int), Cond.fieldLink RX1 9 "RingGames$Game" "owners" "[I", Cond.static yX6_bit, Cond.initialized RX6, Cond.code yX6_bit cX6_bit 1 (some .int), Cond.methodLink RX6 108 yJ6_bitCount_0f7a4, Cond.methodLink RX6 207 yX1_withoutArrows, Cond.instanceMethod yX1_withoutArrows, Cond.selects RX1 yX1_withoutArrows yX1_withoutArrows, Cond.code yX1_withoutArrows cX1_withoutArrows 3 (some .int), Cond.methodLink RX6 243 yX1_leastColour, Cond.instanceMethod yX1_leastColour, Cond.selects RX1 yX1_leastColour yX1_leastColour, Cond.code yX1_leastColour cX1_leastColour 3 (some .int), Cond.fieldLink RX1 15 "RingGames$Game" "colours" "[I", Cond.methodLink RX6 246 yX4_choiceCount, Cond.instanceMethod yX4_choiceCount, Cond.selects RX4 yX4_choiceCount yX4_choiceCount, Cond.initialized RX4, Cond.code yX4_choiceCount cX4_choiceCount 3 (some .int), Cond.fieldLink RX4 12 "RingGames$State" "game" "LRingGames$Game;", Cond.fieldLink RX4 39 "RingGames$Game" "size" "I", Cond.fieldLink RX4 18 "RingGames$State" "choices" "[I"]
def wsX6_count : List Cond := .code yX6_count cX6_count 2 (some .int) :: ((wsX6_count_r1 ++ wsX6_count_r2) ++ wsX60 ++ wsX40 ++ wsX10 ++ wsX20 ++ wsX00)
def wsX7_init : List Cond := .code yX7_init cX7_init 1 none :: ([.methodLink RX7 1 objectInit, .instanceMethod objectInit, .code objectInit ⟨#[0xb1]⟩ 1 none, .arrayClass .int, .fieldLink RX7 7 "RingGamesModel" "now" "[I", .fieldLink RX7 13 "RingGamesModel" "history" "[I", .fieldLink RX7 16 "RingGamesModel" "slot" "[I", .fieldLink RX7 19 "RingGamesModel" "measures" "[I", .fieldLink RX7 22 "RingGamesModel" "most" "[I", .fieldLink RX7 25 "RingGamesModel" "numbers" "[I", .arrayClass .char, .fieldLink RX7 28 "RingGamesModel" "text" "[C", .fieldLink RX7 32 "RingGamesModel" "reads" "[I", .fieldLink RX7 35 "RingGamesModel" "judgedTo" "[I", .fieldLink RX7 38 "RingGamesModel" "reach" "[I", .fieldLink RX7 41 "RingGamesModel" "goes" "[I"] ++ wsX70)
def wsX7_in : List Cond := .code yX7_in cX7_in 3 (some .boolean) :: ([])
def wsX7_of : List Cond := .code yX7_of cX7_of 3 (some .int) :: ([.fieldLink RX7 7 "RingGamesModel" "now" "[I"] ++ wsX70)
def wsX7_puts : List Cond := .code yX7_puts cX7_puts 4 none :: ([.fieldLink RX7 7 "RingGamesModel" "now" "[I"] ++ wsX70)
def wsX7_no : List Cond := .code yX7_no cX7_no 2 (some .boolean) :: ([.fieldLink RX7 7 "RingGamesModel" "now" "[I", .methodLink RX7 44 yX7_in, .static yX7_in, .initialized RX7, .code yX7_in cX7_in 3 (some .boolean)] ++ wsX70)
def wsX7_noPlayer : List Cond := .code yX7_noPlayer cX7_noPlayer 1 (some .boolean) :: ([.methodLink RX7 44 yX7_in, .static yX7_in, .initialized RX7, .code yX7_in cX7_in 3 (some .boolean)])
def wsX7_hasArrow : List Cond := .code yX7_hasArrow cX7_hasArrow 3 (some .boolean) :: ([.methodLink RX7 48 yX7_of, .instanceMethod yX7_of, .selects RX7 yX7_of yX7_of, .initialized RX7, .code yX7_of cX7_of 3 (some .int), .fieldLink RX7 7 "RingGamesModel" "now" "[I"] ++ wsX70)
def wsX7_bits : List Cond := .code yX7_bits cX7_bits 3 (some .int) :: ([])
def wsX7_lowest : List Cond := .code yX7_lowest cX7_lowest 2 (some .int) :: ([])
def wsX7_arrows : List Cond := .code yX7_arrows cX7_arrows 3 (some .int) :: ([.fieldLink RX7 7 "RingGamesModel" "now" "[I", .methodLink RX7 48 yX7_of, .instanceMethod yX7_of, .selects RX7 yX7_of yX7_of, .initialized RX7, .code yX7_of cX7_of 3 (some .int), .methodLink RX7 52 yX7_bits, .static yX7_bits, .code yX7_bits cX7_bits 3 (some .int)] ++ wsX70)
def wsX7_record : List Cond := .code yX7_record cX7_record 2 none :: ([.fieldLink RX7 56 "RingGamesModel" "kept" "I", .fieldLink RX7 13 "RingGamesModel" "history" "[I", .fieldLink RX7 7 "RingGamesModel" "now" "[I"] ++ wsX70)
def wsX7_colourIn : List Cond := .code yX7_colourIn cX7_colourIn 2 (some .int) :: ([.fieldLink RX7 60 "RingGamesModel" "game" "I", .methodLink RX7 48 yX7_of, .instanceMethod yX7_of, .selects RX7 yX7_of yX7_of, .initialized RX7, .code yX7_of cX7_of 3 (some .int), .fieldLink RX7 7 "RingGamesModel" "now" "[I"] ++ wsX70)
def wsX7_ownerIn : List Cond := .code yX7_ownerIn cX7_ownerIn 2 (some .int) :: ([.fieldLink RX7 60 "RingGamesModel" "game" "I", .methodLink RX7 48 yX7_of, .instanceMethod yX7_of, .selects RX7 yX7_of yX7_of, .initialized RX7, .code yX7_of cX7_of 3 (some .int), .fieldLink RX7 7 "RingGamesModel" "now" "[I"] ++ wsX70)
def wsX7_wanted : List Cond := .code yX7_wanted cX7_wanted 5 (some .int) :: ([.constant RX7 63 (50625), .fieldLink RX7 25 "RingGamesModel" "numbers" "[I", .fieldLink RX7 22 "RingGamesModel" "most" "[I"] ++ wsX70)
def wsX7_asks_r1 : List Cond := [Cond.constant RX7 63 (50625), Cond.fieldLink RX7 7 "RingGamesModel" "now" "[I", Cond.fieldLink RX7 19 "RingGamesModel" "measures" "[I", Cond.methodLink RX7 64 yX7_ownerIn, Cond.instanceMethod yX7_ownerIn, Cond.selects RX7 yX7_ownerIn yX7_ownerIn, Cond.initialized RX7, Cond.code yX7_ownerIn cX7_ownerIn 2 (some .int), Cond.fieldLink RX7 60 "RingGamesModel" "game" "I", Cond.methodLink RX7 48 yX7_of, Cond.instanceMethod yX7_of, Cond.selects RX7 yX7_of yX7_of, Cond.code yX7_of cX7_of 3 (some .int), Cond.methodLink RX7 67 yX7_hasArrow, Cond.instanceMethod yX7_hasArrow, Cond.selects RX7 yX7_hasArrow yX7_hasArrow, Cond.code yX7_hasArrow cX7_hasArrow 3 (some .boolean), Cond.methodLink RX7 71 yX7_colourIn, Cond.instanceMethod yX7_colourIn, Cond.selects RX7 yX7_colourIn yX7_colourIn, Cond.code yX7_colourIn cX7_colourIn 2 (some .int), Cond.methodLink RX7 74 yX7_wanted, Cond.instanceMethod yX7_wanted, Cond.selects RX7 yX7_wanted yX7_wanted]
def wsX7_asks_r2 : List Cond := [Cond.code yX7_wanted cX7_wanted 5 (some .int), Cond.fieldLink RX7 25 "RingGamesModel" "numbers" "[I", Cond.fieldLink RX7 22 "RingGamesModel" "most" "[I"]
def wsX7_asks : List Cond := .code yX7_asks cX7_asks 6 (some .int) :: ((wsX7_asks_r1 ++ wsX7_asks_r2) ++ wsX70)
def wsX7_finds_r1 : List Cond := [Cond.fieldLink RX7 60 "RingGamesModel" "game" "I", Cond.fieldLink RX7 7 "RingGamesModel" "now" "[I", Cond.fieldLink RX7 22 "RingGamesModel" "most" "[I", Cond.fieldLink RX7 19 "RingGamesModel" "measures" "[I", Cond.fieldLink RX7 77 "RingGamesModel" "round" "I", Cond.methodLink RX7 71 yX7_colourIn, Cond.instanceMethod yX7_colourIn, Cond.selects RX7 yX7_colourIn yX7_colourIn, Cond.initialized RX7, Cond.code yX7_colourIn cX7_colourIn 2 (some .int), Cond.methodLink RX7 48 yX7_of, Cond.instanceMethod yX7_of, Cond.selects RX7 yX7_of yX7_of, Cond.code yX7_of cX7_of 3 (some .int), Cond.methodLink RX7 80 yX7_asks, Cond.instanceMethod yX7_asks, Cond.selects RX7 yX7_asks yX7_asks, Cond.code yX7_asks cX7_asks 6 (some .int), Cond.constant RX7 63 (50625), Cond.methodLink RX7 64 yX7_ownerIn, Cond.instanceMethod yX7_ownerIn, Cond.selects RX7 yX7_ownerIn yX7_ownerIn, Cond.code yX7_ownerIn cX7_ownerIn 2 (some .int), Cond.methodLink RX7 67 yX7_hasArrow]
def wsX7_finds_r2 : List Cond := [Cond.instanceMethod yX7_hasArrow, Cond.selects RX7 yX7_hasArrow yX7_hasArrow, Cond.code yX7_hasArrow cX7_hasArrow 3 (some .boolean), Cond.methodLink RX7 74 yX7_wanted, Cond.instanceMethod yX7_wanted, Cond.selects RX7 yX7_wanted yX7_wanted, Cond.code yX7_wanted cX7_wanted 5 (some .int), Cond.fieldLink RX7 25 "RingGamesModel" "numbers" "[I"]
def wsX7_finds : List Cond := .code yX7_finds cX7_finds 6 none :: ((wsX7_finds_r1 ++ wsX7_finds_r2) ++ wsX70)
def wsX7_won : List Cond := .code yX7_won cX7_won 3 (some .int) :: ([.fieldLink RX7 7 "RingGamesModel" "now" "[I", .fieldLink RX7 19 "RingGamesModel" "measures" "[I", .constant RX7 63 (50625)] ++ wsX70)
def wsX7_winsOf_r1 : List Cond := [Cond.methodLink RX7 83 yX7_finds, Cond.instanceMethod yX7_finds, Cond.selects RX7 yX7_finds yX7_finds, Cond.initialized RX7, Cond.code yX7_finds cX7_finds 6 none, Cond.fieldLink RX7 60 "RingGamesModel" "game" "I", Cond.fieldLink RX7 7 "RingGamesModel" "now" "[I", Cond.fieldLink RX7 22 "RingGamesModel" "most" "[I", Cond.fieldLink RX7 19 "RingGamesModel" "measures" "[I", Cond.fieldLink RX7 77 "RingGamesModel" "round" "I", Cond.methodLink RX7 71 yX7_colourIn, Cond.instanceMethod yX7_colourIn, Cond.selects RX7 yX7_colourIn yX7_colourIn, Cond.code yX7_colourIn cX7_colourIn 2 (some .int), Cond.methodLink RX7 48 yX7_of, Cond.instanceMethod yX7_of, Cond.selects RX7 yX7_of yX7_of, Cond.code yX7_of cX7_of 3 (some .int), Cond.methodLink RX7 80 yX7_asks, Cond.instanceMethod yX7_asks, Cond.selects RX7 yX7_asks yX7_asks, Cond.code yX7_asks cX7_asks 6 (some .int), Cond.constant RX7 63 (50625), Cond.methodLink RX7 64 yX7_ownerIn]
def wsX7_winsOf_r2 : List Cond := [Cond.instanceMethod yX7_ownerIn, Cond.selects RX7 yX7_ownerIn yX7_ownerIn, Cond.code yX7_ownerIn cX7_ownerIn 2 (some .int), Cond.methodLink RX7 67 yX7_hasArrow, Cond.instanceMethod yX7_hasArrow, Cond.selects RX7 yX7_hasArrow yX7_hasArrow, Cond.code yX7_hasArrow cX7_hasArrow 3 (some .boolean), Cond.methodLink RX7 74 yX7_wanted, Cond.instanceMethod yX7_wanted, Cond.selects RX7 yX7_wanted yX7_wanted, Cond.code yX7_wanted cX7_wanted 5 (some .int), Cond.fieldLink RX7 25 "RingGamesModel" "numbers" "[I", Cond.methodLink RX7 87 yX7_won, Cond.instanceMethod yX7_won, Cond.selects RX7 yX7_won yX7_won, Cond.code yX7_won cX7_won 3 (some .int)]
def wsX7_winsOf : List Cond := .code yX7_winsOf cX7_winsOf 2 (some .int) :: ((wsX7_winsOf_r1 ++ wsX7_winsOf_r2) ++ wsX70)
def wsX7_choiceAt : List Cond := .code yX7_choiceAt cX7_choiceAt 6 (some .int) :: ([.constant RX7 63 (50625), .fieldLink RX7 7 "RingGamesModel" "now" "[I", .fieldLink RX7 19 "RingGamesModel" "measures" "[I", .methodLink RX7 67 yX7_hasArrow, .instanceMethod yX7_hasArrow, .selects RX7 yX7_hasArrow yX7_hasArrow, .initialized RX7, .code yX7_hasArrow cX7_hasArrow 3 (some .boolean), .methodLink RX7 48 yX7_of, .instanceMethod yX7_of, .selects RX7 yX7_of yX7_of, .code yX7_of cX7_of 3 (some .int), .methodLink RX7 71 yX7_colourIn, .instanceMethod yX7_colourIn, .selects RX7 yX7_colourIn yX7_colourIn, .code yX7_colourIn cX7_colourIn 2 (some .int), .fieldLink RX7 60 "RingGamesModel" "game" "I", .methodLink RX7 74 yX7_wanted, .instanceMethod yX7_wanted, .selects RX7 yX7_wanted yX7_wanted, .code yX7_wanted cX7_wanted 5 (some .int), .fieldLink RX7 25 "RingGamesModel" "numbers" "[I", .fieldLink RX7 22 "RingGamesModel" "most" "[I"] ++ wsX70)
def wsX7_bestChoice_r1 : List Cond := [Cond.methodLink RX7 48 yX7_of, Cond.instanceMethod yX7_of, Cond.selects RX7 yX7_of yX7_of, Cond.initialized RX7, Cond.code yX7_of cX7_of 3 (some .int), Cond.fieldLink RX7 7 "RingGamesModel" "now" "[I", Cond.methodLink RX7 83 yX7_finds, Cond.instanceMethod yX7_finds, Cond.selects RX7 yX7_finds yX7_finds, Cond.code yX7_finds cX7_finds 6 none, Cond.fieldLink RX7 60 "RingGamesModel" "game" "I", Cond.fieldLink RX7 22 "RingGamesModel" "most" "[I", Cond.fieldLink RX7 19 "RingGamesModel" "measures" "[I", Cond.fieldLink RX7 77 "RingGamesModel" "round" "I", Cond.methodLink RX7 71 yX7_colourIn, Cond.instanceMethod yX7_colourIn, Cond.selects RX7 yX7_colourIn yX7_colourIn, Cond.code yX7_colourIn cX7_colourIn 2 (some .int), Cond.methodLink RX7 80 yX7_asks, Cond.instanceMethod yX7_asks, Cond.selects RX7 yX7_asks yX7_asks, Cond.code yX7_asks cX7_asks 6 (some .int), Cond.constant RX7 63 (50625), Cond.methodLink RX7 64 yX7_ownerIn]
def wsX7_bestChoice_r2 : List Cond := [Cond.instanceMethod yX7_ownerIn, Cond.selects RX7 yX7_ownerIn yX7_ownerIn, Cond.code yX7_ownerIn cX7_ownerIn 2 (some .int), Cond.methodLink RX7 67 yX7_hasArrow, Cond.instanceMethod yX7_hasArrow, Cond.selects RX7 yX7_hasArrow yX7_hasArrow, Cond.code yX7_hasArrow cX7_hasArrow 3 (some .boolean), Cond.methodLink RX7 74 yX7_wanted, Cond.instanceMethod yX7_wanted, Cond.selects RX7 yX7_wanted yX7_wanted, Cond.code yX7_wanted cX7_wanted 5 (some .int), Cond.fieldLink RX7 25 "RingGamesModel" "numbers" "[I", Cond.methodLink RX7 91 yX7_choiceAt, Cond.instanceMethod yX7_choiceAt, Cond.selects RX7 yX7_choiceAt yX7_choiceAt, Cond.code yX7_choiceAt cX7_choiceAt 6 (some .int)]
def wsX7_bestChoice : List Cond := .code yX7_bestChoice cX7_bestChoice 2 (some .int) :: ((wsX7_bestChoice_r1 ++ wsX7_bestChoice_r2) ++ wsX70)
def wsX7_winner_r1 : List Cond := [Cond.methodLink RX7 94 yX7_winsOf, Cond.instanceMethod yX7_winsOf, Cond.selects RX7 yX7_winsOf yX7_winsOf, Cond.initialized RX7, Cond.code yX7_winsOf cX7_winsOf 2 (some .int), Cond.methodLink RX7 83 yX7_finds, Cond.instanceMethod yX7_finds, Cond.selects RX7 yX7_finds yX7_finds, Cond.code yX7_finds cX7_finds 6 none, Cond.fieldLink RX7 60 "RingGamesModel" "game" "I", Cond.fieldLink RX7 7 "RingGamesModel" "now" "[I", Cond.fieldLink RX7 22 "RingGamesModel" "most" "[I", Cond.fieldLink RX7 19 "RingGamesModel" "measures" "[I", Cond.fieldLink RX7 77 "RingGamesModel" "round" "I", Cond.methodLink RX7 71 yX7_colourIn, Cond.instanceMethod yX7_colourIn, Cond.selects RX7 yX7_colourIn yX7_colourIn, Cond.code yX7_colourIn cX7_colourIn 2 (some .int), Cond.methodLink RX7 48 yX7_of, Cond.instanceMethod yX7_of, Cond.selects RX7 yX7_of yX7_of, Cond.code yX7_of cX7_of 3 (some .int), Cond.methodLink RX7 80 yX7_asks, Cond.instanceMethod yX7_asks]
def wsX7_winner_r2 : List Cond := [Cond.selects RX7 yX7_asks yX7_asks, Cond.code yX7_asks cX7_asks 6 (some .int), Cond.constant RX7 63 (50625), Cond.methodLink RX7 64 yX7_ownerIn, Cond.instanceMethod yX7_ownerIn, Cond.selects RX7 yX7_ownerIn yX7_ownerIn, Cond.code yX7_ownerIn cX7_ownerIn 2 (some .int), Cond.methodLink RX7 67 yX7_hasArrow, Cond.instanceMethod yX7_hasArrow, Cond.selects RX7 yX7_hasArrow yX7_hasArrow, Cond.code yX7_hasArrow cX7_hasArrow 3 (some .boolean), Cond.methodLink RX7 74 yX7_wanted, Cond.instanceMethod yX7_wanted, Cond.selects RX7 yX7_wanted yX7_wanted, Cond.code yX7_wanted cX7_wanted 5 (some .int), Cond.fieldLink RX7 25 "RingGamesModel" "numbers" "[I", Cond.methodLink RX7 87 yX7_won, Cond.instanceMethod yX7_won, Cond.selects RX7 yX7_won yX7_won, Cond.code yX7_won cX7_won 3 (some .int)]
def wsX7_winner : List Cond := .code yX7_winner cX7_winner 2 (some .int) :: ((wsX7_winner_r1 ++ wsX7_winner_r2) ++ wsX70)
def wsX7_addPlace : List Cond := .code yX7_addPlace cX7_addPlace 4 (some .int) :: ([.fieldLink RX7 7 "RingGamesModel" "now" "[I", .methodLink RX7 44 yX7_in, .static yX7_in, .initialized RX7, .code yX7_in cX7_in 3 (some .boolean), .methodLink RX7 97 yX7_record, .instanceMethod yX7_record, .selects RX7 yX7_record yX7_record, .code yX7_record cX7_record 2 none, .fieldLink RX7 56 "RingGamesModel" "kept" "I", .fieldLink RX7 13 "RingGamesModel" "history" "[I", .methodLink RX7 100 yX7_puts, .instanceMethod yX7_puts, .selects RX7 yX7_puts yX7_puts, .code yX7_puts cX7_puts 4 none] ++ wsX70)
def wsX7_setOwner_r1 : List Cond := [Cond.methodLink RX7 104 yX7_no, Cond.instanceMethod yX7_no, Cond.selects RX7 yX7_no yX7_no, Cond.initialized RX7, Cond.code yX7_no cX7_no 2 (some .boolean), Cond.fieldLink RX7 7 "RingGamesModel" "now" "[I", Cond.methodLink RX7 44 yX7_in, Cond.static yX7_in, Cond.code yX7_in cX7_in 3 (some .boolean), Cond.methodLink RX7 48 yX7_of, Cond.instanceMethod yX7_of, Cond.selects RX7 yX7_of yX7_of, Cond.code yX7_of cX7_of 3 (some .int), Cond.methodLink RX7 97 yX7_record, Cond.instanceMethod yX7_record, Cond.selects RX7 yX7_record yX7_record, Cond.code yX7_record cX7_record 2 none, Cond.fieldLink RX7 56 "RingGamesModel" "kept" "I", Cond.fieldLink RX7 13 "RingGamesModel" "history" "[I", Cond.methodLink RX7 100 yX7_puts, Cond.instanceMethod yX7_puts, Cond.selects RX7 yX7_puts yX7_puts, Cond.code yX7_puts cX7_puts 4 none, Cond.methodLink RX7 94 yX7_winsOf]
def wsX7_setOwner_r2 : List Cond := [Cond.instanceMethod yX7_winsOf, Cond.selects RX7 yX7_winsOf yX7_winsOf, Cond.code yX7_winsOf cX7_winsOf 2 (some .int), Cond.methodLink RX7 83 yX7_finds, Cond.instanceMethod yX7_finds, Cond.selects RX7 yX7_finds yX7_finds, Cond.code yX7_finds cX7_finds 6 none, Cond.fieldLink RX7 60 "RingGamesModel" "game" "I", Cond.fieldLink RX7 22 "RingGamesModel" "most" "[I", Cond.fieldLink RX7 19 "RingGamesModel" "measures" "[I", Cond.fieldLink RX7 77 "RingGamesModel" "round" "I", Cond.methodLink RX7 71 yX7_colourIn, Cond.instanceMethod yX7_colourIn, Cond.selects RX7 yX7_colourIn yX7_colourIn, Cond.code yX7_colourIn cX7_colourIn 2 (some .int), Cond.methodLink RX7 80 yX7_asks, Cond.instanceMethod yX7_asks, Cond.selects RX7 yX7_asks yX7_asks, Cond.code yX7_asks cX7_asks 6 (some .int), Cond.constant RX7 63 (50625), Cond.methodLink RX7 64 yX7_ownerIn, Cond.instanceMethod yX7_ownerIn, Cond.selects RX7 yX7_ownerIn yX7_ownerIn, Cond.code yX7_ownerIn cX7_ownerIn 2 (some .int)]
def wsX7_setOwner_r3 : List Cond := [Cond.methodLink RX7 67 yX7_hasArrow, Cond.instanceMethod yX7_hasArrow, Cond.selects RX7 yX7_hasArrow yX7_hasArrow, Cond.code yX7_hasArrow cX7_hasArrow 3 (some .boolean), Cond.methodLink RX7 74 yX7_wanted, Cond.instanceMethod yX7_wanted, Cond.selects RX7 yX7_wanted yX7_wanted, Cond.code yX7_wanted cX7_wanted 5 (some .int), Cond.fieldLink RX7 25 "RingGamesModel" "numbers" "[I", Cond.methodLink RX7 87 yX7_won, Cond.instanceMethod yX7_won, Cond.selects RX7 yX7_won yX7_won, Cond.code yX7_won cX7_won 3 (some .int)]
def wsX7_setOwner : List Cond := .code yX7_setOwner cX7_setOwner 3 (some .int) :: ((wsX7_setOwner_r1 ++ (wsX7_setOwner_r2 ++ wsX7_setOwner_r3)) ++ wsX70)
def wsX7_setColour : List Cond := .code yX7_setColour cX7_setColour 4 (some .int) :: ([.methodLink RX7 104 yX7_no, .instanceMethod yX7_no, .selects RX7 yX7_no yX7_no, .initialized RX7, .code yX7_no cX7_no 2 (some .boolean), .fieldLink RX7 7 "RingGamesModel" "now" "[I", .methodLink RX7 44 yX7_in, .static yX7_in, .code yX7_in cX7_in 3 (some .boolean), .methodLink RX7 48 yX7_of, .instanceMethod yX7_of, .selects RX7 yX7_of yX7_of, .code yX7_of cX7_of 3 (some .int), .methodLink RX7 97 yX7_record, .instanceMethod yX7_record, .selects RX7 yX7_record yX7_record, .code yX7_record cX7_record 2 none, .fieldLink RX7 56 "RingGamesModel" "kept" "I", .fieldLink RX7 13 "RingGamesModel" "history" "[I", .methodLink RX7 100 yX7_puts, .instanceMethod yX7_puts, .selects RX7 yX7_puts yX7_puts, .code yX7_puts cX7_puts 4 none] ++ wsX70)
def wsX7_addArrow_r1 : List Cond := [Cond.methodLink RX7 104 yX7_no, Cond.instanceMethod yX7_no, Cond.selects RX7 yX7_no yX7_no, Cond.initialized RX7, Cond.code yX7_no cX7_no 2 (some .boolean), Cond.fieldLink RX7 7 "RingGamesModel" "now" "[I", Cond.methodLink RX7 44 yX7_in, Cond.static yX7_in, Cond.code yX7_in cX7_in 3 (some .boolean), Cond.methodLink RX7 67 yX7_hasArrow, Cond.instanceMethod yX7_hasArrow, Cond.selects RX7 yX7_hasArrow yX7_hasArrow, Cond.code yX7_hasArrow cX7_hasArrow 3 (some .boolean), Cond.methodLink RX7 48 yX7_of, Cond.instanceMethod yX7_of, Cond.selects RX7 yX7_of yX7_of, Cond.code yX7_of cX7_of 3 (some .int), Cond.methodLink RX7 108 yX7_arrows, Cond.instanceMethod yX7_arrows, Cond.selects RX7 yX7_arrows yX7_arrows, Cond.code yX7_arrows cX7_arrows 3 (some .int), Cond.methodLink RX7 52 yX7_bits, Cond.static yX7_bits, Cond.code yX7_bits cX7_bits 3 (some .int)]
def wsX7_addArrow_r2 : List Cond := [Cond.methodLink RX7 97 yX7_record, Cond.instanceMethod yX7_record, Cond.selects RX7 yX7_record yX7_record, Cond.code yX7_record cX7_record 2 none, Cond.fieldLink RX7 56 "RingGamesModel" "kept" "I", Cond.fieldLink RX7 13 "RingGamesModel" "history" "[I", Cond.methodLink RX7 100 yX7_puts, Cond.instanceMethod yX7_puts, Cond.selects RX7 yX7_puts yX7_puts, Cond.code yX7_puts cX7_puts 4 none]
def wsX7_addArrow : List Cond := .code yX7_addArrow cX7_addArrow 3 (some .int) :: ((wsX7_addArrow_r1 ++ wsX7_addArrow_r2) ++ wsX70)
def wsX7_removeArrow_r1 : List Cond := [Cond.methodLink RX7 104 yX7_no, Cond.instanceMethod yX7_no, Cond.selects RX7 yX7_no yX7_no, Cond.initialized RX7, Cond.code yX7_no cX7_no 2 (some .boolean), Cond.fieldLink RX7 7 "RingGamesModel" "now" "[I", Cond.methodLink RX7 44 yX7_in, Cond.static yX7_in, Cond.code yX7_in cX7_in 3 (some .boolean), Cond.methodLink RX7 67 yX7_hasArrow, Cond.instanceMethod yX7_hasArrow, Cond.selects RX7 yX7_hasArrow yX7_hasArrow, Cond.code yX7_hasArrow cX7_hasArrow 3 (some .boolean), Cond.methodLink RX7 48 yX7_of, Cond.instanceMethod yX7_of, Cond.selects RX7 yX7_of yX7_of, Cond.code yX7_of cX7_of 3 (some .int), Cond.methodLink RX7 97 yX7_record, Cond.instanceMethod yX7_record, Cond.selects RX7 yX7_record yX7_record, Cond.code yX7_record cX7_record 2 none, Cond.fieldLink RX7 56 "RingGamesModel" "kept" "I", Cond.fieldLink RX7 13 "RingGamesModel" "history" "[I", Cond.methodLink RX7 100 yX7_puts]
def wsX7_removeArrow_r2 : List Cond := [Cond.instanceMethod yX7_puts, Cond.selects RX7 yX7_puts yX7_puts, Cond.code yX7_puts cX7_puts 4 none, Cond.methodLink RX7 52 yX7_bits, Cond.static yX7_bits, Cond.code yX7_bits cX7_bits 3 (some .int)]
def wsX7_removeArrow : List Cond := .code yX7_removeArrow cX7_removeArrow 3 (some .int) :: ((wsX7_removeArrow_r1 ++ wsX7_removeArrow_r2) ++ wsX70)
def wsX7_turnOver_r1 : List Cond := [Cond.fieldLink RX7 7 "RingGamesModel" "now" "[I", Cond.methodLink RX7 48 yX7_of, Cond.instanceMethod yX7_of, Cond.selects RX7 yX7_of yX7_of, Cond.initialized RX7, Cond.code yX7_of cX7_of 3 (some .int), Cond.methodLink RX7 97 yX7_record, Cond.instanceMethod yX7_record, Cond.selects RX7 yX7_record yX7_record, Cond.code yX7_record cX7_record 2 none, Cond.fieldLink RX7 56 "RingGamesModel" "kept" "I", Cond.fieldLink RX7 13 "RingGamesModel" "history" "[I", Cond.methodLink RX7 100 yX7_puts, Cond.instanceMethod yX7_puts, Cond.selects RX7 yX7_puts yX7_puts, Cond.code yX7_puts cX7_puts 4 none, Cond.methodLink RX7 94 yX7_winsOf, Cond.instanceMethod yX7_winsOf, Cond.selects RX7 yX7_winsOf yX7_winsOf, Cond.code yX7_winsOf cX7_winsOf 2 (some .int), Cond.methodLink RX7 83 yX7_finds, Cond.instanceMethod yX7_finds, Cond.selects RX7 yX7_finds yX7_finds, Cond.code yX7_finds cX7_finds 6 none]
def wsX7_turnOver_r2 : List Cond := [Cond.fieldLink RX7 60 "RingGamesModel" "game" "I", Cond.fieldLink RX7 22 "RingGamesModel" "most" "[I", Cond.fieldLink RX7 19 "RingGamesModel" "measures" "[I", Cond.fieldLink RX7 77 "RingGamesModel" "round" "I", Cond.methodLink RX7 71 yX7_colourIn, Cond.instanceMethod yX7_colourIn, Cond.selects RX7 yX7_colourIn yX7_colourIn, Cond.code yX7_colourIn cX7_colourIn 2 (some .int), Cond.methodLink RX7 80 yX7_asks, Cond.instanceMethod yX7_asks, Cond.selects RX7 yX7_asks yX7_asks, Cond.code yX7_asks cX7_asks 6 (some .int), Cond.constant RX7 63 (50625), Cond.methodLink RX7 64 yX7_ownerIn, Cond.instanceMethod yX7_ownerIn, Cond.selects RX7 yX7_ownerIn yX7_ownerIn, Cond.code yX7_ownerIn cX7_ownerIn 2 (some .int), Cond.methodLink RX7 67 yX7_hasArrow, Cond.instanceMethod yX7_hasArrow, Cond.selects RX7 yX7_hasArrow yX7_hasArrow, Cond.code yX7_hasArrow cX7_hasArrow 3 (some .boolean), Cond.methodLink RX7 74 yX7_wanted, Cond.instanceMethod yX7_wanted, Cond.selects RX7 yX7_wanted yX7_wanted]
def wsX7_turnOver_r3 : List Cond := [Cond.code yX7_wanted cX7_wanted 5 (some .int), Cond.fieldLink RX7 25 "RingGamesModel" "numbers" "[I", Cond.methodLink RX7 87 yX7_won, Cond.instanceMethod yX7_won, Cond.selects RX7 yX7_won yX7_won, Cond.code yX7_won cX7_won 3 (some .int)]
def wsX7_turnOver : List Cond := .code yX7_turnOver cX7_turnOver 2 (some .int) :: ((wsX7_turnOver_r1 ++ (wsX7_turnOver_r2 ++ wsX7_turnOver_r3)) ++ wsX70)
def wsX7_choose_r1 : List Cond := [Cond.methodLink RX7 104 yX7_no, Cond.instanceMethod yX7_no, Cond.selects RX7 yX7_no yX7_no, Cond.initialized RX7, Cond.code yX7_no cX7_no 2 (some .boolean), Cond.fieldLink RX7 7 "RingGamesModel" "now" "[I", Cond.methodLink RX7 44 yX7_in, Cond.static yX7_in, Cond.code yX7_in cX7_in 3 (some .boolean), Cond.methodLink RX7 67 yX7_hasArrow, Cond.instanceMethod yX7_hasArrow, Cond.selects RX7 yX7_hasArrow yX7_hasArrow, Cond.code yX7_hasArrow cX7_hasArrow 3 (some .boolean), Cond.methodLink RX7 48 yX7_of, Cond.instanceMethod yX7_of, Cond.selects RX7 yX7_of yX7_of, Cond.code yX7_of cX7_of 3 (some .int), Cond.methodLink RX7 97 yX7_record, Cond.instanceMethod yX7_record, Cond.selects RX7 yX7_record yX7_record, Cond.code yX7_record cX7_record 2 none, Cond.fieldLink RX7 56 "RingGamesModel" "kept" "I", Cond.fieldLink RX7 13 "RingGamesModel" "history" "[I", Cond.methodLink RX7 100 yX7_puts]
def wsX7_choose_r2 : List Cond := [Cond.instanceMethod yX7_puts, Cond.selects RX7 yX7_puts yX7_puts, Cond.code yX7_puts cX7_puts 4 none]
def wsX7_choose : List Cond := .code yX7_choose cX7_choose 4 (some .int) :: ((wsX7_choose_r1 ++ wsX7_choose_r2) ++ wsX70)
def wsX7_chooseWell_r1 : List Cond := [Cond.fieldLink RX7 7 "RingGamesModel" "now" "[I", Cond.methodLink RX7 111 yX7_noPlayer, Cond.static yX7_noPlayer, Cond.initialized RX7, Cond.code yX7_noPlayer cX7_noPlayer 1 (some .boolean), Cond.methodLink RX7 44 yX7_in, Cond.static yX7_in, Cond.code yX7_in cX7_in 3 (some .boolean), Cond.methodLink RX7 97 yX7_record, Cond.instanceMethod yX7_record, Cond.selects RX7 yX7_record yX7_record, Cond.code yX7_record cX7_record 2 none, Cond.fieldLink RX7 56 "RingGamesModel" "kept" "I", Cond.fieldLink RX7 13 "RingGamesModel" "history" "[I", Cond.methodLink RX7 83 yX7_finds, Cond.instanceMethod yX7_finds, Cond.selects RX7 yX7_finds yX7_finds, Cond.code yX7_finds cX7_finds 6 none, Cond.fieldLink RX7 60 "RingGamesModel" "game" "I", Cond.fieldLink RX7 22 "RingGamesModel" "most" "[I", Cond.fieldLink RX7 19 "RingGamesModel" "measures" "[I", Cond.fieldLink RX7 77 "RingGamesModel" "round" "I", Cond.methodLink RX7 71 yX7_colourIn, Cond.instanceMethod yX7_colourIn]
def wsX7_chooseWell_r2 : List Cond := [Cond.selects RX7 yX7_colourIn yX7_colourIn, Cond.code yX7_colourIn cX7_colourIn 2 (some .int), Cond.methodLink RX7 48 yX7_of, Cond.instanceMethod yX7_of, Cond.selects RX7 yX7_of yX7_of, Cond.code yX7_of cX7_of 3 (some .int), Cond.methodLink RX7 80 yX7_asks, Cond.instanceMethod yX7_asks, Cond.selects RX7 yX7_asks yX7_asks, Cond.code yX7_asks cX7_asks 6 (some .int), Cond.constant RX7 63 (50625), Cond.methodLink RX7 64 yX7_ownerIn, Cond.instanceMethod yX7_ownerIn, Cond.selects RX7 yX7_ownerIn yX7_ownerIn, Cond.code yX7_ownerIn cX7_ownerIn 2 (some .int), Cond.methodLink RX7 67 yX7_hasArrow, Cond.instanceMethod yX7_hasArrow, Cond.selects RX7 yX7_hasArrow yX7_hasArrow, Cond.code yX7_hasArrow cX7_hasArrow 3 (some .boolean), Cond.methodLink RX7 74 yX7_wanted, Cond.instanceMethod yX7_wanted, Cond.selects RX7 yX7_wanted yX7_wanted, Cond.code yX7_wanted cX7_wanted 5 (some .int), Cond.fieldLink RX7 25 "RingGamesModel" "numbers" "[I"]
def wsX7_chooseWell_r3 : List Cond := [Cond.methodLink RX7 91 yX7_choiceAt, Cond.instanceMethod yX7_choiceAt, Cond.selects RX7 yX7_choiceAt yX7_choiceAt, Cond.code yX7_choiceAt cX7_choiceAt 6 (some .int), Cond.methodLink RX7 100 yX7_puts, Cond.instanceMethod yX7_puts, Cond.selects RX7 yX7_puts yX7_puts, Cond.code yX7_puts cX7_puts 4 none]
def wsX7_chooseWell : List Cond := .code yX7_chooseWell cX7_chooseWell 5 (some .int) :: ((wsX7_chooseWell_r1 ++ (wsX7_chooseWell_r2 ++ wsX7_chooseWell_r3)) ++ wsX70)
def wsX7_start_r1 : List Cond := [Cond.fieldLink RX7 7 "RingGamesModel" "now" "[I", Cond.methodLink RX7 104 yX7_no, Cond.instanceMethod yX7_no, Cond.selects RX7 yX7_no yX7_no, Cond.initialized RX7, Cond.code yX7_no cX7_no 2 (some .boolean), Cond.methodLink RX7 44 yX7_in, Cond.static yX7_in, Cond.code yX7_in cX7_in 3 (some .boolean), Cond.methodLink RX7 97 yX7_record, Cond.instanceMethod yX7_record, Cond.selects RX7 yX7_record yX7_record, Cond.code yX7_record cX7_record 2 none, Cond.fieldLink RX7 56 "RingGamesModel" "kept" "I", Cond.fieldLink RX7 13 "RingGamesModel" "history" "[I", Cond.methodLink RX7 114 yX7_winner, Cond.instanceMethod yX7_winner, Cond.selects RX7 yX7_winner yX7_winner, Cond.code yX7_winner cX7_winner 2 (some .int), Cond.methodLink RX7 94 yX7_winsOf, Cond.instanceMethod yX7_winsOf, Cond.selects RX7 yX7_winsOf yX7_winsOf, Cond.code yX7_winsOf cX7_winsOf 2 (some .int), Cond.methodLink RX7 83 yX7_finds]
def wsX7_start_r2 : List Cond := [Cond.instanceMethod yX7_finds, Cond.selects RX7 yX7_finds yX7_finds, Cond.code yX7_finds cX7_finds 6 none, Cond.fieldLink RX7 60 "RingGamesModel" "game" "I", Cond.fieldLink RX7 22 "RingGamesModel" "most" "[I", Cond.fieldLink RX7 19 "RingGamesModel" "measures" "[I", Cond.fieldLink RX7 77 "RingGamesModel" "round" "I", Cond.methodLink RX7 71 yX7_colourIn, Cond.instanceMethod yX7_colourIn, Cond.selects RX7 yX7_colourIn yX7_colourIn, Cond.code yX7_colourIn cX7_colourIn 2 (some .int), Cond.methodLink RX7 48 yX7_of, Cond.instanceMethod yX7_of, Cond.selects RX7 yX7_of yX7_of, Cond.code yX7_of cX7_of 3 (some .int), Cond.methodLink RX7 80 yX7_asks, Cond.instanceMethod yX7_asks, Cond.selects RX7 yX7_asks yX7_asks, Cond.code yX7_asks cX7_asks 6 (some .int), Cond.constant RX7 63 (50625), Cond.methodLink RX7 64 yX7_ownerIn, Cond.instanceMethod yX7_ownerIn, Cond.selects RX7 yX7_ownerIn yX7_ownerIn, Cond.code yX7_ownerIn cX7_ownerIn 2 (some .int)]
def wsX7_start_r3 : List Cond := [Cond.methodLink RX7 67 yX7_hasArrow, Cond.instanceMethod yX7_hasArrow, Cond.selects RX7 yX7_hasArrow yX7_hasArrow, Cond.code yX7_hasArrow cX7_hasArrow 3 (some .boolean), Cond.methodLink RX7 74 yX7_wanted, Cond.instanceMethod yX7_wanted, Cond.selects RX7 yX7_wanted yX7_wanted, Cond.code yX7_wanted cX7_wanted 5 (some .int), Cond.fieldLink RX7 25 "RingGamesModel" "numbers" "[I", Cond.methodLink RX7 87 yX7_won, Cond.instanceMethod yX7_won, Cond.selects RX7 yX7_won yX7_won, Cond.code yX7_won cX7_won 3 (some .int)]
def wsX7_start : List Cond := .code yX7_start cX7_start 2 (some .int) :: ((wsX7_start_r1 ++ (wsX7_start_r2 ++ wsX7_start_r3)) ++ wsX70)
def wsX7_goesTo_r1 : List Cond := [Cond.methodLink RX7 48 yX7_of, Cond.instanceMethod yX7_of, Cond.selects RX7 yX7_of yX7_of, Cond.initialized RX7, Cond.code yX7_of cX7_of 3 (some .int), Cond.fieldLink RX7 7 "RingGamesModel" "now" "[I", Cond.methodLink RX7 117 yX7_bestChoice, Cond.instanceMethod yX7_bestChoice, Cond.selects RX7 yX7_bestChoice yX7_bestChoice, Cond.code yX7_bestChoice cX7_bestChoice 2 (some .int), Cond.methodLink RX7 83 yX7_finds, Cond.instanceMethod yX7_finds, Cond.selects RX7 yX7_finds yX7_finds, Cond.code yX7_finds cX7_finds 6 none, Cond.fieldLink RX7 60 "RingGamesModel" "game" "I", Cond.fieldLink RX7 22 "RingGamesModel" "most" "[I", Cond.fieldLink RX7 19 "RingGamesModel" "measures" "[I", Cond.fieldLink RX7 77 "RingGamesModel" "round" "I", Cond.methodLink RX7 71 yX7_colourIn, Cond.instanceMethod yX7_colourIn, Cond.selects RX7 yX7_colourIn yX7_colourIn, Cond.code yX7_colourIn cX7_colourIn 2 (some .int), Cond.methodLink RX7 80 yX7_asks, Cond.instanceMethod yX7_asks]
def wsX7_goesTo_r2 : List Cond := [Cond.selects RX7 yX7_asks yX7_asks, Cond.code yX7_asks cX7_asks 6 (some .int), Cond.constant RX7 63 (50625), Cond.methodLink RX7 64 yX7_ownerIn, Cond.instanceMethod yX7_ownerIn, Cond.selects RX7 yX7_ownerIn yX7_ownerIn, Cond.code yX7_ownerIn cX7_ownerIn 2 (some .int), Cond.methodLink RX7 67 yX7_hasArrow, Cond.instanceMethod yX7_hasArrow, Cond.selects RX7 yX7_hasArrow yX7_hasArrow, Cond.code yX7_hasArrow cX7_hasArrow 3 (some .boolean), Cond.methodLink RX7 74 yX7_wanted, Cond.instanceMethod yX7_wanted, Cond.selects RX7 yX7_wanted yX7_wanted, Cond.code yX7_wanted cX7_wanted 5 (some .int), Cond.fieldLink RX7 25 "RingGamesModel" "numbers" "[I", Cond.methodLink RX7 91 yX7_choiceAt, Cond.instanceMethod yX7_choiceAt, Cond.selects RX7 yX7_choiceAt yX7_choiceAt, Cond.code yX7_choiceAt cX7_choiceAt 6 (some .int), Cond.methodLink RX7 120 yX7_lowest, Cond.static yX7_lowest, Cond.code yX7_lowest cX7_lowest 2 (some .int)]
def wsX7_goesTo : List Cond := .code yX7_goesTo cX7_goesTo 3 (some .int) :: ((wsX7_goesTo_r1 ++ wsX7_goesTo_r2) ++ wsX70)
def wsX7_step_r1 : List Cond := [Cond.fieldLink RX7 7 "RingGamesModel" "now" "[I", Cond.methodLink RX7 44 yX7_in, Cond.static yX7_in, Cond.initialized RX7, Cond.code yX7_in cX7_in 3 (some .boolean), Cond.methodLink RX7 48 yX7_of, Cond.instanceMethod yX7_of, Cond.selects RX7 yX7_of yX7_of, Cond.code yX7_of cX7_of 3 (some .int), Cond.methodLink RX7 97 yX7_record, Cond.instanceMethod yX7_record, Cond.selects RX7 yX7_record yX7_record, Cond.code yX7_record cX7_record 2 none, Cond.fieldLink RX7 56 "RingGamesModel" "kept" "I", Cond.fieldLink RX7 13 "RingGamesModel" "history" "[I", Cond.methodLink RX7 123 yX7_goesTo, Cond.instanceMethod yX7_goesTo, Cond.selects RX7 yX7_goesTo yX7_goesTo, Cond.code yX7_goesTo cX7_goesTo 3 (some .int), Cond.methodLink RX7 117 yX7_bestChoice, Cond.instanceMethod yX7_bestChoice, Cond.selects RX7 yX7_bestChoice yX7_bestChoice, Cond.code yX7_bestChoice cX7_bestChoice 2 (some .int), Cond.methodLink RX7 83 yX7_finds]
def wsX7_step_r2 : List Cond := [Cond.instanceMethod yX7_finds, Cond.selects RX7 yX7_finds yX7_finds, Cond.code yX7_finds cX7_finds 6 none, Cond.fieldLink RX7 60 "RingGamesModel" "game" "I", Cond.fieldLink RX7 22 "RingGamesModel" "most" "[I", Cond.fieldLink RX7 19 "RingGamesModel" "measures" "[I", Cond.fieldLink RX7 77 "RingGamesModel" "round" "I", Cond.methodLink RX7 71 yX7_colourIn, Cond.instanceMethod yX7_colourIn, Cond.selects RX7 yX7_colourIn yX7_colourIn, Cond.code yX7_colourIn cX7_colourIn 2 (some .int), Cond.methodLink RX7 80 yX7_asks, Cond.instanceMethod yX7_asks, Cond.selects RX7 yX7_asks yX7_asks, Cond.code yX7_asks cX7_asks 6 (some .int), Cond.constant RX7 63 (50625), Cond.methodLink RX7 64 yX7_ownerIn, Cond.instanceMethod yX7_ownerIn, Cond.selects RX7 yX7_ownerIn yX7_ownerIn, Cond.code yX7_ownerIn cX7_ownerIn 2 (some .int), Cond.methodLink RX7 67 yX7_hasArrow, Cond.instanceMethod yX7_hasArrow, Cond.selects RX7 yX7_hasArrow yX7_hasArrow, Cond.code yX7_hasArrow cX7_hasArrow 3 (some .boolean)]
def wsX7_step_r3 : List Cond := [Cond.methodLink RX7 74 yX7_wanted, Cond.instanceMethod yX7_wanted, Cond.selects RX7 yX7_wanted yX7_wanted, Cond.code yX7_wanted cX7_wanted 5 (some .int), Cond.fieldLink RX7 25 "RingGamesModel" "numbers" "[I", Cond.methodLink RX7 91 yX7_choiceAt, Cond.instanceMethod yX7_choiceAt, Cond.selects RX7 yX7_choiceAt yX7_choiceAt, Cond.code yX7_choiceAt cX7_choiceAt 6 (some .int), Cond.methodLink RX7 120 yX7_lowest, Cond.static yX7_lowest, Cond.code yX7_lowest cX7_lowest 2 (some .int)]
def wsX7_step : List Cond := .code yX7_step cX7_step 4 (some .int) :: ((wsX7_step_r1 ++ (wsX7_step_r2 ++ wsX7_step_r3)) ++ wsX70)
def wsX7_type : List Cond := .code yX7_type cX7_type 2 (some .int) :: ([.fieldLink RX7 126 "RingGamesModel" "typed" "I", .fieldLink RX7 28 "RingGamesModel" "text" "[C"] ++ wsX70)
def wsX7_clearText : List Cond := .code yX7_clearText cX7_clearText 2 (some .int) :: ([.fieldLink RX7 126 "RingGamesModel" "typed" "I"] ++ wsX70)
def wsX7_isDigit : List Cond := .code yX7_isDigit cX7_isDigit 1 (some .boolean) :: ([.fieldLink RX7 129 "RingGamesModel" "at" "I", .fieldLink RX7 126 "RingGamesModel" "typed" "I", .fieldLink RX7 28 "RingGamesModel" "text" "[C", .methodLink RX7 44 yX7_in, .static yX7_in, .initialized RX7, .code yX7_in cX7_in 3 (some .boolean)] ++ wsX70)
def wsX7_takes : List Cond := .code yX7_takes cX7_takes 3 (some .boolean) :: ([.fieldLink RX7 129 "RingGamesModel" "at" "I", .fieldLink RX7 126 "RingGamesModel" "typed" "I", .fieldLink RX7 28 "RingGamesModel" "text" "[C"] ++ wsX70)
def wsX7_takesNumber : List Cond := .code yX7_takesNumber cX7_takesNumber 1 (some .boolean) :: ([.fieldLink RX7 28 "RingGamesModel" "text" "[C", .fieldLink RX7 129 "RingGamesModel" "at" "I", .fieldLink RX7 136 "RingGamesModel" "number" "I", .methodLink RX7 132 yX7_isDigit, .instanceMethod yX7_isDigit, .selects RX7 yX7_isDigit yX7_isDigit, .initialized RX7, .code yX7_isDigit cX7_isDigit 1 (some .boolean), .fieldLink RX7 126 "RingGamesModel" "typed" "I", .methodLink RX7 44 yX7_in, .static yX7_in, .code yX7_in cX7_in 3 (some .boolean)] ++ wsX70)
def wsX7_isRead_r1 : List Cond := [Cond.fieldLink RX7 129 "RingGamesModel" "at" "I", Cond.fieldLink RX7 139 "RingGamesModel" "beyond" "I", Cond.fieldLink RX7 32 "RingGamesModel" "reads" "[I", Cond.fieldLink RX7 136 "RingGamesModel" "number" "I", Cond.fieldLink RX7 126 "RingGamesModel" "typed" "I", Cond.methodLink RX7 142 yX7_takesNumber, Cond.instanceMethod yX7_takesNumber, Cond.selects RX7 yX7_takesNumber yX7_takesNumber, Cond.initialized RX7, Cond.code yX7_takesNumber cX7_takesNumber 1 (some .boolean), Cond.fieldLink RX7 28 "RingGamesModel" "text" "[C", Cond.methodLink RX7 132 yX7_isDigit, Cond.instanceMethod yX7_isDigit, Cond.selects RX7 yX7_isDigit yX7_isDigit, Cond.code yX7_isDigit cX7_isDigit 1 (some .boolean), Cond.methodLink RX7 44 yX7_in, Cond.static yX7_in, Cond.code yX7_in cX7_in 3 (some .boolean), Cond.methodLink RX7 104 yX7_no, Cond.instanceMethod yX7_no, Cond.selects RX7 yX7_no yX7_no, Cond.code yX7_no cX7_no 2 (some .boolean), Cond.fieldLink RX7 7 "RingGamesModel" "now" "[I", Cond.methodLink RX7 145 yX7_takes]
def wsX7_isRead_r2 : List Cond := [Cond.instanceMethod yX7_takes, Cond.selects RX7 yX7_takes yX7_takes, Cond.code yX7_takes cX7_takes 3 (some .boolean)]
def wsX7_isRead : List Cond := .code yX7_isRead cX7_isRead 4 (some .boolean) :: ((wsX7_isRead_r1 ++ wsX7_isRead_r2) ++ wsX70)
def wsX7_readArrows_r1 : List Cond := [Cond.fieldLink RX7 129 "RingGamesModel" "at" "I", Cond.fieldLink RX7 139 "RingGamesModel" "beyond" "I", Cond.fieldLink RX7 7 "RingGamesModel" "now" "[I", Cond.fieldLink RX7 32 "RingGamesModel" "reads" "[I", Cond.methodLink RX7 148 yX7_isRead, Cond.instanceMethod yX7_isRead, Cond.selects RX7 yX7_isRead yX7_isRead, Cond.initialized RX7, Cond.code yX7_isRead cX7_isRead 4 (some .boolean), Cond.fieldLink RX7 136 "RingGamesModel" "number" "I", Cond.fieldLink RX7 126 "RingGamesModel" "typed" "I", Cond.methodLink RX7 142 yX7_takesNumber, Cond.instanceMethod yX7_takesNumber, Cond.selects RX7 yX7_takesNumber yX7_takesNumber, Cond.code yX7_takesNumber cX7_takesNumber 1 (some .boolean), Cond.fieldLink RX7 28 "RingGamesModel" "text" "[C", Cond.methodLink RX7 132 yX7_isDigit, Cond.instanceMethod yX7_isDigit, Cond.selects RX7 yX7_isDigit yX7_isDigit, Cond.code yX7_isDigit cX7_isDigit 1 (some .boolean), Cond.methodLink RX7 44 yX7_in, Cond.static yX7_in, Cond.code yX7_in cX7_in 3 (some .boolean), Cond.methodLink RX7 104 yX7_no]
def wsX7_readArrows_r2 : List Cond := [Cond.instanceMethod yX7_no, Cond.selects RX7 yX7_no yX7_no, Cond.code yX7_no cX7_no 2 (some .boolean), Cond.methodLink RX7 145 yX7_takes, Cond.instanceMethod yX7_takes, Cond.selects RX7 yX7_takes yX7_takes, Cond.code yX7_takes cX7_takes 3 (some .boolean), Cond.methodLink RX7 48 yX7_of, Cond.instanceMethod yX7_of, Cond.selects RX7 yX7_of yX7_of, Cond.code yX7_of cX7_of 3 (some .int), Cond.methodLink RX7 52 yX7_bits, Cond.static yX7_bits, Cond.code yX7_bits cX7_bits 3 (some .int), Cond.methodLink RX7 108 yX7_arrows, Cond.instanceMethod yX7_arrows, Cond.selects RX7 yX7_arrows yX7_arrows, Cond.code yX7_arrows cX7_arrows 3 (some .int), Cond.methodLink RX7 97 yX7_record, Cond.instanceMethod yX7_record, Cond.selects RX7 yX7_record yX7_record, Cond.code yX7_record cX7_record 2 none, Cond.fieldLink RX7 56 "RingGamesModel" "kept" "I", Cond.fieldLink RX7 13 "RingGamesModel" "history" "[I"]
def wsX7_readArrows_r3 : List Cond := [Cond.methodLink RX7 100 yX7_puts, Cond.instanceMethod yX7_puts, Cond.selects RX7 yX7_puts yX7_puts, Cond.code yX7_puts cX7_puts 4 none]
def wsX7_readArrows : List Cond := .code yX7_readArrows cX7_readArrows 3 (some .int) :: ((wsX7_readArrows_r1 ++ (wsX7_readArrows_r2 ++ wsX7_readArrows_r3)) ++ wsX70)
def wsX7_undo : List Cond := .code yX7_undo cX7_undo 2 (some .int) :: ([.fieldLink RX7 56 "RingGamesModel" "kept" "I", .fieldLink RX7 7 "RingGamesModel" "now" "[I", .fieldLink RX7 13 "RingGamesModel" "history" "[I"] ++ wsX70)
def wsX7_keep : List Cond := .code yX7_keep cX7_keep 2 (some .int) :: ([.fieldLink RX7 16 "RingGamesModel" "slot" "[I", .fieldLink RX7 7 "RingGamesModel" "now" "[I", .fieldLink RX7 151 "RingGamesModel" "isFilled" "Z"] ++ wsX70)
def wsX7_restore : List Cond := .code yX7_restore cX7_restore 2 (some .int) :: ([.fieldLink RX7 151 "RingGamesModel" "isFilled" "Z", .fieldLink RX7 7 "RingGamesModel" "now" "[I", .fieldLink RX7 16 "RingGamesModel" "slot" "[I", .methodLink RX7 97 yX7_record, .instanceMethod yX7_record, .selects RX7 yX7_record yX7_record, .initialized RX7, .code yX7_record cX7_record 2 none, .fieldLink RX7 56 "RingGamesModel" "kept" "I", .fieldLink RX7 13 "RingGamesModel" "history" "[I"] ++ wsX70)
def wsX7_sources : List Cond := .code yX7_sources cX7_sources 4 (some .int) :: ([.fieldLink RX7 7 "RingGamesModel" "now" "[I", .methodLink RX7 67 yX7_hasArrow, .instanceMethod yX7_hasArrow, .selects RX7 yX7_hasArrow yX7_hasArrow, .initialized RX7, .code yX7_hasArrow cX7_hasArrow 3 (some .boolean), .methodLink RX7 48 yX7_of, .instanceMethod yX7_of, .selects RX7 yX7_of yX7_of, .code yX7_of cX7_of 3 (some .int)] ++ wsX70)
def wsX7_place_r1 : List Cond := [Cond.methodLink RX7 104 yX7_no, Cond.instanceMethod yX7_no, Cond.selects RX7 yX7_no yX7_no, Cond.initialized RX7, Cond.code yX7_no cX7_no 2 (some .boolean), Cond.fieldLink RX7 7 "RingGamesModel" "now" "[I", Cond.methodLink RX7 44 yX7_in, Cond.static yX7_in, Cond.code yX7_in cX7_in 3 (some .boolean), Cond.methodLink RX7 48 yX7_of, Cond.instanceMethod yX7_of, Cond.selects RX7 yX7_of yX7_of, Cond.code yX7_of cX7_of 3 (some .int), Cond.methodLink RX7 155 yX7_sources, Cond.instanceMethod yX7_sources, Cond.selects RX7 yX7_sources yX7_sources, Cond.code yX7_sources cX7_sources 4 (some .int), Cond.methodLink RX7 67 yX7_hasArrow, Cond.instanceMethod yX7_hasArrow, Cond.selects RX7 yX7_hasArrow yX7_hasArrow, Cond.code yX7_hasArrow cX7_hasArrow 3 (some .boolean), Cond.methodLink RX7 114 yX7_winner, Cond.instanceMethod yX7_winner, Cond.selects RX7 yX7_winner yX7_winner]
def wsX7_place_r2 : List Cond := [Cond.code yX7_winner cX7_winner 2 (some .int), Cond.methodLink RX7 94 yX7_winsOf, Cond.instanceMethod yX7_winsOf, Cond.selects RX7 yX7_winsOf yX7_winsOf, Cond.code yX7_winsOf cX7_winsOf 2 (some .int), Cond.methodLink RX7 83 yX7_finds, Cond.instanceMethod yX7_finds, Cond.selects RX7 yX7_finds yX7_finds, Cond.code yX7_finds cX7_finds 6 none, Cond.fieldLink RX7 60 "RingGamesModel" "game" "I", Cond.fieldLink RX7 22 "RingGamesModel" "most" "[I", Cond.fieldLink RX7 19 "RingGamesModel" "measures" "[I", Cond.fieldLink RX7 77 "RingGamesModel" "round" "I", Cond.methodLink RX7 71 yX7_colourIn, Cond.instanceMethod yX7_colourIn, Cond.selects RX7 yX7_colourIn yX7_colourIn, Cond.code yX7_colourIn cX7_colourIn 2 (some .int), Cond.methodLink RX7 80 yX7_asks, Cond.instanceMethod yX7_asks, Cond.selects RX7 yX7_asks yX7_asks, Cond.code yX7_asks cX7_asks 6 (some .int), Cond.constant RX7 63 (50625), Cond.methodLink RX7 64 yX7_ownerIn, Cond.instanceMethod yX7_ownerIn]
def wsX7_place_r3 : List Cond := [Cond.selects RX7 yX7_ownerIn yX7_ownerIn, Cond.code yX7_ownerIn cX7_ownerIn 2 (some .int), Cond.methodLink RX7 74 yX7_wanted, Cond.instanceMethod yX7_wanted, Cond.selects RX7 yX7_wanted yX7_wanted, Cond.code yX7_wanted cX7_wanted 5 (some .int), Cond.fieldLink RX7 25 "RingGamesModel" "numbers" "[I", Cond.methodLink RX7 87 yX7_won, Cond.instanceMethod yX7_won, Cond.selects RX7 yX7_won yX7_won, Cond.code yX7_won cX7_won 3 (some .int)]
def wsX7_place : List Cond := .code yX7_place cX7_place 3 (some .int) :: ((wsX7_place_r1 ++ (wsX7_place_r2 ++ wsX7_place_r3)) ++ wsX70)
def wsX7_wins_r1 : List Cond := [Cond.methodLink RX7 111 yX7_noPlayer, Cond.static yX7_noPlayer, Cond.initialized RX7, Cond.code yX7_noPlayer cX7_noPlayer 1 (some .boolean), Cond.methodLink RX7 44 yX7_in, Cond.static yX7_in, Cond.code yX7_in cX7_in 3 (some .boolean), Cond.methodLink RX7 94 yX7_winsOf, Cond.instanceMethod yX7_winsOf, Cond.selects RX7 yX7_winsOf yX7_winsOf, Cond.code yX7_winsOf cX7_winsOf 2 (some .int), Cond.methodLink RX7 83 yX7_finds, Cond.instanceMethod yX7_finds, Cond.selects RX7 yX7_finds yX7_finds, Cond.code yX7_finds cX7_finds 6 none, Cond.fieldLink RX7 60 "RingGamesModel" "game" "I", Cond.fieldLink RX7 7 "RingGamesModel" "now" "[I", Cond.fieldLink RX7 22 "RingGamesModel" "most" "[I", Cond.fieldLink RX7 19 "RingGamesModel" "measures" "[I", Cond.fieldLink RX7 77 "RingGamesModel" "round" "I", Cond.methodLink RX7 71 yX7_colourIn, Cond.instanceMethod yX7_colourIn, Cond.selects RX7 yX7_colourIn yX7_colourIn, Cond.code yX7_colourIn cX7_colourIn 2 (some .int)]
def wsX7_wins_r2 : List Cond := [Cond.methodLink RX7 48 yX7_of, Cond.instanceMethod yX7_of, Cond.selects RX7 yX7_of yX7_of, Cond.code yX7_of cX7_of 3 (some .int), Cond.methodLink RX7 80 yX7_asks, Cond.instanceMethod yX7_asks, Cond.selects RX7 yX7_asks yX7_asks, Cond.code yX7_asks cX7_asks 6 (some .int), Cond.constant RX7 63 (50625), Cond.methodLink RX7 64 yX7_ownerIn, Cond.instanceMethod yX7_ownerIn, Cond.selects RX7 yX7_ownerIn yX7_ownerIn, Cond.code yX7_ownerIn cX7_ownerIn 2 (some .int), Cond.methodLink RX7 67 yX7_hasArrow, Cond.instanceMethod yX7_hasArrow, Cond.selects RX7 yX7_hasArrow yX7_hasArrow, Cond.code yX7_hasArrow cX7_hasArrow 3 (some .boolean), Cond.methodLink RX7 74 yX7_wanted, Cond.instanceMethod yX7_wanted, Cond.selects RX7 yX7_wanted yX7_wanted, Cond.code yX7_wanted cX7_wanted 5 (some .int), Cond.fieldLink RX7 25 "RingGamesModel" "numbers" "[I", Cond.methodLink RX7 87 yX7_won, Cond.instanceMethod yX7_won]
def wsX7_wins_r3 : List Cond := [Cond.selects RX7 yX7_won yX7_won, Cond.code yX7_won cX7_won 3 (some .int)]
def wsX7_wins : List Cond := .code yX7_wins cX7_wins 2 (some .int) :: ((wsX7_wins_r1 ++ (wsX7_wins_r2 ++ wsX7_wins_r3)) ++ wsX70)
def wsX7_winningChoice_r1 : List Cond := [Cond.methodLink RX7 104 yX7_no, Cond.instanceMethod yX7_no, Cond.selects RX7 yX7_no yX7_no, Cond.initialized RX7, Cond.code yX7_no cX7_no 2 (some .boolean), Cond.fieldLink RX7 7 "RingGamesModel" "now" "[I", Cond.methodLink RX7 44 yX7_in, Cond.static yX7_in, Cond.code yX7_in cX7_in 3 (some .boolean), Cond.methodLink RX7 117 yX7_bestChoice, Cond.instanceMethod yX7_bestChoice, Cond.selects RX7 yX7_bestChoice yX7_bestChoice, Cond.code yX7_bestChoice cX7_bestChoice 2 (some .int), Cond.methodLink RX7 48 yX7_of, Cond.instanceMethod yX7_of, Cond.selects RX7 yX7_of yX7_of, Cond.code yX7_of cX7_of 3 (some .int), Cond.methodLink RX7 83 yX7_finds, Cond.instanceMethod yX7_finds, Cond.selects RX7 yX7_finds yX7_finds, Cond.code yX7_finds cX7_finds 6 none, Cond.fieldLink RX7 60 "RingGamesModel" "game" "I", Cond.fieldLink RX7 22 "RingGamesModel" "most" "[I", Cond.fieldLink RX7 19 "RingGamesModel" "measures" "[I"]
def wsX7_winningChoice_r2 : List Cond := [Cond.fieldLink RX7 77 "RingGamesModel" "round" "I", Cond.methodLink RX7 71 yX7_colourIn, Cond.instanceMethod yX7_colourIn, Cond.selects RX7 yX7_colourIn yX7_colourIn, Cond.code yX7_colourIn cX7_colourIn 2 (some .int), Cond.methodLink RX7 80 yX7_asks, Cond.instanceMethod yX7_asks, Cond.selects RX7 yX7_asks yX7_asks, Cond.code yX7_asks cX7_asks 6 (some .int), Cond.constant RX7 63 (50625), Cond.methodLink RX7 64 yX7_ownerIn, Cond.instanceMethod yX7_ownerIn, Cond.selects RX7 yX7_ownerIn yX7_ownerIn, Cond.code yX7_ownerIn cX7_ownerIn 2 (some .int), Cond.methodLink RX7 67 yX7_hasArrow, Cond.instanceMethod yX7_hasArrow, Cond.selects RX7 yX7_hasArrow yX7_hasArrow, Cond.code yX7_hasArrow cX7_hasArrow 3 (some .boolean), Cond.methodLink RX7 74 yX7_wanted, Cond.instanceMethod yX7_wanted, Cond.selects RX7 yX7_wanted yX7_wanted, Cond.code yX7_wanted cX7_wanted 5 (some .int), Cond.fieldLink RX7 25 "RingGamesModel" "numbers" "[I", Cond.methodLink RX7 91 yX7_choiceAt]
def wsX7_winningChoice_r3 : List Cond := [Cond.instanceMethod yX7_choiceAt, Cond.selects RX7 yX7_choiceAt yX7_choiceAt, Cond.code yX7_choiceAt cX7_choiceAt 6 (some .int)]
def wsX7_winningChoice : List Cond := .code yX7_winningChoice cX7_winningChoice 2 (some .int) :: ((wsX7_winningChoice_r1 ++ (wsX7_winningChoice_r2 ++ wsX7_winningChoice_r3)) ++ wsX70)
def wsX7_measure_r1 : List Cond := [Cond.fieldLink RX7 19 "RingGamesModel" "measures" "[I", Cond.constant RX7 63 (50625), Cond.methodLink RX7 111 yX7_noPlayer, Cond.static yX7_noPlayer, Cond.initialized RX7, Cond.code yX7_noPlayer cX7_noPlayer 1 (some .boolean), Cond.methodLink RX7 44 yX7_in, Cond.static yX7_in, Cond.code yX7_in cX7_in 3 (some .boolean), Cond.methodLink RX7 104 yX7_no, Cond.instanceMethod yX7_no, Cond.selects RX7 yX7_no yX7_no, Cond.code yX7_no cX7_no 2 (some .boolean), Cond.fieldLink RX7 7 "RingGamesModel" "now" "[I", Cond.methodLink RX7 83 yX7_finds, Cond.instanceMethod yX7_finds, Cond.selects RX7 yX7_finds yX7_finds, Cond.code yX7_finds cX7_finds 6 none, Cond.fieldLink RX7 60 "RingGamesModel" "game" "I", Cond.fieldLink RX7 22 "RingGamesModel" "most" "[I", Cond.fieldLink RX7 77 "RingGamesModel" "round" "I", Cond.methodLink RX7 71 yX7_colourIn, Cond.instanceMethod yX7_colourIn, Cond.selects RX7 yX7_colourIn yX7_colourIn]
def wsX7_measure_r2 : List Cond := [Cond.code yX7_colourIn cX7_colourIn 2 (some .int), Cond.methodLink RX7 48 yX7_of, Cond.instanceMethod yX7_of, Cond.selects RX7 yX7_of yX7_of, Cond.code yX7_of cX7_of 3 (some .int), Cond.methodLink RX7 80 yX7_asks, Cond.instanceMethod yX7_asks, Cond.selects RX7 yX7_asks yX7_asks, Cond.code yX7_asks cX7_asks 6 (some .int), Cond.methodLink RX7 64 yX7_ownerIn, Cond.instanceMethod yX7_ownerIn, Cond.selects RX7 yX7_ownerIn yX7_ownerIn, Cond.code yX7_ownerIn cX7_ownerIn 2 (some .int), Cond.methodLink RX7 67 yX7_hasArrow, Cond.instanceMethod yX7_hasArrow, Cond.selects RX7 yX7_hasArrow yX7_hasArrow, Cond.code yX7_hasArrow cX7_hasArrow 3 (some .boolean), Cond.methodLink RX7 74 yX7_wanted, Cond.instanceMethod yX7_wanted, Cond.selects RX7 yX7_wanted yX7_wanted, Cond.code yX7_wanted cX7_wanted 5 (some .int), Cond.fieldLink RX7 25 "RingGamesModel" "numbers" "[I"]
def wsX7_measure : List Cond := .code yX7_measure cX7_measure 6 (some .int) :: ((wsX7_measure_r1 ++ wsX7_measure_r2) ++ wsX70)
def wsX7_rounds_r1 : List Cond := [Cond.fieldLink RX7 77 "RingGamesModel" "round" "I", Cond.methodLink RX7 111 yX7_noPlayer, Cond.static yX7_noPlayer, Cond.initialized RX7, Cond.code yX7_noPlayer cX7_noPlayer 1 (some .boolean), Cond.methodLink RX7 44 yX7_in, Cond.static yX7_in, Cond.code yX7_in cX7_in 3 (some .boolean), Cond.methodLink RX7 83 yX7_finds, Cond.instanceMethod yX7_finds, Cond.selects RX7 yX7_finds yX7_finds, Cond.code yX7_finds cX7_finds 6 none, Cond.fieldLink RX7 60 "RingGamesModel" "game" "I", Cond.fieldLink RX7 7 "RingGamesModel" "now" "[I", Cond.fieldLink RX7 22 "RingGamesModel" "most" "[I", Cond.fieldLink RX7 19 "RingGamesModel" "measures" "[I", Cond.methodLink RX7 71 yX7_colourIn, Cond.instanceMethod yX7_colourIn, Cond.selects RX7 yX7_colourIn yX7_colourIn, Cond.code yX7_colourIn cX7_colourIn 2 (some .int), Cond.methodLink RX7 48 yX7_of, Cond.instanceMethod yX7_of, Cond.selects RX7 yX7_of yX7_of, Cond.code yX7_of cX7_of 3 (some .int)]
def wsX7_rounds_r2 : List Cond := [Cond.methodLink RX7 80 yX7_asks, Cond.instanceMethod yX7_asks, Cond.selects RX7 yX7_asks yX7_asks, Cond.code yX7_asks cX7_asks 6 (some .int), Cond.constant RX7 63 (50625), Cond.methodLink RX7 64 yX7_ownerIn, Cond.instanceMethod yX7_ownerIn, Cond.selects RX7 yX7_ownerIn yX7_ownerIn, Cond.code yX7_ownerIn cX7_ownerIn 2 (some .int), Cond.methodLink RX7 67 yX7_hasArrow, Cond.instanceMethod yX7_hasArrow, Cond.selects RX7 yX7_hasArrow yX7_hasArrow, Cond.code yX7_hasArrow cX7_hasArrow 3 (some .boolean), Cond.methodLink RX7 74 yX7_wanted, Cond.instanceMethod yX7_wanted, Cond.selects RX7 yX7_wanted yX7_wanted, Cond.code yX7_wanted cX7_wanted 5 (some .int), Cond.fieldLink RX7 25 "RingGamesModel" "numbers" "[I"]
def wsX7_rounds : List Cond := .code yX7_rounds cX7_rounds 2 (some .int) :: ((wsX7_rounds_r1 ++ wsX7_rounds_r2) ++ wsX70)
def wsX7_isBad : List Cond := .code yX7_isBad cX7_isBad 2 (some .boolean) :: ([.fieldLink RX7 7 "RingGamesModel" "now" "[I"] ++ wsX70)
def wsX7_comes : List Cond := .code yX7_comes cX7_comes 5 (some .boolean) :: ([.methodLink RX7 48 yX7_of, .instanceMethod yX7_of, .selects RX7 yX7_of yX7_of, .initialized RX7, .code yX7_of cX7_of 3 (some .int), .fieldLink RX7 7 "RingGamesModel" "now" "[I"] ++ wsX70)
def wsX7_coming : List Cond := .code yX7_coming cX7_coming 5 (some .int) :: ([.fieldLink RX7 7 "RingGamesModel" "now" "[I", .methodLink RX7 158 yX7_comes, .instanceMethod yX7_comes, .selects RX7 yX7_comes yX7_comes, .initialized RX7, .code yX7_comes cX7_comes 5 (some .boolean), .methodLink RX7 48 yX7_of, .instanceMethod yX7_of, .selects RX7 yX7_of yX7_of, .code yX7_of cX7_of 3 (some .int)] ++ wsX70)
def wsX7_forced : List Cond := .code yX7_forced cX7_forced 5 (some .int) :: ([.methodLink RX7 111 yX7_noPlayer, .static yX7_noPlayer, .initialized RX7, .code yX7_noPlayer cX7_noPlayer 1 (some .boolean), .methodLink RX7 44 yX7_in, .static yX7_in, .code yX7_in cX7_in 3 (some .boolean), .methodLink RX7 161 yX7_isBad, .instanceMethod yX7_isBad, .selects RX7 yX7_isBad yX7_isBad, .code yX7_isBad cX7_isBad 2 (some .boolean), .fieldLink RX7 7 "RingGamesModel" "now" "[I", .methodLink RX7 164 yX7_coming, .instanceMethod yX7_coming, .selects RX7 yX7_coming yX7_coming, .code yX7_coming cX7_coming 5 (some .int), .methodLink RX7 158 yX7_comes, .instanceMethod yX7_comes, .selects RX7 yX7_comes yX7_comes, .code yX7_comes cX7_comes 5 (some .boolean), .methodLink RX7 48 yX7_of, .instanceMethod yX7_of, .selects RX7 yX7_of yX7_of, .code yX7_of cX7_of 3 (some .int)] ++ wsX70)
def wsX7_rank_r1 : List Cond := [Cond.methodLink RX7 111 yX7_noPlayer, Cond.static yX7_noPlayer, Cond.initialized RX7, Cond.code yX7_noPlayer cX7_noPlayer 1 (some .boolean), Cond.methodLink RX7 44 yX7_in, Cond.static yX7_in, Cond.code yX7_in cX7_in 3 (some .boolean), Cond.methodLink RX7 104 yX7_no, Cond.instanceMethod yX7_no, Cond.selects RX7 yX7_no yX7_no, Cond.code yX7_no cX7_no 2 (some .boolean), Cond.fieldLink RX7 7 "RingGamesModel" "now" "[I", Cond.methodLink RX7 161 yX7_isBad, Cond.instanceMethod yX7_isBad, Cond.selects RX7 yX7_isBad yX7_isBad, Cond.code yX7_isBad cX7_isBad 2 (some .boolean), Cond.methodLink RX7 164 yX7_coming, Cond.instanceMethod yX7_coming, Cond.selects RX7 yX7_coming yX7_coming, Cond.code yX7_coming cX7_coming 5 (some .int), Cond.methodLink RX7 158 yX7_comes, Cond.instanceMethod yX7_comes, Cond.selects RX7 yX7_comes yX7_comes, Cond.code yX7_comes cX7_comes 5 (some .boolean)]
def wsX7_rank_r2 : List Cond := [Cond.methodLink RX7 48 yX7_of, Cond.instanceMethod yX7_of, Cond.selects RX7 yX7_of yX7_of, Cond.code yX7_of cX7_of 3 (some .int)]
def wsX7_rank : List Cond := .code yX7_rank cX7_rank 7 (some .int) :: ((wsX7_rank_r1 ++ wsX7_rank_r2) ++ wsX70)
def wsX7_trap : List Cond := .code yX7_trap cX7_trap 6 (some .int) :: ([.fieldLink RX7 7 "RingGamesModel" "now" "[I", .methodLink RX7 111 yX7_noPlayer, .static yX7_noPlayer, .initialized RX7, .code yX7_noPlayer cX7_noPlayer 1 (some .boolean), .methodLink RX7 44 yX7_in, .static yX7_in, .code yX7_in cX7_in 3 (some .boolean), .methodLink RX7 161 yX7_isBad, .instanceMethod yX7_isBad, .selects RX7 yX7_isBad yX7_isBad, .code yX7_isBad cX7_isBad 2 (some .boolean), .methodLink RX7 48 yX7_of, .instanceMethod yX7_of, .selects RX7 yX7_of yX7_of, .code yX7_of cX7_of 3 (some .int)] ++ wsX70)
def wsX7_judges : List Cond := .code yX7_judges cX7_judges 3 none :: ([.fieldLink RX7 7 "RingGamesModel" "now" "[I", .fieldLink RX7 35 "RingGamesModel" "judgedTo" "[I", .methodLink RX7 48 yX7_of, .instanceMethod yX7_of, .selects RX7 yX7_of yX7_of, .initialized RX7, .code yX7_of cX7_of 3 (some .int)] ++ wsX70)
def wsX7_reaches : List Cond := .code yX7_reaches cX7_reaches 6 none :: ([.fieldLink RX7 7 "RingGamesModel" "now" "[I", .fieldLink RX7 38 "RingGamesModel" "reach" "[I", .fieldLink RX7 35 "RingGamesModel" "judgedTo" "[I", .methodLink RX7 48 yX7_of, .instanceMethod yX7_of, .selects RX7 yX7_of yX7_of, .initialized RX7, .code yX7_of cX7_of 3 (some .int)] ++ wsX70)
def wsX7_onRings : List Cond := .code yX7_onRings cX7_onRings 6 (some .int) :: ([.fieldLink RX7 7 "RingGamesModel" "now" "[I", .fieldLink RX7 38 "RingGamesModel" "reach" "[I", .methodLink RX7 167 yX7_reaches, .instanceMethod yX7_reaches, .selects RX7 yX7_reaches yX7_reaches, .initialized RX7, .code yX7_reaches cX7_reaches 6 none, .fieldLink RX7 35 "RingGamesModel" "judgedTo" "[I", .methodLink RX7 48 yX7_of, .instanceMethod yX7_of, .selects RX7 yX7_of yX7_of, .code yX7_of cX7_of 3 (some .int)] ++ wsX70)
def wsX7_allBad : List Cond := .code yX7_allBad cX7_allBad 4 (some .int) :: ([.methodLink RX7 170 yX7_judges, .instanceMethod yX7_judges, .selects RX7 yX7_judges yX7_judges, .initialized RX7, .code yX7_judges cX7_judges 3 none, .fieldLink RX7 7 "RingGamesModel" "now" "[I", .fieldLink RX7 35 "RingGamesModel" "judgedTo" "[I", .methodLink RX7 48 yX7_of, .instanceMethod yX7_of, .selects RX7 yX7_of yX7_of, .code yX7_of cX7_of 3 (some .int), .methodLink RX7 173 yX7_onRings, .instanceMethod yX7_onRings, .selects RX7 yX7_onRings yX7_onRings, .code yX7_onRings cX7_onRings 6 (some .int), .fieldLink RX7 38 "RingGamesModel" "reach" "[I", .methodLink RX7 167 yX7_reaches, .instanceMethod yX7_reaches, .selects RX7 yX7_reaches yX7_reaches, .code yX7_reaches cX7_reaches 6 none] ++ wsX70)
def wsX7_judged_r1 : List Cond := [Cond.fieldLink RX7 38 "RingGamesModel" "reach" "[I", Cond.fieldLink RX7 7 "RingGamesModel" "now" "[I", Cond.methodLink RX7 111 yX7_noPlayer, Cond.static yX7_noPlayer, Cond.initialized RX7, Cond.code yX7_noPlayer cX7_noPlayer 1 (some .boolean), Cond.methodLink RX7 44 yX7_in, Cond.static yX7_in, Cond.code yX7_in cX7_in 3 (some .boolean), Cond.methodLink RX7 104 yX7_no, Cond.instanceMethod yX7_no, Cond.selects RX7 yX7_no yX7_no, Cond.code yX7_no cX7_no 2 (some .boolean), Cond.methodLink RX7 176 yX7_allBad, Cond.instanceMethod yX7_allBad, Cond.selects RX7 yX7_allBad yX7_allBad, Cond.code yX7_allBad cX7_allBad 4 (some .int), Cond.methodLink RX7 170 yX7_judges, Cond.instanceMethod yX7_judges, Cond.selects RX7 yX7_judges yX7_judges, Cond.code yX7_judges cX7_judges 3 none, Cond.fieldLink RX7 35 "RingGamesModel" "judgedTo" "[I", Cond.methodLink RX7 48 yX7_of, Cond.instanceMethod yX7_of]
def wsX7_judged_r2 : List Cond := [Cond.selects RX7 yX7_of yX7_of, Cond.code yX7_of cX7_of 3 (some .int), Cond.methodLink RX7 173 yX7_onRings, Cond.instanceMethod yX7_onRings, Cond.selects RX7 yX7_onRings yX7_onRings, Cond.code yX7_onRings cX7_onRings 6 (some .int), Cond.methodLink RX7 167 yX7_reaches, Cond.instanceMethod yX7_reaches, Cond.selects RX7 yX7_reaches yX7_reaches, Cond.code yX7_reaches cX7_reaches 6 none]
def wsX7_judged : List Cond := .code yX7_judged cX7_judged 6 (some .int) :: ((wsX7_judged_r1 ++ wsX7_judged_r2) ++ wsX70)
def wsX7_ringAt : List Cond := .code yX7_ringAt cX7_ringAt 8 (some .int) :: ([.fieldLink RX7 7 "RingGamesModel" "now" "[I", .fieldLink RX7 35 "RingGamesModel" "judgedTo" "[I", .methodLink RX7 48 yX7_of, .instanceMethod yX7_of, .selects RX7 yX7_of yX7_of, .initialized RX7, .code yX7_of cX7_of 3 (some .int)] ++ wsX70)
def wsX7_badRings_r1 : List Cond := [Cond.fieldLink RX7 7 "RingGamesModel" "now" "[I", Cond.methodLink RX7 111 yX7_noPlayer, Cond.static yX7_noPlayer, Cond.initialized RX7, Cond.code yX7_noPlayer cX7_noPlayer 1 (some .boolean), Cond.methodLink RX7 44 yX7_in, Cond.static yX7_in, Cond.code yX7_in cX7_in 3 (some .boolean), Cond.methodLink RX7 176 yX7_allBad, Cond.instanceMethod yX7_allBad, Cond.selects RX7 yX7_allBad yX7_allBad, Cond.code yX7_allBad cX7_allBad 4 (some .int), Cond.methodLink RX7 170 yX7_judges, Cond.instanceMethod yX7_judges, Cond.selects RX7 yX7_judges yX7_judges, Cond.code yX7_judges cX7_judges 3 none, Cond.fieldLink RX7 35 "RingGamesModel" "judgedTo" "[I", Cond.methodLink RX7 48 yX7_of, Cond.instanceMethod yX7_of, Cond.selects RX7 yX7_of yX7_of, Cond.code yX7_of cX7_of 3 (some .int), Cond.methodLink RX7 173 yX7_onRings, Cond.instanceMethod yX7_onRings, Cond.selects RX7 yX7_onRings yX7_onRings]
def wsX7_badRings_r2 : List Cond := [Cond.code yX7_onRings cX7_onRings 6 (some .int), Cond.fieldLink RX7 38 "RingGamesModel" "reach" "[I", Cond.methodLink RX7 167 yX7_reaches, Cond.instanceMethod yX7_reaches, Cond.selects RX7 yX7_reaches yX7_reaches, Cond.code yX7_reaches cX7_reaches 6 none, Cond.methodLink RX7 179 yX7_ringAt, Cond.instanceMethod yX7_ringAt, Cond.selects RX7 yX7_ringAt yX7_ringAt, Cond.code yX7_ringAt cX7_ringAt 8 (some .int)]
def wsX7_badRings : List Cond := .code yX7_badRings cX7_badRings 7 (some .int) :: ((wsX7_badRings_r1 ++ wsX7_badRings_r2) ++ wsX70)
def wsX7_pivots_r1 : List Cond := [Cond.fieldLink RX7 7 "RingGamesModel" "now" "[I", Cond.methodLink RX7 104 yX7_no, Cond.instanceMethod yX7_no, Cond.selects RX7 yX7_no yX7_no, Cond.initialized RX7, Cond.code yX7_no cX7_no 2 (some .boolean), Cond.methodLink RX7 44 yX7_in, Cond.static yX7_in, Cond.code yX7_in cX7_in 3 (some .boolean), Cond.methodLink RX7 114 yX7_winner, Cond.instanceMethod yX7_winner, Cond.selects RX7 yX7_winner yX7_winner, Cond.code yX7_winner cX7_winner 2 (some .int), Cond.methodLink RX7 94 yX7_winsOf, Cond.instanceMethod yX7_winsOf, Cond.selects RX7 yX7_winsOf yX7_winsOf, Cond.code yX7_winsOf cX7_winsOf 2 (some .int), Cond.methodLink RX7 83 yX7_finds, Cond.instanceMethod yX7_finds, Cond.selects RX7 yX7_finds yX7_finds, Cond.code yX7_finds cX7_finds 6 none, Cond.fieldLink RX7 60 "RingGamesModel" "game" "I", Cond.fieldLink RX7 22 "RingGamesModel" "most" "[I", Cond.fieldLink RX7 19 "RingGamesModel" "measures" "[I"]
def wsX7_pivots_r2 : List Cond := [Cond.fieldLink RX7 77 "RingGamesModel" "round" "I", Cond.methodLink RX7 71 yX7_colourIn, Cond.instanceMethod yX7_colourIn, Cond.selects RX7 yX7_colourIn yX7_colourIn, Cond.code yX7_colourIn cX7_colourIn 2 (some .int), Cond.methodLink RX7 48 yX7_of, Cond.instanceMethod yX7_of, Cond.selects RX7 yX7_of yX7_of, Cond.code yX7_of cX7_of 3 (some .int), Cond.methodLink RX7 80 yX7_asks, Cond.instanceMethod yX7_asks, Cond.selects RX7 yX7_asks yX7_asks, Cond.code yX7_asks cX7_asks 6 (some .int), Cond.constant RX7 63 (50625), Cond.methodLink RX7 64 yX7_ownerIn, Cond.instanceMethod yX7_ownerIn, Cond.selects RX7 yX7_ownerIn yX7_ownerIn, Cond.code yX7_ownerIn cX7_ownerIn 2 (some .int), Cond.methodLink RX7 67 yX7_hasArrow, Cond.instanceMethod yX7_hasArrow, Cond.selects RX7 yX7_hasArrow yX7_hasArrow, Cond.code yX7_hasArrow cX7_hasArrow 3 (some .boolean), Cond.methodLink RX7 74 yX7_wanted, Cond.instanceMethod yX7_wanted]
def wsX7_pivots_r3 : List Cond := [Cond.selects RX7 yX7_wanted yX7_wanted, Cond.code yX7_wanted cX7_wanted 5 (some .int), Cond.fieldLink RX7 25 "RingGamesModel" "numbers" "[I", Cond.methodLink RX7 87 yX7_won, Cond.instanceMethod yX7_won, Cond.selects RX7 yX7_won yX7_won, Cond.code yX7_won cX7_won 3 (some .int), Cond.methodLink RX7 100 yX7_puts, Cond.instanceMethod yX7_puts, Cond.selects RX7 yX7_puts yX7_puts, Cond.code yX7_puts cX7_puts 4 none]
def wsX7_pivots : List Cond := .code yX7_pivots cX7_pivots 5 (some .int) :: ((wsX7_pivots_r1 ++ (wsX7_pivots_r2 ++ wsX7_pivots_r3)) ++ wsX70)
def wsX7_weakArrows_r1 : List Cond := [Cond.fieldLink RX7 7 "RingGamesModel" "now" "[I", Cond.methodLink RX7 104 yX7_no, Cond.instanceMethod yX7_no, Cond.selects RX7 yX7_no yX7_no, Cond.initialized RX7, Cond.code yX7_no cX7_no 2 (some .boolean), Cond.methodLink RX7 44 yX7_in, Cond.static yX7_in, Cond.code yX7_in cX7_in 3 (some .boolean), Cond.methodLink RX7 114 yX7_winner, Cond.instanceMethod yX7_winner, Cond.selects RX7 yX7_winner yX7_winner, Cond.code yX7_winner cX7_winner 2 (some .int), Cond.methodLink RX7 94 yX7_winsOf, Cond.instanceMethod yX7_winsOf, Cond.selects RX7 yX7_winsOf yX7_winsOf, Cond.code yX7_winsOf cX7_winsOf 2 (some .int), Cond.methodLink RX7 83 yX7_finds, Cond.instanceMethod yX7_finds, Cond.selects RX7 yX7_finds yX7_finds, Cond.code yX7_finds cX7_finds 6 none, Cond.fieldLink RX7 60 "RingGamesModel" "game" "I", Cond.fieldLink RX7 22 "RingGamesModel" "most" "[I", Cond.fieldLink RX7 19 "RingGamesModel" "measures" "[I"]
def wsX7_weakArrows_r2 : List Cond := [Cond.fieldLink RX7 77 "RingGamesModel" "round" "I", Cond.methodLink RX7 71 yX7_colourIn, Cond.instanceMethod yX7_colourIn, Cond.selects RX7 yX7_colourIn yX7_colourIn, Cond.code yX7_colourIn cX7_colourIn 2 (some .int), Cond.methodLink RX7 48 yX7_of, Cond.instanceMethod yX7_of, Cond.selects RX7 yX7_of yX7_of, Cond.code yX7_of cX7_of 3 (some .int), Cond.methodLink RX7 80 yX7_asks, Cond.instanceMethod yX7_asks, Cond.selects RX7 yX7_asks yX7_asks, Cond.code yX7_asks cX7_asks 6 (some .int), Cond.constant RX7 63 (50625), Cond.methodLink RX7 64 yX7_ownerIn, Cond.instanceMethod yX7_ownerIn, Cond.selects RX7 yX7_ownerIn yX7_ownerIn, Cond.code yX7_ownerIn cX7_ownerIn 2 (some .int), Cond.methodLink RX7 67 yX7_hasArrow, Cond.instanceMethod yX7_hasArrow, Cond.selects RX7 yX7_hasArrow yX7_hasArrow, Cond.code yX7_hasArrow cX7_hasArrow 3 (some .boolean), Cond.methodLink RX7 74 yX7_wanted, Cond.instanceMethod yX7_wanted]
def wsX7_weakArrows_r3 : List Cond := [Cond.selects RX7 yX7_wanted yX7_wanted, Cond.code yX7_wanted cX7_wanted 5 (some .int), Cond.fieldLink RX7 25 "RingGamesModel" "numbers" "[I", Cond.methodLink RX7 87 yX7_won, Cond.instanceMethod yX7_won, Cond.selects RX7 yX7_won yX7_won, Cond.code yX7_won cX7_won 3 (some .int), Cond.methodLink RX7 100 yX7_puts, Cond.instanceMethod yX7_puts, Cond.selects RX7 yX7_puts yX7_puts, Cond.code yX7_puts cX7_puts 4 none]
def wsX7_weakArrows : List Cond := .code yX7_weakArrows cX7_weakArrows 6 (some .int) :: ((wsX7_weakArrows_r1 ++ (wsX7_weakArrows_r2 ++ wsX7_weakArrows_r3)) ++ wsX70)
def wsX7_token_r1 : List Cond := [Cond.fieldLink RX7 7 "RingGamesModel" "now" "[I", Cond.fieldLink RX7 41 "RingGamesModel" "goes" "[I", Cond.methodLink RX7 44 yX7_in, Cond.static yX7_in, Cond.initialized RX7, Cond.code yX7_in cX7_in 3 (some .boolean), Cond.methodLink RX7 123 yX7_goesTo, Cond.instanceMethod yX7_goesTo, Cond.selects RX7 yX7_goesTo yX7_goesTo, Cond.code yX7_goesTo cX7_goesTo 3 (some .int), Cond.methodLink RX7 48 yX7_of, Cond.instanceMethod yX7_of, Cond.selects RX7 yX7_of yX7_of, Cond.code yX7_of cX7_of 3 (some .int), Cond.methodLink RX7 117 yX7_bestChoice, Cond.instanceMethod yX7_bestChoice, Cond.selects RX7 yX7_bestChoice yX7_bestChoice, Cond.code yX7_bestChoice cX7_bestChoice 2 (some .int), Cond.methodLink RX7 83 yX7_finds, Cond.instanceMethod yX7_finds, Cond.selects RX7 yX7_finds yX7_finds, Cond.code yX7_finds cX7_finds 6 none, Cond.fieldLink RX7 60 "RingGamesModel" "game" "I", Cond.fieldLink RX7 22 "RingGamesModel" "most" "[I"]
def wsX7_token_r2 : List Cond := [Cond.fieldLink RX7 19 "RingGamesModel" "measures" "[I", Cond.fieldLink RX7 77 "RingGamesModel" "round" "I", Cond.methodLink RX7 71 yX7_colourIn, Cond.instanceMethod yX7_colourIn, Cond.selects RX7 yX7_colourIn yX7_colourIn, Cond.code yX7_colourIn cX7_colourIn 2 (some .int), Cond.methodLink RX7 80 yX7_asks, Cond.instanceMethod yX7_asks, Cond.selects RX7 yX7_asks yX7_asks, Cond.code yX7_asks cX7_asks 6 (some .int), Cond.constant RX7 63 (50625), Cond.methodLink RX7 64 yX7_ownerIn, Cond.instanceMethod yX7_ownerIn, Cond.selects RX7 yX7_ownerIn yX7_ownerIn, Cond.code yX7_ownerIn cX7_ownerIn 2 (some .int), Cond.methodLink RX7 67 yX7_hasArrow, Cond.instanceMethod yX7_hasArrow, Cond.selects RX7 yX7_hasArrow yX7_hasArrow, Cond.code yX7_hasArrow cX7_hasArrow 3 (some .boolean), Cond.methodLink RX7 74 yX7_wanted, Cond.instanceMethod yX7_wanted, Cond.selects RX7 yX7_wanted yX7_wanted, Cond.code yX7_wanted cX7_wanted 5 (some .int), Cond.fieldLink RX7 25 "RingGamesModel" "numbers" "[I"]
def wsX7_token_r3 : List Cond := [Cond.methodLink RX7 91 yX7_choiceAt, Cond.instanceMethod yX7_choiceAt, Cond.selects RX7 yX7_choiceAt yX7_choiceAt, Cond.code yX7_choiceAt cX7_choiceAt 6 (some .int), Cond.methodLink RX7 120 yX7_lowest, Cond.static yX7_lowest, Cond.code yX7_lowest cX7_lowest 2 (some .int)]
def wsX7_token : List Cond := .code yX7_token cX7_token 8 (some .int) :: ((wsX7_token_r1 ++ (wsX7_token_r2 ++ wsX7_token_r3)) ++ wsX70)
def wsX7_placesThat : List Cond := .code yX7_placesThat cX7_placesThat 5 (some .int) :: ([.fieldLink RX7 7 "RingGamesModel" "now" "[I", .methodLink RX7 48 yX7_of, .instanceMethod yX7_of, .selects RX7 yX7_of yX7_of, .initialized RX7, .code yX7_of cX7_of 3 (some .int)] ++ wsX70)
def wsX7_leastColour : List Cond := .code yX7_leastColour cX7_leastColour 3 (some .int) :: ([.fieldLink RX7 7 "RingGamesModel" "now" "[I", .methodLink RX7 48 yX7_of, .instanceMethod yX7_of, .selects RX7 yX7_of yX7_of, .initialized RX7, .code yX7_of cX7_of 3 (some .int)] ++ wsX70)
def wsX7_count : List Cond := .code yX7_count cX7_count 2 (some .int) :: ([.fieldLink RX7 7 "RingGamesModel" "now" "[I", .fieldLink RX7 56 "RingGamesModel" "kept" "I", .fieldLink RX7 126 "RingGamesModel" "typed" "I", .methodLink RX7 108 yX7_arrows, .instanceMethod yX7_arrows, .selects RX7 yX7_arrows yX7_arrows, .initialized RX7, .code yX7_arrows cX7_arrows 3 (some .int), .methodLink RX7 48 yX7_of, .instanceMethod yX7_of, .selects RX7 yX7_of yX7_of, .code yX7_of cX7_of 3 (some .int), .methodLink RX7 52 yX7_bits, .static yX7_bits, .code yX7_bits cX7_bits 3 (some .int), .methodLink RX7 182 yX7_placesThat, .instanceMethod yX7_placesThat, .selects RX7 yX7_placesThat yX7_placesThat, .code yX7_placesThat cX7_placesThat 5 (some .int), .methodLink RX7 185 yX7_leastColour, .instanceMethod yX7_leastColour, .selects RX7 yX7_leastColour yX7_leastColour, .code yX7_leastColour cX7_leastColour 3 (some .int)] ++ wsX70)
def wsJ9_max_7cf53 : List Cond := .code yJ9_max_7cf53 cJ9_max_7cf53 2 (some .int) :: ([])
def wsJ9_min_7cf53 : List Cond := .code yJ9_min_7cf53 cJ9_min_7cf53 2 (some .int) :: ([])
def wsL_law_r1 : List Cond := [Cond.classLink RL 7 RX6, Cond.instantiable RX6 8, Cond.initialized RX6, Cond.classLink RL 10 RX7, Cond.instantiable RX7 19, Cond.initialized RX7, Cond.methodLink RL 9 yX6_init, Cond.instanceMethod yX6_init, Cond.code yX6_init cX6_init 1 none, Cond.methodLink RX6 3 objectInit, Cond.instanceMethod objectInit, Cond.code objectInit ⟨#[0xb1]⟩ 1 none, Cond.classLink RX6 9 RX4, Cond.instantiable RX4 4, Cond.initialized RX4, Cond.fieldLink RX6 12 "RingGames" "now" "LRingGames$State;", Cond.classLink RX6 16 RX2, Cond.instantiable RX2 2, Cond.initialized RX2, Cond.fieldLink RX6 19 "RingGames" "history" "LRingGames$History;", Cond.fieldLink RX6 23 "RingGames" "snapshot" "LRingGames$State;", Cond.fieldLink RX6 26 "RingGames" "hasSnapshot" "Z", Cond.classLink RX6 30 RX0, Cond.instantiable RX0 2]
def wsL_law_r2 : List Cond := [Cond.initialized RX0, Cond.fieldLink RX6 33 "RingGames" "text" "LRingGames$ArrowText;", Cond.classLink RX6 37 RX1, Cond.instantiable RX1 4, Cond.initialized RX1, Cond.fieldLink RX6 40 "RingGames" "trial" "LRingGames$Game;", Cond.classLink RX6 44 RX3, Cond.instantiable RX3 3, Cond.initialized RX3, Cond.fieldLink RX6 47 "RingGames" "measures" "LRingGames$Measures;", Cond.classLink RX6 51 RX5, Cond.instantiable RX5 4, Cond.initialized RX5, Cond.fieldLink RX6 54 "RingGames" "walk" "LRingGames$Walk;", Cond.instanceMethod yX4_init, Cond.code yX4_init cX4_init 1 none, Cond.methodLink RX4 3 objectInit, Cond.classLink RX4 9 RX1, Cond.fieldLink RX4 12 "RingGames$State" "game" "LRingGames$Game;", Cond.arrayClass .int, Cond.fieldLink RX4 18 "RingGames$State" "choices" "[I", Cond.fieldLink RX4 22 "RingGames$State" "tokenAt" "I", Cond.instanceMethod yX1_init, Cond.code yX1_init cX1_init 1 none]
def wsL_law_r3 : List Cond := [Cond.methodLink RX1 3 objectInit, Cond.fieldLink RX1 9 "RingGames$Game" "owners" "[I", Cond.fieldLink RX1 15 "RingGames$Game" "colours" "[I", Cond.fieldLink RX1 18 "RingGames$Game" "arrows" "[I", Cond.methodLink RX6 18 yX2_init, Cond.instanceMethod yX2_init, Cond.code yX2_init cX2_init 2 none, Cond.methodLink RX2 3 objectInit, Cond.classLink RX2 9 RX4, Cond.fieldLink RX2 11 "RingGames$History" "states" "[LRingGames$State;", Cond.instanceMethod yX0_init, Cond.code yX0_init cX0_init 1 none, Cond.methodLink RX0 3 objectInit, Cond.arrayClass .char, Cond.fieldLink RX0 9 "RingGames$ArrowText" "signs" "[C", Cond.instanceMethod yX3_init, Cond.code yX3_init cX3_init 1 none, Cond.methodLink RX3 5 objectInit, Cond.fieldLink RX3 11 "RingGames$Measures" "most" "[I", Cond.fieldLink RX3 15 "RingGames$Measures" "found" "[I", Cond.instanceMethod yX5_init, Cond.code yX5_init cX5_init 1 none, Cond.methodLink RX5 3 objectInit, Cond.fieldLink RX5 9 "RingGames$Walk" "ways" "[I"]
def wsL_law_r4 : List Cond := [Cond.methodLink RL 12 yX7_init, Cond.instanceMethod yX7_init, Cond.code yX7_init cX7_init 1 none, Cond.methodLink RX7 1 objectInit, Cond.fieldLink RX7 7 "RingGamesModel" "now" "[I", Cond.fieldLink RX7 13 "RingGamesModel" "history" "[I", Cond.fieldLink RX7 16 "RingGamesModel" "slot" "[I", Cond.fieldLink RX7 19 "RingGamesModel" "measures" "[I", Cond.fieldLink RX7 22 "RingGamesModel" "most" "[I", Cond.fieldLink RX7 25 "RingGamesModel" "numbers" "[I", Cond.fieldLink RX7 28 "RingGamesModel" "text" "[C", Cond.fieldLink RX7 32 "RingGamesModel" "reads" "[I", Cond.fieldLink RX7 35 "RingGamesModel" "judgedTo" "[I", Cond.fieldLink RX7 38 "RingGamesModel" "reach" "[I", Cond.fieldLink RX7 41 "RingGamesModel" "goes" "[I", Cond.methodLink RL 13 yX6_addPlace, Cond.instanceMethod yX6_addPlace, Cond.selects RX6 yX6_addPlace yX6_addPlace, Cond.code yX6_addPlace cX6_addPlace 3 (some .int), Cond.fieldLink RX6 65 "RingGames$State" "game" "LRingGames$Game;", Cond.fieldLink RX6 68 "RingGames$Game" "size" "I", Cond.methodLink RX6 58 yX6_isPlayer, Cond.static yX6_isPlayer, Cond.code yX6_isPlayer cX6_isPlayer 1 (some .boolean)]
def wsL_law_r5 : List Cond := [Cond.methodLink RX6 62 yX6_isColour, Cond.static yX6_isColour, Cond.code yX6_isColour cX6_isColour 1 (some .boolean), Cond.methodLink RX6 72 yX2_remember, Cond.instanceMethod yX2_remember, Cond.selects RX2 yX2_remember yX2_remember, Cond.code yX2_remember cX2_remember 2 none, Cond.fieldLink RX2 18 "RingGames$History" "count" "I", Cond.methodLink RX2 22 yX2_dropOldest, Cond.instanceMethod yX2_dropOldest, Cond.selects RX2 yX2_dropOldest yX2_dropOldest, Cond.code yX2_dropOldest cX2_dropOldest 3 none, Cond.methodLink RX2 25 yX4_become, Cond.instanceMethod yX4_become, Cond.selects RX4 yX4_become yX4_become, Cond.code yX4_become cX4_become 2 none, Cond.methodLink RX4 30 arraycopyName, Cond.native arraycopyName, Cond.static arraycopyName, Cond.initialized "java/lang/System", Cond.fieldLink RX4 36 "RingGames$State" "tokenSteps" "I", Cond.methodLink RX4 26 yX1_become, Cond.instanceMethod yX1_become, Cond.selects RX1 yX1_become yX1_become]
def wsL_law_r6 : List Cond := [Cond.code yX1_become cX1_become 2 none, Cond.fieldLink RX1 21 "RingGames$Game" "size" "I", Cond.methodLink RX1 25 arraycopyName, Cond.methodLink RX6 76 yX4_append, Cond.instanceMethod yX4_append, Cond.selects RX4 yX4_append yX4_append, Cond.code yX4_append cX4_append 4 (some .int), Cond.fieldLink RX4 39 "RingGames$Game" "size" "I", Cond.fieldLink RX4 42 "RingGames$Game" "owners" "[I", Cond.fieldLink RX4 45 "RingGames$Game" "colours" "[I", Cond.fieldLink RX4 48 "RingGames$Game" "arrows" "[I", Cond.methodLink RL 17 yX7_addPlace, Cond.instanceMethod yX7_addPlace, Cond.selects RX7 yX7_addPlace yX7_addPlace, Cond.code yX7_addPlace cX7_addPlace 4 (some .int), Cond.methodLink RX7 44 yX7_in, Cond.static yX7_in, Cond.code yX7_in cX7_in 3 (some .boolean), Cond.methodLink RX7 97 yX7_record, Cond.instanceMethod yX7_record, Cond.selects RX7 yX7_record yX7_record, Cond.code yX7_record cX7_record 2 none, Cond.fieldLink RX7 56 "RingGamesModel" "kept" "I", Cond.methodLink RX7 100 yX7_puts]
def wsL_law_r7 : List Cond := [Cond.instanceMethod yX7_puts, Cond.selects RX7 yX7_puts yX7_puts, Cond.code yX7_puts cX7_puts 4 none, Cond.methodLink RL 18 yX6_setOwner, Cond.instanceMethod yX6_setOwner, Cond.selects RX6 yX6_setOwner yX6_setOwner, Cond.code yX6_setOwner cX6_setOwner 3 (some .int), Cond.fieldLink RX6 83 "RingGames$Game" "owners" "[I", Cond.methodLink RX6 80 yX1_has, Cond.instanceMethod yX1_has, Cond.selects RX1 yX1_has yX1_has, Cond.code yX1_has cX1_has 2 (some .boolean), Cond.methodLink RX6 87 yX6_wonBy, Cond.instanceMethod yX6_wonBy, Cond.selects RX6 yX6_wonBy yX6_wonBy, Cond.code yX6_wonBy cX6_wonBy 4 (some .int), Cond.methodLink RX6 133 yX6_solveFor, Cond.instanceMethod yX6_solveFor, Cond.selects RX6 yX6_solveFor yX6_solveFor, Cond.code yX6_solveFor cX6_solveFor 2 none, Cond.methodLink RX6 119 yX1_become, Cond.methodLink RX6 130 yX1_exchange, Cond.instanceMethod yX1_exchange, Cond.selects RX1 yX1_exchange yX1_exchange]
def wsL_law_r8 : List Cond := [Cond.code yX1_exchange cX1_exchange 2 none, Cond.methodLink RX6 222 yX3_find, Cond.instanceMethod yX3_find, Cond.selects RX3 yX3_find yX3_find, Cond.code yX3_find cX3_find 3 none, Cond.fieldLink RX3 18 "RingGames$Game" "size" "I", Cond.fieldLink RX3 24 "RingGames$Game" "colours" "[I", Cond.fieldLink RX3 27 "RingGames$Measures" "lastRound" "I", Cond.constant RX3 30 (1000000), Cond.methodLink RX3 31 yX3_raise, Cond.instanceMethod yX3_raise, Cond.selects RX3 yX3_raise yX3_raise, Cond.code yX3_raise cX3_raise 5 (some .boolean), Cond.methodLink RX3 35 yX3_asked, Cond.instanceMethod yX3_asked, Cond.selects RX3 yX3_asked yX3_asked, Cond.code yX3_asked cX3_asked 7 (some .int), Cond.fieldLink RX3 39 "RingGames$Game" "owners" "[I", Cond.constant RX3 42 (65536), Cond.fieldLink RX3 43 "RingGames$Game" "arrows" "[I", Cond.methodLink RX3 54 Lib.Math.min.name, Cond.static Lib.Math.min.name, Cond.initialized "java/lang/Math", Cond.code Lib.Math.min.name Lib.Math.min.code 2 (some .int)]
def wsL_law_r9 : List Cond := [Cond.methodLink RX3 60 Lib.Math.max.name, Cond.static Lib.Math.max.name, Cond.code Lib.Math.max.name Lib.Math.max.code 2 (some .int), Cond.static yX6_contains, Cond.code yX6_contains cX6_contains 2 (some .boolean), Cond.methodLink RX3 50 yX3_wanted, Cond.instanceMethod yX3_wanted, Cond.selects RX3 yX3_wanted yX3_wanted, Cond.code yX3_wanted cX3_wanted 10 (some .int), Cond.methodLink RX6 177 yX3_isLost, Cond.instanceMethod yX3_isLost, Cond.selects RX3 yX3_isLost yX3_isLost, Cond.code yX3_isLost cX3_isLost 2 (some .boolean), Cond.methodLink RX6 105 yX6_bit, Cond.static yX6_bit, Cond.code yX6_bit cX6_bit 1 (some .int), Cond.methodLink RL 21 yX7_setOwner, Cond.instanceMethod yX7_setOwner, Cond.selects RX7 yX7_setOwner yX7_setOwner, Cond.code yX7_setOwner cX7_setOwner 3 (some .int), Cond.methodLink RX7 104 yX7_no, Cond.instanceMethod yX7_no, Cond.selects RX7 yX7_no yX7_no, Cond.code yX7_no cX7_no 2 (some .boolean)]
def wsL_law_r10 : List Cond := [Cond.methodLink RX7 48 yX7_of, Cond.instanceMethod yX7_of, Cond.selects RX7 yX7_of yX7_of, Cond.code yX7_of cX7_of 3 (some .int), Cond.methodLink RX7 94 yX7_winsOf, Cond.instanceMethod yX7_winsOf, Cond.selects RX7 yX7_winsOf yX7_winsOf, Cond.code yX7_winsOf cX7_winsOf 2 (some .int), Cond.methodLink RX7 83 yX7_finds, Cond.instanceMethod yX7_finds, Cond.selects RX7 yX7_finds yX7_finds, Cond.code yX7_finds cX7_finds 6 none, Cond.fieldLink RX7 60 "RingGamesModel" "game" "I", Cond.fieldLink RX7 77 "RingGamesModel" "round" "I", Cond.methodLink RX7 71 yX7_colourIn, Cond.instanceMethod yX7_colourIn, Cond.selects RX7 yX7_colourIn yX7_colourIn, Cond.code yX7_colourIn cX7_colourIn 2 (some .int), Cond.methodLink RX7 80 yX7_asks, Cond.instanceMethod yX7_asks, Cond.selects RX7 yX7_asks yX7_asks, Cond.code yX7_asks cX7_asks 6 (some .int), Cond.constant RX7 63 (50625), Cond.methodLink RX7 64 yX7_ownerIn]
def wsL_law_r11 : List Cond := [Cond.instanceMethod yX7_ownerIn, Cond.selects RX7 yX7_ownerIn yX7_ownerIn, Cond.code yX7_ownerIn cX7_ownerIn 2 (some .int), Cond.methodLink RX7 67 yX7_hasArrow, Cond.instanceMethod yX7_hasArrow, Cond.selects RX7 yX7_hasArrow yX7_hasArrow, Cond.code yX7_hasArrow cX7_hasArrow 3 (some .boolean), Cond.methodLink RX7 74 yX7_wanted, Cond.instanceMethod yX7_wanted, Cond.selects RX7 yX7_wanted yX7_wanted, Cond.code yX7_wanted cX7_wanted 5 (some .int), Cond.methodLink RX7 87 yX7_won, Cond.instanceMethod yX7_won, Cond.selects RX7 yX7_won yX7_won, Cond.code yX7_won cX7_won 3 (some .int), Cond.methodLink RL 22 yX6_setColour, Cond.instanceMethod yX6_setColour, Cond.selects RX6 yX6_setColour yX6_setColour, Cond.code yX6_setColour cX6_setColour 4 (some .int), Cond.fieldLink RX6 91 "RingGames$Game" "colours" "[I", Cond.methodLink RL 25 yX7_setColour, Cond.instanceMethod yX7_setColour, Cond.selects RX7 yX7_setColour yX7_setColour, Cond.code yX7_setColour cX7_setColour 4 (some .int)]
def wsL_law_r12 : List Cond := [Cond.methodLink RL 26 yX6_addArrow, Cond.instanceMethod yX6_addArrow, Cond.selects RX6 yX6_addArrow yX6_addArrow, Cond.code yX6_addArrow cX6_addArrow 3 (some .int), Cond.fieldLink RX6 102 "RingGames$Game" "arrows" "[I", Cond.methodLink RX6 94 yX1_arrowCount, Cond.instanceMethod yX1_arrowCount, Cond.selects RX1 yX1_arrowCount yX1_arrowCount, Cond.code yX1_arrowCount cX1_arrowCount 3 (some .int), Cond.methodLink RX1 47 yJ6_bitCount_0f7a4, Cond.static yJ6_bitCount_0f7a4, Cond.initialized RJ6, Cond.code yJ6_bitCount_0f7a4 cJ6_bitCount_0f7a4 1 (some .int), Cond.constant RJ6 265 (1431655765), Cond.constant RJ6 266 (858993459), Cond.constant RJ6 267 (252645135), Cond.methodLink RX6 98 yX1_leads, Cond.instanceMethod yX1_leads, Cond.selects RX1 yX1_leads yX1_leads, Cond.code yX1_leads cX1_leads 3 (some .boolean), Cond.methodLink RX1 39 yX1_has, Cond.methodLink RX6 108 yJ6_bitCount_0f7a4, Cond.methodLink RL 29 yX7_addArrow, Cond.instanceMethod yX7_addArrow]
def wsL_law_r13 : List Cond := [Cond.selects RX7 yX7_addArrow yX7_addArrow, Cond.code yX7_addArrow cX7_addArrow 3 (some .int), Cond.methodLink RX7 108 yX7_arrows, Cond.instanceMethod yX7_arrows, Cond.selects RX7 yX7_arrows yX7_arrows, Cond.code yX7_arrows cX7_arrows 3 (some .int), Cond.methodLink RX7 52 yX7_bits, Cond.static yX7_bits, Cond.code yX7_bits cX7_bits 3 (some .int), Cond.methodLink RL 30 yX6_removeArrow, Cond.instanceMethod yX6_removeArrow, Cond.selects RX6 yX6_removeArrow yX6_removeArrow, Cond.code yX6_removeArrow cX6_removeArrow 3 (some .int), Cond.fieldLink RX6 113 "RingGames$State" "choices" "[I", Cond.methodLink RL 33 yX7_removeArrow, Cond.instanceMethod yX7_removeArrow, Cond.selects RX7 yX7_removeArrow yX7_removeArrow, Cond.code yX7_removeArrow cX7_removeArrow 3 (some .int), Cond.methodLink RL 34 yX6_readArrows, Cond.instanceMethod yX6_readArrows, Cond.selects RX6 yX6_readArrows yX6_readArrows, Cond.code yX6_readArrows cX6_readArrows 3 (some .int), Cond.methodLink RX6 116 yX0_fault, Cond.instanceMethod yX0_fault]
def wsL_law_r14 : List Cond := [Cond.selects RX0 yX0_fault yX0_fault, Cond.code yX0_fault cX0_fault 6 (some .int), Cond.fieldLink RX0 15 "RingGames$ArrowText" "length" "I", Cond.methodLink RX0 19 yX0_isDigit, Cond.static yX0_isDigit, Cond.code yX0_isDigit cX0_isDigit 1 (some .boolean), Cond.methodLink RX0 23 yX0_isSignBehind, Cond.static yX0_isSignBehind, Cond.code yX0_isSignBehind cX0_isSignBehind 2 (some .boolean), Cond.methodLink RX6 123 yX0_drawInto, Cond.instanceMethod yX0_drawInto, Cond.selects RX0 yX0_drawInto yX0_drawInto, Cond.code yX0_drawInto cX0_drawInto 6 (some .boolean), Cond.fieldLink RX0 33 "RingGames$Game" "arrows" "[I", Cond.methodLink RX0 27 yX1_has, Cond.methodLink RL 38 yX7_readArrows, Cond.instanceMethod yX7_readArrows, Cond.selects RX7 yX7_readArrows yX7_readArrows, Cond.code yX7_readArrows cX7_readArrows 3 (some .int), Cond.fieldLink RX7 129 "RingGamesModel" "at" "I", Cond.fieldLink RX7 139 "RingGamesModel" "beyond" "I", Cond.methodLink RX7 148 yX7_isRead, Cond.instanceMethod yX7_isRead, Cond.selects RX7 yX7_isRead yX7_isRead]
def wsL_law_r15 : List Cond := [Cond.code yX7_isRead cX7_isRead 4 (some .boolean), Cond.fieldLink RX7 136 "RingGamesModel" "number" "I", Cond.fieldLink RX7 126 "RingGamesModel" "typed" "I", Cond.methodLink RX7 142 yX7_takesNumber, Cond.instanceMethod yX7_takesNumber, Cond.selects RX7 yX7_takesNumber yX7_takesNumber, Cond.code yX7_takesNumber cX7_takesNumber 1 (some .boolean), Cond.methodLink RX7 132 yX7_isDigit, Cond.instanceMethod yX7_isDigit, Cond.selects RX7 yX7_isDigit yX7_isDigit, Cond.code yX7_isDigit cX7_isDigit 1 (some .boolean), Cond.methodLink RX7 145 yX7_takes, Cond.instanceMethod yX7_takes, Cond.selects RX7 yX7_takes yX7_takes, Cond.code yX7_takes cX7_takes 3 (some .boolean), Cond.methodLink RL 39 yX6_turnOver, Cond.instanceMethod yX6_turnOver, Cond.selects RX6 yX6_turnOver yX6_turnOver, Cond.code yX6_turnOver cX6_turnOver 1 (some .int), Cond.methodLink RX6 127 yX1_hasColour, Cond.instanceMethod yX1_hasColour, Cond.selects RX1 yX1_hasColour yX1_hasColour, Cond.code yX1_hasColour cX1_hasColour 4 (some .boolean), Cond.methodLink RL 42 yX7_turnOver]
def wsL_law_r16 : List Cond := [Cond.instanceMethod yX7_turnOver, Cond.selects RX7 yX7_turnOver yX7_turnOver, Cond.code yX7_turnOver cX7_turnOver 2 (some .int), Cond.methodLink RL 43 yX6_choose, Cond.instanceMethod yX6_choose, Cond.selects RX6 yX6_choose yX6_choose, Cond.code yX6_choose cX6_choose 4 (some .int), Cond.methodLink RL 46 yX7_choose, Cond.instanceMethod yX7_choose, Cond.selects RX7 yX7_choose yX7_choose, Cond.code yX7_choose cX7_choose 4 (some .int), Cond.methodLink RL 47 yX6_chooseWell, Cond.instanceMethod yX6_chooseWell, Cond.selects RX6 yX6_chooseWell yX6_chooseWell, Cond.code yX6_chooseWell cX6_chooseWell 4 (some .int), Cond.methodLink RX6 137 yX3_bestArrow, Cond.instanceMethod yX3_bestArrow, Cond.selects RX3 yX3_bestArrow yX3_bestArrow, Cond.code yX3_bestArrow cX3_bestArrow 7 (some .int), Cond.methodLink RX3 67 yX1_leads, Cond.methodLink RL 51 yX7_chooseWell, Cond.instanceMethod yX7_chooseWell, Cond.selects RX7 yX7_chooseWell yX7_chooseWell, Cond.code yX7_chooseWell cX7_chooseWell 5 (some .int)]
def wsL_law_r17 : List Cond := [Cond.methodLink RX7 111 yX7_noPlayer, Cond.static yX7_noPlayer, Cond.code yX7_noPlayer cX7_noPlayer 1 (some .boolean), Cond.methodLink RX7 91 yX7_choiceAt, Cond.instanceMethod yX7_choiceAt, Cond.selects RX7 yX7_choiceAt yX7_choiceAt, Cond.code yX7_choiceAt cX7_choiceAt 6 (some .int), Cond.methodLink RL 52 yX6_start, Cond.instanceMethod yX6_start, Cond.selects RX6 yX6_start yX6_start, Cond.code yX6_start cX6_start 2 (some .int), Cond.fieldLink RX6 141 "RingGames$State" "tokenAt" "I", Cond.fieldLink RX6 144 "RingGames$State" "tokenSteps" "I", Cond.methodLink RX6 147 yX6_winnerOf, Cond.instanceMethod yX6_winnerOf, Cond.selects RX6 yX6_winnerOf yX6_winnerOf, Cond.code yX6_winnerOf cX6_winnerOf 2 (some .int), Cond.methodLink RX6 225 yX3_winner, Cond.instanceMethod yX3_winner, Cond.selects RX3 yX3_winner yX3_winner, Cond.code yX3_winner cX3_winner 2 (some .int), Cond.methodLink RX3 63 yX3_isLost, Cond.methodLink RL 55 yX7_start, Cond.instanceMethod yX7_start]
def wsL_law_r18 : List Cond := [Cond.selects RX7 yX7_start yX7_start, Cond.code yX7_start cX7_start 2 (some .int), Cond.methodLink RX7 114 yX7_winner, Cond.instanceMethod yX7_winner, Cond.selects RX7 yX7_winner yX7_winner, Cond.code yX7_winner cX7_winner 2 (some .int), Cond.methodLink RL 56 yX6_step, Cond.instanceMethod yX6_step, Cond.selects RX6 yX6_step yX6_step, Cond.code yX6_step cX6_step 3 (some .int), Cond.methodLink RX6 150 yX6_findWays, Cond.instanceMethod yX6_findWays, Cond.selects RX6 yX6_findWays yX6_findWays, Cond.code yX6_findWays cX6_findWays 3 none, Cond.fieldLink RX6 249 "RingGames$Walk" "ways" "[I", Cond.methodLink RX6 252 yX6_wayOn, Cond.instanceMethod yX6_wayOn, Cond.selects RX6 yX6_wayOn yX6_wayOn, Cond.code yX6_wayOn cX6_wayOn 3 (some .int), Cond.methodLink RX6 255 yX1_lowestArrow, Cond.instanceMethod yX1_lowestArrow, Cond.selects RX1 yX1_lowestArrow yX1_lowestArrow, Cond.code yX1_lowestArrow cX1_lowestArrow 3 (some .int), Cond.methodLink RX1 52 yX1_leads]
def wsL_law_r19 : List Cond := [Cond.methodLink RX6 153 yX5_wayFrom, Cond.instanceMethod yX5_wayFrom, Cond.selects RX5 yX5_wayFrom yX5_wayFrom, Cond.code yX5_wayFrom cX5_wayFrom 2 (some .int), Cond.methodLink RL 59 yX7_step, Cond.instanceMethod yX7_step, Cond.selects RX7 yX7_step yX7_step, Cond.code yX7_step cX7_step 4 (some .int), Cond.methodLink RX7 123 yX7_goesTo, Cond.instanceMethod yX7_goesTo, Cond.selects RX7 yX7_goesTo yX7_goesTo, Cond.code yX7_goesTo cX7_goesTo 3 (some .int), Cond.methodLink RX7 117 yX7_bestChoice, Cond.instanceMethod yX7_bestChoice, Cond.selects RX7 yX7_bestChoice yX7_bestChoice, Cond.code yX7_bestChoice cX7_bestChoice 2 (some .int), Cond.methodLink RX7 120 yX7_lowest, Cond.static yX7_lowest, Cond.code yX7_lowest cX7_lowest 2 (some .int), Cond.methodLink RL 60 yX6_type, Cond.instanceMethod yX6_type, Cond.selects RX6 yX6_type yX6_type, Cond.code yX6_type cX6_type 2 (some .int), Cond.fieldLink RX6 159 "RingGames$ArrowText" "length" "I"]
def wsL_law_r20 : List Cond := [Cond.methodLink RX6 156 yX0_append, Cond.instanceMethod yX0_append, Cond.selects RX0 yX0_append yX0_append, Cond.code yX0_append cX0_append 2 (some .boolean), Cond.methodLink RL 64 yX7_type, Cond.instanceMethod yX7_type, Cond.selects RX7 yX7_type yX7_type, Cond.code yX7_type cX7_type 2 (some .int), Cond.methodLink RL 65 yX6_clearText, Cond.instanceMethod yX6_clearText, Cond.selects RX6 yX6_clearText yX6_clearText, Cond.code yX6_clearText cX6_clearText 2 (some .int), Cond.methodLink RL 68 yX7_clearText, Cond.instanceMethod yX7_clearText, Cond.selects RX7 yX7_clearText yX7_clearText, Cond.code yX7_clearText cX7_clearText 2 (some .int), Cond.methodLink RL 69 yX6_undo, Cond.instanceMethod yX6_undo, Cond.selects RX6 yX6_undo yX6_undo, Cond.code yX6_undo cX6_undo 1 (some .int), Cond.fieldLink RX6 166 "RingGames$History" "count" "I", Cond.methodLink RX6 162 yX2_takeInto, Cond.instanceMethod yX2_takeInto, Cond.selects RX2 yX2_takeInto yX2_takeInto]
def wsL_law_r21 : List Cond := [Cond.code yX2_takeInto cX2_takeInto 2 (some .boolean), Cond.methodLink RL 72 yX7_undo, Cond.instanceMethod yX7_undo, Cond.selects RX7 yX7_undo yX7_undo, Cond.code yX7_undo cX7_undo 2 (some .int), Cond.methodLink RL 73 yX6_keep, Cond.instanceMethod yX6_keep, Cond.selects RX6 yX6_keep yX6_keep, Cond.code yX6_keep cX6_keep 1 (some .int), Cond.methodLink RX6 169 yX4_become, Cond.methodLink RL 76 yX7_keep, Cond.instanceMethod yX7_keep, Cond.selects RX7 yX7_keep yX7_keep, Cond.code yX7_keep cX7_keep 2 (some .int), Cond.fieldLink RX7 151 "RingGamesModel" "isFilled" "Z", Cond.methodLink RL 77 yX6_restore, Cond.instanceMethod yX6_restore, Cond.selects RX6 yX6_restore yX6_restore, Cond.code yX6_restore cX6_restore 1 (some .int), Cond.methodLink RL 80 yX7_restore, Cond.instanceMethod yX7_restore, Cond.selects RX7 yX7_restore yX7_restore, Cond.code yX7_restore cX7_restore 2 (some .int), Cond.methodLink RL 81 yX6_place]
def wsL_law_r22 : List Cond := [Cond.instanceMethod yX6_place, Cond.selects RX6 yX6_place yX6_place, Cond.code yX6_place cX6_place 3 (some .int), Cond.methodLink RX6 171 yX1_sources, Cond.instanceMethod yX1_sources, Cond.selects RX1 yX1_sources yX1_sources, Cond.code yX1_sources cX1_sources 4 (some .int), Cond.methodLink RX6 174 yX6_placeOrNone, Cond.static yX6_placeOrNone, Cond.code yX6_placeOrNone cX6_placeOrNone 1 (some .int), Cond.methodLink RL 84 yX7_place, Cond.instanceMethod yX7_place, Cond.selects RX7 yX7_place yX7_place, Cond.code yX7_place cX7_place 3 (some .int), Cond.methodLink RX7 155 yX7_sources, Cond.instanceMethod yX7_sources, Cond.selects RX7 yX7_sources yX7_sources, Cond.code yX7_sources cX7_sources 4 (some .int), Cond.methodLink RL 85 yX6_wins, Cond.instanceMethod yX6_wins, Cond.selects RX6 yX6_wins yX6_wins, Cond.code yX6_wins cX6_wins 2 (some .int), Cond.methodLink RL 88 yX7_wins, Cond.instanceMethod yX7_wins]
def wsL_law_r23 : List Cond := [Cond.selects RX7 yX7_wins yX7_wins, Cond.code yX7_wins cX7_wins 2 (some .int), Cond.methodLink RL 89 yX6_winningChoice, Cond.instanceMethod yX6_winningChoice, Cond.selects RX6 yX6_winningChoice yX6_winningChoice, Cond.code yX6_winningChoice cX6_winningChoice 2 (some .int), Cond.methodLink RL 92 yX7_winningChoice, Cond.instanceMethod yX7_winningChoice, Cond.selects RX7 yX7_winningChoice yX7_winningChoice, Cond.code yX7_winningChoice cX7_winningChoice 2 (some .int), Cond.methodLink RL 93 yX6_measure, Cond.instanceMethod yX6_measure, Cond.selects RX6 yX6_measure yX6_measure, Cond.code yX6_measure cX6_measure 4 (some .int), Cond.methodLink RX6 180 yX3_number, Cond.instanceMethod yX3_number, Cond.selects RX3 yX3_number yX3_number, Cond.code yX3_number cX3_number 3 (some .int), Cond.methodLink RL 97 yX7_measure, Cond.instanceMethod yX7_measure, Cond.selects RX7 yX7_measure yX7_measure, Cond.code yX7_measure cX7_measure 6 (some .int), Cond.methodLink RL 98 yX6_rounds, Cond.instanceMethod yX6_rounds]
def wsL_law_r24 : List Cond := [Cond.selects RX6 yX6_rounds yX6_rounds, Cond.code yX6_rounds cX6_rounds 2 (some .int), Cond.fieldLink RX6 183 "RingGames$Measures" "lastRound" "I", Cond.methodLink RL 101 yX7_rounds, Cond.instanceMethod yX7_rounds, Cond.selects RX7 yX7_rounds yX7_rounds, Cond.code yX7_rounds cX7_rounds 2 (some .int), Cond.methodLink RL 102 yX6_forced, Cond.instanceMethod yX6_forced, Cond.selects RX6 yX6_forced yX6_forced, Cond.code yX6_forced cX6_forced 5 (some .int), Cond.methodLink RX6 186 yX1_hasAll, Cond.instanceMethod yX1_hasAll, Cond.selects RX1 yX1_hasAll yX1_hasAll, Cond.code yX1_hasAll cX1_hasAll 2 (some .boolean), Cond.methodLink RX1 35 yX1_all, Cond.instanceMethod yX1_all, Cond.selects RX1 yX1_all yX1_all, Cond.code yX1_all cX1_all 1 (some .int), Cond.methodLink RX6 189 yX1_forcedNext, Cond.instanceMethod yX1_forcedNext, Cond.selects RX1 yX1_forcedNext yX1_forcedNext, Cond.code yX1_forcedNext cX1_forcedNext 7 (some .int), Cond.methodLink RL 105 yX7_forced]
def wsL_law_r25 : List Cond := [Cond.instanceMethod yX7_forced, Cond.selects RX7 yX7_forced yX7_forced, Cond.code yX7_forced cX7_forced 5 (some .int), Cond.methodLink RX7 161 yX7_isBad, Cond.instanceMethod yX7_isBad, Cond.selects RX7 yX7_isBad yX7_isBad, Cond.code yX7_isBad cX7_isBad 2 (some .boolean), Cond.methodLink RX7 164 yX7_coming, Cond.instanceMethod yX7_coming, Cond.selects RX7 yX7_coming yX7_coming, Cond.code yX7_coming cX7_coming 5 (some .int), Cond.methodLink RX7 158 yX7_comes, Cond.instanceMethod yX7_comes, Cond.selects RX7 yX7_comes yX7_comes, Cond.code yX7_comes cX7_comes 5 (some .boolean), Cond.methodLink RL 106 yX6_rank, Cond.instanceMethod yX6_rank, Cond.selects RX6 yX6_rank yX6_rank, Cond.code yX6_rank cX6_rank 6 (some .int), Cond.methodLink RX6 192 yX6_contains, Cond.methodLink RL 109 yX7_rank, Cond.instanceMethod yX7_rank, Cond.selects RX7 yX7_rank yX7_rank, Cond.code yX7_rank cX7_rank 7 (some .int)]
def wsL_law_r26 : List Cond := [Cond.methodLink RL 110 yX6_trap, Cond.instanceMethod yX6_trap, Cond.selects RX6 yX6_trap yX6_trap, Cond.code yX6_trap cX6_trap 3 (some .int), Cond.methodLink RX6 195 yX1_isTrap, Cond.instanceMethod yX1_isTrap, Cond.selects RX1 yX1_isTrap yX1_isTrap, Cond.code yX1_isTrap cX1_isTrap 5 (some .boolean), Cond.methodLink RL 113 yX7_trap, Cond.instanceMethod yX7_trap, Cond.selects RX7 yX7_trap yX7_trap, Cond.code yX7_trap cX7_trap 6 (some .int), Cond.methodLink RL 114 yX6_judged, Cond.instanceMethod yX6_judged, Cond.selects RX6 yX6_judged yX6_judged, Cond.code yX6_judged cX6_judged 5 (some .int), Cond.methodLink RX6 198 yX6_judgeFor, Cond.instanceMethod yX6_judgeFor, Cond.selects RX6 yX6_judgeFor yX6_judgeFor, Cond.code yX6_judgeFor cX6_judgeFor 3 none, Cond.methodLink RX6 201 yX1_badRingPlaces, Cond.instanceMethod yX1_badRingPlaces, Cond.selects RX1 yX1_badRingPlaces yX1_badRingPlaces, Cond.code yX1_badRingPlaces cX1_badRingPlaces 4 (some .int)]
def wsL_law_r27 : List Cond := [Cond.methodLink RX1 71 yX1_isBadColour, Cond.instanceMethod yX1_isBadColour, Cond.selects RX1 yX1_isBadColour yX1_isBadColour, Cond.code yX1_isBadColour cX1_isBadColour 3 (some .boolean), Cond.methodLink RX1 74 yX1_ringPlaces, Cond.instanceMethod yX1_ringPlaces, Cond.selects RX1 yX1_ringPlaces yX1_ringPlaces, Cond.code yX1_ringPlaces cX1_ringPlaces 4 (some .int), Cond.methodLink RX1 61 yX1_notLess, Cond.instanceMethod yX1_notLess, Cond.selects RX1 yX1_notLess yX1_notLess, Cond.code yX1_notLess cX1_notLess 4 (some .int), Cond.methodLink RX1 64 yX1_reached, Cond.instanceMethod yX1_reached, Cond.selects RX1 yX1_reached yX1_reached, Cond.code yX1_reached cX1_reached 5 (some .int), Cond.methodLink RX1 55 yX1_targets, Cond.instanceMethod yX1_targets, Cond.selects RX1 yX1_targets yX1_targets, Cond.code yX1_targets cX1_targets 4 (some .int), Cond.methodLink RX1 68 yX1_reaching, Cond.instanceMethod yX1_reaching, Cond.selects RX1 yX1_reaching yX1_reaching, Cond.code yX1_reaching cX1_reaching 5 (some .int)]
def wsL_law_r28 : List Cond := [Cond.methodLink RX1 58 yX1_sources, Cond.methodLink RX6 204 yX1_owned, Cond.instanceMethod yX1_owned, Cond.selects RX1 yX1_owned yX1_owned, Cond.code yX1_owned cX1_owned 4 (some .int), Cond.methodLink RX6 207 yX1_withoutArrows, Cond.instanceMethod yX1_withoutArrows, Cond.selects RX1 yX1_withoutArrows yX1_withoutArrows, Cond.code yX1_withoutArrows cX1_withoutArrows 3 (some .int), Cond.methodLink RX6 210 yX1_all, Cond.methodLink RX6 213 yX1_reached, Cond.methodLink RL 117 yX7_judged, Cond.instanceMethod yX7_judged, Cond.selects RX7 yX7_judged yX7_judged, Cond.code yX7_judged cX7_judged 6 (some .int), Cond.methodLink RX7 176 yX7_allBad, Cond.instanceMethod yX7_allBad, Cond.selects RX7 yX7_allBad yX7_allBad, Cond.code yX7_allBad cX7_allBad 4 (some .int), Cond.methodLink RX7 170 yX7_judges, Cond.instanceMethod yX7_judges, Cond.selects RX7 yX7_judges yX7_judges, Cond.code yX7_judges cX7_judges 3 none, Cond.methodLink RX7 173 yX7_onRings]
def wsL_law_r29 : List Cond := [Cond.instanceMethod yX7_onRings, Cond.selects RX7 yX7_onRings yX7_onRings, Cond.code yX7_onRings cX7_onRings 6 (some .int), Cond.methodLink RX7 167 yX7_reaches, Cond.instanceMethod yX7_reaches, Cond.selects RX7 yX7_reaches yX7_reaches, Cond.code yX7_reaches cX7_reaches 6 none, Cond.methodLink RL 118 yX6_badRings, Cond.instanceMethod yX6_badRings, Cond.selects RX6 yX6_badRings yX6_badRings, Cond.code yX6_badRings cX6_badRings 3 (some .int), Cond.methodLink RX6 216 yX1_leastBadColour, Cond.instanceMethod yX1_leastBadColour, Cond.selects RX1 yX1_leastBadColour yX1_leastBadColour, Cond.code yX1_leastBadColour cX1_leastBadColour 5 (some .int), Cond.methodLink RX6 219 yX1_shortestBadRing, Cond.instanceMethod yX1_shortestBadRing, Cond.selects RX1 yX1_shortestBadRing yX1_shortestBadRing, Cond.code yX1_shortestBadRing cX1_shortestBadRing 5 (some .int), Cond.methodLink RX1 77 yX1_shortestRing, Cond.instanceMethod yX1_shortestRing, Cond.selects RX1 yX1_shortestRing yX1_shortestRing, Cond.code yX1_shortestRing cX1_shortestRing 5 (some .int), Cond.methodLink RL 121 yX7_badRings]
def wsL_law_r30 : List Cond := [Cond.instanceMethod yX7_badRings, Cond.selects RX7 yX7_badRings yX7_badRings, Cond.code yX7_badRings cX7_badRings 7 (some .int), Cond.methodLink RX7 179 yX7_ringAt, Cond.instanceMethod yX7_ringAt, Cond.selects RX7 yX7_ringAt yX7_ringAt, Cond.code yX7_ringAt cX7_ringAt 8 (some .int), Cond.methodLink RL 122 yX6_pivots, Cond.instanceMethod yX6_pivots, Cond.selects RX6 yX6_pivots yX6_pivots, Cond.code yX6_pivots cX6_pivots 5 (some .int), Cond.methodLink RL 125 yX7_pivots, Cond.instanceMethod yX7_pivots, Cond.selects RX7 yX7_pivots yX7_pivots, Cond.code yX7_pivots cX7_pivots 5 (some .int), Cond.methodLink RL 126 yX6_weakArrows, Cond.instanceMethod yX6_weakArrows, Cond.selects RX6 yX6_weakArrows yX6_weakArrows, Cond.code yX6_weakArrows cX6_weakArrows 5 (some .int), Cond.methodLink RL 129 yX7_weakArrows, Cond.instanceMethod yX7_weakArrows, Cond.selects RX7 yX7_weakArrows yX7_weakArrows, Cond.code yX7_weakArrows cX7_weakArrows 6 (some .int), Cond.methodLink RL 130 yX6_token]
def wsL_law_r31 : List Cond := [Cond.instanceMethod yX6_token, Cond.selects RX6 yX6_token yX6_token, Cond.code yX6_token cX6_token 2 (some .int), Cond.fieldLink RX6 231 "RingGames$Walk" "endless" "Z", Cond.fieldLink RX6 234 "RingGames$Walk" "steps" "I", Cond.methodLink RX6 228 yX5_follow, Cond.instanceMethod yX5_follow, Cond.selects RX5 yX5_follow yX5_follow, Cond.code yX5_follow cX5_follow 3 none, Cond.fieldLink RX5 19 "RingGames$Walk" "steps" "I", Cond.fieldLink RX5 23 "RingGames$Walk" "endless" "Z", Cond.fieldLink RX5 27 "RingGames$Walk" "last" "I", Cond.methodLink RX5 30 yX5_wayFrom, Cond.methodLink RX6 237 yX5_leastColourAgain, Cond.instanceMethod yX5_leastColourAgain, Cond.selects RX5 yX5_leastColourAgain yX5_leastColourAgain, Cond.code yX5_leastColourAgain cX5_leastColourAgain 5 (some .int), Cond.fieldLink RX5 37 "RingGames$Game" "colours" "[I", Cond.methodLink RX5 46 Lib.Math.min.name, Cond.methodLink RX5 42 yX1_has, Cond.methodLink RX6 241 yX5_winner, Cond.instanceMethod yX5_winner, Cond.selects RX5 yX5_winner yX5_winner, Cond.code yX5_winner cX5_winner 2 (some .int)]
def wsL_law_r32 : List Cond := [Cond.fieldLink RX5 56 "RingGames$Game" "owners" "[I", Cond.methodLink RX5 52 yX5_leastColourAgain, Cond.methodLink RL 133 yX7_token, Cond.instanceMethod yX7_token, Cond.selects RX7 yX7_token yX7_token, Cond.code yX7_token cX7_token 8 (some .int), Cond.methodLink RL 134 yX6_count, Cond.instanceMethod yX6_count, Cond.selects RX6 yX6_count yX6_count, Cond.code yX6_count cX6_count 2 (some .int), Cond.methodLink RX6 243 yX1_leastColour, Cond.instanceMethod yX1_leastColour, Cond.selects RX1 yX1_leastColour yX1_leastColour, Cond.code yX1_leastColour cX1_leastColour 3 (some .int), Cond.methodLink RX6 246 yX4_choiceCount, Cond.instanceMethod yX4_choiceCount, Cond.selects RX4 yX4_choiceCount yX4_choiceCount, Cond.code yX4_choiceCount cX4_choiceCount 3 (some .int), Cond.methodLink RL 137 yX7_count, Cond.instanceMethod yX7_count, Cond.selects RX7 yX7_count yX7_count, Cond.code yX7_count cX7_count 2 (some .int), Cond.methodLink RX7 182 yX7_placesThat, Cond.instanceMethod yX7_placesThat]
def wsL_law_r33 : List Cond := [Cond.selects RX7 yX7_placesThat yX7_placesThat, Cond.code yX7_placesThat cX7_placesThat 5 (some .int), Cond.methodLink RX7 185 yX7_leastColour, Cond.instanceMethod yX7_leastColour, Cond.selects RX7 yX7_leastColour yX7_leastColour, Cond.code yX7_leastColour cX7_leastColour 3 (some .int)]
def wsL_law : List Cond := (wsL_law_r1 ++ (wsL_law_r2 ++ (wsL_law_r3 ++ (wsL_law_r4 ++ (wsL_law_r5 ++ (wsL_law_r6 ++ (wsL_law_r7 ++ (wsL_law_r8 ++ (wsL_law_r9 ++ (wsL_law_r10 ++ (wsL_law_r11 ++ (wsL_law_r12 ++ (wsL_law_r13 ++ (wsL_law_r14 ++ (wsL_law_r15 ++ (wsL_law_r16 ++ (wsL_law_r17 ++ (wsL_law_r18 ++ (wsL_law_r19 ++ (wsL_law_r20 ++ (wsL_law_r21 ++ (wsL_law_r22 ++ (wsL_law_r23 ++ (wsL_law_r24 ++ (wsL_law_r25 ++ (wsL_law_r26 ++ (wsL_law_r27 ++ (wsL_law_r28 ++ (wsL_law_r29 ++ (wsL_law_r30 ++ (wsL_law_r31 ++ (wsL_law_r32 ++ wsL_law_r33)))))))))))))))))))))))))))))))) ++ wsX60 ++ wsX70 ++ wsX40 ++ wsX20 ++ wsX00 ++ wsX10 ++ wsX30 ++ wsX50 ++ ([] : List Cond)
abbrev vwCl : List vw_C := [(RX0, TX0, 2), (RX1, TX1, 4), (RX2, TX2, 2), (RX3, TX3, 3), (RX4, TX4, 4), (RX5, TX5, 4), (RX6, TX6, 8), (RX7, TX7, 19)]
end
section
/-! Our own rows over the kit's: contracts whose world has a frame R behind the method's own cells. -/
theorem if_t {c : Prop} {i : Decidable c} {α : Type} {a b o : α} (h : (@ite α c i a b) = o) (hc : c) : a = o := by
  rw [if_pos hc] at h
  exact h
theorem if_f {c : Prop} {i : Decidable c} {α : Type} {a b o : α} (h : (@ite α c i a b) = o) (hc : ¬ c) : b = o := by
  rw [if_neg hc] at h
  exact h
theorem ob_some {α β : Type} {x : Option α} {f : α → Option β} {o : β} (h : x.bind f = some o) : ∃ q, x = some q ∧ f q = some o := by
  cases x with
  | none => cases h
  | some q => exact ⟨q, rfl, h⟩
/-- an index is looked at -/
def vg {α : Type} (i : Int32) (n : Nat) (x : Option α) : Option α := if i < 0 ∨ n ≤ i.toNatClampNeg then none else x
theorem vg_some {α : Type} {i : Int32} {n : Nat} {x : Option α} {o : α} (h : vg i n x = some o) : vp_in i n ∧ x = some o := by
  unfold vg at h
  by_cases hc : i < 0 ∨ n ≤ i.toNatClampNeg
  · rw [if_pos hc] at h; cases h
  · rw [if_neg hc] at h; exact ⟨hc, h⟩
/-- a number that is 0 or 1 -/
def zg {α : Type} (i : Int32) (x : Option α) : Option α := if i = 0 ∨ i = 1 then x else none
theorem zg_some {α : Type} {i : Int32} {x : Option α} {o : α} (h : zg i x = some o) : (i = 0 ∨ i = 1) ∧ x = some o := by
  unfold zg at h
  by_cases hc : i = 0 ∨ i = 1
  · rw [if_pos hc] at h; exact ⟨hc, h⟩
  · rw [if_neg hc] at h; cases h
theorem z_nar {i : Int32} (h : i = 0 ∨ i = 1) : narrow .boolean (.int i) = .int i := by
  rcases h with rfl | rfl <;> rfl
theorem z_fit {i : Int32} (h : i = 0 ∨ i = 1) : fits .boolean (.int i) = true := by
  rcases h with rfl | rfl <;> rfl
/-- a value gets a name -/
def lt {α β : Type} (e : α) (k : α → Option β) : Option β := k e
theorem lt_some {α β : Type} {e : α} {k : α → Option β} {o : β} (h : lt e k = some o) : ∃ x, x = e ∧ k x = some o := ⟨e, rfl, h⟩
abbrev jshl (x y : Int32) : Int32 := x <<< (y &&& 31)
abbrev jshr (x y : Int32) : Int32 := x >>> (y &&& 31)
abbrev jrem (x y : Int32) : Int32 := x - x / y * y
abbrev jushr (x y : Int32) : Int32 := (x.toUInt32 >>> (y.toUInt32 &&& Int32.toUInt32 31)).toInt32
theorem x_ne {x k : Int32} (h : ¬ x = k) : x.toInt ≠ k.toInt := fun e => h (Int32.toInt_inj.mp e)
-- worlds
theorem xP_perm {D : va_G} {cl : List vw_C} {w w' : va_W} {H : Heap} (h : va_P D cl w H) (hp : w.Perm w') : va_P D cl w' H := by
  intro k q hk
  obtain ⟨i, hi⟩ := List.getElem?_of_mem (hp.mem_iff.mpr (List.mem_of_getElem? hk))
  exact h i q hi
theorem xD_iff {A : Nat → Prop} {w : va_W} : va_D A w ↔ (w.map (fun q => q.1)).Nodup ∧ ∀ q ∈ w, A q.1 := by
  constructor
  · intro h
    refine ⟨?_, fun q hq => ?_⟩
    · rw [List.nodup_iff_pairwise_ne, List.pairwise_iff_getElem]
      intro i j hi hj hij he
      rw [List.length_map] at hi hj
      rw [List.getElem_map, List.getElem_map] at he
      have := h.1 i j w[i] w[j] (List.getElem?_eq_getElem hi) (List.getElem?_eq_getElem hj) he
      omega
    · obtain ⟨i, hi⟩ := List.getElem?_of_mem hq
      exact h.2 i q hi
  · intro h
    refine ⟨fun i j p q hi hj he => ?_, fun k q hk => h.2 q (List.mem_of_getElem? hk)⟩
    have hpw := h.1
    rw [List.nodup_iff_pairwise_ne, List.pairwise_iff_getElem] at hpw
    obtain ⟨li, ei⟩ := List.getElem?_eq_some_iff.mp hi
    obtain ⟨lj, ej⟩ := List.getElem?_eq_some_iff.mp hj
    rcases Nat.lt_trichotomy i j with hlt | rfl | hlt
    · exact absurd (by rw [List.getElem_map, List.getElem_map, ei, ej]; exact he) (hpw i j (by rw [List.length_map]; exact li) (by rw [List.length_map]; exact lj) hlt)
    · rfl
    · exact absurd (by rw [List.getElem_map, List.getElem_map, ei, ej]; exact he.symm) (hpw j i (by rw [List.length_map]; exact lj) (by rw [List.length_map]; exact li) hlt)
theorem xD_perm {A : Nat → Prop} {w w' : va_W} (h : va_D A w) (hp : w.Perm w') : va_D A w' := by
  rw [xD_iff] at h ⊢
  exact ⟨(hp.map _).nodup_iff.mp h.1, fun q hq => h.2 q (hp.mem_iff.mpr hq)⟩
/-- the places of a world of n cells that stand not in a list -/
def xr (n : Nat) (isC : List Nat) : List Nat := (List.range n).filter (fun i => !isC.contains i)
theorem x_fm {pre : va_W} : ∀ (is : List Nat) (l : va_W), is.map (fun i => pre[i]?) = l.map some → is.filterMap (fun i => pre[i]?) = l
  | [], l, h => by
    cases l with
    | nil => rfl
    | cons a t => cases h
  | i :: is, l, h => by
    cases l with
    | nil => cases h
    | cons a t =>
      rw [List.map_cons, List.map_cons] at h
      injection h with h1 h2
      rw [List.filterMap_cons, h1]
      exact congrArg _ (x_fm is t h2)
theorem x_rng (pre : va_W) : (List.range pre.length).filterMap (fun i => pre[i]?) = pre := by
  refine x_fm _ _ ?_
  apply List.ext_getElem?
  intro i
  rw [List.getElem?_map, List.getElem?_map]
  by_cases h : i < pre.length
  · rw [List.getElem?_range h]
    show some pre[i]? = Option.map some pre[i]?
    rw [List.getElem?_eq_getElem h]
    rfl
  · rw [List.getElem?_eq_none (by rw [List.length_range]; omega), List.getElem?_eq_none (by omega)]
    rfl
theorem x_pm0 {pre : va_W} {is : List Nat} {n : Nat} (hn : pre.length = n) (h2 : is.isPerm (List.range n) = true) : (is.filterMap (fun i => pre[i]?)).Perm pre := by
  have h := (List.isPerm_iff.mp h2).filterMap (fun i => pre[i]?)
  subst hn
  rw [x_rng] at h
  exact h
/-- a callee's cells are cut out of the caller's -/
theorem x_cut {pre wc R : va_W} (isC : List Nat) (n : Nat) (hn : pre.length = n) (h2 : (isC ++ xr n isC).isPerm (List.range n) = true) (h1 : isC.map (fun i => pre[i]?) = wc.map some) : (pre ++ R).Perm (wc ++ ((xr n isC).filterMap (fun i => pre[i]?) ++ R)) := by
  have h := x_pm0 hn h2
  rw [List.filterMap_append, x_fm _ _ h1] at h
  rw [← List.append_assoc]
  exact List.Perm.append_right R h.symm
/-- and put back -/
theorem x_back {pre pre' wc' R : va_W} (isC : List Nat) (n : Nat) (hn : pre'.length = n) (h2 : (isC ++ xr n isC).isPerm (List.range n) = true) (h1 : isC.map (fun i => pre'[i]?) = wc'.map some) (h3 : (xr n isC).map (fun i => pre'[i]?) = (xr n isC).map (fun i => pre[i]?)) : (wc' ++ ((xr n isC).filterMap (fun i => pre[i]?) ++ R)).Perm (pre' ++ R) := by
  have e : (xr n isC).filterMap (fun i => pre[i]?) = (xr n isC).filterMap (fun i => pre'[i]?) := by
    have k : ∀ l : List Nat, l.map (fun i => pre'[i]?) = l.map (fun i => pre[i]?) → l.filterMap (fun i => pre[i]?) = l.filterMap (fun i => pre'[i]?) := by
      intro l
      induction l with
      | nil => intro _; rfl
      | cons a t ih =>
        intro h
        rw [List.map_cons, List.map_cons] at h
        injection h with g1 g2
        rw [List.filterMap_cons, List.filterMap_cons, g1, ih g2]
    exact k _ h3
  rw [e]
  exact (x_cut isC n hn h2 h1).symm
def xTy (cI cC cS : ClassId) : List (ClassId × FieldType) := [(cI, .int), (cC, .char), (cS, .object "RingGames$State")]
/-- the private members of nest mates that are called -/
def xNl : List (String × Nat × MethodName) := [(RX6, 11, yX4_init), (RX6, 32, yX0_init), (RX6, 39, yX1_init), (RX6, 46, yX3_init), (RX6, 53, yX5_init), (RX0, 37, yX6_bit), (RX1, 31, yX6_bit), (RX1, 43, yX6_contains), (RX2, 17, yX4_init), (RX3, 46, yX6_contains), (RX4, 11, yX1_init), (RX5, 15, yX6_bit), (RX5, 33, yX6_contains)]
def xN (U : State) : Prop := ∀ q ∈ xNl, va_Nw (.methodLinkNest q.1 q.2.1 q.2.2 RX6) U
theorem xN.moved {s U : State} (hW : s.WarmedH U.vm) (h : xN s) : xN U := fun q hq => va_Nw.warmM hW (h q hq)
theorem xN.same {u U : State} (e : u.vm = U.vm) (h : xN u) : xN U := fun q hq => va_Nw.same rfl e (h q hq)
theorem xN.at {s : State} (h : xN s) (k : Nat) {q : String × Nat × MethodName} (hk : xNl[k]? = some q) : va_Nw (.methodLinkNest q.1 q.2.1 q.2.2 RX6) s := h q (List.mem_of_getElem? hk)
def xB (D : va_G) (cI cC cS : ClassId) (w : va_W) (U : State) : Prop := va_P D vwCl w U.heap ∧ va_K D vwCl (xTy cI cC cS) U ∧ va_D (fun _ => True) w ∧ xN U
def xT (D : va_G) (w' : va_W) (A : Nat → Prop) : Unit → State → Prop := fun _ t => va_P D vwCl w' t.heap ∧ va_D A w'
/-- the contract of a method that answers r and makes of the cells w the cells w' -/
def CI (l : Launch) (y : MethodName) (ws : List Cond) (fr lc : Nat) (D : va_G) (cI cC cS : ClassId) (av : List Value) (w : va_W) (r : Int32) (w' : va_W) : Prop :=
  ∀ sz : Nat, Met l y ws ({ frames := fr, cells := 0, slots := 0, locals := lc }) (va_Pc av (fun U => U.heap.size = sz ∧ xB D cI cC cS w U)) (va_Qi (fun (q : Int32) (_ : Unit) => q = r) (xT D w' (va_A w sz)) (va_A w sz)) 0 0 (va_A w sz)
def CV (l : Launch) (y : MethodName) (ws : List Cond) (fr lc : Nat) (D : va_G) (cI cC cS : ClassId) (av : List Value) (w : va_W) (w' : va_W) : Prop :=
  ∀ sz : Nat, Met l y ws ({ frames := fr, cells := 0, slots := 0, locals := lc }) (va_Pc av (fun U => U.heap.size = sz ∧ xB D cI cC cS w U)) (va_Qv (fun (_ : Unit) => True) (xT D w' (va_A w sz)) (va_A w sz)) 0 0 (va_A w sz)
theorem CI.of {l : Launch} {y : MethodName} {ws ws' : List Cond} {fr lc : Nat} {D : va_G} {cI cC cS : ClassId} {av : List Value} {w w' : va_W} {r : Int32} {cc : ByteArray} {maxL : Nat} {ret : Option FieldType} {own : String} (hy : plainName y.cls = true) (hyc : y.cls = own) (hw : ws = Cond.code y cc maxL ret :: ws') (hav : (lg_sl av).length ≤ maxL)
    (body : ∀ (p : Program) (e : Env) (s : State) (m : MethodId) (below : List Frame) (meth : Method) (c : Code) (A : Nat → Prop), CallFix p m c cc maxL s av.toArray ws own → meth.sig.returnType = ret → meth.locks = false → va_K D vwCl (xTy cI cC cS) s → xN s → (∀ q, s.heap.size ≤ q → A q) → va_P D vwCl w s.heap → va_D A w → va_S A s.heap s.heap [] → ∀ ls : Array Slot, lv_has ls maxL (lv_args 0 av) →
      W p l e ({ frames := fr, cells := 0, slots := 0, locals := lc }) s m av.toArray below meth c s.heap [] 0 0 (MQ below (va_Qi (fun (q : Int32) (_ : Unit) => q = r) (xT D w' A) A) av.toArray s 0 0 A) (F0 m 0 ls [])) :
    CI l y ws fr lc D cI cC cS av w r w' := by
  intro sz
  refine Met.ofW (cc := cc) (maxL := maxL) (ret := ret) hy hw ?_
  intro p e s m args below meth c s₁ B hml hv
  obtain ⟨rfl, hsz, hP, hK, hD0, hN⟩ := hv
  have hts := atoms_spec (ws := ws) B.pre
  have hown : s.vm.findClass own = some m.cls := hyc ▸ findClass_of_methodNamed B.named
  subst hsz
  have hl := lv_entry av (n := maxL) hav
  rw [lg_entry_eq]
  exact body p e s m below meth c (va_A w s.heap.size) ⟨B.exec, B.bytes, hml, hown, hts⟩ B.returns B.notSynchronized hK hN (fun q h => Or.inr h) hP (hD0.self) va_S.rf _ hl
theorem CV.of {l : Launch} {y : MethodName} {ws ws' : List Cond} {fr lc : Nat} {D : va_G} {cI cC cS : ClassId} {av : List Value} {w w' : va_W} {cc : ByteArray} {maxL : Nat} {ret : Option FieldType} {own : String} (hy : plainName y.cls = true) (hyc : y.cls = own) (hw : ws = Cond.code y cc maxL ret :: ws') (hav : (lg_sl av).length ≤ maxL)
    (body : ∀ (p : Program) (e : Env) (s : State) (m : MethodId) (below : List Frame) (meth : Method) (c : Code) (A : Nat → Prop), CallFix p m c cc maxL s av.toArray ws own → meth.sig.returnType = ret → meth.locks = false → va_K D vwCl (xTy cI cC cS) s → xN s → (∀ q, s.heap.size ≤ q → A q) → va_P D vwCl w s.heap → va_D A w → va_S A s.heap s.heap [] → ∀ ls : Array Slot, lv_has ls maxL (lv_args 0 av) →
      W p l e ({ frames := fr, cells := 0, slots := 0, locals := lc }) s m av.toArray below meth c s.heap [] 0 0 (MQ below (va_Qv (fun (_ : Unit) => True) (xT D w' A) A) av.toArray s 0 0 A) (F0 m 0 ls [])) :
    CV l y ws fr lc D cI cC cS av w w' := by
  intro sz
  refine Met.ofW (cc := cc) (maxL := maxL) (ret := ret) hy hw ?_
  intro p e s m args below meth c s₁ B hml hv
  obtain ⟨rfl, hsz, hP, hK, hD0, hN⟩ := hv
  have hts := atoms_spec (ws := ws) B.pre
  have hown : s.vm.findClass own = some m.cls := hyc ▸ findClass_of_methodNamed B.named
  subst hsz
  have hl := lv_entry av (n := maxL) hav
  rw [lg_entry_eq]
  exact body p e s m below meth c (va_A w s.heap.size) ⟨B.exec, B.bytes, hml, hown, hts⟩ B.returns B.notSynchronized hK hN (fun q h => Or.inr h) hP (hD0.self) va_S.rf _ hl
theorem x_blind {av : List Value} {sz : Nat} {D : va_G} {cI cC cS : ClassId} {w : va_W} : FrameBlind (va_Pc av (fun U => U.heap.size = sz ∧ xB D cI cC cS w U)) := fun a U g mk q => by
  obtain ⟨q0, q1, qP, qK, qD, qN⟩ := q
  exact ⟨q0, q1, qP, va_K.moved (u := U) (U := U.calling g mk a) (Vm.Alike.refl U.vm) qK, qD, xN.same (u := U) (U := U.calling g mk a) rfl qN⟩
section XC
variable {p : Program} {l : Launch} {e : Env} {R : Room} {s : State} {m : MethodId} {args : Array Value} {below : List Frame} {meth : Method} {c : Code} {H : Heap} {locs : List Loc} {cells slots : Nat} {Q : State → Prop} {pc : Nat} {ls : Array Slot} {st rest : List Value} {A : Nat → Prop} {cc bytes : ByteArray} {nL maxL n index fr lc ci : Nat} {Ts wds wds' : List Cond} {own C : String} {y : MethodName} {ret : Option FieldType} {D : va_G} {cI cC cS : ClassId} {b : Addr} {As : List Value} {w wc wc' w' : va_W} {r : Int32} {q : vw_C} {fs : List Value}
theorem xr_i {v : Int32} (hx : p.tables.exec = Jvm.exec) (hb : c.code = cc) (hr : meth.sig.returnType = some .int) (hlk : meth.locks = false) (hP : va_P D vwCl w' H) (hD : va_D A w') (hS : va_S A s.heap H locs) (hv : v = r) (hdg : decode cc pc = .ok (.ireturn, 1)) : W p l e R s m args below meth c H locs cells slots (MQ below (va_Qi (fun (q : Int32) (_ : Unit) => q = r) (xT D w' A) A) args s cells slots A) (F0 m pc ls [.int v]) :=
  W.iret hx hb hr (fun t ht _ => ⟨⟨v, (), rfl, hv, by rw [ht]; exact hP, hD⟩, hS.F ht⟩) hS.2.2 hdg hlk
theorem xr_z {v : Int32} {ty : FieldType} (hx : p.tables.exec = Jvm.exec) (hb : c.code = cc) (hr : meth.sig.returnType = some ty) (hn : narrow ty (.int v) = .int v) (hlk : meth.locks = false) (hP : va_P D vwCl w' H) (hD : va_D A w') (hS : va_S A s.heap H locs) (hv : v = r) (hdg : decode cc pc = .ok (.ireturn, 1)) : W p l e R s m args below meth c H locs cells slots (MQ below (va_Qi (fun (q : Int32) (_ : Unit) => q = r) (xT D w' A) A) args s cells slots A) (F0 m pc ls [.int v]) :=
  W.zret hx hb hr hn (fun t ht _ => ⟨⟨v, (), rfl, hv, by rw [ht]; exact hP, hD⟩, hS.F ht⟩) hS.2.2 hdg hlk
theorem xr_v (hx : p.tables.exec = Jvm.exec) (hb : c.code = cc) (hr : meth.sig.returnType = none) (hlk : meth.locks = false) (hP : va_P D vwCl w' H) (hD : va_D A w') (hS : va_S A s.heap H locs) (hdg : decode cc pc = .ok (.return_, 1)) : W p l e R s m args below meth c H locs cells slots (MQ below (va_Qv (fun (_ : Unit) => True) (xT D w' A) A) args s cells slots A) (F0 m pc ls []) :=
  W.vret hx hb hr (fun t ht _ => ⟨⟨(), rfl, trivial, by rw [ht]; exact hP, hD⟩, hS.F ht⟩) hS.2.2 hdg hlk
theorem x_free (hA : ∀ q, s.heap.size ≤ q → A q) (hDc : va_D A wc) (hS : va_S A s.heap H locs) : ∀ q, va_A wc H.size q → A q := by
  intro q h
  rcases h with ⟨k, e, h⟩ | h
  · exact hDc.2 k (q, e) h
  · exact hA q (Nat.le_trans hS.1 h)
/-- a virtual call that answers a number -/
theorem xcVi (S : CallFix p m c cc nL s args Ts own) (hK : va_K D vwCl (xTy cI cC cS) s) (hN : xN s) (hA : ∀ q, s.heap.size ≤ q → A q) (hP : va_P D vwCl w H) (hD : va_D A w) (hS : va_S A s.heap H locs)
    (hM : CI l y wds fr lc D cI cC cS (.ref b :: As) wc r wc') (hG : GoodIn Ts (wsV own index C y wds)) (hw : wds = Cond.code y bytes maxL ret :: wds') (hd : y.cls = C ∧ y.cls ≠ "java/lang/invoke/MethodHandle" ∧ y.cls ≠ "java/lang/invoke/VarHandle" ∧ (parseMethodDescriptor y.desc).map (fun d => d.parameters.length) = some n) (hR : fr + 1 ≤ R.frames ∧ 8 + (maxL + 11) + lc ≤ R.locals)
    (hp : w.Perm wc) (hp' : wc'.Perm w') (he : wc[0]? = some (b, .inr (ci, fs))) (hcl : vwCl[ci]? = some q) (hq : q.1 = C) (hn : As.length = n) (hsz : ls.size = nL) (hst : st = As.reverse ++ .ref b :: rest) (hrm : (rest.map fun v => v.category).sum ≤ 8) (hdg : decode cc pc = .ok (.invokevirtual index, 3)) (hf : cells ≤ R.cells ∧ slots ≤ R.slots)
    (kk : ∀ (H1 : Heap) (locs1 : List Loc), va_P D vwCl w' H1 → va_D A w' → va_S A s.heap H1 locs1 → W p l e R s m args below meth c H1 locs1 cells slots Q (F0 m (pc + 3) ls (.int r :: rest))) : W p l e R s m args below meth c H locs cells slots Q (F0 m pc ls st) := by
  have hPc : va_P D vwCl wc H := xP_perm hP hp
  have hDc : va_D A wc := xD_perm hD hp
  have hF : ∀ q, va_A wc H.size q → A q := x_free hA hDc hS
  refine va_calli (va_runV (As := As) (rest := rest) S (hM H.size) (cwV n S.2.2.2.2 hG hw rfl rfl hd hR) ⟨x_blind, by subst hq; exact va_recv hK hPc hcl he, fun U hU hW => ⟨rfl, by rw [hU], by rw [hU]; exact hPc, va_K.moved hW.alike hK, hDc.weaken (fun _ _ _ _ => trivial), hN.moved hW⟩⟩ rfl hn hsz hst (lv_room hrm) hdg hf) hS (fun q _ h => hF q h) hF (fun r' u t H1 locs1 ht _ hw' hB _ _ hS1 => ?_)
  obtain ⟨hP1, hD1⟩ := hB
  rw [ht] at hP1
  rw [hw']
  exact kk H1 locs1 (xP_perm hP1 hp') (xD_perm (hD1.weaken (fun _ q _ h => hF _ h)) hp') hS1
theorem xcVv (S : CallFix p m c cc nL s args Ts own) (hK : va_K D vwCl (xTy cI cC cS) s) (hN : xN s) (hA : ∀ q, s.heap.size ≤ q → A q) (hP : va_P D vwCl w H) (hD : va_D A w) (hS : va_S A s.heap H locs)
    (hM : CV l y wds fr lc D cI cC cS (.ref b :: As) wc wc') (hG : GoodIn Ts (wsV own index C y wds)) (hw : wds = Cond.code y bytes maxL ret :: wds') (hd : y.cls = C ∧ y.cls ≠ "java/lang/invoke/MethodHandle" ∧ y.cls ≠ "java/lang/invoke/VarHandle" ∧ (parseMethodDescriptor y.desc).map (fun d => d.parameters.length) = some n) (hR : fr + 1 ≤ R.frames ∧ 8 + (maxL + 11) + lc ≤ R.locals)
    (hp : w.Perm wc) (hp' : wc'.Perm w') (he : wc[0]? = some (b, .inr (ci, fs))) (hcl : vwCl[ci]? = some q) (hq : q.1 = C) (hn : As.length = n) (hsz : ls.size = nL) (hst : st = As.reverse ++ .ref b :: rest) (hrm : (rest.map fun v => v.category).sum ≤ 8) (hdg : decode cc pc = .ok (.invokevirtual index, 3)) (hf : cells ≤ R.cells ∧ slots ≤ R.slots)
    (kk : ∀ (H1 : Heap) (locs1 : List Loc), va_P D vwCl w' H1 → va_D A w' → va_S A s.heap H1 locs1 → W p l e R s m args below meth c H1 locs1 cells slots Q (F0 m (pc + 3) ls rest)) : W p l e R s m args below meth c H locs cells slots Q (F0 m pc ls st) := by
  have hPc : va_P D vwCl wc H := xP_perm hP hp
  have hDc : va_D A wc := xD_perm hD hp
  have hF : ∀ q, va_A wc H.size q → A q := x_free hA hDc hS
  refine va_callv (va_runV (As := As) (rest := rest) S (hM H.size) (cwV n S.2.2.2.2 hG hw rfl rfl hd hR) ⟨x_blind, by subst hq; exact va_recv hK hPc hcl he, fun U hU hW => ⟨rfl, by rw [hU], by rw [hU]; exact hPc, va_K.moved hW.alike hK, hDc.weaken (fun _ _ _ _ => trivial), hN.moved hW⟩⟩ rfl hn hsz hst (lv_room hrm) hdg hf) hS (fun q _ h => hF q h) hF (fun u t H1 locs1 ht _ hw' hB _ _ hS1 => ?_)
  obtain ⟨hP1, hD1⟩ := hB
  rw [ht] at hP1
  exact kk H1 locs1 (xP_perm hP1 hp') (xD_perm (hD1.weaken (fun _ q _ h => hF _ h)) hp') hS1
/-- a static call of an own or a JDK method, which touches no cell: the world stays -/
theorem xcSi (S : CallFix p m c cc nL s args Ts own) (hK : va_K D vwCl (xTy cI cC cS) s) (hN : xN s) (hA : ∀ q, s.heap.size ≤ q → A q) (hP : va_P D vwCl w H) (hD : va_D A w) (hS : va_S A s.heap H locs)
    (hM : CI l y wds fr lc D cI cC cS As w r w) (hG : GoodIn Ts (va_wsS own index y wds)) (hw : wds = Cond.code y bytes maxL ret :: wds') (hd : y.cls ≠ "java/lang/invoke/MethodHandle" ∧ y.cls ≠ "java/lang/invoke/VarHandle" ∧ (parseMethodDescriptor y.desc).map (fun d => d.parameters.length) = some n) (hR : fr + 1 ≤ R.frames ∧ 8 + (maxL + 11) + lc ≤ R.locals)
    (hn : As.length = n) (hsz : ls.size = nL) (hst : st = As.reverse ++ rest) (hrm : (rest.map fun v => v.category).sum ≤ 8) (hdg : decode cc pc = .ok (.invokestatic index, 3)) (hf : cells ≤ R.cells ∧ slots ≤ R.slots)
    (kk : ∀ (H1 : Heap) (locs1 : List Loc), va_P D vwCl w H1 → va_D A w → va_S A s.heap H1 locs1 → W p l e R s m args below meth c H1 locs1 cells slots Q (F0 m (pc + 3) ls (.int r :: rest))) : W p l e R s m args below meth c H locs cells slots Q (F0 m pc ls st) := by
  have hF : ∀ q, va_A w H.size q → A q := x_free hA hD hS
  refine va_calli (va_runS (As := As) (rest := rest) S (hM H.size) (va_cwS n S.2.2.2.2 hG hw rfl rfl hd hR) ⟨x_blind, fun U hU hW => ⟨rfl, by rw [hU], by rw [hU]; exact hP, va_K.moved hW.alike hK, hD.weaken (fun _ _ _ _ => trivial), hN.moved hW⟩⟩ rfl hn hsz hst (lv_room hrm) hdg hf) hS (fun q _ h => hF q h) hF (fun r' u t H1 locs1 ht _ hw' hB _ _ hS1 => ?_)
  obtain ⟨hP1, hD1⟩ := hB
  rw [ht] at hP1
  rw [hw']
  exact kk H1 locs1 hP1 (hD1.weaken (fun _ q _ h => hF _ h)) hS1
/-- a static call of a nest mate's private method -/
theorem xcNi (S : CallFix p m c cc nL s args Ts own) (hK : va_K D vwCl (xTy cI cC cS) s) (hN : xN s) (hA : ∀ q, s.heap.size ≤ q → A q) (hP : va_P D vwCl w H) (hD : va_D A w) (hS : va_S A s.heap H locs)
    (hM : CI l y wds fr lc D cI cC cS As w r w) (k : Nat) (hk : xNl[k]? = some (own, index, y)) (hG : GoodIn Ts wds) (hst1 : Cond.static y ∈ Ts) (hini : Cond.initialized y.cls ∈ Ts) (hw : wds = Cond.code y bytes maxL ret :: wds') (hd : y.cls ≠ "java/lang/invoke/MethodHandle" ∧ y.cls ≠ "java/lang/invoke/VarHandle" ∧ (parseMethodDescriptor y.desc).map (fun d => d.parameters.length) = some n) (hR : fr + 1 ≤ R.frames ∧ 8 + (maxL + 11) + lc ≤ R.locals)
    (hn : As.length = n) (hsz : ls.size = nL) (hst : st = As.reverse ++ rest) (hrm : (rest.map fun v => v.category).sum ≤ 8) (hdg : decode cc pc = .ok (.invokestatic index, 3)) (hf : cells ≤ R.cells ∧ slots ≤ R.slots)
    (kk : ∀ (H1 : Heap) (locs1 : List Loc), va_P D vwCl w H1 → va_D A w → va_S A s.heap H1 locs1 → W p l e R s m args below meth c H1 locs1 cells slots Q (F0 m (pc + 3) ls (.int r :: rest))) : W p l e R s m args below meth c H locs cells slots Q (F0 m pc ls st) := by
  have hF : ∀ q, va_A w H.size q → A q := x_free hA hD hS
  refine va_calli (va_runSN (As := As) (rest := rest) (host := RX6) S (hM H.size) ⟨va_cnB n S.2.2.2.2 hG hw rfl rfl (hN.at k hk) (S.2.2.2.2 _ hini) hd hR, S.2.2.2.2 _ hst1, trivial⟩ ⟨x_blind, fun U hU hW => ⟨rfl, by rw [hU], by rw [hU]; exact hP, va_K.moved hW.alike hK, hD.weaken (fun _ _ _ _ => trivial), hN.moved hW⟩⟩ rfl hn hsz hst (lv_room hrm) hdg hf) hS (fun q _ h => hF q h) hF (fun r' u t H1 locs1 ht _ hw' hB _ _ hS1 => ?_)
  obtain ⟨hP1, hD1⟩ := hB
  rw [ht] at hP1
  rw [hw']
  exact kk H1 locs1 hP1 (hD1.weaken (fun _ q _ h => hF _ h)) hS1
end XC
abbrev j2c (x : Int32) : Int32 := (x.toUInt32 % 65536).toInt32
def cp14 (f g : Nat → Int32) : Nat → Int32 := va_cpy f g 0 0 14
theorem x_in {i : Int32} {n : Nat} (h : ¬ (i < 0 ∨ n ≤ i.toNatClampNeg)) : vp_in i n := h
abbrev xR (fr lc : Nat) : Room := { frames := fr, cells := 0, slots := 0, locals := lc }
/-- the states of the objects: a game (size, owners, colours, arrows); a state (game, choices, token, steps); the history (its states with their cells, how many); the text; measures (most, found, last round); a walk (ways, steps, endless, last) -/
abbrev GG : Type := Int32 × (Nat → Int32) × (Nat → Int32) × (Nat → Int32)
abbrev SS : Type := GG × (Nat → Int32) × Int32 × Int32
abbrev HH : Type := (Nat → SS × (Nat → Nat)) × Int32
abbrev TT : Type := (Nat → Int32) × Int32
abbrev EE : Type := (Nat → Int32) × (Nat → Int32) × Int32
abbrev KK : Type := (Nat → Int32) × Int32 × Int32 × Int32
def w_G (a : Nat → Nat) (cI : ClassId) (g : GG) : va_W := [(a 0, .inr (1, [.int g.1, .ref (a 1), .ref (a 2), .ref (a 3)])), (a 1, .inl (cI, 14, .inl g.2.1)), (a 2, .inl (cI, 14, .inl g.2.2.1)), (a 3, .inl (cI, 14, .inl g.2.2.2))]
def w_S (a : Nat → Nat) (cI : ClassId) (u : SS) : va_W := (a 0, .inr (4, [.ref (a 2), .ref (a 1), .int u.2.2.1, .int u.2.2.2])) :: (a 1, .inl (cI, 14, .inl u.2.1)) :: w_G (fun k => a (k + 2)) cI u.1
def w_H (a : Nat → Nat) (cI cS : ClassId) (h : HH) : va_W := (a 0, .inr (2, [.ref (a 1), .int h.2])) :: (a 1, .inl (cS, 4, .inr (.inr (.inr (.inr (fun k => some ((h.1 k).2 0))))))) :: (w_S (h.1 0).2 cI (h.1 0).1 ++ (w_S (h.1 1).2 cI (h.1 1).1 ++ (w_S (h.1 2).2 cI (h.1 2).1 ++ w_S (h.1 3).2 cI (h.1 3).1)))
def w_T (a : Nat → Nat) (cC : ClassId) (t : TT) : va_W := [(a 0, .inr (0, [.ref (a 1), .int t.2])), (a 1, .inl (cC, 60, .inl t.1))]
def w_E (a : Nat → Nat) (cI : ClassId) (e : EE) : va_W := [(a 0, .inr (3, [.ref (a 1), .ref (a 2), .int e.2.2])), (a 1, .inl (cI, 4, .inl e.1)), (a 2, .inl (cI, 14, .inl e.2.1))]
def w_K (a : Nat → Nat) (cI : ClassId) (k : KK) : va_W := [(a 0, .inr (5, [.ref (a 1), .int k.2.1, .int k.2.2.1, .int k.2.2.2])), (a 1, .inl (cI, 14, .inl k.1))]
def w_X (ad : Nat → Nat → Nat) (cI cC cS : ClassId) (now : SS) (hist : HH) (snap : SS) (has : Int32) (text : TT) (trial : GG) (meas : EE) (walk : KK) : va_W := (ad 0 0, .inr (6, [.ref (ad 1 0), .ref (ad 2 0), .ref (ad 3 0), .int has, .ref (ad 4 0), .ref (ad 5 0), .ref (ad 6 0), .ref (ad 7 0)])) :: (w_S (ad 1) cI now ++ (w_H (ad 2) cI cS hist ++ (w_S (ad 3) cI snap ++ (w_T (ad 4) cC text ++ (w_G (ad 5) cI trial ++ (w_E (ad 6) cI meas ++ w_K (ad 7) cI walk))))))
def w_M (a : Nat → Nat) (cI cC : ClassId) (mnow mhistory : Nat → Int32) (mkept : Int32) (mslot : Nat → Int32) (misFilled mgame : Int32) (mmeasures mmost mnumbers : Nat → Int32) (mround mtyped : Int32) (mtext : Nat → Int32) (mat mnumber : Int32) (mreads : Nat → Int32) (mbeyond : Int32) (mjudgedTo mreach mgoes : Nat → Int32) : va_W :=
  [(a 0, .inr (7, [.ref (a 1), .ref (a 2), .int mkept, .ref (a 3), .int misFilled, .int mgame, .ref (a 4), .ref (a 5), .ref (a 6), .int mround, .int mtyped, .ref (a 7), .int mat, .int mnumber, .ref (a 8), .int mbeyond, .ref (a 9), .ref (a 10), .ref (a 11)])), (a 1, .inl (cI, 59, .inl mnow)), (a 2, .inl (cI, 236, .inl mhistory)), (a 3, .inl (cI, 59, .inl mslot)), (a 4, .inl (cI, 14, .inl mmeasures)), (a 5, .inl (cI, 4, .inl mmost)), (a 6, .inl (cI, 4, .inl mnumbers)), (a 7, .inl (cC, 60, .inl mtext)), (a 8, .inl (cI, 100, .inl mreads)), (a 9, .inl (cI, 14, .inl mjudgedTo)), (a 10, .inl (cI, 14, .inl mreach)), (a 11, .inl (cI, 16, .inl mgoes))]
theorem XI.of {l : Launch} {y : MethodName} {ws ws' : List Cond} {fr lc : Nat} {D : va_G} {cI cC cS : ClassId} {av : List Value} {w w' : va_W} {r : Int32} {cc : ByteArray} {maxL : Nat} {ty : FieldType} {own : String} (hy : plainName y.cls = true) (hyc : y.cls = own) (hw : ws = Cond.code y cc maxL (some ty) :: ws') (hav : (lg_sl av).length ≤ maxL)
    (body : ∀ (p : Program) (e : Env) (s : State) (m : MethodId) (args : Array Value) (below : List Frame) (meth : Method) (c : Code) (A : Nat → Prop) (Q : State → Prop), CallFix p m c cc maxL s args ws own → va_K D vwCl (xTy cI cC cS) s → xN s → (∀ q, s.heap.size ≤ q → A q) → va_P D vwCl w s.heap → va_D A w → va_S A s.heap s.heap [] → ∀ ls : Array Slot, lv_has ls maxL (lv_args 0 av) →
      (∀ (H : Heap) (locs : List Loc) (pc : Nat) (ls : Array Slot) (v : Int32), decode cc pc = .ok (.ireturn, 1) → narrow ty (.int v) = .int v → va_P D vwCl w' H → va_D A w' → va_S A s.heap H locs → v = r → W p l e (xR fr lc) s m args below meth c H locs 0 0 Q (F0 m pc ls [.int v])) →
      W p l e (xR fr lc) s m args below meth c s.heap [] 0 0 Q (F0 m 0 ls [])) :
    CI l y ws fr lc D cI cC cS av w r w' :=
  CI.of (cc := cc) (maxL := maxL) (ret := some ty) (own := own) hy hyc hw hav fun p e s m below meth c A S hr hlk hK hN hA hP hD hS ls hl =>
    body p e s m av.toArray below meth c A _ S hK hN hA hP hD hS ls hl (fun H locs pc ls v hd hn hP hD hS hv => xr_z S.1 S.2.1 hr hn hlk hP hD hS hv hd)
theorem XV.of {l : Launch} {y : MethodName} {ws ws' : List Cond} {fr lc : Nat} {D : va_G} {cI cC cS : ClassId} {av : List Value} {w w' : va_W} {cc : ByteArray} {maxL : Nat} {own : String} (hy : plainName y.cls = true) (hyc : y.cls = own) (hw : ws = Cond.code y cc maxL none :: ws') (hav : (lg_sl av).length ≤ maxL)
    (body : ∀ (p : Program) (e : Env) (s : State) (m : MethodId) (args : Array Value) (below : List Frame) (meth : Method) (c : Code) (A : Nat → Prop) (Q : State → Prop), CallFix p m c cc maxL s args ws own → va_K D vwCl (xTy cI cC cS) s → xN s → (∀ q, s.heap.size ≤ q → A q) → va_P D vwCl w s.heap → va_D A w → va_S A s.heap s.heap [] → ∀ ls : Array Slot, lv_has ls maxL (lv_args 0 av) →
      (∀ (H : Heap) (locs : List Loc) (pc : Nat) (ls : Array Slot), decode cc pc = .ok (.return_, 1) → va_P D vwCl w' H → va_D A w' → va_S A s.heap H locs → W p l e (xR fr lc) s m args below meth c H locs 0 0 Q (F0 m pc ls [])) →
      W p l e (xR fr lc) s m args below meth c s.heap [] 0 0 Q (F0 m 0 ls [])) :
    CV l y ws fr lc D cI cC cS av w w' :=
  CV.of (cc := cc) (maxL := maxL) (ret := none) (own := own) hy hyc hw hav fun p e s m below meth c A S hr hlk hK hN hA hP hD hS ls hl =>
    body p e s m av.toArray below meth c A _ S hK hN hA hP hD hS ls hl (fun H locs pc ls hd hP hD hS => xr_v S.1 S.2.1 hr hlk hP hD hS hd)
end
section
theorem dX0_init_0 : decode cX0_init 0 = .ok (.aload_n 0, 1) := by decide +kernel
theorem dX0_init_1 : decode cX0_init 1 = .ok (.invokespecial 3, 3) := by decide +kernel
theorem dX0_init_4 : decode cX0_init 4 = .ok (.aload_n 0, 1) := by decide +kernel
theorem dX0_init_5 : decode cX0_init 5 = .ok (.bipush 60, 2) := by decide +kernel
theorem dX0_init_7 : decode cX0_init 7 = .ok (.newarray .char, 2) := by decide +kernel
theorem dX0_init_9 : decode cX0_init 9 = .ok (.putfield 9, 3) := by decide +kernel
theorem dX0_init_12 : decode cX0_init 12 = .ok (.return_, 1) := by decide +kernel
theorem dX0_append_0 : decode cX0_append 0 = .ok (.aload_n 0, 1) := by decide +kernel
theorem dX0_append_1 : decode cX0_append 1 = .ok (.getfield 15, 3) := by decide +kernel
theorem dX0_append_4 : decode cX0_append 4 = .ok (.bipush 60, 2) := by decide +kernel
theorem dX0_append_6 : decode cX0_append 6 = .ok (.if_icmp .lt 5, 3) := by decide +kernel
theorem dX0_append_9 : decode cX0_append 9 = .ok (.iconst 0, 1) := by decide +kernel
theorem dX0_append_10 : decode cX0_append 10 = .ok (.ireturn, 1) := by decide +kernel
theorem dX0_append_11 : decode cX0_append 11 = .ok (.aload_n 0, 1) := by decide +kernel
theorem dX0_append_12 : decode cX0_append 12 = .ok (.getfield 9, 3) := by decide +kernel
theorem dX0_append_15 : decode cX0_append 15 = .ok (.aload_n 0, 1) := by decide +kernel
theorem dX0_append_16 : decode cX0_append 16 = .ok (.getfield 15, 3) := by decide +kernel
theorem dX0_append_19 : decode cX0_append 19 = .ok (.iload_n 1, 1) := by decide +kernel
theorem dX0_append_20 : decode cX0_append 20 = .ok (.castore, 1) := by decide +kernel
theorem dX0_append_21 : decode cX0_append 21 = .ok (.aload_n 0, 1) := by decide +kernel
theorem dX0_append_22 : decode cX0_append 22 = .ok (.dup, 1) := by decide +kernel
theorem dX0_append_23 : decode cX0_append 23 = .ok (.getfield 15, 3) := by decide +kernel
theorem dX0_append_26 : decode cX0_append 26 = .ok (.iconst 1, 1) := by decide +kernel
theorem dX0_append_27 : decode cX0_append 27 = .ok (.iadd, 1) := by decide +kernel
theorem dX0_append_28 : decode cX0_append 28 = .ok (.putfield 15, 3) := by decide +kernel
theorem dX0_append_31 : decode cX0_append 31 = .ok (.iconst 1, 1) := by decide +kernel
theorem dX0_append_32 : decode cX0_append 32 = .ok (.ireturn, 1) := by decide +kernel
theorem dX0_isDigit_0 : decode cX0_isDigit 0 = .ok (.iload_n 0, 1) := by decide +kernel
theorem dX0_isDigit_1 : decode cX0_isDigit 1 = .ok (.bipush 48, 2) := by decide +kernel
theorem dX0_isDigit_3 : decode cX0_isDigit 3 = .ok (.if_icmp .lt 13, 3) := by decide +kernel
theorem dX0_isDigit_6 : decode cX0_isDigit 6 = .ok (.iload_n 0, 1) := by decide +kernel
theorem dX0_isDigit_7 : decode cX0_isDigit 7 = .ok (.bipush 57, 2) := by decide +kernel
theorem dX0_isDigit_9 : decode cX0_isDigit 9 = .ok (.if_icmp .gt 7, 3) := by decide +kernel
theorem dX0_isDigit_12 : decode cX0_isDigit 12 = .ok (.iconst 1, 1) := by decide +kernel
theorem dX0_isDigit_13 : decode cX0_isDigit 13 = .ok (.goto 4, 3) := by decide +kernel
theorem dX0_isDigit_16 : decode cX0_isDigit 16 = .ok (.iconst 0, 1) := by decide +kernel
theorem dX0_isDigit_17 : decode cX0_isDigit 17 = .ok (.ireturn, 1) := by decide +kernel
theorem dX0_isSignBehind_0 : decode cX0_isSignBehind 0 = .ok (.iload_n 1, 1) := by decide +kernel
theorem dX0_isSignBehind_1 : decode cX0_isSignBehind 1 = .ok (.ifCond .eq 23, 3) := by decide +kernel
theorem dX0_isSignBehind_4 : decode cX0_isSignBehind 4 = .ok (.iload_n 0, 1) := by decide +kernel
theorem dX0_isSignBehind_5 : decode cX0_isSignBehind 5 = .ok (.bipush 44, 2) := by decide +kernel
theorem dX0_isSignBehind_7 : decode cX0_isSignBehind 7 = .ok (.if_icmp .eq 9, 3) := by decide +kernel
theorem dX0_isSignBehind_10 : decode cX0_isSignBehind 10 = .ok (.iload_n 0, 1) := by decide +kernel
theorem dX0_isSignBehind_11 : decode cX0_isSignBehind 11 = .ok (.bipush 59, 2) := by decide +kernel
theorem dX0_isSignBehind_13 : decode cX0_isSignBehind 13 = .ok (.if_icmp .ne 7, 3) := by decide +kernel
theorem dX0_isSignBehind_16 : decode cX0_isSignBehind 16 = .ok (.iconst 1, 1) := by decide +kernel
theorem dX0_isSignBehind_17 : decode cX0_isSignBehind 17 = .ok (.goto 18, 3) := by decide +kernel
theorem dX0_isSignBehind_20 : decode cX0_isSignBehind 20 = .ok (.iconst 0, 1) := by decide +kernel
theorem dX0_isSignBehind_21 : decode cX0_isSignBehind 21 = .ok (.goto 14, 3) := by decide +kernel
theorem dX0_isSignBehind_24 : decode cX0_isSignBehind 24 = .ok (.iload_n 0, 1) := by decide +kernel
theorem dX0_isSignBehind_25 : decode cX0_isSignBehind 25 = .ok (.bipush 62, 2) := by decide +kernel
theorem dX0_isSignBehind_27 : decode cX0_isSignBehind 27 = .ok (.if_icmp .ne 7, 3) := by decide +kernel
theorem dX0_isSignBehind_30 : decode cX0_isSignBehind 30 = .ok (.iconst 1, 1) := by decide +kernel
theorem dX0_isSignBehind_31 : decode cX0_isSignBehind 31 = .ok (.goto 4, 3) := by decide +kernel
theorem dX0_isSignBehind_34 : decode cX0_isSignBehind 34 = .ok (.iconst 0, 1) := by decide +kernel
theorem dX0_isSignBehind_35 : decode cX0_isSignBehind 35 = .ok (.ireturn, 1) := by decide +kernel
set_option maxRecDepth 20000 in
theorem ggX0_fault_X0_isDigit : GoodIn wsX0_fault wsX0_isDigit := goodIn_r _ [6] (by decide +kernel) (by decide +kernel)
set_option maxRecDepth 20000 in
theorem gX0_fault_X0_isDigit : GoodIn wsX0_fault (va_wsS RX0 19 yX0_isDigit wsX0_isDigit) := goodIn_app (goodIn_of _ (by decide +kernel)) ggX0_fault_X0_isDigit
set_option maxRecDepth 20000 in
theorem ggX0_fault_X0_isSignBehind : GoodIn wsX0_fault wsX0_isSignBehind := goodIn_r _ [9] (by decide +kernel) (by decide +kernel)
set_option maxRecDepth 20000 in
theorem gX0_fault_X0_isSignBehind : GoodIn wsX0_fault (va_wsS RX0 23 yX0_isSignBehind wsX0_isSignBehind) := goodIn_app (goodIn_of _ (by decide +kernel)) ggX0_fault_X0_isSignBehind
theorem dX0_fault_0 : decode cX0_fault 0 = .ok (.iconst 0, 1) := by decide +kernel
theorem dX0_fault_1 : decode cX0_fault 1 = .ok (.istore_n 1, 1) := by decide +kernel
theorem dX0_fault_2 : decode cX0_fault 2 = .ok (.iconst 0, 1) := by decide +kernel
theorem dX0_fault_3 : decode cX0_fault 3 = .ok (.istore_n 2, 1) := by decide +kernel
theorem dX0_fault_4 : decode cX0_fault 4 = .ok (.iconst 0, 1) := by decide +kernel
theorem dX0_fault_5 : decode cX0_fault 5 = .ok (.istore_n 3, 1) := by decide +kernel
theorem dX0_fault_6 : decode cX0_fault 6 = .ok (.iload_n 3, 1) := by decide +kernel
theorem dX0_fault_7 : decode cX0_fault 7 = .ok (.aload_n 0, 1) := by decide +kernel
theorem dX0_fault_8 : decode cX0_fault 8 = .ok (.getfield 15, 3) := by decide +kernel
theorem dX0_fault_11 : decode cX0_fault 11 = .ok (.if_icmp .ge 95, 3) := by decide +kernel
theorem dX0_fault_14 : decode cX0_fault 14 = .ok (.aload_n 0, 1) := by decide +kernel
theorem dX0_fault_15 : decode cX0_fault 15 = .ok (.getfield 9, 3) := by decide +kernel
theorem dX0_fault_18 : decode cX0_fault 18 = .ok (.iload_n 3, 1) := by decide +kernel
theorem dX0_fault_19 : decode cX0_fault 19 = .ok (.caload, 1) := by decide +kernel
theorem dX0_fault_20 : decode cX0_fault 20 = .ok (.istore 4, 2) := by decide +kernel
theorem dX0_fault_22 : decode cX0_fault 22 = .ok (.iload 4, 2) := by decide +kernel
theorem dX0_fault_24 : decode cX0_fault 24 = .ok (.invokestatic 19, 3) := by decide +kernel
theorem dX0_fault_27 : decode cX0_fault 27 = .ok (.ifCond .eq 40, 3) := by decide +kernel
theorem dX0_fault_30 : decode cX0_fault 30 = .ok (.iload_n 1, 1) := by decide +kernel
theorem dX0_fault_31 : decode cX0_fault 31 = .ok (.iconst 2, 1) := by decide +kernel
theorem dX0_fault_32 : decode cX0_fault 32 = .ok (.if_icmp .eq 35, 3) := by decide +kernel
theorem dX0_fault_35 : decode cX0_fault 35 = .ok (.iload_n 1, 1) := by decide +kernel
theorem dX0_fault_36 : decode cX0_fault 36 = .ok (.ifCond .ne 14, 3) := by decide +kernel
theorem dX0_fault_39 : decode cX0_fault 39 = .ok (.iload 4, 2) := by decide +kernel
theorem dX0_fault_41 : decode cX0_fault 41 = .ok (.bipush 48, 2) := by decide +kernel
theorem dX0_fault_43 : decode cX0_fault 43 = .ok (.if_icmp .eq 7, 3) := by decide +kernel
theorem dX0_fault_46 : decode cX0_fault 46 = .ok (.iconst 1, 1) := by decide +kernel
theorem dX0_fault_47 : decode cX0_fault 47 = .ok (.goto 4, 3) := by decide +kernel
theorem dX0_fault_50 : decode cX0_fault 50 = .ok (.iconst 0, 1) := by decide +kernel
theorem dX0_fault_51 : decode cX0_fault 51 = .ok (.istore 5, 2) := by decide +kernel
theorem dX0_fault_53 : decode cX0_fault 53 = .ok (.iload 5, 2) := by decide +kernel
theorem dX0_fault_55 : decode cX0_fault 55 = .ok (.ifCond .eq 7, 3) := by decide +kernel
theorem dX0_fault_58 : decode cX0_fault 58 = .ok (.iconst 1, 1) := by decide +kernel
theorem dX0_fault_59 : decode cX0_fault 59 = .ok (.goto 4, 3) := by decide +kernel
theorem dX0_fault_62 : decode cX0_fault 62 = .ok (.iconst 2, 1) := by decide +kernel
theorem dX0_fault_63 : decode cX0_fault 63 = .ok (.istore_n 1, 1) := by decide +kernel
theorem dX0_fault_64 : decode cX0_fault 64 = .ok (.goto 36, 3) := by decide +kernel
theorem dX0_fault_67 : decode cX0_fault 67 = .ok (.iload_n 1, 1) := by decide +kernel
theorem dX0_fault_68 : decode cX0_fault 68 = .ok (.ifCond .eq 30, 3) := by decide +kernel
theorem dX0_fault_71 : decode cX0_fault 71 = .ok (.iload 4, 2) := by decide +kernel
theorem dX0_fault_73 : decode cX0_fault 73 = .ok (.iload_n 2, 1) := by decide +kernel
theorem dX0_fault_74 : decode cX0_fault 74 = .ok (.invokestatic 23, 3) := by decide +kernel
theorem dX0_fault_77 : decode cX0_fault 77 = .ok (.ifCond .eq 21, 3) := by decide +kernel
theorem dX0_fault_80 : decode cX0_fault 80 = .ok (.iconst 0, 1) := by decide +kernel
theorem dX0_fault_81 : decode cX0_fault 81 = .ok (.istore_n 1, 1) := by decide +kernel
theorem dX0_fault_82 : decode cX0_fault 82 = .ok (.iload 4, 2) := by decide +kernel
theorem dX0_fault_84 : decode cX0_fault 84 = .ok (.bipush 59, 2) := by decide +kernel
theorem dX0_fault_86 : decode cX0_fault 86 = .ok (.if_icmp .eq 7, 3) := by decide +kernel
theorem dX0_fault_89 : decode cX0_fault 89 = .ok (.iconst 1, 1) := by decide +kernel
theorem dX0_fault_90 : decode cX0_fault 90 = .ok (.goto 4, 3) := by decide +kernel
theorem dX0_fault_93 : decode cX0_fault 93 = .ok (.iconst 0, 1) := by decide +kernel
theorem dX0_fault_94 : decode cX0_fault 94 = .ok (.istore_n 2, 1) := by decide +kernel
theorem dX0_fault_95 : decode cX0_fault 95 = .ok (.goto 5, 3) := by decide +kernel
theorem dX0_fault_98 : decode cX0_fault 98 = .ok (.iload_n 3, 1) := by decide +kernel
theorem dX0_fault_99 : decode cX0_fault 99 = .ok (.ireturn, 1) := by decide +kernel
theorem dX0_fault_100 : decode cX0_fault 100 = .ok (.iinc 3 1, 3) := by decide +kernel
theorem dX0_fault_103 : decode cX0_fault 103 = .ok (.goto (-97), 3) := by decide +kernel
theorem dX0_fault_106 : decode cX0_fault 106 = .ok (.iload_n 2, 1) := by decide +kernel
theorem dX0_fault_107 : decode cX0_fault 107 = .ok (.ifCond .eq 11, 3) := by decide +kernel
theorem dX0_fault_110 : decode cX0_fault 110 = .ok (.iload_n 1, 1) := by decide +kernel
theorem dX0_fault_111 : decode cX0_fault 111 = .ok (.ifCond .eq 7, 3) := by decide +kernel
theorem dX0_fault_114 : decode cX0_fault 114 = .ok (.iconst (-1), 1) := by decide +kernel
theorem dX0_fault_115 : decode cX0_fault 115 = .ok (.goto 7, 3) := by decide +kernel
theorem dX0_fault_118 : decode cX0_fault 118 = .ok (.aload_n 0, 1) := by decide +kernel
theorem dX0_fault_119 : decode cX0_fault 119 = .ok (.getfield 15, 3) := by decide +kernel
theorem dX0_fault_122 : decode cX0_fault 122 = .ok (.ireturn, 1) := by decide +kernel
set_option maxRecDepth 20000 in
theorem ggX0_drawInto_X0_isDigit : GoodIn wsX0_drawInto wsX0_isDigit := goodIn_r _ [7] (by decide +kernel) (by decide +kernel)
set_option maxRecDepth 20000 in
theorem gX0_drawInto_X0_isDigit : GoodIn wsX0_drawInto (va_wsS RX0 19 yX0_isDigit wsX0_isDigit) := goodIn_app (goodIn_of _ (by decide +kernel)) ggX0_drawInto_X0_isDigit
set_option maxRecDepth 20000 in
theorem ggX0_drawInto_X1_has : GoodIn wsX0_drawInto wsX1_has := goodIn_r _ [12, 13, 19, 20, 21, 22] (by decide +kernel) (by decide +kernel)
set_option maxRecDepth 20000 in
theorem gX0_drawInto_X1_has : GoodIn wsX0_drawInto (wsV RX0 27 RX1 yX1_has wsX1_has) := goodIn_app (goodIn_of _ (by decide +kernel)) ggX0_drawInto_X1_has
set_option maxRecDepth 20000 in
theorem ggX0_drawInto_X6_bit : GoodIn wsX0_drawInto wsX6_bit := goodIn_r _ [16] (by decide +kernel) (by decide +kernel)
set_option maxRecDepth 20000 in
theorem gX0_drawInto_X6_bit_n37 : GoodIn wsX0_drawInto (wsX6_bit) := ggX0_drawInto_X6_bit
theorem dX0_drawInto_0 : decode cX0_drawInto 0 = .ok (.iconst 0, 1) := by decide +kernel
theorem dX0_drawInto_1 : decode cX0_drawInto 1 = .ok (.istore_n 2, 1) := by decide +kernel
theorem dX0_drawInto_2 : decode cX0_drawInto 2 = .ok (.iconst 0, 1) := by decide +kernel
theorem dX0_drawInto_3 : decode cX0_drawInto 3 = .ok (.istore_n 3, 1) := by decide +kernel
theorem dX0_drawInto_4 : decode cX0_drawInto 4 = .ok (.iconst 0, 1) := by decide +kernel
theorem dX0_drawInto_5 : decode cX0_drawInto 5 = .ok (.istore 4, 2) := by decide +kernel
theorem dX0_drawInto_7 : decode cX0_drawInto 7 = .ok (.iload 4, 2) := by decide +kernel
theorem dX0_drawInto_9 : decode cX0_drawInto 9 = .ok (.aload_n 0, 1) := by decide +kernel
theorem dX0_drawInto_10 : decode cX0_drawInto 10 = .ok (.getfield 15, 3) := by decide +kernel
theorem dX0_drawInto_13 : decode cX0_drawInto 13 = .ok (.if_icmp .gt 91, 3) := by decide +kernel
theorem dX0_drawInto_16 : decode cX0_drawInto 16 = .ok (.iload 4, 2) := by decide +kernel
theorem dX0_drawInto_18 : decode cX0_drawInto 18 = .ok (.aload_n 0, 1) := by decide +kernel
theorem dX0_drawInto_19 : decode cX0_drawInto 19 = .ok (.getfield 15, 3) := by decide +kernel
theorem dX0_drawInto_22 : decode cX0_drawInto 22 = .ok (.if_icmp .ge 13, 3) := by decide +kernel
theorem dX0_drawInto_25 : decode cX0_drawInto 25 = .ok (.aload_n 0, 1) := by decide +kernel
theorem dX0_drawInto_26 : decode cX0_drawInto 26 = .ok (.getfield 9, 3) := by decide +kernel
theorem dX0_drawInto_29 : decode cX0_drawInto 29 = .ok (.iload 4, 2) := by decide +kernel
theorem dX0_drawInto_31 : decode cX0_drawInto 31 = .ok (.caload, 1) := by decide +kernel
theorem dX0_drawInto_32 : decode cX0_drawInto 32 = .ok (.goto 5, 3) := by decide +kernel
theorem dX0_drawInto_35 : decode cX0_drawInto 35 = .ok (.bipush 59, 2) := by decide +kernel
theorem dX0_drawInto_37 : decode cX0_drawInto 37 = .ok (.istore 5, 2) := by decide +kernel
theorem dX0_drawInto_39 : decode cX0_drawInto 39 = .ok (.iload 5, 2) := by decide +kernel
theorem dX0_drawInto_41 : decode cX0_drawInto 41 = .ok (.invokestatic 19, 3) := by decide +kernel
theorem dX0_drawInto_44 : decode cX0_drawInto 44 = .ok (.ifCond .eq 17, 3) := by decide +kernel
theorem dX0_drawInto_47 : decode cX0_drawInto 47 = .ok (.iload_n 3, 1) := by decide +kernel
theorem dX0_drawInto_48 : decode cX0_drawInto 48 = .ok (.bipush 10, 2) := by decide +kernel
theorem dX0_drawInto_50 : decode cX0_drawInto 50 = .ok (.imul, 1) := by decide +kernel
theorem dX0_drawInto_51 : decode cX0_drawInto 51 = .ok (.iload 5, 2) := by decide +kernel
theorem dX0_drawInto_53 : decode cX0_drawInto 53 = .ok (.bipush 48, 2) := by decide +kernel
theorem dX0_drawInto_55 : decode cX0_drawInto 55 = .ok (.isub, 1) := by decide +kernel
theorem dX0_drawInto_56 : decode cX0_drawInto 56 = .ok (.iadd, 1) := by decide +kernel
theorem dX0_drawInto_57 : decode cX0_drawInto 57 = .ok (.istore_n 3, 1) := by decide +kernel
theorem dX0_drawInto_58 : decode cX0_drawInto 58 = .ok (.goto 40, 3) := by decide +kernel
theorem dX0_drawInto_61 : decode cX0_drawInto 61 = .ok (.aload_n 1, 1) := by decide +kernel
theorem dX0_drawInto_62 : decode cX0_drawInto 62 = .ok (.iload_n 3, 1) := by decide +kernel
theorem dX0_drawInto_63 : decode cX0_drawInto 63 = .ok (.invokevirtual 27, 3) := by decide +kernel
theorem dX0_drawInto_66 : decode cX0_drawInto 66 = .ok (.ifCond .ne 5, 3) := by decide +kernel
theorem dX0_drawInto_69 : decode cX0_drawInto 69 = .ok (.iconst 0, 1) := by decide +kernel
theorem dX0_drawInto_70 : decode cX0_drawInto 70 = .ok (.ireturn, 1) := by decide +kernel
theorem dX0_drawInto_71 : decode cX0_drawInto 71 = .ok (.iload 5, 2) := by decide +kernel
theorem dX0_drawInto_73 : decode cX0_drawInto 73 = .ok (.bipush 62, 2) := by decide +kernel
theorem dX0_drawInto_75 : decode cX0_drawInto 75 = .ok (.if_icmp .ne 8, 3) := by decide +kernel
theorem dX0_drawInto_78 : decode cX0_drawInto 78 = .ok (.iload_n 3, 1) := by decide +kernel
theorem dX0_drawInto_79 : decode cX0_drawInto 79 = .ok (.istore_n 2, 1) := by decide +kernel
theorem dX0_drawInto_80 : decode cX0_drawInto 80 = .ok (.goto 16, 3) := by decide +kernel
theorem dX0_drawInto_83 : decode cX0_drawInto 83 = .ok (.aload_n 1, 1) := by decide +kernel
theorem dX0_drawInto_84 : decode cX0_drawInto 84 = .ok (.getfield 33, 3) := by decide +kernel
theorem dX0_drawInto_87 : decode cX0_drawInto 87 = .ok (.iload_n 2, 1) := by decide +kernel
theorem dX0_drawInto_88 : decode cX0_drawInto 88 = .ok (.dup2, 1) := by decide +kernel
theorem dX0_drawInto_89 : decode cX0_drawInto 89 = .ok (.iaload, 1) := by decide +kernel
theorem dX0_drawInto_90 : decode cX0_drawInto 90 = .ok (.iload_n 3, 1) := by decide +kernel
theorem dX0_drawInto_91 : decode cX0_drawInto 91 = .ok (.invokestatic 37, 3) := by decide +kernel
theorem dX0_drawInto_94 : decode cX0_drawInto 94 = .ok (.ior, 1) := by decide +kernel
theorem dX0_drawInto_95 : decode cX0_drawInto 95 = .ok (.iastore, 1) := by decide +kernel
theorem dX0_drawInto_96 : decode cX0_drawInto 96 = .ok (.iconst 0, 1) := by decide +kernel
theorem dX0_drawInto_97 : decode cX0_drawInto 97 = .ok (.istore_n 3, 1) := by decide +kernel
theorem dX0_drawInto_98 : decode cX0_drawInto 98 = .ok (.iinc 4 1, 3) := by decide +kernel
theorem dX0_drawInto_101 : decode cX0_drawInto 101 = .ok (.goto (-94), 3) := by decide +kernel
theorem dX0_drawInto_104 : decode cX0_drawInto 104 = .ok (.iconst 1, 1) := by decide +kernel
theorem dX0_drawInto_105 : decode cX0_drawInto 105 = .ok (.ireturn, 1) := by decide +kernel
theorem dX1_init_0 : decode cX1_init 0 = .ok (.aload_n 0, 1) := by decide +kernel
theorem dX1_init_1 : decode cX1_init 1 = .ok (.invokespecial 3, 3) := by decide +kernel
theorem dX1_init_4 : decode cX1_init 4 = .ok (.aload_n 0, 1) := by decide +kernel
theorem dX1_init_5 : decode cX1_init 5 = .ok (.bipush 14, 2) := by decide +kernel
theorem dX1_init_7 : decode cX1_init 7 = .ok (.newarray .int, 2) := by decide +kernel
theorem dX1_init_9 : decode cX1_init 9 = .ok (.putfield 9, 3) := by decide +kernel
theorem dX1_init_12 : decode cX1_init 12 = .ok (.aload_n 0, 1) := by decide +kernel
theorem dX1_init_13 : decode cX1_init 13 = .ok (.bipush 14, 2) := by decide +kernel
theorem dX1_init_15 : decode cX1_init 15 = .ok (.newarray .int, 2) := by decide +kernel
theorem dX1_init_17 : decode cX1_init 17 = .ok (.putfield 15, 3) := by decide +kernel
theorem dX1_init_20 : decode cX1_init 20 = .ok (.aload_n 0, 1) := by decide +kernel
theorem dX1_init_21 : decode cX1_init 21 = .ok (.bipush 14, 2) := by decide +kernel
theorem dX1_init_23 : decode cX1_init 23 = .ok (.newarray .int, 2) := by decide +kernel
theorem dX1_init_25 : decode cX1_init 25 = .ok (.putfield 18, 3) := by decide +kernel
theorem dX1_init_28 : decode cX1_init 28 = .ok (.return_, 1) := by decide +kernel
theorem dX1_become_0 : decode cX1_become 0 = .ok (.aload_n 0, 1) := by decide +kernel
theorem dX1_become_1 : decode cX1_become 1 = .ok (.aload_n 1, 1) := by decide +kernel
theorem dX1_become_2 : decode cX1_become 2 = .ok (.getfield 21, 3) := by decide +kernel
theorem dX1_become_5 : decode cX1_become 5 = .ok (.putfield 21, 3) := by decide +kernel
theorem dX1_become_8 : decode cX1_become 8 = .ok (.aload_n 1, 1) := by decide +kernel
theorem dX1_become_9 : decode cX1_become 9 = .ok (.getfield 9, 3) := by decide +kernel
theorem dX1_become_12 : decode cX1_become 12 = .ok (.iconst 0, 1) := by decide +kernel
theorem dX1_become_13 : decode cX1_become 13 = .ok (.aload_n 0, 1) := by decide +kernel
theorem dX1_become_14 : decode cX1_become 14 = .ok (.getfield 9, 3) := by decide +kernel
theorem dX1_become_17 : decode cX1_become 17 = .ok (.iconst 0, 1) := by decide +kernel
theorem dX1_become_18 : decode cX1_become 18 = .ok (.bipush 14, 2) := by decide +kernel
theorem dX1_become_20 : decode cX1_become 20 = .ok (.invokestatic 25, 3) := by decide +kernel
theorem dX1_become_23 : decode cX1_become 23 = .ok (.aload_n 1, 1) := by decide +kernel
theorem dX1_become_24 : decode cX1_become 24 = .ok (.getfield 15, 3) := by decide +kernel
theorem dX1_become_27 : decode cX1_become 27 = .ok (.iconst 0, 1) := by decide +kernel
theorem dX1_become_28 : decode cX1_become 28 = .ok (.aload_n 0, 1) := by decide +kernel
theorem dX1_become_29 : decode cX1_become 29 = .ok (.getfield 15, 3) := by decide +kernel
theorem dX1_become_32 : decode cX1_become 32 = .ok (.iconst 0, 1) := by decide +kernel
theorem dX1_become_33 : decode cX1_become 33 = .ok (.bipush 14, 2) := by decide +kernel
theorem dX1_become_35 : decode cX1_become 35 = .ok (.invokestatic 25, 3) := by decide +kernel
theorem dX1_become_38 : decode cX1_become 38 = .ok (.aload_n 1, 1) := by decide +kernel
theorem dX1_become_39 : decode cX1_become 39 = .ok (.getfield 18, 3) := by decide +kernel
theorem dX1_become_42 : decode cX1_become 42 = .ok (.iconst 0, 1) := by decide +kernel
theorem dX1_become_43 : decode cX1_become 43 = .ok (.aload_n 0, 1) := by decide +kernel
theorem dX1_become_44 : decode cX1_become 44 = .ok (.getfield 18, 3) := by decide +kernel
theorem dX1_become_47 : decode cX1_become 47 = .ok (.iconst 0, 1) := by decide +kernel
theorem dX1_become_48 : decode cX1_become 48 = .ok (.bipush 14, 2) := by decide +kernel
theorem dX1_become_50 : decode cX1_become 50 = .ok (.invokestatic 25, 3) := by decide +kernel
theorem dX1_become_53 : decode cX1_become 53 = .ok (.return_, 1) := by decide +kernel
theorem dX1_has_0 : decode cX1_has 0 = .ok (.iload_n 1, 1) := by decide +kernel
theorem dX1_has_1 : decode cX1_has 1 = .ok (.ifCond .lt 15, 3) := by decide +kernel
theorem dX1_has_4 : decode cX1_has 4 = .ok (.iload_n 1, 1) := by decide +kernel
theorem dX1_has_5 : decode cX1_has 5 = .ok (.aload_n 0, 1) := by decide +kernel
theorem dX1_has_6 : decode cX1_has 6 = .ok (.getfield 21, 3) := by decide +kernel
theorem dX1_has_9 : decode cX1_has 9 = .ok (.if_icmp .ge 7, 3) := by decide +kernel
theorem dX1_has_12 : decode cX1_has 12 = .ok (.iconst 1, 1) := by decide +kernel
theorem dX1_has_13 : decode cX1_has 13 = .ok (.goto 4, 3) := by decide +kernel
theorem dX1_has_16 : decode cX1_has 16 = .ok (.iconst 0, 1) := by decide +kernel
theorem dX1_has_17 : decode cX1_has 17 = .ok (.ireturn, 1) := by decide +kernel
set_option maxRecDepth 20000 in
theorem ggX1_all_X6_bit : GoodIn wsX1_all wsX6_bit := goodIn_r _ [4] (by decide +kernel) (by decide +kernel)
set_option maxRecDepth 20000 in
theorem gX1_all_X6_bit_n31 : GoodIn wsX1_all (wsX6_bit) := ggX1_all_X6_bit
theorem dX1_all_0 : decode cX1_all 0 = .ok (.aload_n 0, 1) := by decide +kernel
theorem dX1_all_1 : decode cX1_all 1 = .ok (.getfield 21, 3) := by decide +kernel
theorem dX1_all_4 : decode cX1_all 4 = .ok (.invokestatic 31, 3) := by decide +kernel
theorem dX1_all_7 : decode cX1_all 7 = .ok (.iconst 1, 1) := by decide +kernel
theorem dX1_all_8 : decode cX1_all 8 = .ok (.isub, 1) := by decide +kernel
theorem dX1_all_9 : decode cX1_all 9 = .ok (.ireturn, 1) := by decide +kernel
set_option maxRecDepth 20000 in
theorem ggX1_hasAll_X1_all : GoodIn wsX1_hasAll wsX1_all := goodIn_r _ [5, 6, 7, 8, 9, 10, 11, 12, 13] (by decide +kernel) (by decide +kernel)
set_option maxRecDepth 20000 in
theorem gX1_hasAll_X1_all : GoodIn wsX1_hasAll (wsV RX1 35 RX1 yX1_all wsX1_all) := goodIn_app (goodIn_of _ (by decide +kernel)) ggX1_hasAll_X1_all
theorem dX1_hasAll_0 : decode cX1_hasAll 0 = .ok (.iload_n 1, 1) := by decide +kernel
theorem dX1_hasAll_1 : decode cX1_hasAll 1 = .ok (.aload_n 0, 1) := by decide +kernel
theorem dX1_hasAll_2 : decode cX1_hasAll 2 = .ok (.invokevirtual 35, 3) := by decide +kernel
theorem dX1_hasAll_5 : decode cX1_hasAll 5 = .ok (.iconst (-1), 1) := by decide +kernel
theorem dX1_hasAll_6 : decode cX1_hasAll 6 = .ok (.ixor, 1) := by decide +kernel
theorem dX1_hasAll_7 : decode cX1_hasAll 7 = .ok (.iand, 1) := by decide +kernel
theorem dX1_hasAll_8 : decode cX1_hasAll 8 = .ok (.ifCond .ne 7, 3) := by decide +kernel
theorem dX1_hasAll_11 : decode cX1_hasAll 11 = .ok (.iconst 1, 1) := by decide +kernel
theorem dX1_hasAll_12 : decode cX1_hasAll 12 = .ok (.goto 4, 3) := by decide +kernel
theorem dX1_hasAll_15 : decode cX1_hasAll 15 = .ok (.iconst 0, 1) := by decide +kernel
theorem dX1_hasAll_16 : decode cX1_hasAll 16 = .ok (.ireturn, 1) := by decide +kernel
set_option maxRecDepth 20000 in
theorem ggX1_leads_X1_has : GoodIn wsX1_leads wsX1_has := goodIn_r _ [6, 7, 11, 12, 13, 14] (by decide +kernel) (by decide +kernel)
set_option maxRecDepth 20000 in
theorem gX1_leads_X1_has : GoodIn wsX1_leads (wsV RX1 39 RX1 yX1_has wsX1_has) := goodIn_app (goodIn_of _ (by decide +kernel)) ggX1_leads_X1_has
set_option maxRecDepth 20000 in
theorem ggX1_leads_X6_contains : GoodIn wsX1_leads wsX6_contains := goodIn_r _ [10] (by decide +kernel) (by decide +kernel)
set_option maxRecDepth 20000 in
theorem gX1_leads_X6_contains_n43 : GoodIn wsX1_leads (wsX6_contains) := ggX1_leads_X6_contains
theorem dX1_leads_0 : decode cX1_leads 0 = .ok (.aload_n 0, 1) := by decide +kernel
theorem dX1_leads_1 : decode cX1_leads 1 = .ok (.iload_n 1, 1) := by decide +kernel
theorem dX1_leads_2 : decode cX1_leads 2 = .ok (.invokevirtual 39, 3) := by decide +kernel
theorem dX1_leads_5 : decode cX1_leads 5 = .ok (.ifCond .eq 28, 3) := by decide +kernel
theorem dX1_leads_8 : decode cX1_leads 8 = .ok (.aload_n 0, 1) := by decide +kernel
theorem dX1_leads_9 : decode cX1_leads 9 = .ok (.iload_n 2, 1) := by decide +kernel
theorem dX1_leads_10 : decode cX1_leads 10 = .ok (.invokevirtual 39, 3) := by decide +kernel
theorem dX1_leads_13 : decode cX1_leads 13 = .ok (.ifCond .eq 20, 3) := by decide +kernel
theorem dX1_leads_16 : decode cX1_leads 16 = .ok (.aload_n 0, 1) := by decide +kernel
theorem dX1_leads_17 : decode cX1_leads 17 = .ok (.getfield 18, 3) := by decide +kernel
theorem dX1_leads_20 : decode cX1_leads 20 = .ok (.iload_n 1, 1) := by decide +kernel
theorem dX1_leads_21 : decode cX1_leads 21 = .ok (.iaload, 1) := by decide +kernel
theorem dX1_leads_22 : decode cX1_leads 22 = .ok (.iload_n 2, 1) := by decide +kernel
theorem dX1_leads_23 : decode cX1_leads 23 = .ok (.invokestatic 43, 3) := by decide +kernel
theorem dX1_leads_26 : decode cX1_leads 26 = .ok (.ifCond .eq 7, 3) := by decide +kernel
theorem dX1_leads_29 : decode cX1_leads 29 = .ok (.iconst 1, 1) := by decide +kernel
theorem dX1_leads_30 : decode cX1_leads 30 = .ok (.goto 4, 3) := by decide +kernel
theorem dX1_leads_33 : decode cX1_leads 33 = .ok (.iconst 0, 1) := by decide +kernel
theorem dX1_leads_34 : decode cX1_leads 34 = .ok (.ireturn, 1) := by decide +kernel
set_option maxRecDepth 20000 in
theorem ggX1_arrowCount_J6_bitCount_0f7a4 : GoodIn wsX1_arrowCount wsJ6_bitCount_0f7a4 := goodIn_r _ [6, 7, 8, 9] (by decide +kernel) (by decide +kernel)
set_option maxRecDepth 20000 in
theorem gX1_arrowCount_J6_bitCount_0f7a4 : GoodIn wsX1_arrowCount (va_wsS RX1 47 yJ6_bitCount_0f7a4 wsJ6_bitCount_0f7a4) := goodIn_app (goodIn_of _ (by decide +kernel)) ggX1_arrowCount_J6_bitCount_0f7a4
theorem dX1_arrowCount_0 : decode cX1_arrowCount 0 = .ok (.iconst 0, 1) := by decide +kernel
theorem dX1_arrowCount_1 : decode cX1_arrowCount 1 = .ok (.istore_n 1, 1) := by decide +kernel
theorem dX1_arrowCount_2 : decode cX1_arrowCount 2 = .ok (.iconst 0, 1) := by decide +kernel
theorem dX1_arrowCount_3 : decode cX1_arrowCount 3 = .ok (.istore_n 2, 1) := by decide +kernel
theorem dX1_arrowCount_4 : decode cX1_arrowCount 4 = .ok (.iload_n 2, 1) := by decide +kernel
theorem dX1_arrowCount_5 : decode cX1_arrowCount 5 = .ok (.aload_n 0, 1) := by decide +kernel
theorem dX1_arrowCount_6 : decode cX1_arrowCount 6 = .ok (.getfield 21, 3) := by decide +kernel
theorem dX1_arrowCount_9 : decode cX1_arrowCount 9 = .ok (.if_icmp .ge 21, 3) := by decide +kernel
theorem dX1_arrowCount_12 : decode cX1_arrowCount 12 = .ok (.iload_n 1, 1) := by decide +kernel
theorem dX1_arrowCount_13 : decode cX1_arrowCount 13 = .ok (.aload_n 0, 1) := by decide +kernel
theorem dX1_arrowCount_14 : decode cX1_arrowCount 14 = .ok (.getfield 18, 3) := by decide +kernel
theorem dX1_arrowCount_17 : decode cX1_arrowCount 17 = .ok (.iload_n 2, 1) := by decide +kernel
theorem dX1_arrowCount_18 : decode cX1_arrowCount 18 = .ok (.iaload, 1) := by decide +kernel
theorem dX1_arrowCount_19 : decode cX1_arrowCount 19 = .ok (.invokestatic 47, 3) := by decide +kernel
theorem dX1_arrowCount_22 : decode cX1_arrowCount 22 = .ok (.iadd, 1) := by decide +kernel
theorem dX1_arrowCount_23 : decode cX1_arrowCount 23 = .ok (.istore_n 1, 1) := by decide +kernel
theorem dX1_arrowCount_24 : decode cX1_arrowCount 24 = .ok (.iinc 2 1, 3) := by decide +kernel
theorem dX1_arrowCount_27 : decode cX1_arrowCount 27 = .ok (.goto (-23), 3) := by decide +kernel
theorem dX1_arrowCount_30 : decode cX1_arrowCount 30 = .ok (.iload_n 1, 1) := by decide +kernel
theorem dX1_arrowCount_31 : decode cX1_arrowCount 31 = .ok (.ireturn, 1) := by decide +kernel
set_option maxRecDepth 20000 in
theorem ggX1_lowestArrow_X1_leads : GoodIn wsX1_lowestArrow wsX1_leads := goodIn_r _ [6, 7, 8, 9, 10, 5, 11, 1, 12, 13, 14, 15, 16, 17, 18] (by decide +kernel) (by decide +kernel)
set_option maxRecDepth 20000 in
theorem gX1_lowestArrow_X1_leads : GoodIn wsX1_lowestArrow (wsV RX1 52 RX1 yX1_leads wsX1_leads) := goodIn_app (goodIn_of _ (by decide +kernel)) ggX1_lowestArrow_X1_leads
theorem dX1_lowestArrow_0 : decode cX1_lowestArrow 0 = .ok (.iconst 0, 1) := by decide +kernel
theorem dX1_lowestArrow_1 : decode cX1_lowestArrow 1 = .ok (.istore_n 2, 1) := by decide +kernel
theorem dX1_lowestArrow_2 : decode cX1_lowestArrow 2 = .ok (.iload_n 2, 1) := by decide +kernel
theorem dX1_lowestArrow_3 : decode cX1_lowestArrow 3 = .ok (.aload_n 0, 1) := by decide +kernel
theorem dX1_lowestArrow_4 : decode cX1_lowestArrow 4 = .ok (.getfield 21, 3) := by decide +kernel
theorem dX1_lowestArrow_7 : decode cX1_lowestArrow 7 = .ok (.if_icmp .ge 20, 3) := by decide +kernel
theorem dX1_lowestArrow_10 : decode cX1_lowestArrow 10 = .ok (.aload_n 0, 1) := by decide +kernel
theorem dX1_lowestArrow_11 : decode cX1_lowestArrow 11 = .ok (.iload_n 1, 1) := by decide +kernel
theorem dX1_lowestArrow_12 : decode cX1_lowestArrow 12 = .ok (.iload_n 2, 1) := by decide +kernel
theorem dX1_lowestArrow_13 : decode cX1_lowestArrow 13 = .ok (.invokevirtual 52, 3) := by decide +kernel
theorem dX1_lowestArrow_16 : decode cX1_lowestArrow 16 = .ok (.ifCond .eq 5, 3) := by decide +kernel
theorem dX1_lowestArrow_19 : decode cX1_lowestArrow 19 = .ok (.iload_n 2, 1) := by decide +kernel
theorem dX1_lowestArrow_20 : decode cX1_lowestArrow 20 = .ok (.ireturn, 1) := by decide +kernel
theorem dX1_lowestArrow_21 : decode cX1_lowestArrow 21 = .ok (.iinc 2 1, 3) := by decide +kernel
theorem dX1_lowestArrow_24 : decode cX1_lowestArrow 24 = .ok (.goto (-22), 3) := by decide +kernel
theorem dX1_lowestArrow_27 : decode cX1_lowestArrow 27 = .ok (.bipush 14, 2) := by decide +kernel
theorem dX1_lowestArrow_29 : decode cX1_lowestArrow 29 = .ok (.ireturn, 1) := by decide +kernel
set_option maxRecDepth 20000 in
theorem ggX1_owned_X6_bit : GoodIn wsX1_owned wsX6_bit := goodIn_r _ [5] (by decide +kernel) (by decide +kernel)
set_option maxRecDepth 20000 in
theorem gX1_owned_X6_bit_n31 : GoodIn wsX1_owned (wsX6_bit) := ggX1_owned_X6_bit
theorem dX1_owned_0 : decode cX1_owned 0 = .ok (.iconst 0, 1) := by decide +kernel
theorem dX1_owned_1 : decode cX1_owned 1 = .ok (.istore_n 2, 1) := by decide +kernel
theorem dX1_owned_2 : decode cX1_owned 2 = .ok (.iconst 0, 1) := by decide +kernel
theorem dX1_owned_3 : decode cX1_owned 3 = .ok (.istore_n 3, 1) := by decide +kernel
theorem dX1_owned_4 : decode cX1_owned 4 = .ok (.iload_n 3, 1) := by decide +kernel
theorem dX1_owned_5 : decode cX1_owned 5 = .ok (.aload_n 0, 1) := by decide +kernel
theorem dX1_owned_6 : decode cX1_owned 6 = .ok (.getfield 21, 3) := by decide +kernel
theorem dX1_owned_9 : decode cX1_owned 9 = .ok (.if_icmp .ge 26, 3) := by decide +kernel
theorem dX1_owned_12 : decode cX1_owned 12 = .ok (.aload_n 0, 1) := by decide +kernel
theorem dX1_owned_13 : decode cX1_owned 13 = .ok (.getfield 9, 3) := by decide +kernel
theorem dX1_owned_16 : decode cX1_owned 16 = .ok (.iload_n 3, 1) := by decide +kernel
theorem dX1_owned_17 : decode cX1_owned 17 = .ok (.iaload, 1) := by decide +kernel
theorem dX1_owned_18 : decode cX1_owned 18 = .ok (.iload_n 1, 1) := by decide +kernel
theorem dX1_owned_19 : decode cX1_owned 19 = .ok (.if_icmp .ne 10, 3) := by decide +kernel
theorem dX1_owned_22 : decode cX1_owned 22 = .ok (.iload_n 2, 1) := by decide +kernel
theorem dX1_owned_23 : decode cX1_owned 23 = .ok (.iload_n 3, 1) := by decide +kernel
theorem dX1_owned_24 : decode cX1_owned 24 = .ok (.invokestatic 31, 3) := by decide +kernel
theorem dX1_owned_27 : decode cX1_owned 27 = .ok (.ior, 1) := by decide +kernel
theorem dX1_owned_28 : decode cX1_owned 28 = .ok (.istore_n 2, 1) := by decide +kernel
theorem dX1_owned_29 : decode cX1_owned 29 = .ok (.iinc 3 1, 3) := by decide +kernel
theorem dX1_owned_32 : decode cX1_owned 32 = .ok (.goto (-28), 3) := by decide +kernel
theorem dX1_owned_35 : decode cX1_owned 35 = .ok (.iload_n 2, 1) := by decide +kernel
theorem dX1_owned_36 : decode cX1_owned 36 = .ok (.ireturn, 1) := by decide +kernel
set_option maxRecDepth 20000 in
theorem ggX1_withoutArrows_X6_bit : GoodIn wsX1_withoutArrows wsX6_bit := goodIn_r _ [5] (by decide +kernel) (by decide +kernel)
set_option maxRecDepth 20000 in
theorem gX1_withoutArrows_X6_bit_n31 : GoodIn wsX1_withoutArrows (wsX6_bit) := ggX1_withoutArrows_X6_bit
theorem dX1_withoutArrows_0 : decode cX1_withoutArrows 0 = .ok (.iconst 0, 1) := by decide +kernel
theorem dX1_withoutArrows_1 : decode cX1_withoutArrows 1 = .ok (.istore_n 1, 1) := by decide +kernel
theorem dX1_withoutArrows_2 : decode cX1_withoutArrows 2 = .ok (.iconst 0, 1) := by decide +kernel
theorem dX1_withoutArrows_3 : decode cX1_withoutArrows 3 = .ok (.istore_n 2, 1) := by decide +kernel
theorem dX1_withoutArrows_4 : decode cX1_withoutArrows 4 = .ok (.iload_n 2, 1) := by decide +kernel
theorem dX1_withoutArrows_5 : decode cX1_withoutArrows 5 = .ok (.aload_n 0, 1) := by decide +kernel
theorem dX1_withoutArrows_6 : decode cX1_withoutArrows 6 = .ok (.getfield 21, 3) := by decide +kernel
theorem dX1_withoutArrows_9 : decode cX1_withoutArrows 9 = .ok (.if_icmp .ge 25, 3) := by decide +kernel
theorem dX1_withoutArrows_12 : decode cX1_withoutArrows 12 = .ok (.aload_n 0, 1) := by decide +kernel
theorem dX1_withoutArrows_13 : decode cX1_withoutArrows 13 = .ok (.getfield 18, 3) := by decide +kernel
theorem dX1_withoutArrows_16 : decode cX1_withoutArrows 16 = .ok (.iload_n 2, 1) := by decide +kernel
theorem dX1_withoutArrows_17 : decode cX1_withoutArrows 17 = .ok (.iaload, 1) := by decide +kernel
theorem dX1_withoutArrows_18 : decode cX1_withoutArrows 18 = .ok (.ifCond .ne 10, 3) := by decide +kernel
theorem dX1_withoutArrows_21 : decode cX1_withoutArrows 21 = .ok (.iload_n 1, 1) := by decide +kernel
theorem dX1_withoutArrows_22 : decode cX1_withoutArrows 22 = .ok (.iload_n 2, 1) := by decide +kernel
theorem dX1_withoutArrows_23 : decode cX1_withoutArrows 23 = .ok (.invokestatic 31, 3) := by decide +kernel
theorem dX1_withoutArrows_26 : decode cX1_withoutArrows 26 = .ok (.ior, 1) := by decide +kernel
theorem dX1_withoutArrows_27 : decode cX1_withoutArrows 27 = .ok (.istore_n 1, 1) := by decide +kernel
theorem dX1_withoutArrows_28 : decode cX1_withoutArrows 28 = .ok (.iinc 2 1, 3) := by decide +kernel
theorem dX1_withoutArrows_31 : decode cX1_withoutArrows 31 = .ok (.goto (-27), 3) := by decide +kernel
theorem dX1_withoutArrows_34 : decode cX1_withoutArrows 34 = .ok (.iload_n 1, 1) := by decide +kernel
theorem dX1_withoutArrows_35 : decode cX1_withoutArrows 35 = .ok (.ireturn, 1) := by decide +kernel
theorem dX1_hasColour_0 : decode cX1_hasColour 0 = .ok (.iconst 0, 1) := by decide +kernel
theorem dX1_hasColour_1 : decode cX1_hasColour 1 = .ok (.istore_n 2, 1) := by decide +kernel
theorem dX1_hasColour_2 : decode cX1_hasColour 2 = .ok (.iconst 0, 1) := by decide +kernel
theorem dX1_hasColour_3 : decode cX1_hasColour 3 = .ok (.istore_n 3, 1) := by decide +kernel
theorem dX1_hasColour_4 : decode cX1_hasColour 4 = .ok (.iload_n 3, 1) := by decide +kernel
theorem dX1_hasColour_5 : decode cX1_hasColour 5 = .ok (.aload_n 0, 1) := by decide +kernel
theorem dX1_hasColour_6 : decode cX1_hasColour 6 = .ok (.getfield 21, 3) := by decide +kernel
theorem dX1_hasColour_9 : decode cX1_hasColour 9 = .ok (.if_icmp .ge 27, 3) := by decide +kernel
theorem dX1_hasColour_12 : decode cX1_hasColour 12 = .ok (.iload_n 2, 1) := by decide +kernel
theorem dX1_hasColour_13 : decode cX1_hasColour 13 = .ok (.aload_n 0, 1) := by decide +kernel
theorem dX1_hasColour_14 : decode cX1_hasColour 14 = .ok (.getfield 15, 3) := by decide +kernel
theorem dX1_hasColour_17 : decode cX1_hasColour 17 = .ok (.iload_n 3, 1) := by decide +kernel
theorem dX1_hasColour_18 : decode cX1_hasColour 18 = .ok (.iaload, 1) := by decide +kernel
theorem dX1_hasColour_19 : decode cX1_hasColour 19 = .ok (.iload_n 1, 1) := by decide +kernel
theorem dX1_hasColour_20 : decode cX1_hasColour 20 = .ok (.if_icmp .ne 7, 3) := by decide +kernel
theorem dX1_hasColour_23 : decode cX1_hasColour 23 = .ok (.iconst 1, 1) := by decide +kernel
theorem dX1_hasColour_24 : decode cX1_hasColour 24 = .ok (.goto 4, 3) := by decide +kernel
theorem dX1_hasColour_27 : decode cX1_hasColour 27 = .ok (.iconst 0, 1) := by decide +kernel
theorem dX1_hasColour_28 : decode cX1_hasColour 28 = .ok (.ior, 1) := by decide +kernel
theorem dX1_hasColour_29 : decode cX1_hasColour 29 = .ok (.istore_n 2, 1) := by decide +kernel
theorem dX1_hasColour_30 : decode cX1_hasColour 30 = .ok (.iinc 3 1, 3) := by decide +kernel
theorem dX1_hasColour_33 : decode cX1_hasColour 33 = .ok (.goto (-29), 3) := by decide +kernel
theorem dX1_hasColour_36 : decode cX1_hasColour 36 = .ok (.iload_n 2, 1) := by decide +kernel
theorem dX1_hasColour_37 : decode cX1_hasColour 37 = .ok (.ireturn, 1) := by decide +kernel
theorem dX1_leastColour_0 : decode cX1_leastColour 0 = .ok (.bipush (-5), 2) := by decide +kernel
theorem dX1_leastColour_2 : decode cX1_leastColour 2 = .ok (.istore_n 1, 1) := by decide +kernel
theorem dX1_leastColour_3 : decode cX1_leastColour 3 = .ok (.iconst 0, 1) := by decide +kernel
theorem dX1_leastColour_4 : decode cX1_leastColour 4 = .ok (.istore_n 2, 1) := by decide +kernel
theorem dX1_leastColour_5 : decode cX1_leastColour 5 = .ok (.iload_n 2, 1) := by decide +kernel
theorem dX1_leastColour_6 : decode cX1_leastColour 6 = .ok (.aload_n 0, 1) := by decide +kernel
theorem dX1_leastColour_7 : decode cX1_leastColour 7 = .ok (.getfield 21, 3) := by decide +kernel
theorem dX1_leastColour_10 : decode cX1_leastColour 10 = .ok (.if_icmp .ge 32, 3) := by decide +kernel
theorem dX1_leastColour_13 : decode cX1_leastColour 13 = .ok (.iload_n 1, 1) := by decide +kernel
theorem dX1_leastColour_14 : decode cX1_leastColour 14 = .ok (.bipush (-5), 2) := by decide +kernel
theorem dX1_leastColour_16 : decode cX1_leastColour 16 = .ok (.if_icmp .eq 13, 3) := by decide +kernel
theorem dX1_leastColour_19 : decode cX1_leastColour 19 = .ok (.aload_n 0, 1) := by decide +kernel
theorem dX1_leastColour_20 : decode cX1_leastColour 20 = .ok (.getfield 15, 3) := by decide +kernel
theorem dX1_leastColour_23 : decode cX1_leastColour 23 = .ok (.iload_n 2, 1) := by decide +kernel
theorem dX1_leastColour_24 : decode cX1_leastColour 24 = .ok (.iaload, 1) := by decide +kernel
theorem dX1_leastColour_25 : decode cX1_leastColour 25 = .ok (.iload_n 1, 1) := by decide +kernel
theorem dX1_leastColour_26 : decode cX1_leastColour 26 = .ok (.if_icmp .ge 10, 3) := by decide +kernel
theorem dX1_leastColour_29 : decode cX1_leastColour 29 = .ok (.aload_n 0, 1) := by decide +kernel
theorem dX1_leastColour_30 : decode cX1_leastColour 30 = .ok (.getfield 15, 3) := by decide +kernel
theorem dX1_leastColour_33 : decode cX1_leastColour 33 = .ok (.iload_n 2, 1) := by decide +kernel
theorem dX1_leastColour_34 : decode cX1_leastColour 34 = .ok (.iaload, 1) := by decide +kernel
theorem dX1_leastColour_35 : decode cX1_leastColour 35 = .ok (.istore_n 1, 1) := by decide +kernel
theorem dX1_leastColour_36 : decode cX1_leastColour 36 = .ok (.iinc 2 1, 3) := by decide +kernel
theorem dX1_leastColour_39 : decode cX1_leastColour 39 = .ok (.goto (-34), 3) := by decide +kernel
theorem dX1_leastColour_42 : decode cX1_leastColour 42 = .ok (.iload_n 1, 1) := by decide +kernel
theorem dX1_leastColour_43 : decode cX1_leastColour 43 = .ok (.ireturn, 1) := by decide +kernel
theorem dX1_exchange_0 : decode cX1_exchange 0 = .ok (.iconst 0, 1) := by decide +kernel
theorem dX1_exchange_1 : decode cX1_exchange 1 = .ok (.istore_n 1, 1) := by decide +kernel
theorem dX1_exchange_2 : decode cX1_exchange 2 = .ok (.iload_n 1, 1) := by decide +kernel
theorem dX1_exchange_3 : decode cX1_exchange 3 = .ok (.aload_n 0, 1) := by decide +kernel
theorem dX1_exchange_4 : decode cX1_exchange 4 = .ok (.getfield 21, 3) := by decide +kernel
theorem dX1_exchange_7 : decode cX1_exchange 7 = .ok (.if_icmp .ge 33, 3) := by decide +kernel
theorem dX1_exchange_10 : decode cX1_exchange 10 = .ok (.aload_n 0, 1) := by decide +kernel
theorem dX1_exchange_11 : decode cX1_exchange 11 = .ok (.getfield 9, 3) := by decide +kernel
theorem dX1_exchange_14 : decode cX1_exchange 14 = .ok (.iload_n 1, 1) := by decide +kernel
theorem dX1_exchange_15 : decode cX1_exchange 15 = .ok (.iconst 1, 1) := by decide +kernel
theorem dX1_exchange_16 : decode cX1_exchange 16 = .ok (.aload_n 0, 1) := by decide +kernel
theorem dX1_exchange_17 : decode cX1_exchange 17 = .ok (.getfield 9, 3) := by decide +kernel
theorem dX1_exchange_20 : decode cX1_exchange 20 = .ok (.iload_n 1, 1) := by decide +kernel
theorem dX1_exchange_21 : decode cX1_exchange 21 = .ok (.iaload, 1) := by decide +kernel
theorem dX1_exchange_22 : decode cX1_exchange 22 = .ok (.isub, 1) := by decide +kernel
theorem dX1_exchange_23 : decode cX1_exchange 23 = .ok (.iastore, 1) := by decide +kernel
theorem dX1_exchange_24 : decode cX1_exchange 24 = .ok (.aload_n 0, 1) := by decide +kernel
theorem dX1_exchange_25 : decode cX1_exchange 25 = .ok (.getfield 15, 3) := by decide +kernel
theorem dX1_exchange_28 : decode cX1_exchange 28 = .ok (.iload_n 1, 1) := by decide +kernel
theorem dX1_exchange_29 : decode cX1_exchange 29 = .ok (.dup2, 1) := by decide +kernel
theorem dX1_exchange_30 : decode cX1_exchange 30 = .ok (.iaload, 1) := by decide +kernel
theorem dX1_exchange_31 : decode cX1_exchange 31 = .ok (.iconst 1, 1) := by decide +kernel
theorem dX1_exchange_32 : decode cX1_exchange 32 = .ok (.iadd, 1) := by decide +kernel
theorem dX1_exchange_33 : decode cX1_exchange 33 = .ok (.iastore, 1) := by decide +kernel
theorem dX1_exchange_34 : decode cX1_exchange 34 = .ok (.iinc 1 1, 3) := by decide +kernel
theorem dX1_exchange_37 : decode cX1_exchange 37 = .ok (.goto (-35), 3) := by decide +kernel
theorem dX1_exchange_40 : decode cX1_exchange 40 = .ok (.return_, 1) := by decide +kernel
set_option maxRecDepth 20000 in
theorem ggX1_sources_X6_bit : GoodIn wsX1_sources wsX6_bit := goodIn_r _ [5] (by decide +kernel) (by decide +kernel)
set_option maxRecDepth 20000 in
theorem gX1_sources_X6_bit_n31 : GoodIn wsX1_sources (wsX6_bit) := ggX1_sources_X6_bit
theorem dX1_sources_0 : decode cX1_sources 0 = .ok (.iconst 0, 1) := by decide +kernel
theorem dX1_sources_1 : decode cX1_sources 1 = .ok (.istore_n 2, 1) := by decide +kernel
theorem dX1_sources_2 : decode cX1_sources 2 = .ok (.iconst 0, 1) := by decide +kernel
theorem dX1_sources_3 : decode cX1_sources 3 = .ok (.istore_n 3, 1) := by decide +kernel
theorem dX1_sources_4 : decode cX1_sources 4 = .ok (.iload_n 3, 1) := by decide +kernel
theorem dX1_sources_5 : decode cX1_sources 5 = .ok (.aload_n 0, 1) := by decide +kernel
theorem dX1_sources_6 : decode cX1_sources 6 = .ok (.getfield 21, 3) := by decide +kernel
theorem dX1_sources_9 : decode cX1_sources 9 = .ok (.if_icmp .ge 27, 3) := by decide +kernel
theorem dX1_sources_12 : decode cX1_sources 12 = .ok (.aload_n 0, 1) := by decide +kernel
theorem dX1_sources_13 : decode cX1_sources 13 = .ok (.getfield 18, 3) := by decide +kernel
theorem dX1_sources_16 : decode cX1_sources 16 = .ok (.iload_n 3, 1) := by decide +kernel
theorem dX1_sources_17 : decode cX1_sources 17 = .ok (.iaload, 1) := by decide +kernel
theorem dX1_sources_18 : decode cX1_sources 18 = .ok (.iload_n 1, 1) := by decide +kernel
theorem dX1_sources_19 : decode cX1_sources 19 = .ok (.iand, 1) := by decide +kernel
theorem dX1_sources_20 : decode cX1_sources 20 = .ok (.ifCond .eq 10, 3) := by decide +kernel
theorem dX1_sources_23 : decode cX1_sources 23 = .ok (.iload_n 2, 1) := by decide +kernel
theorem dX1_sources_24 : decode cX1_sources 24 = .ok (.iload_n 3, 1) := by decide +kernel
theorem dX1_sources_25 : decode cX1_sources 25 = .ok (.invokestatic 31, 3) := by decide +kernel
theorem dX1_sources_28 : decode cX1_sources 28 = .ok (.ior, 1) := by decide +kernel
theorem dX1_sources_29 : decode cX1_sources 29 = .ok (.istore_n 2, 1) := by decide +kernel
theorem dX1_sources_30 : decode cX1_sources 30 = .ok (.iinc 3 1, 3) := by decide +kernel
theorem dX1_sources_33 : decode cX1_sources 33 = .ok (.goto (-29), 3) := by decide +kernel
theorem dX1_sources_36 : decode cX1_sources 36 = .ok (.iload_n 2, 1) := by decide +kernel
theorem dX1_sources_37 : decode cX1_sources 37 = .ok (.ireturn, 1) := by decide +kernel
set_option maxRecDepth 20000 in
theorem ggX1_targets_X6_contains : GoodIn wsX1_targets wsX6_contains := goodIn_r _ [5] (by decide +kernel) (by decide +kernel)
set_option maxRecDepth 20000 in
theorem gX1_targets_X6_contains_n43 : GoodIn wsX1_targets (wsX6_contains) := ggX1_targets_X6_contains
theorem dX1_targets_0 : decode cX1_targets 0 = .ok (.iconst 0, 1) := by decide +kernel
theorem dX1_targets_1 : decode cX1_targets 1 = .ok (.istore_n 2, 1) := by decide +kernel
theorem dX1_targets_2 : decode cX1_targets 2 = .ok (.iconst 0, 1) := by decide +kernel
theorem dX1_targets_3 : decode cX1_targets 3 = .ok (.istore_n 3, 1) := by decide +kernel
theorem dX1_targets_4 : decode cX1_targets 4 = .ok (.iload_n 3, 1) := by decide +kernel
theorem dX1_targets_5 : decode cX1_targets 5 = .ok (.aload_n 0, 1) := by decide +kernel
theorem dX1_targets_6 : decode cX1_targets 6 = .ok (.getfield 21, 3) := by decide +kernel
theorem dX1_targets_9 : decode cX1_targets 9 = .ok (.if_icmp .ge 26, 3) := by decide +kernel
theorem dX1_targets_12 : decode cX1_targets 12 = .ok (.iload_n 1, 1) := by decide +kernel
theorem dX1_targets_13 : decode cX1_targets 13 = .ok (.iload_n 3, 1) := by decide +kernel
theorem dX1_targets_14 : decode cX1_targets 14 = .ok (.invokestatic 43, 3) := by decide +kernel
theorem dX1_targets_17 : decode cX1_targets 17 = .ok (.ifCond .eq 12, 3) := by decide +kernel
theorem dX1_targets_20 : decode cX1_targets 20 = .ok (.iload_n 2, 1) := by decide +kernel
theorem dX1_targets_21 : decode cX1_targets 21 = .ok (.aload_n 0, 1) := by decide +kernel
theorem dX1_targets_22 : decode cX1_targets 22 = .ok (.getfield 18, 3) := by decide +kernel
theorem dX1_targets_25 : decode cX1_targets 25 = .ok (.iload_n 3, 1) := by decide +kernel
theorem dX1_targets_26 : decode cX1_targets 26 = .ok (.iaload, 1) := by decide +kernel
theorem dX1_targets_27 : decode cX1_targets 27 = .ok (.ior, 1) := by decide +kernel
theorem dX1_targets_28 : decode cX1_targets 28 = .ok (.istore_n 2, 1) := by decide +kernel
theorem dX1_targets_29 : decode cX1_targets 29 = .ok (.iinc 3 1, 3) := by decide +kernel
theorem dX1_targets_32 : decode cX1_targets 32 = .ok (.goto (-28), 3) := by decide +kernel
theorem dX1_targets_35 : decode cX1_targets 35 = .ok (.iload_n 2, 1) := by decide +kernel
theorem dX1_targets_36 : decode cX1_targets 36 = .ok (.ireturn, 1) := by decide +kernel
set_option maxRecDepth 20000 in
theorem ggX1_forcedNext_X6_bit : GoodIn wsX1_forcedNext wsX6_bit := goodIn_r _ [6] (by decide +kernel) (by decide +kernel)
set_option maxRecDepth 20000 in
theorem gX1_forcedNext_X6_bit_n31 : GoodIn wsX1_forcedNext (wsX6_bit) := ggX1_forcedNext_X6_bit
theorem dX1_forcedNext_0 : decode cX1_forcedNext 0 = .ok (.iload_n 2, 1) := by decide +kernel
theorem dX1_forcedNext_1 : decode cX1_forcedNext 1 = .ok (.istore_n 3, 1) := by decide +kernel
theorem dX1_forcedNext_2 : decode cX1_forcedNext 2 = .ok (.iconst 0, 1) := by decide +kernel
theorem dX1_forcedNext_3 : decode cX1_forcedNext 3 = .ok (.istore 4, 2) := by decide +kernel
theorem dX1_forcedNext_5 : decode cX1_forcedNext 5 = .ok (.iload 4, 2) := by decide +kernel
theorem dX1_forcedNext_7 : decode cX1_forcedNext 7 = .ok (.aload_n 0, 1) := by decide +kernel
theorem dX1_forcedNext_8 : decode cX1_forcedNext 8 = .ok (.getfield 21, 3) := by decide +kernel
theorem dX1_forcedNext_11 : decode cX1_forcedNext 11 = .ok (.if_icmp .ge 78, 3) := by decide +kernel
theorem dX1_forcedNext_14 : decode cX1_forcedNext 14 = .ok (.aload_n 0, 1) := by decide +kernel
theorem dX1_forcedNext_15 : decode cX1_forcedNext 15 = .ok (.getfield 18, 3) := by decide +kernel
theorem dX1_forcedNext_18 : decode cX1_forcedNext 18 = .ok (.iload 4, 2) := by decide +kernel
theorem dX1_forcedNext_20 : decode cX1_forcedNext 20 = .ok (.iaload, 1) := by decide +kernel
theorem dX1_forcedNext_21 : decode cX1_forcedNext 21 = .ok (.iload_n 2, 1) := by decide +kernel
theorem dX1_forcedNext_22 : decode cX1_forcedNext 22 = .ok (.iand, 1) := by decide +kernel
theorem dX1_forcedNext_23 : decode cX1_forcedNext 23 = .ok (.ifCond .eq 7, 3) := by decide +kernel
theorem dX1_forcedNext_26 : decode cX1_forcedNext 26 = .ok (.iconst 1, 1) := by decide +kernel
theorem dX1_forcedNext_27 : decode cX1_forcedNext 27 = .ok (.goto 4, 3) := by decide +kernel
theorem dX1_forcedNext_30 : decode cX1_forcedNext 30 = .ok (.iconst 0, 1) := by decide +kernel
theorem dX1_forcedNext_31 : decode cX1_forcedNext 31 = .ok (.istore 5, 2) := by decide +kernel
theorem dX1_forcedNext_33 : decode cX1_forcedNext 33 = .ok (.aload_n 0, 1) := by decide +kernel
theorem dX1_forcedNext_34 : decode cX1_forcedNext 34 = .ok (.getfield 18, 3) := by decide +kernel
theorem dX1_forcedNext_37 : decode cX1_forcedNext 37 = .ok (.iload 4, 2) := by decide +kernel
theorem dX1_forcedNext_39 : decode cX1_forcedNext 39 = .ok (.iaload, 1) := by decide +kernel
theorem dX1_forcedNext_40 : decode cX1_forcedNext 40 = .ok (.iload_n 2, 1) := by decide +kernel
theorem dX1_forcedNext_41 : decode cX1_forcedNext 41 = .ok (.iconst (-1), 1) := by decide +kernel
theorem dX1_forcedNext_42 : decode cX1_forcedNext 42 = .ok (.ixor, 1) := by decide +kernel
theorem dX1_forcedNext_43 : decode cX1_forcedNext 43 = .ok (.iand, 1) := by decide +kernel
theorem dX1_forcedNext_44 : decode cX1_forcedNext 44 = .ok (.ifCond .ne 7, 3) := by decide +kernel
theorem dX1_forcedNext_47 : decode cX1_forcedNext 47 = .ok (.iconst 1, 1) := by decide +kernel
theorem dX1_forcedNext_48 : decode cX1_forcedNext 48 = .ok (.goto 4, 3) := by decide +kernel
theorem dX1_forcedNext_51 : decode cX1_forcedNext 51 = .ok (.iconst 0, 1) := by decide +kernel
theorem dX1_forcedNext_52 : decode cX1_forcedNext 52 = .ok (.istore 6, 2) := by decide +kernel
theorem dX1_forcedNext_54 : decode cX1_forcedNext 54 = .ok (.iload 5, 2) := by decide +kernel
theorem dX1_forcedNext_56 : decode cX1_forcedNext 56 = .ok (.ifCond .eq 27, 3) := by decide +kernel
theorem dX1_forcedNext_59 : decode cX1_forcedNext 59 = .ok (.aload_n 0, 1) := by decide +kernel
theorem dX1_forcedNext_60 : decode cX1_forcedNext 60 = .ok (.getfield 9, 3) := by decide +kernel
theorem dX1_forcedNext_63 : decode cX1_forcedNext 63 = .ok (.iload 4, 2) := by decide +kernel
theorem dX1_forcedNext_65 : decode cX1_forcedNext 65 = .ok (.iaload, 1) := by decide +kernel
theorem dX1_forcedNext_66 : decode cX1_forcedNext 66 = .ok (.iload_n 1, 1) := by decide +kernel
theorem dX1_forcedNext_67 : decode cX1_forcedNext 67 = .ok (.if_icmp .eq 8, 3) := by decide +kernel
theorem dX1_forcedNext_70 : decode cX1_forcedNext 70 = .ok (.iload 6, 2) := by decide +kernel
theorem dX1_forcedNext_72 : decode cX1_forcedNext 72 = .ok (.ifCond .eq 11, 3) := by decide +kernel
theorem dX1_forcedNext_75 : decode cX1_forcedNext 75 = .ok (.iload_n 3, 1) := by decide +kernel
theorem dX1_forcedNext_76 : decode cX1_forcedNext 76 = .ok (.iload 4, 2) := by decide +kernel
theorem dX1_forcedNext_78 : decode cX1_forcedNext 78 = .ok (.invokestatic 31, 3) := by decide +kernel
theorem dX1_forcedNext_81 : decode cX1_forcedNext 81 = .ok (.ior, 1) := by decide +kernel
theorem dX1_forcedNext_82 : decode cX1_forcedNext 82 = .ok (.istore_n 3, 1) := by decide +kernel
theorem dX1_forcedNext_83 : decode cX1_forcedNext 83 = .ok (.iinc 4 1, 3) := by decide +kernel
theorem dX1_forcedNext_86 : decode cX1_forcedNext 86 = .ok (.goto (-81), 3) := by decide +kernel
theorem dX1_forcedNext_89 : decode cX1_forcedNext 89 = .ok (.iload_n 3, 1) := by decide +kernel
theorem dX1_forcedNext_90 : decode cX1_forcedNext 90 = .ok (.ireturn, 1) := by decide +kernel
set_option maxRecDepth 20000 in
theorem ggX1_isTrap_X6_contains : GoodIn wsX1_isTrap wsX6_contains := goodIn_r _ [6] (by decide +kernel) (by decide +kernel)
set_option maxRecDepth 20000 in
theorem gX1_isTrap_X6_contains_n43 : GoodIn wsX1_isTrap (wsX6_contains) := ggX1_isTrap_X6_contains
theorem dX1_isTrap_0 : decode cX1_isTrap 0 = .ok (.iconst 1, 1) := by decide +kernel
theorem dX1_isTrap_1 : decode cX1_isTrap 1 = .ok (.istore_n 3, 1) := by decide +kernel
theorem dX1_isTrap_2 : decode cX1_isTrap 2 = .ok (.iconst 0, 1) := by decide +kernel
theorem dX1_isTrap_3 : decode cX1_isTrap 3 = .ok (.istore 4, 2) := by decide +kernel
theorem dX1_isTrap_5 : decode cX1_isTrap 5 = .ok (.iload 4, 2) := by decide +kernel
theorem dX1_isTrap_7 : decode cX1_isTrap 7 = .ok (.aload_n 0, 1) := by decide +kernel
theorem dX1_isTrap_8 : decode cX1_isTrap 8 = .ok (.getfield 21, 3) := by decide +kernel
theorem dX1_isTrap_11 : decode cX1_isTrap 11 = .ok (.if_icmp .ge 71, 3) := by decide +kernel
theorem dX1_isTrap_14 : decode cX1_isTrap 14 = .ok (.iload_n 2, 1) := by decide +kernel
theorem dX1_isTrap_15 : decode cX1_isTrap 15 = .ok (.iload 4, 2) := by decide +kernel
theorem dX1_isTrap_17 : decode cX1_isTrap 17 = .ok (.invokestatic 43, 3) := by decide +kernel
theorem dX1_isTrap_20 : decode cX1_isTrap 20 = .ok (.ifCond .eq 56, 3) := by decide +kernel
theorem dX1_isTrap_23 : decode cX1_isTrap 23 = .ok (.iload_n 3, 1) := by decide +kernel
theorem dX1_isTrap_24 : decode cX1_isTrap 24 = .ok (.aload_n 0, 1) := by decide +kernel
theorem dX1_isTrap_25 : decode cX1_isTrap 25 = .ok (.getfield 9, 3) := by decide +kernel
theorem dX1_isTrap_28 : decode cX1_isTrap 28 = .ok (.iload 4, 2) := by decide +kernel
theorem dX1_isTrap_30 : decode cX1_isTrap 30 = .ok (.iaload, 1) := by decide +kernel
theorem dX1_isTrap_31 : decode cX1_isTrap 31 = .ok (.iload_n 1, 1) := by decide +kernel
theorem dX1_isTrap_32 : decode cX1_isTrap 32 = .ok (.if_icmp .ne 25, 3) := by decide +kernel
theorem dX1_isTrap_35 : decode cX1_isTrap 35 = .ok (.aload_n 0, 1) := by decide +kernel
theorem dX1_isTrap_36 : decode cX1_isTrap 36 = .ok (.getfield 18, 3) := by decide +kernel
theorem dX1_isTrap_39 : decode cX1_isTrap 39 = .ok (.iload 4, 2) := by decide +kernel
theorem dX1_isTrap_41 : decode cX1_isTrap 41 = .ok (.iaload, 1) := by decide +kernel
theorem dX1_isTrap_42 : decode cX1_isTrap 42 = .ok (.iload_n 2, 1) := by decide +kernel
theorem dX1_isTrap_43 : decode cX1_isTrap 43 = .ok (.iconst (-1), 1) := by decide +kernel
theorem dX1_isTrap_44 : decode cX1_isTrap 44 = .ok (.ixor, 1) := by decide +kernel
theorem dX1_isTrap_45 : decode cX1_isTrap 45 = .ok (.iand, 1) := by decide +kernel
theorem dX1_isTrap_46 : decode cX1_isTrap 46 = .ok (.ifCond .ne 7, 3) := by decide +kernel
theorem dX1_isTrap_49 : decode cX1_isTrap 49 = .ok (.iconst 1, 1) := by decide +kernel
theorem dX1_isTrap_50 : decode cX1_isTrap 50 = .ok (.goto 24, 3) := by decide +kernel
theorem dX1_isTrap_53 : decode cX1_isTrap 53 = .ok (.iconst 0, 1) := by decide +kernel
theorem dX1_isTrap_54 : decode cX1_isTrap 54 = .ok (.goto 20, 3) := by decide +kernel
theorem dX1_isTrap_57 : decode cX1_isTrap 57 = .ok (.aload_n 0, 1) := by decide +kernel
theorem dX1_isTrap_58 : decode cX1_isTrap 58 = .ok (.getfield 18, 3) := by decide +kernel
theorem dX1_isTrap_61 : decode cX1_isTrap 61 = .ok (.iload 4, 2) := by decide +kernel
theorem dX1_isTrap_63 : decode cX1_isTrap 63 = .ok (.iaload, 1) := by decide +kernel
theorem dX1_isTrap_64 : decode cX1_isTrap 64 = .ok (.iload_n 2, 1) := by decide +kernel
theorem dX1_isTrap_65 : decode cX1_isTrap 65 = .ok (.iand, 1) := by decide +kernel
theorem dX1_isTrap_66 : decode cX1_isTrap 66 = .ok (.ifCond .eq 7, 3) := by decide +kernel
theorem dX1_isTrap_69 : decode cX1_isTrap 69 = .ok (.iconst 1, 1) := by decide +kernel
theorem dX1_isTrap_70 : decode cX1_isTrap 70 = .ok (.goto 4, 3) := by decide +kernel
theorem dX1_isTrap_73 : decode cX1_isTrap 73 = .ok (.iconst 0, 1) := by decide +kernel
theorem dX1_isTrap_74 : decode cX1_isTrap 74 = .ok (.iand, 1) := by decide +kernel
theorem dX1_isTrap_75 : decode cX1_isTrap 75 = .ok (.istore_n 3, 1) := by decide +kernel
theorem dX1_isTrap_76 : decode cX1_isTrap 76 = .ok (.iinc 4 1, 3) := by decide +kernel
theorem dX1_isTrap_79 : decode cX1_isTrap 79 = .ok (.goto (-74), 3) := by decide +kernel
theorem dX1_isTrap_82 : decode cX1_isTrap 82 = .ok (.iload_n 3, 1) := by decide +kernel
theorem dX1_isTrap_83 : decode cX1_isTrap 83 = .ok (.ireturn, 1) := by decide +kernel
set_option maxRecDepth 20000 in
theorem ggX1_reached_X1_targets : GoodIn wsX1_reached wsX1_targets := goodIn_r _ [6, 1, 7, 8, 9, 10, 11, 12, 13, 14] (by decide +kernel) (by decide +kernel)
set_option maxRecDepth 20000 in
theorem gX1_reached_X1_targets : GoodIn wsX1_reached (wsV RX1 55 RX1 yX1_targets wsX1_targets) := goodIn_app (goodIn_of _ (by decide +kernel)) ggX1_reached_X1_targets
theorem dX1_reached_0 : decode cX1_reached 0 = .ok (.iconst 0, 1) := by decide +kernel
theorem dX1_reached_1 : decode cX1_reached 1 = .ok (.istore_n 3, 1) := by decide +kernel
theorem dX1_reached_2 : decode cX1_reached 2 = .ok (.iconst 1, 1) := by decide +kernel
theorem dX1_reached_3 : decode cX1_reached 3 = .ok (.istore 4, 2) := by decide +kernel
theorem dX1_reached_5 : decode cX1_reached 5 = .ok (.iload 4, 2) := by decide +kernel
theorem dX1_reached_7 : decode cX1_reached 7 = .ok (.aload_n 0, 1) := by decide +kernel
theorem dX1_reached_8 : decode cX1_reached 8 = .ok (.getfield 21, 3) := by decide +kernel
theorem dX1_reached_11 : decode cX1_reached 11 = .ok (.if_icmp .gt 21, 3) := by decide +kernel
theorem dX1_reached_14 : decode cX1_reached 14 = .ok (.iload_n 3, 1) := by decide +kernel
theorem dX1_reached_15 : decode cX1_reached 15 = .ok (.aload_n 0, 1) := by decide +kernel
theorem dX1_reached_16 : decode cX1_reached 16 = .ok (.iload_n 1, 1) := by decide +kernel
theorem dX1_reached_17 : decode cX1_reached 17 = .ok (.iload_n 3, 1) := by decide +kernel
theorem dX1_reached_18 : decode cX1_reached 18 = .ok (.ior, 1) := by decide +kernel
theorem dX1_reached_19 : decode cX1_reached 19 = .ok (.invokevirtual 55, 3) := by decide +kernel
theorem dX1_reached_22 : decode cX1_reached 22 = .ok (.iload_n 2, 1) := by decide +kernel
theorem dX1_reached_23 : decode cX1_reached 23 = .ok (.iand, 1) := by decide +kernel
theorem dX1_reached_24 : decode cX1_reached 24 = .ok (.ior, 1) := by decide +kernel
theorem dX1_reached_25 : decode cX1_reached 25 = .ok (.istore_n 3, 1) := by decide +kernel
theorem dX1_reached_26 : decode cX1_reached 26 = .ok (.iinc 4 1, 3) := by decide +kernel
theorem dX1_reached_29 : decode cX1_reached 29 = .ok (.goto (-24), 3) := by decide +kernel
theorem dX1_reached_32 : decode cX1_reached 32 = .ok (.iload_n 3, 1) := by decide +kernel
theorem dX1_reached_33 : decode cX1_reached 33 = .ok (.ireturn, 1) := by decide +kernel
set_option maxRecDepth 20000 in
theorem ggX1_reaching_X1_sources : GoodIn wsX1_reaching wsX1_sources := goodIn_r _ [6, 1, 7, 8, 9, 10, 11, 12, 13, 14] (by decide +kernel) (by decide +kernel)
set_option maxRecDepth 20000 in
theorem gX1_reaching_X1_sources : GoodIn wsX1_reaching (wsV RX1 58 RX1 yX1_sources wsX1_sources) := goodIn_app (goodIn_of _ (by decide +kernel)) ggX1_reaching_X1_sources
theorem dX1_reaching_0 : decode cX1_reaching 0 = .ok (.iconst 0, 1) := by decide +kernel
theorem dX1_reaching_1 : decode cX1_reaching 1 = .ok (.istore_n 3, 1) := by decide +kernel
theorem dX1_reaching_2 : decode cX1_reaching 2 = .ok (.iconst 1, 1) := by decide +kernel
theorem dX1_reaching_3 : decode cX1_reaching 3 = .ok (.istore 4, 2) := by decide +kernel
theorem dX1_reaching_5 : decode cX1_reaching 5 = .ok (.iload 4, 2) := by decide +kernel
theorem dX1_reaching_7 : decode cX1_reaching 7 = .ok (.aload_n 0, 1) := by decide +kernel
theorem dX1_reaching_8 : decode cX1_reaching 8 = .ok (.getfield 21, 3) := by decide +kernel
theorem dX1_reaching_11 : decode cX1_reaching 11 = .ok (.if_icmp .gt 21, 3) := by decide +kernel
theorem dX1_reaching_14 : decode cX1_reaching 14 = .ok (.iload_n 3, 1) := by decide +kernel
theorem dX1_reaching_15 : decode cX1_reaching 15 = .ok (.aload_n 0, 1) := by decide +kernel
theorem dX1_reaching_16 : decode cX1_reaching 16 = .ok (.iload_n 1, 1) := by decide +kernel
theorem dX1_reaching_17 : decode cX1_reaching 17 = .ok (.iload_n 3, 1) := by decide +kernel
theorem dX1_reaching_18 : decode cX1_reaching 18 = .ok (.ior, 1) := by decide +kernel
theorem dX1_reaching_19 : decode cX1_reaching 19 = .ok (.invokevirtual 58, 3) := by decide +kernel
theorem dX1_reaching_22 : decode cX1_reaching 22 = .ok (.iload_n 2, 1) := by decide +kernel
theorem dX1_reaching_23 : decode cX1_reaching 23 = .ok (.iand, 1) := by decide +kernel
theorem dX1_reaching_24 : decode cX1_reaching 24 = .ok (.ior, 1) := by decide +kernel
theorem dX1_reaching_25 : decode cX1_reaching 25 = .ok (.istore_n 3, 1) := by decide +kernel
theorem dX1_reaching_26 : decode cX1_reaching 26 = .ok (.iinc 4 1, 3) := by decide +kernel
theorem dX1_reaching_29 : decode cX1_reaching 29 = .ok (.goto (-24), 3) := by decide +kernel
theorem dX1_reaching_32 : decode cX1_reaching 32 = .ok (.iload_n 3, 1) := by decide +kernel
theorem dX1_reaching_33 : decode cX1_reaching 33 = .ok (.ireturn, 1) := by decide +kernel
set_option maxRecDepth 20000 in
theorem ggX1_notLess_X6_bit : GoodIn wsX1_notLess wsX6_bit := goodIn_r _ [5] (by decide +kernel) (by decide +kernel)
set_option maxRecDepth 20000 in
theorem gX1_notLess_X6_bit_n31 : GoodIn wsX1_notLess (wsX6_bit) := ggX1_notLess_X6_bit
theorem dX1_notLess_0 : decode cX1_notLess 0 = .ok (.iconst 0, 1) := by decide +kernel
theorem dX1_notLess_1 : decode cX1_notLess 1 = .ok (.istore_n 2, 1) := by decide +kernel
theorem dX1_notLess_2 : decode cX1_notLess 2 = .ok (.iconst 0, 1) := by decide +kernel
theorem dX1_notLess_3 : decode cX1_notLess 3 = .ok (.istore_n 3, 1) := by decide +kernel
theorem dX1_notLess_4 : decode cX1_notLess 4 = .ok (.iload_n 3, 1) := by decide +kernel
theorem dX1_notLess_5 : decode cX1_notLess 5 = .ok (.aload_n 0, 1) := by decide +kernel
theorem dX1_notLess_6 : decode cX1_notLess 6 = .ok (.getfield 21, 3) := by decide +kernel
theorem dX1_notLess_9 : decode cX1_notLess 9 = .ok (.if_icmp .ge 31, 3) := by decide +kernel
theorem dX1_notLess_12 : decode cX1_notLess 12 = .ok (.aload_n 0, 1) := by decide +kernel
theorem dX1_notLess_13 : decode cX1_notLess 13 = .ok (.getfield 15, 3) := by decide +kernel
theorem dX1_notLess_16 : decode cX1_notLess 16 = .ok (.iload_n 3, 1) := by decide +kernel
theorem dX1_notLess_17 : decode cX1_notLess 17 = .ok (.iaload, 1) := by decide +kernel
theorem dX1_notLess_18 : decode cX1_notLess 18 = .ok (.aload_n 0, 1) := by decide +kernel
theorem dX1_notLess_19 : decode cX1_notLess 19 = .ok (.getfield 15, 3) := by decide +kernel
theorem dX1_notLess_22 : decode cX1_notLess 22 = .ok (.iload_n 1, 1) := by decide +kernel
theorem dX1_notLess_23 : decode cX1_notLess 23 = .ok (.iaload, 1) := by decide +kernel
theorem dX1_notLess_24 : decode cX1_notLess 24 = .ok (.if_icmp .lt 10, 3) := by decide +kernel
theorem dX1_notLess_27 : decode cX1_notLess 27 = .ok (.iload_n 2, 1) := by decide +kernel
theorem dX1_notLess_28 : decode cX1_notLess 28 = .ok (.iload_n 3, 1) := by decide +kernel
theorem dX1_notLess_29 : decode cX1_notLess 29 = .ok (.invokestatic 31, 3) := by decide +kernel
theorem dX1_notLess_32 : decode cX1_notLess 32 = .ok (.ior, 1) := by decide +kernel
theorem dX1_notLess_33 : decode cX1_notLess 33 = .ok (.istore_n 2, 1) := by decide +kernel
theorem dX1_notLess_34 : decode cX1_notLess 34 = .ok (.iinc 3 1, 3) := by decide +kernel
theorem dX1_notLess_37 : decode cX1_notLess 37 = .ok (.goto (-33), 3) := by decide +kernel
theorem dX1_notLess_40 : decode cX1_notLess 40 = .ok (.iload_n 2, 1) := by decide +kernel
theorem dX1_notLess_41 : decode cX1_notLess 41 = .ok (.ireturn, 1) := by decide +kernel
set_option maxRecDepth 20000 in
theorem ggX1_ringPlaces_X1_notLess : GoodIn wsX1_ringPlaces wsX1_notLess := goodIn_r _ [5, 6, 7, 8, 9, 10, 30, 31, 32, 33] (by decide +kernel) (by decide +kernel)
set_option maxRecDepth 20000 in
theorem gX1_ringPlaces_X1_notLess : GoodIn wsX1_ringPlaces (wsV RX1 61 RX1 yX1_notLess wsX1_notLess) := goodIn_app (goodIn_of _ (by decide +kernel)) ggX1_ringPlaces_X1_notLess
set_option maxRecDepth 20000 in
theorem ggX1_ringPlaces_X6_bit : GoodIn wsX1_ringPlaces wsX6_bit := goodIn_r _ [10] (by decide +kernel) (by decide +kernel)
set_option maxRecDepth 20000 in
theorem gX1_ringPlaces_X6_bit_n31 : GoodIn wsX1_ringPlaces (wsX6_bit) := ggX1_ringPlaces_X6_bit
set_option maxRecDepth 20000 in
theorem ggX1_ringPlaces_X1_reached : GoodIn wsX1_ringPlaces wsX1_reached := goodIn_r _ [14, 6, 15, 16, 17, 4, 18, 19, 20, 9, 21, 30, 31, 32, 33] (by decide +kernel) (by decide +kernel)
set_option maxRecDepth 20000 in
theorem gX1_ringPlaces_X1_reached : GoodIn wsX1_ringPlaces (wsV RX1 64 RX1 yX1_reached wsX1_reached) := goodIn_app (goodIn_of _ (by decide +kernel)) ggX1_ringPlaces_X1_reached
set_option maxRecDepth 20000 in
theorem ggX1_ringPlaces_X1_reaching : GoodIn wsX1_ringPlaces wsX1_reaching := goodIn_r _ [25, 6, 26, 27, 28, 4, 29, 19, 8, 9, 10, 30, 31, 32, 33] (by decide +kernel) (by decide +kernel)
set_option maxRecDepth 20000 in
theorem gX1_ringPlaces_X1_reaching : GoodIn wsX1_ringPlaces (wsV RX1 68 RX1 yX1_reaching wsX1_reaching) := goodIn_app (goodIn_of _ (by decide +kernel)) ggX1_ringPlaces_X1_reaching
set_option maxRecDepth 20000 in
theorem ggX1_ringPlaces_X6_contains : GoodIn wsX1_ringPlaces wsX6_contains := goodIn_r _ [21] (by decide +kernel) (by decide +kernel)
set_option maxRecDepth 20000 in
theorem gX1_ringPlaces_X6_contains_n43 : GoodIn wsX1_ringPlaces (wsX6_contains) := ggX1_ringPlaces_X6_contains
theorem dX1_ringPlaces_0 : decode cX1_ringPlaces 0 = .ok (.aload_n 0, 1) := by decide +kernel
theorem dX1_ringPlaces_1 : decode cX1_ringPlaces 1 = .ok (.iload_n 1, 1) := by decide +kernel
theorem dX1_ringPlaces_2 : decode cX1_ringPlaces 2 = .ok (.invokevirtual 61, 3) := by decide +kernel
theorem dX1_ringPlaces_5 : decode cX1_ringPlaces 5 = .ok (.istore_n 2, 1) := by decide +kernel
theorem dX1_ringPlaces_6 : decode cX1_ringPlaces 6 = .ok (.aload_n 0, 1) := by decide +kernel
theorem dX1_ringPlaces_7 : decode cX1_ringPlaces 7 = .ok (.iload_n 1, 1) := by decide +kernel
theorem dX1_ringPlaces_8 : decode cX1_ringPlaces 8 = .ok (.invokestatic 31, 3) := by decide +kernel
theorem dX1_ringPlaces_11 : decode cX1_ringPlaces 11 = .ok (.iload_n 2, 1) := by decide +kernel
theorem dX1_ringPlaces_12 : decode cX1_ringPlaces 12 = .ok (.invokevirtual 64, 3) := by decide +kernel
theorem dX1_ringPlaces_15 : decode cX1_ringPlaces 15 = .ok (.aload_n 0, 1) := by decide +kernel
theorem dX1_ringPlaces_16 : decode cX1_ringPlaces 16 = .ok (.iload_n 1, 1) := by decide +kernel
theorem dX1_ringPlaces_17 : decode cX1_ringPlaces 17 = .ok (.invokestatic 31, 3) := by decide +kernel
theorem dX1_ringPlaces_20 : decode cX1_ringPlaces 20 = .ok (.iload_n 2, 1) := by decide +kernel
theorem dX1_ringPlaces_21 : decode cX1_ringPlaces 21 = .ok (.invokevirtual 68, 3) := by decide +kernel
theorem dX1_ringPlaces_24 : decode cX1_ringPlaces 24 = .ok (.iand, 1) := by decide +kernel
theorem dX1_ringPlaces_25 : decode cX1_ringPlaces 25 = .ok (.istore_n 3, 1) := by decide +kernel
theorem dX1_ringPlaces_26 : decode cX1_ringPlaces 26 = .ok (.iload_n 3, 1) := by decide +kernel
theorem dX1_ringPlaces_27 : decode cX1_ringPlaces 27 = .ok (.iload_n 1, 1) := by decide +kernel
theorem dX1_ringPlaces_28 : decode cX1_ringPlaces 28 = .ok (.invokestatic 43, 3) := by decide +kernel
theorem dX1_ringPlaces_31 : decode cX1_ringPlaces 31 = .ok (.ifCond .eq 7, 3) := by decide +kernel
theorem dX1_ringPlaces_34 : decode cX1_ringPlaces 34 = .ok (.iload_n 3, 1) := by decide +kernel
theorem dX1_ringPlaces_35 : decode cX1_ringPlaces 35 = .ok (.goto 4, 3) := by decide +kernel
theorem dX1_ringPlaces_38 : decode cX1_ringPlaces 38 = .ok (.iconst 0, 1) := by decide +kernel
theorem dX1_ringPlaces_39 : decode cX1_ringPlaces 39 = .ok (.ireturn, 1) := by decide +kernel
theorem dX1_isBadColour_0 : decode cX1_isBadColour 0 = .ok (.iload_n 2, 1) := by decide +kernel
theorem dX1_isBadColour_1 : decode cX1_isBadColour 1 = .ok (.iconst 2, 1) := by decide +kernel
theorem dX1_isBadColour_2 : decode cX1_isBadColour 2 = .ok (.irem, 1) := by decide +kernel
theorem dX1_isBadColour_3 : decode cX1_isBadColour 3 = .ok (.iload_n 1, 1) := by decide +kernel
theorem dX1_isBadColour_4 : decode cX1_isBadColour 4 = .ok (.if_icmp .eq 7, 3) := by decide +kernel
theorem dX1_isBadColour_7 : decode cX1_isBadColour 7 = .ok (.iconst 1, 1) := by decide +kernel
theorem dX1_isBadColour_8 : decode cX1_isBadColour 8 = .ok (.goto 4, 3) := by decide +kernel
theorem dX1_isBadColour_11 : decode cX1_isBadColour 11 = .ok (.iconst 0, 1) := by decide +kernel
theorem dX1_isBadColour_12 : decode cX1_isBadColour 12 = .ok (.ireturn, 1) := by decide +kernel
set_option maxRecDepth 20000 in
theorem ggX1_badRingPlaces_X1_isBadColour : GoodIn wsX1_badRingPlaces wsX1_isBadColour := goodIn_r _ [7] (by decide +kernel) (by decide +kernel)
set_option maxRecDepth 20000 in
theorem gX1_badRingPlaces_X1_isBadColour : GoodIn wsX1_badRingPlaces (wsV RX1 71 RX1 yX1_isBadColour wsX1_isBadColour) := goodIn_app (goodIn_of _ (by decide +kernel)) ggX1_badRingPlaces_X1_isBadColour
set_option maxRecDepth 20000 in
theorem ggX1_badRingPlaces_X1_ringPlaces : GoodIn wsX1_badRingPlaces wsX1_ringPlaces := goodIn_r _ [11, 12, 13, 14, 6, 15, 1, 2, 16, 17, 18, 19, 20, 21, 22, 23, 24, 25, 26, 27, 28, 29, 30, 31, 32, 33, 34, 35, 36, 37, 38, 39, 40, 41] (by decide +kernel) (by decide +kernel)
set_option maxRecDepth 20000 in
theorem gX1_badRingPlaces_X1_ringPlaces : GoodIn wsX1_badRingPlaces (wsV RX1 74 RX1 yX1_ringPlaces wsX1_ringPlaces) := goodIn_app (goodIn_of _ (by decide +kernel)) ggX1_badRingPlaces_X1_ringPlaces
theorem dX1_badRingPlaces_0 : decode cX1_badRingPlaces 0 = .ok (.iconst 0, 1) := by decide +kernel
theorem dX1_badRingPlaces_1 : decode cX1_badRingPlaces 1 = .ok (.istore_n 2, 1) := by decide +kernel
theorem dX1_badRingPlaces_2 : decode cX1_badRingPlaces 2 = .ok (.iconst 0, 1) := by decide +kernel
theorem dX1_badRingPlaces_3 : decode cX1_badRingPlaces 3 = .ok (.istore_n 3, 1) := by decide +kernel
theorem dX1_badRingPlaces_4 : decode cX1_badRingPlaces 4 = .ok (.iload_n 3, 1) := by decide +kernel
theorem dX1_badRingPlaces_5 : decode cX1_badRingPlaces 5 = .ok (.aload_n 0, 1) := by decide +kernel
theorem dX1_badRingPlaces_6 : decode cX1_badRingPlaces 6 = .ok (.getfield 21, 3) := by decide +kernel
theorem dX1_badRingPlaces_9 : decode cX1_badRingPlaces 9 = .ok (.if_icmp .ge 31, 3) := by decide +kernel
theorem dX1_badRingPlaces_12 : decode cX1_badRingPlaces 12 = .ok (.aload_n 0, 1) := by decide +kernel
theorem dX1_badRingPlaces_13 : decode cX1_badRingPlaces 13 = .ok (.iload_n 1, 1) := by decide +kernel
theorem dX1_badRingPlaces_14 : decode cX1_badRingPlaces 14 = .ok (.aload_n 0, 1) := by decide +kernel
theorem dX1_badRingPlaces_15 : decode cX1_badRingPlaces 15 = .ok (.getfield 15, 3) := by decide +kernel
theorem dX1_badRingPlaces_18 : decode cX1_badRingPlaces 18 = .ok (.iload_n 3, 1) := by decide +kernel
theorem dX1_badRingPlaces_19 : decode cX1_badRingPlaces 19 = .ok (.iaload, 1) := by decide +kernel
theorem dX1_badRingPlaces_20 : decode cX1_badRingPlaces 20 = .ok (.invokevirtual 71, 3) := by decide +kernel
theorem dX1_badRingPlaces_23 : decode cX1_badRingPlaces 23 = .ok (.ifCond .eq 11, 3) := by decide +kernel
theorem dX1_badRingPlaces_26 : decode cX1_badRingPlaces 26 = .ok (.iload_n 2, 1) := by decide +kernel
theorem dX1_badRingPlaces_27 : decode cX1_badRingPlaces 27 = .ok (.aload_n 0, 1) := by decide +kernel
theorem dX1_badRingPlaces_28 : decode cX1_badRingPlaces 28 = .ok (.iload_n 3, 1) := by decide +kernel
theorem dX1_badRingPlaces_29 : decode cX1_badRingPlaces 29 = .ok (.invokevirtual 74, 3) := by decide +kernel
theorem dX1_badRingPlaces_32 : decode cX1_badRingPlaces 32 = .ok (.ior, 1) := by decide +kernel
theorem dX1_badRingPlaces_33 : decode cX1_badRingPlaces 33 = .ok (.istore_n 2, 1) := by decide +kernel
theorem dX1_badRingPlaces_34 : decode cX1_badRingPlaces 34 = .ok (.iinc 3 1, 3) := by decide +kernel
theorem dX1_badRingPlaces_37 : decode cX1_badRingPlaces 37 = .ok (.goto (-33), 3) := by decide +kernel
theorem dX1_badRingPlaces_40 : decode cX1_badRingPlaces 40 = .ok (.iload_n 2, 1) := by decide +kernel
theorem dX1_badRingPlaces_41 : decode cX1_badRingPlaces 41 = .ok (.ireturn, 1) := by decide +kernel
set_option maxRecDepth 20000 in
theorem ggX1_leastBadColour_X1_isBadColour : GoodIn wsX1_leastBadColour wsX1_isBadColour := goodIn_r _ [7] (by decide +kernel) (by decide +kernel)
set_option maxRecDepth 20000 in
theorem gX1_leastBadColour_X1_isBadColour : GoodIn wsX1_leastBadColour (wsV RX1 71 RX1 yX1_isBadColour wsX1_isBadColour) := goodIn_app (goodIn_of _ (by decide +kernel)) ggX1_leastBadColour_X1_isBadColour
set_option maxRecDepth 20000 in
theorem ggX1_leastBadColour_X1_ringPlaces : GoodIn wsX1_leastBadColour wsX1_ringPlaces := goodIn_r _ [11, 12, 13, 14, 6, 15, 1, 2, 16, 17, 18, 19, 20, 21, 22, 23, 24, 25, 26, 27, 28, 29, 30, 31, 32, 33, 34, 35, 36, 37, 38, 39, 40, 41] (by decide +kernel) (by decide +kernel)
set_option maxRecDepth 20000 in
theorem gX1_leastBadColour_X1_ringPlaces : GoodIn wsX1_leastBadColour (wsV RX1 74 RX1 yX1_ringPlaces wsX1_ringPlaces) := goodIn_app (goodIn_of _ (by decide +kernel)) ggX1_leastBadColour_X1_ringPlaces
theorem dX1_leastBadColour_0 : decode cX1_leastBadColour 0 = .ok (.bipush (-5), 2) := by decide +kernel
theorem dX1_leastBadColour_2 : decode cX1_leastBadColour 2 = .ok (.istore_n 2, 1) := by decide +kernel
theorem dX1_leastBadColour_3 : decode cX1_leastBadColour 3 = .ok (.iconst 0, 1) := by decide +kernel
theorem dX1_leastBadColour_4 : decode cX1_leastBadColour 4 = .ok (.istore_n 3, 1) := by decide +kernel
theorem dX1_leastBadColour_5 : decode cX1_leastBadColour 5 = .ok (.iload_n 3, 1) := by decide +kernel
theorem dX1_leastBadColour_6 : decode cX1_leastBadColour 6 = .ok (.aload_n 0, 1) := by decide +kernel
theorem dX1_leastBadColour_7 : decode cX1_leastBadColour 7 = .ok (.getfield 21, 3) := by decide +kernel
theorem dX1_leastBadColour_10 : decode cX1_leastBadColour 10 = .ok (.if_icmp .ge 66, 3) := by decide +kernel
theorem dX1_leastBadColour_13 : decode cX1_leastBadColour 13 = .ok (.iload_n 2, 1) := by decide +kernel
theorem dX1_leastBadColour_14 : decode cX1_leastBadColour 14 = .ok (.bipush (-5), 2) := by decide +kernel
theorem dX1_leastBadColour_16 : decode cX1_leastBadColour 16 = .ok (.if_icmp .eq 13, 3) := by decide +kernel
theorem dX1_leastBadColour_19 : decode cX1_leastBadColour 19 = .ok (.aload_n 0, 1) := by decide +kernel
theorem dX1_leastBadColour_20 : decode cX1_leastBadColour 20 = .ok (.getfield 15, 3) := by decide +kernel
theorem dX1_leastBadColour_23 : decode cX1_leastBadColour 23 = .ok (.iload_n 3, 1) := by decide +kernel
theorem dX1_leastBadColour_24 : decode cX1_leastBadColour 24 = .ok (.iaload, 1) := by decide +kernel
theorem dX1_leastBadColour_25 : decode cX1_leastBadColour 25 = .ok (.iload_n 2, 1) := by decide +kernel
theorem dX1_leastBadColour_26 : decode cX1_leastBadColour 26 = .ok (.if_icmp .ge 7, 3) := by decide +kernel
theorem dX1_leastBadColour_29 : decode cX1_leastBadColour 29 = .ok (.iconst 1, 1) := by decide +kernel
theorem dX1_leastBadColour_30 : decode cX1_leastBadColour 30 = .ok (.goto 4, 3) := by decide +kernel
theorem dX1_leastBadColour_33 : decode cX1_leastBadColour 33 = .ok (.iconst 0, 1) := by decide +kernel
theorem dX1_leastBadColour_34 : decode cX1_leastBadColour 34 = .ok (.istore 4, 2) := by decide +kernel
theorem dX1_leastBadColour_36 : decode cX1_leastBadColour 36 = .ok (.iload 4, 2) := by decide +kernel
theorem dX1_leastBadColour_38 : decode cX1_leastBadColour 38 = .ok (.ifCond .eq 32, 3) := by decide +kernel
theorem dX1_leastBadColour_41 : decode cX1_leastBadColour 41 = .ok (.aload_n 0, 1) := by decide +kernel
theorem dX1_leastBadColour_42 : decode cX1_leastBadColour 42 = .ok (.iload_n 1, 1) := by decide +kernel
theorem dX1_leastBadColour_43 : decode cX1_leastBadColour 43 = .ok (.aload_n 0, 1) := by decide +kernel
theorem dX1_leastBadColour_44 : decode cX1_leastBadColour 44 = .ok (.getfield 15, 3) := by decide +kernel
theorem dX1_leastBadColour_47 : decode cX1_leastBadColour 47 = .ok (.iload_n 3, 1) := by decide +kernel
theorem dX1_leastBadColour_48 : decode cX1_leastBadColour 48 = .ok (.iaload, 1) := by decide +kernel
theorem dX1_leastBadColour_49 : decode cX1_leastBadColour 49 = .ok (.invokevirtual 71, 3) := by decide +kernel
theorem dX1_leastBadColour_52 : decode cX1_leastBadColour 52 = .ok (.ifCond .eq 18, 3) := by decide +kernel
theorem dX1_leastBadColour_55 : decode cX1_leastBadColour 55 = .ok (.aload_n 0, 1) := by decide +kernel
theorem dX1_leastBadColour_56 : decode cX1_leastBadColour 56 = .ok (.iload_n 3, 1) := by decide +kernel
theorem dX1_leastBadColour_57 : decode cX1_leastBadColour 57 = .ok (.invokevirtual 74, 3) := by decide +kernel
theorem dX1_leastBadColour_60 : decode cX1_leastBadColour 60 = .ok (.ifCond .eq 10, 3) := by decide +kernel
theorem dX1_leastBadColour_63 : decode cX1_leastBadColour 63 = .ok (.aload_n 0, 1) := by decide +kernel
theorem dX1_leastBadColour_64 : decode cX1_leastBadColour 64 = .ok (.getfield 15, 3) := by decide +kernel
theorem dX1_leastBadColour_67 : decode cX1_leastBadColour 67 = .ok (.iload_n 3, 1) := by decide +kernel
theorem dX1_leastBadColour_68 : decode cX1_leastBadColour 68 = .ok (.iaload, 1) := by decide +kernel
theorem dX1_leastBadColour_69 : decode cX1_leastBadColour 69 = .ok (.istore_n 2, 1) := by decide +kernel
theorem dX1_leastBadColour_70 : decode cX1_leastBadColour 70 = .ok (.iinc 3 1, 3) := by decide +kernel
theorem dX1_leastBadColour_73 : decode cX1_leastBadColour 73 = .ok (.goto (-68), 3) := by decide +kernel
theorem dX1_leastBadColour_76 : decode cX1_leastBadColour 76 = .ok (.iload_n 2, 1) := by decide +kernel
theorem dX1_leastBadColour_77 : decode cX1_leastBadColour 77 = .ok (.ireturn, 1) := by decide +kernel
set_option maxRecDepth 20000 in
theorem ggX1_shortestBadRing_X1_isBadColour : GoodIn wsX1_shortestBadRing wsX1_isBadColour := goodIn_r _ [7] (by decide +kernel) (by decide +kernel)
set_option maxRecDepth 20000 in
theorem gX1_shortestBadRing_X1_isBadColour : GoodIn wsX1_shortestBadRing (wsV RX1 71 RX1 yX1_isBadColour wsX1_isBadColour) := goodIn_app (goodIn_of _ (by decide +kernel)) ggX1_shortestBadRing_X1_isBadColour
set_option maxRecDepth 20000 in
theorem ggX1_shortestBadRing_X1_shortestRing : GoodIn wsX1_shortestBadRing wsX1_shortestRing := goodIn_r _ [11, 1, 12, 13, 14, 6, 15, 2, 16, 17, 18, 19, 20, 21, 22, 23, 24, 25, 26, 27, 28, 29] (by decide +kernel) (by decide +kernel)
set_option maxRecDepth 20000 in
theorem gX1_shortestBadRing_X1_shortestRing : GoodIn wsX1_shortestBadRing (wsV RX1 77 RX1 yX1_shortestRing wsX1_shortestRing) := goodIn_app (goodIn_of _ (by decide +kernel)) ggX1_shortestBadRing_X1_shortestRing
theorem dX1_shortestBadRing_0 : decode cX1_shortestBadRing 0 = .ok (.bipush (-5), 2) := by decide +kernel
theorem dX1_shortestBadRing_2 : decode cX1_shortestBadRing 2 = .ok (.istore_n 2, 1) := by decide +kernel
theorem dX1_shortestBadRing_3 : decode cX1_shortestBadRing 3 = .ok (.iconst 0, 1) := by decide +kernel
theorem dX1_shortestBadRing_4 : decode cX1_shortestBadRing 4 = .ok (.istore_n 3, 1) := by decide +kernel
theorem dX1_shortestBadRing_5 : decode cX1_shortestBadRing 5 = .ok (.iload_n 3, 1) := by decide +kernel
theorem dX1_shortestBadRing_6 : decode cX1_shortestBadRing 6 = .ok (.aload_n 0, 1) := by decide +kernel
theorem dX1_shortestBadRing_7 : decode cX1_shortestBadRing 7 = .ok (.getfield 21, 3) := by decide +kernel
theorem dX1_shortestBadRing_10 : decode cX1_shortestBadRing 10 = .ok (.if_icmp .ge 52, 3) := by decide +kernel
theorem dX1_shortestBadRing_13 : decode cX1_shortestBadRing 13 = .ok (.aload_n 0, 1) := by decide +kernel
theorem dX1_shortestBadRing_14 : decode cX1_shortestBadRing 14 = .ok (.iload_n 1, 1) := by decide +kernel
theorem dX1_shortestBadRing_15 : decode cX1_shortestBadRing 15 = .ok (.aload_n 0, 1) := by decide +kernel
theorem dX1_shortestBadRing_16 : decode cX1_shortestBadRing 16 = .ok (.getfield 15, 3) := by decide +kernel
theorem dX1_shortestBadRing_19 : decode cX1_shortestBadRing 19 = .ok (.iload_n 3, 1) := by decide +kernel
theorem dX1_shortestBadRing_20 : decode cX1_shortestBadRing 20 = .ok (.iaload, 1) := by decide +kernel
theorem dX1_shortestBadRing_21 : decode cX1_shortestBadRing 21 = .ok (.invokevirtual 71, 3) := by decide +kernel
theorem dX1_shortestBadRing_24 : decode cX1_shortestBadRing 24 = .ok (.ifCond .eq 32, 3) := by decide +kernel
theorem dX1_shortestBadRing_27 : decode cX1_shortestBadRing 27 = .ok (.aload_n 0, 1) := by decide +kernel
theorem dX1_shortestBadRing_28 : decode cX1_shortestBadRing 28 = .ok (.iload_n 3, 1) := by decide +kernel
theorem dX1_shortestBadRing_29 : decode cX1_shortestBadRing 29 = .ok (.invokevirtual 77, 3) := by decide +kernel
theorem dX1_shortestBadRing_32 : decode cX1_shortestBadRing 32 = .ok (.istore 4, 2) := by decide +kernel
theorem dX1_shortestBadRing_34 : decode cX1_shortestBadRing 34 = .ok (.iload 4, 2) := by decide +kernel
theorem dX1_shortestBadRing_36 : decode cX1_shortestBadRing 36 = .ok (.bipush (-5), 2) := by decide +kernel
theorem dX1_shortestBadRing_38 : decode cX1_shortestBadRing 38 = .ok (.if_icmp .eq 18, 3) := by decide +kernel
theorem dX1_shortestBadRing_41 : decode cX1_shortestBadRing 41 = .ok (.iload_n 2, 1) := by decide +kernel
theorem dX1_shortestBadRing_42 : decode cX1_shortestBadRing 42 = .ok (.bipush (-5), 2) := by decide +kernel
theorem dX1_shortestBadRing_44 : decode cX1_shortestBadRing 44 = .ok (.if_icmp .eq 9, 3) := by decide +kernel
theorem dX1_shortestBadRing_47 : decode cX1_shortestBadRing 47 = .ok (.iload 4, 2) := by decide +kernel
theorem dX1_shortestBadRing_49 : decode cX1_shortestBadRing 49 = .ok (.iload_n 2, 1) := by decide +kernel
theorem dX1_shortestBadRing_50 : decode cX1_shortestBadRing 50 = .ok (.if_icmp .ge 6, 3) := by decide +kernel
theorem dX1_shortestBadRing_53 : decode cX1_shortestBadRing 53 = .ok (.iload 4, 2) := by decide +kernel
theorem dX1_shortestBadRing_55 : decode cX1_shortestBadRing 55 = .ok (.istore_n 2, 1) := by decide +kernel
theorem dX1_shortestBadRing_56 : decode cX1_shortestBadRing 56 = .ok (.iinc 3 1, 3) := by decide +kernel
theorem dX1_shortestBadRing_59 : decode cX1_shortestBadRing 59 = .ok (.goto (-54), 3) := by decide +kernel
theorem dX1_shortestBadRing_62 : decode cX1_shortestBadRing 62 = .ok (.iload_n 2, 1) := by decide +kernel
theorem dX1_shortestBadRing_63 : decode cX1_shortestBadRing 63 = .ok (.ireturn, 1) := by decide +kernel
set_option maxRecDepth 20000 in
theorem ggX1_shortestRing_X1_notLess : GoodIn wsX1_shortestRing wsX1_notLess := goodIn_r _ [6, 1, 7, 8, 9, 10, 18, 19, 20, 21] (by decide +kernel) (by decide +kernel)
set_option maxRecDepth 20000 in
theorem gX1_shortestRing_X1_notLess : GoodIn wsX1_shortestRing (wsV RX1 61 RX1 yX1_notLess wsX1_notLess) := goodIn_app (goodIn_of _ (by decide +kernel)) ggX1_shortestRing_X1_notLess
set_option maxRecDepth 20000 in
theorem ggX1_shortestRing_X6_bit : GoodIn wsX1_shortestRing wsX6_bit := goodIn_r _ [10] (by decide +kernel) (by decide +kernel)
set_option maxRecDepth 20000 in
theorem gX1_shortestRing_X6_bit_n31 : GoodIn wsX1_shortestRing (wsX6_bit) := ggX1_shortestRing_X6_bit
set_option maxRecDepth 20000 in
theorem ggX1_shortestRing_X1_targets : GoodIn wsX1_shortestRing wsX1_targets := goodIn_r _ [14, 1, 15, 16, 9, 17, 18, 19, 20, 21] (by decide +kernel) (by decide +kernel)
set_option maxRecDepth 20000 in
theorem gX1_shortestRing_X1_targets : GoodIn wsX1_shortestRing (wsV RX1 55 RX1 yX1_targets wsX1_targets) := goodIn_app (goodIn_of _ (by decide +kernel)) ggX1_shortestRing_X1_targets
set_option maxRecDepth 20000 in
theorem ggX1_shortestRing_X6_contains : GoodIn wsX1_shortestRing wsX6_contains := goodIn_r _ [17] (by decide +kernel) (by decide +kernel)
set_option maxRecDepth 20000 in
theorem gX1_shortestRing_X6_contains_n43 : GoodIn wsX1_shortestRing (wsX6_contains) := ggX1_shortestRing_X6_contains
theorem dX1_shortestRing_0 : decode cX1_shortestRing 0 = .ok (.aload_n 0, 1) := by decide +kernel
theorem dX1_shortestRing_1 : decode cX1_shortestRing 1 = .ok (.iload_n 1, 1) := by decide +kernel
theorem dX1_shortestRing_2 : decode cX1_shortestRing 2 = .ok (.invokevirtual 61, 3) := by decide +kernel
theorem dX1_shortestRing_5 : decode cX1_shortestRing 5 = .ok (.istore_n 2, 1) := by decide +kernel
theorem dX1_shortestRing_6 : decode cX1_shortestRing 6 = .ok (.iload_n 1, 1) := by decide +kernel
theorem dX1_shortestRing_7 : decode cX1_shortestRing 7 = .ok (.invokestatic 31, 3) := by decide +kernel
theorem dX1_shortestRing_10 : decode cX1_shortestRing 10 = .ok (.istore_n 3, 1) := by decide +kernel
theorem dX1_shortestRing_11 : decode cX1_shortestRing 11 = .ok (.iconst 1, 1) := by decide +kernel
theorem dX1_shortestRing_12 : decode cX1_shortestRing 12 = .ok (.istore 4, 2) := by decide +kernel
theorem dX1_shortestRing_14 : decode cX1_shortestRing 14 = .ok (.iload 4, 2) := by decide +kernel
theorem dX1_shortestRing_16 : decode cX1_shortestRing 16 = .ok (.aload_n 0, 1) := by decide +kernel
theorem dX1_shortestRing_17 : decode cX1_shortestRing 17 = .ok (.getfield 21, 3) := by decide +kernel
theorem dX1_shortestRing_20 : decode cX1_shortestRing 20 = .ok (.if_icmp .gt 28, 3) := by decide +kernel
theorem dX1_shortestRing_23 : decode cX1_shortestRing 23 = .ok (.aload_n 0, 1) := by decide +kernel
theorem dX1_shortestRing_24 : decode cX1_shortestRing 24 = .ok (.iload_n 3, 1) := by decide +kernel
theorem dX1_shortestRing_25 : decode cX1_shortestRing 25 = .ok (.invokevirtual 55, 3) := by decide +kernel
theorem dX1_shortestRing_28 : decode cX1_shortestRing 28 = .ok (.iload_n 2, 1) := by decide +kernel
theorem dX1_shortestRing_29 : decode cX1_shortestRing 29 = .ok (.iand, 1) := by decide +kernel
theorem dX1_shortestRing_30 : decode cX1_shortestRing 30 = .ok (.istore_n 3, 1) := by decide +kernel
theorem dX1_shortestRing_31 : decode cX1_shortestRing 31 = .ok (.iload_n 3, 1) := by decide +kernel
theorem dX1_shortestRing_32 : decode cX1_shortestRing 32 = .ok (.iload_n 1, 1) := by decide +kernel
theorem dX1_shortestRing_33 : decode cX1_shortestRing 33 = .ok (.invokestatic 43, 3) := by decide +kernel
theorem dX1_shortestRing_36 : decode cX1_shortestRing 36 = .ok (.ifCond .eq 6, 3) := by decide +kernel
theorem dX1_shortestRing_39 : decode cX1_shortestRing 39 = .ok (.iload 4, 2) := by decide +kernel
theorem dX1_shortestRing_41 : decode cX1_shortestRing 41 = .ok (.ireturn, 1) := by decide +kernel
theorem dX1_shortestRing_42 : decode cX1_shortestRing 42 = .ok (.iinc 4 1, 3) := by decide +kernel
theorem dX1_shortestRing_45 : decode cX1_shortestRing 45 = .ok (.goto (-31), 3) := by decide +kernel
theorem dX1_shortestRing_48 : decode cX1_shortestRing 48 = .ok (.bipush (-5), 2) := by decide +kernel
theorem dX1_shortestRing_50 : decode cX1_shortestRing 50 = .ok (.ireturn, 1) := by decide +kernel
set_option maxRecDepth 20000 in
theorem ggX2_init_X4_init : GoodIn wsX2_init wsX4_init := goodIn_r _ [9, 10, 2, 3, 11, 12, 13, 14, 15, 16, 17, 18, 19, 20, 21, 22, 23, 30, 31, 32, 33, 26, 27, 28, 29] (by decide +kernel) (by decide +kernel)
set_option maxRecDepth 20000 in
theorem gX2_init_X4_init_n17 : GoodIn wsX2_init (wsX4_init) := ggX2_init_X4_init
theorem dX2_init_0 : decode cX2_init 0 = .ok (.aload_n 0, 1) := by decide +kernel
theorem dX2_init_1 : decode cX2_init 1 = .ok (.invokespecial 3, 3) := by decide +kernel
theorem dX2_init_4 : decode cX2_init 4 = .ok (.aload_n 0, 1) := by decide +kernel
theorem dX2_init_5 : decode cX2_init 5 = .ok (.iconst 4, 1) := by decide +kernel
theorem dX2_init_6 : decode cX2_init 6 = .ok (.anewarray 9, 3) := by decide +kernel
theorem dX2_init_9 : decode cX2_init 9 = .ok (.putfield 11, 3) := by decide +kernel
theorem dX2_init_12 : decode cX2_init 12 = .ok (.iconst 0, 1) := by decide +kernel
theorem dX2_init_13 : decode cX2_init 13 = .ok (.istore_n 1, 1) := by decide +kernel
theorem dX2_init_14 : decode cX2_init 14 = .ok (.iload_n 1, 1) := by decide +kernel
theorem dX2_init_15 : decode cX2_init 15 = .ok (.iconst 4, 1) := by decide +kernel
theorem dX2_init_16 : decode cX2_init 16 = .ok (.if_icmp .ge 22, 3) := by decide +kernel
theorem dX2_init_19 : decode cX2_init 19 = .ok (.aload_n 0, 1) := by decide +kernel
theorem dX2_init_20 : decode cX2_init 20 = .ok (.getfield 11, 3) := by decide +kernel
theorem dX2_init_23 : decode cX2_init 23 = .ok (.iload_n 1, 1) := by decide +kernel
theorem dX2_init_24 : decode cX2_init 24 = .ok (.new 9, 3) := by decide +kernel
theorem dX2_init_27 : decode cX2_init 27 = .ok (.dup, 1) := by decide +kernel
theorem dX2_init_28 : decode cX2_init 28 = .ok (.invokespecial 17, 3) := by decide +kernel
theorem dX2_init_31 : decode cX2_init 31 = .ok (.aastore, 1) := by decide +kernel
theorem dX2_init_32 : decode cX2_init 32 = .ok (.iinc 1 1, 3) := by decide +kernel
theorem dX2_init_35 : decode cX2_init 35 = .ok (.goto (-21), 3) := by decide +kernel
theorem dX2_init_38 : decode cX2_init 38 = .ok (.return_, 1) := by decide +kernel
set_option maxRecDepth 20000 in
theorem ggX2_remember_X2_dropOldest : GoodIn wsX2_remember wsX2_dropOldest := goodIn_r _ [7, 2, 1, 31, 32] (by decide +kernel) (by decide +kernel)
set_option maxRecDepth 20000 in
theorem gX2_remember_X2_dropOldest : GoodIn wsX2_remember (wsV RX2 22 RX2 yX2_dropOldest wsX2_dropOldest) := goodIn_app (goodIn_of _ (by decide +kernel)) ggX2_remember_X2_dropOldest
set_option maxRecDepth 20000 in
theorem ggX2_remember_X4_become : GoodIn wsX2_remember wsX4_become := goodIn_r _ [12, 13, 14, 15, 16, 17, 18, 19, 20, 21, 22, 23, 24, 25, 26, 27, 28, 29, 30, 33, 34, 35, 36, 37, 38, 39, 40] (by decide +kernel) (by decide +kernel)
set_option maxRecDepth 20000 in
theorem gX2_remember_X4_become : GoodIn wsX2_remember (wsV RX2 25 RX4 yX4_become wsX4_become) := goodIn_app (goodIn_of _ (by decide +kernel)) ggX2_remember_X4_become
theorem dX2_remember_0 : decode cX2_remember 0 = .ok (.aload_n 0, 1) := by decide +kernel
theorem dX2_remember_1 : decode cX2_remember 1 = .ok (.getfield 18, 3) := by decide +kernel
theorem dX2_remember_4 : decode cX2_remember 4 = .ok (.iconst 4, 1) := by decide +kernel
theorem dX2_remember_5 : decode cX2_remember 5 = .ok (.if_icmp .ne 7, 3) := by decide +kernel
theorem dX2_remember_8 : decode cX2_remember 8 = .ok (.aload_n 0, 1) := by decide +kernel
theorem dX2_remember_9 : decode cX2_remember 9 = .ok (.invokevirtual 22, 3) := by decide +kernel
theorem dX2_remember_12 : decode cX2_remember 12 = .ok (.aload_n 0, 1) := by decide +kernel
theorem dX2_remember_13 : decode cX2_remember 13 = .ok (.getfield 11, 3) := by decide +kernel
theorem dX2_remember_16 : decode cX2_remember 16 = .ok (.aload_n 0, 1) := by decide +kernel
theorem dX2_remember_17 : decode cX2_remember 17 = .ok (.getfield 18, 3) := by decide +kernel
theorem dX2_remember_20 : decode cX2_remember 20 = .ok (.aaload, 1) := by decide +kernel
theorem dX2_remember_21 : decode cX2_remember 21 = .ok (.aload_n 1, 1) := by decide +kernel
theorem dX2_remember_22 : decode cX2_remember 22 = .ok (.invokevirtual 25, 3) := by decide +kernel
theorem dX2_remember_25 : decode cX2_remember 25 = .ok (.aload_n 0, 1) := by decide +kernel
theorem dX2_remember_26 : decode cX2_remember 26 = .ok (.dup, 1) := by decide +kernel
theorem dX2_remember_27 : decode cX2_remember 27 = .ok (.getfield 18, 3) := by decide +kernel
theorem dX2_remember_30 : decode cX2_remember 30 = .ok (.iconst 1, 1) := by decide +kernel
theorem dX2_remember_31 : decode cX2_remember 31 = .ok (.iadd, 1) := by decide +kernel
theorem dX2_remember_32 : decode cX2_remember 32 = .ok (.putfield 18, 3) := by decide +kernel
theorem dX2_remember_35 : decode cX2_remember 35 = .ok (.return_, 1) := by decide +kernel
theorem dX2_dropOldest_0 : decode cX2_dropOldest 0 = .ok (.aload_n 0, 1) := by decide +kernel
theorem dX2_dropOldest_1 : decode cX2_dropOldest 1 = .ok (.getfield 11, 3) := by decide +kernel
theorem dX2_dropOldest_4 : decode cX2_dropOldest 4 = .ok (.iconst 0, 1) := by decide +kernel
theorem dX2_dropOldest_5 : decode cX2_dropOldest 5 = .ok (.aaload, 1) := by decide +kernel
theorem dX2_dropOldest_6 : decode cX2_dropOldest 6 = .ok (.astore_n 1, 1) := by decide +kernel
theorem dX2_dropOldest_7 : decode cX2_dropOldest 7 = .ok (.iconst 1, 1) := by decide +kernel
theorem dX2_dropOldest_8 : decode cX2_dropOldest 8 = .ok (.istore_n 2, 1) := by decide +kernel
theorem dX2_dropOldest_9 : decode cX2_dropOldest 9 = .ok (.iload_n 2, 1) := by decide +kernel
theorem dX2_dropOldest_10 : decode cX2_dropOldest 10 = .ok (.iconst 4, 1) := by decide +kernel
theorem dX2_dropOldest_11 : decode cX2_dropOldest 11 = .ok (.if_icmp .ge 23, 3) := by decide +kernel
theorem dX2_dropOldest_14 : decode cX2_dropOldest 14 = .ok (.aload_n 0, 1) := by decide +kernel
theorem dX2_dropOldest_15 : decode cX2_dropOldest 15 = .ok (.getfield 11, 3) := by decide +kernel
theorem dX2_dropOldest_18 : decode cX2_dropOldest 18 = .ok (.iload_n 2, 1) := by decide +kernel
theorem dX2_dropOldest_19 : decode cX2_dropOldest 19 = .ok (.iconst 1, 1) := by decide +kernel
theorem dX2_dropOldest_20 : decode cX2_dropOldest 20 = .ok (.isub, 1) := by decide +kernel
theorem dX2_dropOldest_21 : decode cX2_dropOldest 21 = .ok (.aload_n 0, 1) := by decide +kernel
theorem dX2_dropOldest_22 : decode cX2_dropOldest 22 = .ok (.getfield 11, 3) := by decide +kernel
theorem dX2_dropOldest_25 : decode cX2_dropOldest 25 = .ok (.iload_n 2, 1) := by decide +kernel
theorem dX2_dropOldest_26 : decode cX2_dropOldest 26 = .ok (.aaload, 1) := by decide +kernel
theorem dX2_dropOldest_27 : decode cX2_dropOldest 27 = .ok (.aastore, 1) := by decide +kernel
theorem dX2_dropOldest_28 : decode cX2_dropOldest 28 = .ok (.iinc 2 1, 3) := by decide +kernel
theorem dX2_dropOldest_31 : decode cX2_dropOldest 31 = .ok (.goto (-22), 3) := by decide +kernel
theorem dX2_dropOldest_34 : decode cX2_dropOldest 34 = .ok (.aload_n 0, 1) := by decide +kernel
theorem dX2_dropOldest_35 : decode cX2_dropOldest 35 = .ok (.getfield 11, 3) := by decide +kernel
theorem dX2_dropOldest_38 : decode cX2_dropOldest 38 = .ok (.iconst 3, 1) := by decide +kernel
theorem dX2_dropOldest_39 : decode cX2_dropOldest 39 = .ok (.aload_n 1, 1) := by decide +kernel
theorem dX2_dropOldest_40 : decode cX2_dropOldest 40 = .ok (.aastore, 1) := by decide +kernel
theorem dX2_dropOldest_41 : decode cX2_dropOldest 41 = .ok (.aload_n 0, 1) := by decide +kernel
theorem dX2_dropOldest_42 : decode cX2_dropOldest 42 = .ok (.dup, 1) := by decide +kernel
theorem dX2_dropOldest_43 : decode cX2_dropOldest 43 = .ok (.getfield 18, 3) := by decide +kernel
theorem dX2_dropOldest_46 : decode cX2_dropOldest 46 = .ok (.iconst 1, 1) := by decide +kernel
theorem dX2_dropOldest_47 : decode cX2_dropOldest 47 = .ok (.isub, 1) := by decide +kernel
theorem dX2_dropOldest_48 : decode cX2_dropOldest 48 = .ok (.putfield 18, 3) := by decide +kernel
theorem dX2_dropOldest_51 : decode cX2_dropOldest 51 = .ok (.return_, 1) := by decide +kernel
set_option maxRecDepth 20000 in
theorem ggX2_takeInto_X4_become : GoodIn wsX2_takeInto wsX4_become := goodIn_r _ [7, 8, 9, 10, 11, 12, 13, 14, 15, 16, 17, 18, 19, 20, 21, 22, 23, 24, 25, 28, 29, 30, 31, 32, 33, 34, 35] (by decide +kernel) (by decide +kernel)
set_option maxRecDepth 20000 in
theorem gX2_takeInto_X4_become : GoodIn wsX2_takeInto (wsV RX2 25 RX4 yX4_become wsX4_become) := goodIn_app (goodIn_of _ (by decide +kernel)) ggX2_takeInto_X4_become
theorem dX2_takeInto_0 : decode cX2_takeInto 0 = .ok (.aload_n 0, 1) := by decide +kernel
theorem dX2_takeInto_1 : decode cX2_takeInto 1 = .ok (.getfield 18, 3) := by decide +kernel
theorem dX2_takeInto_4 : decode cX2_takeInto 4 = .ok (.ifCond .ne 5, 3) := by decide +kernel
theorem dX2_takeInto_7 : decode cX2_takeInto 7 = .ok (.iconst 0, 1) := by decide +kernel
theorem dX2_takeInto_8 : decode cX2_takeInto 8 = .ok (.ireturn, 1) := by decide +kernel
theorem dX2_takeInto_9 : decode cX2_takeInto 9 = .ok (.aload_n 0, 1) := by decide +kernel
theorem dX2_takeInto_10 : decode cX2_takeInto 10 = .ok (.dup, 1) := by decide +kernel
theorem dX2_takeInto_11 : decode cX2_takeInto 11 = .ok (.getfield 18, 3) := by decide +kernel
theorem dX2_takeInto_14 : decode cX2_takeInto 14 = .ok (.iconst 1, 1) := by decide +kernel
theorem dX2_takeInto_15 : decode cX2_takeInto 15 = .ok (.isub, 1) := by decide +kernel
theorem dX2_takeInto_16 : decode cX2_takeInto 16 = .ok (.putfield 18, 3) := by decide +kernel
theorem dX2_takeInto_19 : decode cX2_takeInto 19 = .ok (.aload_n 1, 1) := by decide +kernel
theorem dX2_takeInto_20 : decode cX2_takeInto 20 = .ok (.aload_n 0, 1) := by decide +kernel
theorem dX2_takeInto_21 : decode cX2_takeInto 21 = .ok (.getfield 11, 3) := by decide +kernel
theorem dX2_takeInto_24 : decode cX2_takeInto 24 = .ok (.aload_n 0, 1) := by decide +kernel
theorem dX2_takeInto_25 : decode cX2_takeInto 25 = .ok (.getfield 18, 3) := by decide +kernel
theorem dX2_takeInto_28 : decode cX2_takeInto 28 = .ok (.aaload, 1) := by decide +kernel
theorem dX2_takeInto_29 : decode cX2_takeInto 29 = .ok (.invokevirtual 25, 3) := by decide +kernel
theorem dX2_takeInto_32 : decode cX2_takeInto 32 = .ok (.iconst 1, 1) := by decide +kernel
theorem dX2_takeInto_33 : decode cX2_takeInto 33 = .ok (.ireturn, 1) := by decide +kernel
theorem dX3_init_0 : decode cX3_init 0 = .ok (.aload_n 0, 1) := by decide +kernel
theorem dX3_init_1 : decode cX3_init 1 = .ok (.invokespecial 5, 3) := by decide +kernel
theorem dX3_init_4 : decode cX3_init 4 = .ok (.aload_n 0, 1) := by decide +kernel
theorem dX3_init_5 : decode cX3_init 5 = .ok (.iconst 4, 1) := by decide +kernel
theorem dX3_init_6 : decode cX3_init 6 = .ok (.newarray .int, 2) := by decide +kernel
theorem dX3_init_8 : decode cX3_init 8 = .ok (.putfield 11, 3) := by decide +kernel
theorem dX3_init_11 : decode cX3_init 11 = .ok (.aload_n 0, 1) := by decide +kernel
theorem dX3_init_12 : decode cX3_init 12 = .ok (.bipush 14, 2) := by decide +kernel
theorem dX3_init_14 : decode cX3_init 14 = .ok (.newarray .int, 2) := by decide +kernel
theorem dX3_init_16 : decode cX3_init 16 = .ok (.putfield 15, 3) := by decide +kernel
theorem dX3_init_19 : decode cX3_init 19 = .ok (.return_, 1) := by decide +kernel
set_option maxRecDepth 20000 in
theorem ggX3_find_X3_raise : GoodIn wsX3_find wsX3_raise := goodIn_r _ [11, 2, 3, 12, 13, 14, 10, 15, 16, 17, 18, 19, 20, 21, 22, 23, 24, 25, 26, 27, 28, 29, 30, 31, 32, 4, 1, 36, 37, 38, 39, 33, 34, 35] (by decide +kernel) (by decide +kernel)
set_option maxRecDepth 20000 in
theorem gX3_find_X3_raise : GoodIn wsX3_find (wsV RX3 31 RX3 yX3_raise wsX3_raise) := goodIn_app (goodIn_of _ (by decide +kernel)) ggX3_find_X3_raise
theorem dX3_find_0 : decode cX3_find 0 = .ok (.iconst 0, 1) := by decide +kernel
theorem dX3_find_1 : decode cX3_find 1 = .ok (.istore_n 2, 1) := by decide +kernel
theorem dX3_find_2 : decode cX3_find 2 = .ok (.iload_n 2, 1) := by decide +kernel
theorem dX3_find_3 : decode cX3_find 3 = .ok (.iconst 4, 1) := by decide +kernel
theorem dX3_find_4 : decode cX3_find 4 = .ok (.if_icmp .ge 16, 3) := by decide +kernel
theorem dX3_find_7 : decode cX3_find 7 = .ok (.aload_n 0, 1) := by decide +kernel
theorem dX3_find_8 : decode cX3_find 8 = .ok (.getfield 11, 3) := by decide +kernel
theorem dX3_find_11 : decode cX3_find 11 = .ok (.iload_n 2, 1) := by decide +kernel
theorem dX3_find_12 : decode cX3_find 12 = .ok (.iconst 0, 1) := by decide +kernel
theorem dX3_find_13 : decode cX3_find 13 = .ok (.iastore, 1) := by decide +kernel
theorem dX3_find_14 : decode cX3_find 14 = .ok (.iinc 2 1, 3) := by decide +kernel
theorem dX3_find_17 : decode cX3_find 17 = .ok (.goto (-15), 3) := by decide +kernel
theorem dX3_find_20 : decode cX3_find 20 = .ok (.iconst 0, 1) := by decide +kernel
theorem dX3_find_21 : decode cX3_find 21 = .ok (.istore_n 2, 1) := by decide +kernel
theorem dX3_find_22 : decode cX3_find 22 = .ok (.iload_n 2, 1) := by decide +kernel
theorem dX3_find_23 : decode cX3_find 23 = .ok (.aload_n 1, 1) := by decide +kernel
theorem dX3_find_24 : decode cX3_find 24 = .ok (.getfield 18, 3) := by decide +kernel
theorem dX3_find_27 : decode cX3_find 27 = .ok (.if_icmp .ge 45, 3) := by decide +kernel
theorem dX3_find_30 : decode cX3_find 30 = .ok (.aload_n 0, 1) := by decide +kernel
theorem dX3_find_31 : decode cX3_find 31 = .ok (.getfield 15, 3) := by decide +kernel
theorem dX3_find_34 : decode cX3_find 34 = .ok (.iload_n 2, 1) := by decide +kernel
theorem dX3_find_35 : decode cX3_find 35 = .ok (.iconst 0, 1) := by decide +kernel
theorem dX3_find_36 : decode cX3_find 36 = .ok (.iastore, 1) := by decide +kernel
theorem dX3_find_37 : decode cX3_find 37 = .ok (.aload_n 1, 1) := by decide +kernel
theorem dX3_find_38 : decode cX3_find 38 = .ok (.getfield 24, 3) := by decide +kernel
theorem dX3_find_41 : decode cX3_find 41 = .ok (.iload_n 2, 1) := by decide +kernel
theorem dX3_find_42 : decode cX3_find 42 = .ok (.iaload, 1) := by decide +kernel
theorem dX3_find_43 : decode cX3_find 43 = .ok (.iconst 2, 1) := by decide +kernel
theorem dX3_find_44 : decode cX3_find 44 = .ok (.irem, 1) := by decide +kernel
theorem dX3_find_45 : decode cX3_find 45 = .ok (.iconst 1, 1) := by decide +kernel
theorem dX3_find_46 : decode cX3_find 46 = .ok (.if_icmp .ne 20, 3) := by decide +kernel
theorem dX3_find_49 : decode cX3_find 49 = .ok (.aload_n 0, 1) := by decide +kernel
theorem dX3_find_50 : decode cX3_find 50 = .ok (.getfield 11, 3) := by decide +kernel
theorem dX3_find_53 : decode cX3_find 53 = .ok (.aload_n 1, 1) := by decide +kernel
theorem dX3_find_54 : decode cX3_find 54 = .ok (.getfield 24, 3) := by decide +kernel
theorem dX3_find_57 : decode cX3_find 57 = .ok (.iload_n 2, 1) := by decide +kernel
theorem dX3_find_58 : decode cX3_find 58 = .ok (.iaload, 1) := by decide +kernel
theorem dX3_find_59 : decode cX3_find 59 = .ok (.iconst 2, 1) := by decide +kernel
theorem dX3_find_60 : decode cX3_find 60 = .ok (.idiv, 1) := by decide +kernel
theorem dX3_find_61 : decode cX3_find 61 = .ok (.dup2, 1) := by decide +kernel
theorem dX3_find_62 : decode cX3_find 62 = .ok (.iaload, 1) := by decide +kernel
theorem dX3_find_63 : decode cX3_find 63 = .ok (.iconst 1, 1) := by decide +kernel
theorem dX3_find_64 : decode cX3_find 64 = .ok (.iadd, 1) := by decide +kernel
theorem dX3_find_65 : decode cX3_find 65 = .ok (.iastore, 1) := by decide +kernel
theorem dX3_find_66 : decode cX3_find 66 = .ok (.iinc 2 1, 3) := by decide +kernel
theorem dX3_find_69 : decode cX3_find 69 = .ok (.goto (-47), 3) := by decide +kernel
theorem dX3_find_72 : decode cX3_find 72 = .ok (.aload_n 0, 1) := by decide +kernel
theorem dX3_find_73 : decode cX3_find 73 = .ok (.iconst 1, 1) := by decide +kernel
theorem dX3_find_74 : decode cX3_find 74 = .ok (.putfield 27, 3) := by decide +kernel
theorem dX3_find_77 : decode cX3_find 77 = .ok (.aload_n 0, 1) := by decide +kernel
theorem dX3_find_78 : decode cX3_find 78 = .ok (.getfield 27, 3) := by decide +kernel
theorem dX3_find_81 : decode cX3_find 81 = .ok (.ldc 30, 2) := by decide +kernel
theorem dX3_find_83 : decode cX3_find 83 = .ok (.if_icmp .ge 24, 3) := by decide +kernel
theorem dX3_find_86 : decode cX3_find 86 = .ok (.aload_n 0, 1) := by decide +kernel
theorem dX3_find_87 : decode cX3_find 87 = .ok (.aload_n 1, 1) := by decide +kernel
theorem dX3_find_88 : decode cX3_find 88 = .ok (.invokevirtual 31, 3) := by decide +kernel
theorem dX3_find_91 : decode cX3_find 91 = .ok (.ifCond .eq 16, 3) := by decide +kernel
theorem dX3_find_94 : decode cX3_find 94 = .ok (.aload_n 0, 1) := by decide +kernel
theorem dX3_find_95 : decode cX3_find 95 = .ok (.dup, 1) := by decide +kernel
theorem dX3_find_96 : decode cX3_find 96 = .ok (.getfield 27, 3) := by decide +kernel
theorem dX3_find_99 : decode cX3_find 99 = .ok (.iconst 1, 1) := by decide +kernel
theorem dX3_find_100 : decode cX3_find 100 = .ok (.iadd, 1) := by decide +kernel
theorem dX3_find_101 : decode cX3_find 101 = .ok (.putfield 27, 3) := by decide +kernel
theorem dX3_find_104 : decode cX3_find 104 = .ok (.goto (-27), 3) := by decide +kernel
theorem dX3_find_107 : decode cX3_find 107 = .ok (.return_, 1) := by decide +kernel
set_option maxRecDepth 20000 in
theorem ggX3_raise_X3_asked : GoodIn wsX3_raise wsX3_asked := goodIn_r _ [7, 8, 9, 1, 10, 11, 12, 13, 14, 15, 16, 17, 18, 19, 20, 21, 22, 23, 6, 24, 2, 25, 26, 27, 28, 29, 30, 31, 32, 33] (by decide +kernel) (by decide +kernel)
set_option maxRecDepth 20000 in
theorem gX3_raise_X3_asked : GoodIn wsX3_raise (wsV RX3 35 RX3 yX3_asked wsX3_asked) := goodIn_app (goodIn_of _ (by decide +kernel)) ggX3_raise_X3_asked
theorem dX3_raise_0 : decode cX3_raise 0 = .ok (.iconst 0, 1) := by decide +kernel
theorem dX3_raise_1 : decode cX3_raise 1 = .ok (.istore_n 2, 1) := by decide +kernel
theorem dX3_raise_2 : decode cX3_raise 2 = .ok (.iconst 0, 1) := by decide +kernel
theorem dX3_raise_3 : decode cX3_raise 3 = .ok (.istore_n 3, 1) := by decide +kernel
theorem dX3_raise_4 : decode cX3_raise 4 = .ok (.iload_n 3, 1) := by decide +kernel
theorem dX3_raise_5 : decode cX3_raise 5 = .ok (.aload_n 1, 1) := by decide +kernel
theorem dX3_raise_6 : decode cX3_raise 6 = .ok (.getfield 18, 3) := by decide +kernel
theorem dX3_raise_9 : decode cX3_raise 9 = .ok (.if_icmp .ge 38, 3) := by decide +kernel
theorem dX3_raise_12 : decode cX3_raise 12 = .ok (.aload_n 0, 1) := by decide +kernel
theorem dX3_raise_13 : decode cX3_raise 13 = .ok (.aload_n 1, 1) := by decide +kernel
theorem dX3_raise_14 : decode cX3_raise 14 = .ok (.iload_n 3, 1) := by decide +kernel
theorem dX3_raise_15 : decode cX3_raise 15 = .ok (.invokevirtual 35, 3) := by decide +kernel
theorem dX3_raise_18 : decode cX3_raise 18 = .ok (.istore 4, 2) := by decide +kernel
theorem dX3_raise_20 : decode cX3_raise 20 = .ok (.aload_n 0, 1) := by decide +kernel
theorem dX3_raise_21 : decode cX3_raise 21 = .ok (.getfield 15, 3) := by decide +kernel
theorem dX3_raise_24 : decode cX3_raise 24 = .ok (.iload_n 3, 1) := by decide +kernel
theorem dX3_raise_25 : decode cX3_raise 25 = .ok (.iaload, 1) := by decide +kernel
theorem dX3_raise_26 : decode cX3_raise 26 = .ok (.iload 4, 2) := by decide +kernel
theorem dX3_raise_28 : decode cX3_raise 28 = .ok (.if_icmp .ge 13, 3) := by decide +kernel
theorem dX3_raise_31 : decode cX3_raise 31 = .ok (.aload_n 0, 1) := by decide +kernel
theorem dX3_raise_32 : decode cX3_raise 32 = .ok (.getfield 15, 3) := by decide +kernel
theorem dX3_raise_35 : decode cX3_raise 35 = .ok (.iload_n 3, 1) := by decide +kernel
theorem dX3_raise_36 : decode cX3_raise 36 = .ok (.iload 4, 2) := by decide +kernel
theorem dX3_raise_38 : decode cX3_raise 38 = .ok (.iastore, 1) := by decide +kernel
theorem dX3_raise_39 : decode cX3_raise 39 = .ok (.iconst 1, 1) := by decide +kernel
theorem dX3_raise_40 : decode cX3_raise 40 = .ok (.istore_n 2, 1) := by decide +kernel
theorem dX3_raise_41 : decode cX3_raise 41 = .ok (.iinc 3 1, 3) := by decide +kernel
theorem dX3_raise_44 : decode cX3_raise 44 = .ok (.goto (-40), 3) := by decide +kernel
theorem dX3_raise_47 : decode cX3_raise 47 = .ok (.iload_n 2, 1) := by decide +kernel
theorem dX3_raise_48 : decode cX3_raise 48 = .ok (.ireturn, 1) := by decide +kernel
set_option maxRecDepth 20000 in
theorem ggX3_asked_X6_contains : GoodIn wsX3_asked wsX6_contains := goodIn_r _ [14] (by decide +kernel) (by decide +kernel)
set_option maxRecDepth 20000 in
theorem gX3_asked_X6_contains_n46 : GoodIn wsX3_asked (wsX6_contains) := ggX3_asked_X6_contains
set_option maxRecDepth 20000 in
theorem ggX3_asked_X3_wanted : GoodIn wsX3_asked wsX3_wanted := goodIn_r _ [19, 20, 2, 21, 22, 27, 28, 29, 23, 24, 25, 26] (by decide +kernel) (by decide +kernel)
set_option maxRecDepth 20000 in
theorem gX3_asked_X3_wanted : GoodIn wsX3_asked (wsV RX3 50 RX3 yX3_wanted wsX3_wanted) := goodIn_app (goodIn_of _ (by decide +kernel)) ggX3_asked_X3_wanted
theorem dX3_asked_0 : decode cX3_asked 0 = .ok (.aload_n 1, 1) := by decide +kernel
theorem dX3_asked_1 : decode cX3_asked 1 = .ok (.getfield 39, 3) := by decide +kernel
theorem dX3_asked_4 : decode cX3_asked 4 = .ok (.iload_n 2, 1) := by decide +kernel
theorem dX3_asked_5 : decode cX3_asked 5 = .ok (.iaload, 1) := by decide +kernel
theorem dX3_asked_6 : decode cX3_asked 6 = .ok (.ifCond .ne 7, 3) := by decide +kernel
theorem dX3_asked_9 : decode cX3_asked 9 = .ok (.iconst 1, 1) := by decide +kernel
theorem dX3_asked_10 : decode cX3_asked 10 = .ok (.goto 4, 3) := by decide +kernel
theorem dX3_asked_13 : decode cX3_asked 13 = .ok (.iconst 0, 1) := by decide +kernel
theorem dX3_asked_14 : decode cX3_asked 14 = .ok (.istore_n 3, 1) := by decide +kernel
theorem dX3_asked_15 : decode cX3_asked 15 = .ok (.iload_n 3, 1) := by decide +kernel
theorem dX3_asked_16 : decode cX3_asked 16 = .ok (.ifCond .eq 8, 3) := by decide +kernel
theorem dX3_asked_19 : decode cX3_asked 19 = .ok (.ldc 42, 2) := by decide +kernel
theorem dX3_asked_21 : decode cX3_asked 21 = .ok (.goto 4, 3) := by decide +kernel
theorem dX3_asked_24 : decode cX3_asked 24 = .ok (.iconst 0, 1) := by decide +kernel
theorem dX3_asked_25 : decode cX3_asked 25 = .ok (.istore 4, 2) := by decide +kernel
theorem dX3_asked_27 : decode cX3_asked 27 = .ok (.iconst 0, 1) := by decide +kernel
theorem dX3_asked_28 : decode cX3_asked 28 = .ok (.istore 5, 2) := by decide +kernel
theorem dX3_asked_30 : decode cX3_asked 30 = .ok (.iload 5, 2) := by decide +kernel
theorem dX3_asked_32 : decode cX3_asked 32 = .ok (.aload_n 1, 1) := by decide +kernel
theorem dX3_asked_33 : decode cX3_asked 33 = .ok (.getfield 18, 3) := by decide +kernel
theorem dX3_asked_36 : decode cX3_asked 36 = .ok (.if_icmp .ge 56, 3) := by decide +kernel
theorem dX3_asked_39 : decode cX3_asked 39 = .ok (.aload_n 1, 1) := by decide +kernel
theorem dX3_asked_40 : decode cX3_asked 40 = .ok (.getfield 43, 3) := by decide +kernel
theorem dX3_asked_43 : decode cX3_asked 43 = .ok (.iload_n 2, 1) := by decide +kernel
theorem dX3_asked_44 : decode cX3_asked 44 = .ok (.iaload, 1) := by decide +kernel
theorem dX3_asked_45 : decode cX3_asked 45 = .ok (.iload 5, 2) := by decide +kernel
theorem dX3_asked_47 : decode cX3_asked 47 = .ok (.invokestatic 46, 3) := by decide +kernel
theorem dX3_asked_50 : decode cX3_asked 50 = .ok (.ifCond .eq 36, 3) := by decide +kernel
theorem dX3_asked_53 : decode cX3_asked 53 = .ok (.aload_n 0, 1) := by decide +kernel
theorem dX3_asked_54 : decode cX3_asked 54 = .ok (.aload_n 1, 1) := by decide +kernel
theorem dX3_asked_55 : decode cX3_asked 55 = .ok (.iload_n 2, 1) := by decide +kernel
theorem dX3_asked_56 : decode cX3_asked 56 = .ok (.iload 5, 2) := by decide +kernel
theorem dX3_asked_58 : decode cX3_asked 58 = .ok (.invokevirtual 50, 3) := by decide +kernel
theorem dX3_asked_61 : decode cX3_asked 61 = .ok (.istore 6, 2) := by decide +kernel
theorem dX3_asked_63 : decode cX3_asked 63 = .ok (.iload_n 3, 1) := by decide +kernel
theorem dX3_asked_64 : decode cX3_asked 64 = .ok (.ifCond .eq 13, 3) := by decide +kernel
theorem dX3_asked_67 : decode cX3_asked 67 = .ok (.iload 4, 2) := by decide +kernel
theorem dX3_asked_69 : decode cX3_asked 69 = .ok (.iload 6, 2) := by decide +kernel
theorem dX3_asked_71 : decode cX3_asked 71 = .ok (.invokestatic 54, 3) := by decide +kernel
theorem dX3_asked_74 : decode cX3_asked 74 = .ok (.goto 10, 3) := by decide +kernel
theorem dX3_asked_77 : decode cX3_asked 77 = .ok (.iload 4, 2) := by decide +kernel
theorem dX3_asked_79 : decode cX3_asked 79 = .ok (.iload 6, 2) := by decide +kernel
theorem dX3_asked_81 : decode cX3_asked 81 = .ok (.invokestatic 60, 3) := by decide +kernel
theorem dX3_asked_84 : decode cX3_asked 84 = .ok (.istore 4, 2) := by decide +kernel
theorem dX3_asked_86 : decode cX3_asked 86 = .ok (.iinc 5 1, 3) := by decide +kernel
theorem dX3_asked_89 : decode cX3_asked 89 = .ok (.goto (-59), 3) := by decide +kernel
theorem dX3_asked_92 : decode cX3_asked 92 = .ok (.iload 4, 2) := by decide +kernel
theorem dX3_asked_94 : decode cX3_asked 94 = .ok (.ireturn, 1) := by decide +kernel
theorem dX3_wanted_0 : decode cX3_wanted 0 = .ok (.aload_n 0, 1) := by decide +kernel
theorem dX3_wanted_1 : decode cX3_wanted 1 = .ok (.getfield 15, 3) := by decide +kernel
theorem dX3_wanted_4 : decode cX3_wanted 4 = .ok (.iload_n 3, 1) := by decide +kernel
theorem dX3_wanted_5 : decode cX3_wanted 5 = .ok (.iaload, 1) := by decide +kernel
theorem dX3_wanted_6 : decode cX3_wanted 6 = .ok (.ldc 42, 2) := by decide +kernel
theorem dX3_wanted_8 : decode cX3_wanted 8 = .ok (.if_icmp .ne 6, 3) := by decide +kernel
theorem dX3_wanted_11 : decode cX3_wanted 11 = .ok (.ldc 42, 2) := by decide +kernel
theorem dX3_wanted_13 : decode cX3_wanted 13 = .ok (.ireturn, 1) := by decide +kernel
theorem dX3_wanted_14 : decode cX3_wanted 14 = .ok (.aload_n 1, 1) := by decide +kernel
theorem dX3_wanted_15 : decode cX3_wanted 15 = .ok (.getfield 24, 3) := by decide +kernel
theorem dX3_wanted_18 : decode cX3_wanted 18 = .ok (.iload_n 2, 1) := by decide +kernel
theorem dX3_wanted_19 : decode cX3_wanted 19 = .ok (.iaload, 1) := by decide +kernel
theorem dX3_wanted_20 : decode cX3_wanted 20 = .ok (.istore 4, 2) := by decide +kernel
theorem dX3_wanted_22 : decode cX3_wanted 22 = .ok (.iload 4, 2) := by decide +kernel
theorem dX3_wanted_24 : decode cX3_wanted 24 = .ok (.iconst 1, 1) := by decide +kernel
theorem dX3_wanted_25 : decode cX3_wanted 25 = .ok (.iadd, 1) := by decide +kernel
theorem dX3_wanted_26 : decode cX3_wanted 26 = .ok (.iconst 2, 1) := by decide +kernel
theorem dX3_wanted_27 : decode cX3_wanted 27 = .ok (.idiv, 1) := by decide +kernel
theorem dX3_wanted_28 : decode cX3_wanted 28 = .ok (.iconst 1, 1) := by decide +kernel
theorem dX3_wanted_29 : decode cX3_wanted 29 = .ok (.isub, 1) := by decide +kernel
theorem dX3_wanted_30 : decode cX3_wanted 30 = .ok (.istore 5, 2) := by decide +kernel
theorem dX3_wanted_32 : decode cX3_wanted 32 = .ok (.iconst 4, 1) := by decide +kernel
theorem dX3_wanted_33 : decode cX3_wanted 33 = .ok (.iconst 3, 1) := by decide +kernel
theorem dX3_wanted_34 : decode cX3_wanted 34 = .ok (.iload 5, 2) := by decide +kernel
theorem dX3_wanted_36 : decode cX3_wanted 36 = .ok (.isub, 1) := by decide +kernel
theorem dX3_wanted_37 : decode cX3_wanted 37 = .ok (.imul, 1) := by decide +kernel
theorem dX3_wanted_38 : decode cX3_wanted 38 = .ok (.istore 6, 2) := by decide +kernel
theorem dX3_wanted_40 : decode cX3_wanted 40 = .ok (.aload_n 0, 1) := by decide +kernel
theorem dX3_wanted_41 : decode cX3_wanted 41 = .ok (.getfield 15, 3) := by decide +kernel
theorem dX3_wanted_44 : decode cX3_wanted 44 = .ok (.iload_n 3, 1) := by decide +kernel
theorem dX3_wanted_45 : decode cX3_wanted 45 = .ok (.iaload, 1) := by decide +kernel
theorem dX3_wanted_46 : decode cX3_wanted 46 = .ok (.iload 6, 2) := by decide +kernel
theorem dX3_wanted_48 : decode cX3_wanted 48 = .ok (.ishr, 1) := by decide +kernel
theorem dX3_wanted_49 : decode cX3_wanted 49 = .ok (.iload 6, 2) := by decide +kernel
theorem dX3_wanted_51 : decode cX3_wanted 51 = .ok (.ishl, 1) := by decide +kernel
theorem dX3_wanted_52 : decode cX3_wanted 52 = .ok (.istore 7, 2) := by decide +kernel
theorem dX3_wanted_54 : decode cX3_wanted 54 = .ok (.iload 4, 2) := by decide +kernel
theorem dX3_wanted_56 : decode cX3_wanted 56 = .ok (.iconst 2, 1) := by decide +kernel
theorem dX3_wanted_57 : decode cX3_wanted 57 = .ok (.irem, 1) := by decide +kernel
theorem dX3_wanted_58 : decode cX3_wanted 58 = .ok (.ifCond .ne 6, 3) := by decide +kernel
theorem dX3_wanted_61 : decode cX3_wanted 61 = .ok (.iload 7, 2) := by decide +kernel
theorem dX3_wanted_63 : decode cX3_wanted 63 = .ok (.ireturn, 1) := by decide +kernel
theorem dX3_wanted_64 : decode cX3_wanted 64 = .ok (.iload 5, 2) := by decide +kernel
theorem dX3_wanted_66 : decode cX3_wanted 66 = .ok (.istore 8, 2) := by decide +kernel
theorem dX3_wanted_68 : decode cX3_wanted 68 = .ok (.iload 8, 2) := by decide +kernel
theorem dX3_wanted_70 : decode cX3_wanted 70 = .ok (.ifCond .lt 52, 3) := by decide +kernel
theorem dX3_wanted_73 : decode cX3_wanted 73 = .ok (.iload 7, 2) := by decide +kernel
theorem dX3_wanted_75 : decode cX3_wanted 75 = .ok (.iload 6, 2) := by decide +kernel
theorem dX3_wanted_77 : decode cX3_wanted 77 = .ok (.ishr, 1) := by decide +kernel
theorem dX3_wanted_78 : decode cX3_wanted 78 = .ok (.bipush 15, 2) := by decide +kernel
theorem dX3_wanted_80 : decode cX3_wanted 80 = .ok (.iand, 1) := by decide +kernel
theorem dX3_wanted_81 : decode cX3_wanted 81 = .ok (.istore 9, 2) := by decide +kernel
theorem dX3_wanted_83 : decode cX3_wanted 83 = .ok (.iload 9, 2) := by decide +kernel
theorem dX3_wanted_85 : decode cX3_wanted 85 = .ok (.aload_n 0, 1) := by decide +kernel
theorem dX3_wanted_86 : decode cX3_wanted 86 = .ok (.getfield 11, 3) := by decide +kernel
theorem dX3_wanted_89 : decode cX3_wanted 89 = .ok (.iload 8, 2) := by decide +kernel
theorem dX3_wanted_91 : decode cX3_wanted 91 = .ok (.iaload, 1) := by decide +kernel
theorem dX3_wanted_92 : decode cX3_wanted 92 = .ok (.if_icmp .ge 11, 3) := by decide +kernel
theorem dX3_wanted_95 : decode cX3_wanted 95 = .ok (.iload 7, 2) := by decide +kernel
theorem dX3_wanted_97 : decode cX3_wanted 97 = .ok (.iconst 1, 1) := by decide +kernel
theorem dX3_wanted_98 : decode cX3_wanted 98 = .ok (.iload 6, 2) := by decide +kernel
theorem dX3_wanted_100 : decode cX3_wanted 100 = .ok (.ishl, 1) := by decide +kernel
theorem dX3_wanted_101 : decode cX3_wanted 101 = .ok (.iadd, 1) := by decide +kernel
theorem dX3_wanted_102 : decode cX3_wanted 102 = .ok (.ireturn, 1) := by decide +kernel
theorem dX3_wanted_103 : decode cX3_wanted 103 = .ok (.iload 7, 2) := by decide +kernel
theorem dX3_wanted_105 : decode cX3_wanted 105 = .ok (.iload 9, 2) := by decide +kernel
theorem dX3_wanted_107 : decode cX3_wanted 107 = .ok (.iload 6, 2) := by decide +kernel
theorem dX3_wanted_109 : decode cX3_wanted 109 = .ok (.ishl, 1) := by decide +kernel
theorem dX3_wanted_110 : decode cX3_wanted 110 = .ok (.isub, 1) := by decide +kernel
theorem dX3_wanted_111 : decode cX3_wanted 111 = .ok (.istore 7, 2) := by decide +kernel
theorem dX3_wanted_113 : decode cX3_wanted 113 = .ok (.iinc 6 4, 3) := by decide +kernel
theorem dX3_wanted_116 : decode cX3_wanted 116 = .ok (.iinc 8 (-1), 3) := by decide +kernel
theorem dX3_wanted_119 : decode cX3_wanted 119 = .ok (.goto (-51), 3) := by decide +kernel
theorem dX3_wanted_122 : decode cX3_wanted 122 = .ok (.ldc 42, 2) := by decide +kernel
theorem dX3_wanted_124 : decode cX3_wanted 124 = .ok (.ireturn, 1) := by decide +kernel
theorem dX3_isLost_0 : decode cX3_isLost 0 = .ok (.aload_n 0, 1) := by decide +kernel
theorem dX3_isLost_1 : decode cX3_isLost 1 = .ok (.getfield 15, 3) := by decide +kernel
theorem dX3_isLost_4 : decode cX3_isLost 4 = .ok (.iload_n 1, 1) := by decide +kernel
theorem dX3_isLost_5 : decode cX3_isLost 5 = .ok (.iaload, 1) := by decide +kernel
theorem dX3_isLost_6 : decode cX3_isLost 6 = .ok (.ldc 42, 2) := by decide +kernel
theorem dX3_isLost_8 : decode cX3_isLost 8 = .ok (.if_icmp .ne 7, 3) := by decide +kernel
theorem dX3_isLost_11 : decode cX3_isLost 11 = .ok (.iconst 1, 1) := by decide +kernel
theorem dX3_isLost_12 : decode cX3_isLost 12 = .ok (.goto 4, 3) := by decide +kernel
theorem dX3_isLost_15 : decode cX3_isLost 15 = .ok (.iconst 0, 1) := by decide +kernel
theorem dX3_isLost_16 : decode cX3_isLost 16 = .ok (.ireturn, 1) := by decide +kernel
set_option maxRecDepth 20000 in
theorem ggX3_winner_X3_isLost : GoodIn wsX3_winner wsX3_isLost := goodIn_r _ [5, 6, 7, 8, 9, 10] (by decide +kernel) (by decide +kernel)
set_option maxRecDepth 20000 in
theorem gX3_winner_X3_isLost : GoodIn wsX3_winner (wsV RX3 63 RX3 yX3_isLost wsX3_isLost) := goodIn_app (goodIn_of _ (by decide +kernel)) ggX3_winner_X3_isLost
theorem dX3_winner_0 : decode cX3_winner 0 = .ok (.aload_n 0, 1) := by decide +kernel
theorem dX3_winner_1 : decode cX3_winner 1 = .ok (.iload_n 1, 1) := by decide +kernel
theorem dX3_winner_2 : decode cX3_winner 2 = .ok (.invokevirtual 63, 3) := by decide +kernel
theorem dX3_winner_5 : decode cX3_winner 5 = .ok (.ifCond .eq 7, 3) := by decide +kernel
theorem dX3_winner_8 : decode cX3_winner 8 = .ok (.iconst 1, 1) := by decide +kernel
theorem dX3_winner_9 : decode cX3_winner 9 = .ok (.goto 4, 3) := by decide +kernel
theorem dX3_winner_12 : decode cX3_winner 12 = .ok (.iconst 0, 1) := by decide +kernel
theorem dX3_winner_13 : decode cX3_winner 13 = .ok (.ireturn, 1) := by decide +kernel
theorem dX3_number_0 : decode cX3_number 0 = .ok (.aload_n 0, 1) := by decide +kernel
theorem dX3_number_1 : decode cX3_number 1 = .ok (.getfield 15, 3) := by decide +kernel
theorem dX3_number_4 : decode cX3_number 4 = .ok (.iload_n 1, 1) := by decide +kernel
theorem dX3_number_5 : decode cX3_number 5 = .ok (.iaload, 1) := by decide +kernel
theorem dX3_number_6 : decode cX3_number 6 = .ok (.iconst 4, 1) := by decide +kernel
theorem dX3_number_7 : decode cX3_number 7 = .ok (.iconst 3, 1) := by decide +kernel
theorem dX3_number_8 : decode cX3_number 8 = .ok (.iload_n 2, 1) := by decide +kernel
theorem dX3_number_9 : decode cX3_number 9 = .ok (.iconst 2, 1) := by decide +kernel
theorem dX3_number_10 : decode cX3_number 10 = .ok (.idiv, 1) := by decide +kernel
theorem dX3_number_11 : decode cX3_number 11 = .ok (.isub, 1) := by decide +kernel
theorem dX3_number_12 : decode cX3_number 12 = .ok (.imul, 1) := by decide +kernel
theorem dX3_number_13 : decode cX3_number 13 = .ok (.ishr, 1) := by decide +kernel
theorem dX3_number_14 : decode cX3_number 14 = .ok (.bipush 15, 2) := by decide +kernel
theorem dX3_number_16 : decode cX3_number 16 = .ok (.iand, 1) := by decide +kernel
theorem dX3_number_17 : decode cX3_number 17 = .ok (.ireturn, 1) := by decide +kernel
set_option maxRecDepth 20000 in
theorem ggX3_bestArrow_X1_leads : GoodIn wsX3_bestArrow wsX1_leads := goodIn_r _ [8, 9, 10, 11, 12, 7, 13, 14, 15, 16, 17, 26, 27, 28, 29] (by decide +kernel) (by decide +kernel)
set_option maxRecDepth 20000 in
theorem gX3_bestArrow_X1_leads : GoodIn wsX3_bestArrow (wsV RX3 67 RX1 yX1_leads wsX1_leads) := goodIn_app (goodIn_of _ (by decide +kernel)) ggX3_bestArrow_X1_leads
set_option maxRecDepth 20000 in
theorem ggX3_bestArrow_X3_wanted : GoodIn wsX3_bestArrow wsX3_wanted := goodIn_r _ [22, 23, 1, 24, 25, 30, 31, 32, 26, 27, 28, 29] (by decide +kernel) (by decide +kernel)
set_option maxRecDepth 20000 in
theorem gX3_bestArrow_X3_wanted : GoodIn wsX3_bestArrow (wsV RX3 50 RX3 yX3_wanted wsX3_wanted) := goodIn_app (goodIn_of _ (by decide +kernel)) ggX3_bestArrow_X3_wanted
theorem dX3_bestArrow_0 : decode cX3_bestArrow 0 = .ok (.bipush 14, 2) := by decide +kernel
theorem dX3_bestArrow_2 : decode cX3_bestArrow 2 = .ok (.istore_n 3, 1) := by decide +kernel
theorem dX3_bestArrow_3 : decode cX3_bestArrow 3 = .ok (.ldc 42, 2) := by decide +kernel
theorem dX3_bestArrow_5 : decode cX3_bestArrow 5 = .ok (.istore 4, 2) := by decide +kernel
theorem dX3_bestArrow_7 : decode cX3_bestArrow 7 = .ok (.iconst 0, 1) := by decide +kernel
theorem dX3_bestArrow_8 : decode cX3_bestArrow 8 = .ok (.istore 5, 2) := by decide +kernel
theorem dX3_bestArrow_10 : decode cX3_bestArrow 10 = .ok (.iload 5, 2) := by decide +kernel
theorem dX3_bestArrow_12 : decode cX3_bestArrow 12 = .ok (.aload_n 1, 1) := by decide +kernel
theorem dX3_bestArrow_13 : decode cX3_bestArrow 13 = .ok (.getfield 18, 3) := by decide +kernel
theorem dX3_bestArrow_16 : decode cX3_bestArrow 16 = .ok (.if_icmp .ge 48, 3) := by decide +kernel
theorem dX3_bestArrow_19 : decode cX3_bestArrow 19 = .ok (.aload_n 1, 1) := by decide +kernel
theorem dX3_bestArrow_20 : decode cX3_bestArrow 20 = .ok (.iload_n 2, 1) := by decide +kernel
theorem dX3_bestArrow_21 : decode cX3_bestArrow 21 = .ok (.iload 5, 2) := by decide +kernel
theorem dX3_bestArrow_23 : decode cX3_bestArrow 23 = .ok (.invokevirtual 67, 3) := by decide +kernel
theorem dX3_bestArrow_26 : decode cX3_bestArrow 26 = .ok (.ifCond .eq 14, 3) := by decide +kernel
theorem dX3_bestArrow_29 : decode cX3_bestArrow 29 = .ok (.aload_n 0, 1) := by decide +kernel
theorem dX3_bestArrow_30 : decode cX3_bestArrow 30 = .ok (.aload_n 1, 1) := by decide +kernel
theorem dX3_bestArrow_31 : decode cX3_bestArrow 31 = .ok (.iload_n 2, 1) := by decide +kernel
theorem dX3_bestArrow_32 : decode cX3_bestArrow 32 = .ok (.iload 5, 2) := by decide +kernel
theorem dX3_bestArrow_34 : decode cX3_bestArrow 34 = .ok (.invokevirtual 50, 3) := by decide +kernel
theorem dX3_bestArrow_37 : decode cX3_bestArrow 37 = .ok (.goto 5, 3) := by decide +kernel
theorem dX3_bestArrow_40 : decode cX3_bestArrow 40 = .ok (.ldc 42, 2) := by decide +kernel
theorem dX3_bestArrow_42 : decode cX3_bestArrow 42 = .ok (.istore 6, 2) := by decide +kernel
theorem dX3_bestArrow_44 : decode cX3_bestArrow 44 = .ok (.iload 6, 2) := by decide +kernel
theorem dX3_bestArrow_46 : decode cX3_bestArrow 46 = .ok (.iload 4, 2) := by decide +kernel
theorem dX3_bestArrow_48 : decode cX3_bestArrow 48 = .ok (.if_icmp .ge 10, 3) := by decide +kernel
theorem dX3_bestArrow_51 : decode cX3_bestArrow 51 = .ok (.iload 5, 2) := by decide +kernel
theorem dX3_bestArrow_53 : decode cX3_bestArrow 53 = .ok (.istore_n 3, 1) := by decide +kernel
theorem dX3_bestArrow_54 : decode cX3_bestArrow 54 = .ok (.iload 6, 2) := by decide +kernel
theorem dX3_bestArrow_56 : decode cX3_bestArrow 56 = .ok (.istore 4, 2) := by decide +kernel
theorem dX3_bestArrow_58 : decode cX3_bestArrow 58 = .ok (.iinc 5 1, 3) := by decide +kernel
theorem dX3_bestArrow_61 : decode cX3_bestArrow 61 = .ok (.goto (-51), 3) := by decide +kernel
theorem dX3_bestArrow_64 : decode cX3_bestArrow 64 = .ok (.aload_n 1, 1) := by decide +kernel
theorem dX3_bestArrow_65 : decode cX3_bestArrow 65 = .ok (.getfield 39, 3) := by decide +kernel
theorem dX3_bestArrow_68 : decode cX3_bestArrow 68 = .ok (.iload_n 2, 1) := by decide +kernel
theorem dX3_bestArrow_69 : decode cX3_bestArrow 69 = .ok (.iaload, 1) := by decide +kernel
theorem dX3_bestArrow_70 : decode cX3_bestArrow 70 = .ok (.ifCond .ne 7, 3) := by decide +kernel
theorem dX3_bestArrow_73 : decode cX3_bestArrow 73 = .ok (.iload_n 3, 1) := by decide +kernel
theorem dX3_bestArrow_74 : decode cX3_bestArrow 74 = .ok (.goto 5, 3) := by decide +kernel
theorem dX3_bestArrow_77 : decode cX3_bestArrow 77 = .ok (.bipush 14, 2) := by decide +kernel
theorem dX3_bestArrow_79 : decode cX3_bestArrow 79 = .ok (.ireturn, 1) := by decide +kernel
set_option maxRecDepth 20000 in
theorem ggX4_init_X1_init : GoodIn wsX4_init wsX1_init := goodIn_r _ [12, 13, 2, 3, 8, 14, 15, 16, 17, 18, 19, 20] (by decide +kernel) (by decide +kernel)
set_option maxRecDepth 20000 in
theorem gX4_init_X1_init_n11 : GoodIn wsX4_init (wsX1_init) := ggX4_init_X1_init
theorem dX4_init_0 : decode cX4_init 0 = .ok (.aload_n 0, 1) := by decide +kernel
theorem dX4_init_1 : decode cX4_init 1 = .ok (.invokespecial 3, 3) := by decide +kernel
theorem dX4_init_4 : decode cX4_init 4 = .ok (.aload_n 0, 1) := by decide +kernel
theorem dX4_init_5 : decode cX4_init 5 = .ok (.new 9, 3) := by decide +kernel
theorem dX4_init_8 : decode cX4_init 8 = .ok (.dup, 1) := by decide +kernel
theorem dX4_init_9 : decode cX4_init 9 = .ok (.invokespecial 11, 3) := by decide +kernel
theorem dX4_init_12 : decode cX4_init 12 = .ok (.putfield 12, 3) := by decide +kernel
theorem dX4_init_15 : decode cX4_init 15 = .ok (.aload_n 0, 1) := by decide +kernel
theorem dX4_init_16 : decode cX4_init 16 = .ok (.bipush 14, 2) := by decide +kernel
theorem dX4_init_18 : decode cX4_init 18 = .ok (.newarray .int, 2) := by decide +kernel
theorem dX4_init_20 : decode cX4_init 20 = .ok (.putfield 18, 3) := by decide +kernel
theorem dX4_init_23 : decode cX4_init 23 = .ok (.aload_n 0, 1) := by decide +kernel
theorem dX4_init_24 : decode cX4_init 24 = .ok (.bipush 14, 2) := by decide +kernel
theorem dX4_init_26 : decode cX4_init 26 = .ok (.putfield 22, 3) := by decide +kernel
theorem dX4_init_29 : decode cX4_init 29 = .ok (.return_, 1) := by decide +kernel
set_option maxRecDepth 20000 in
theorem ggX4_become_X1_become : GoodIn wsX4_become wsX1_become := goodIn_r _ [13, 14, 15, 16, 4, 5, 6, 17, 18, 23, 24, 25, 26] (by decide +kernel) (by decide +kernel)
set_option maxRecDepth 20000 in
theorem gX4_become_X1_become : GoodIn wsX4_become (wsV RX4 26 RX1 yX1_become wsX1_become) := goodIn_app (goodIn_of _ (by decide +kernel)) ggX4_become_X1_become
theorem dX4_become_0 : decode cX4_become 0 = .ok (.aload_n 0, 1) := by decide +kernel
theorem dX4_become_1 : decode cX4_become 1 = .ok (.getfield 12, 3) := by decide +kernel
theorem dX4_become_4 : decode cX4_become 4 = .ok (.aload_n 1, 1) := by decide +kernel
theorem dX4_become_5 : decode cX4_become 5 = .ok (.getfield 12, 3) := by decide +kernel
theorem dX4_become_8 : decode cX4_become 8 = .ok (.invokevirtual 26, 3) := by decide +kernel
theorem dX4_become_11 : decode cX4_become 11 = .ok (.aload_n 1, 1) := by decide +kernel
theorem dX4_become_12 : decode cX4_become 12 = .ok (.getfield 18, 3) := by decide +kernel
theorem dX4_become_15 : decode cX4_become 15 = .ok (.iconst 0, 1) := by decide +kernel
theorem dX4_become_16 : decode cX4_become 16 = .ok (.aload_n 0, 1) := by decide +kernel
theorem dX4_become_17 : decode cX4_become 17 = .ok (.getfield 18, 3) := by decide +kernel
theorem dX4_become_20 : decode cX4_become 20 = .ok (.iconst 0, 1) := by decide +kernel
theorem dX4_become_21 : decode cX4_become 21 = .ok (.bipush 14, 2) := by decide +kernel
theorem dX4_become_23 : decode cX4_become 23 = .ok (.invokestatic 30, 3) := by decide +kernel
theorem dX4_become_26 : decode cX4_become 26 = .ok (.aload_n 0, 1) := by decide +kernel
theorem dX4_become_27 : decode cX4_become 27 = .ok (.aload_n 1, 1) := by decide +kernel
theorem dX4_become_28 : decode cX4_become 28 = .ok (.getfield 22, 3) := by decide +kernel
theorem dX4_become_31 : decode cX4_become 31 = .ok (.putfield 22, 3) := by decide +kernel
theorem dX4_become_34 : decode cX4_become 34 = .ok (.aload_n 0, 1) := by decide +kernel
theorem dX4_become_35 : decode cX4_become 35 = .ok (.aload_n 1, 1) := by decide +kernel
theorem dX4_become_36 : decode cX4_become 36 = .ok (.getfield 36, 3) := by decide +kernel
theorem dX4_become_39 : decode cX4_become 39 = .ok (.putfield 36, 3) := by decide +kernel
theorem dX4_become_42 : decode cX4_become 42 = .ok (.return_, 1) := by decide +kernel
theorem dX4_append_0 : decode cX4_append 0 = .ok (.aload_n 0, 1) := by decide +kernel
theorem dX4_append_1 : decode cX4_append 1 = .ok (.getfield 12, 3) := by decide +kernel
theorem dX4_append_4 : decode cX4_append 4 = .ok (.getfield 39, 3) := by decide +kernel
theorem dX4_append_7 : decode cX4_append 7 = .ok (.istore_n 3, 1) := by decide +kernel
theorem dX4_append_8 : decode cX4_append 8 = .ok (.aload_n 0, 1) := by decide +kernel
theorem dX4_append_9 : decode cX4_append 9 = .ok (.getfield 12, 3) := by decide +kernel
theorem dX4_append_12 : decode cX4_append 12 = .ok (.getfield 42, 3) := by decide +kernel
theorem dX4_append_15 : decode cX4_append 15 = .ok (.iload_n 3, 1) := by decide +kernel
theorem dX4_append_16 : decode cX4_append 16 = .ok (.iload_n 1, 1) := by decide +kernel
theorem dX4_append_17 : decode cX4_append 17 = .ok (.iastore, 1) := by decide +kernel
theorem dX4_append_18 : decode cX4_append 18 = .ok (.aload_n 0, 1) := by decide +kernel
theorem dX4_append_19 : decode cX4_append 19 = .ok (.getfield 12, 3) := by decide +kernel
theorem dX4_append_22 : decode cX4_append 22 = .ok (.getfield 45, 3) := by decide +kernel
theorem dX4_append_25 : decode cX4_append 25 = .ok (.iload_n 3, 1) := by decide +kernel
theorem dX4_append_26 : decode cX4_append 26 = .ok (.iload_n 2, 1) := by decide +kernel
theorem dX4_append_27 : decode cX4_append 27 = .ok (.iastore, 1) := by decide +kernel
theorem dX4_append_28 : decode cX4_append 28 = .ok (.aload_n 0, 1) := by decide +kernel
theorem dX4_append_29 : decode cX4_append 29 = .ok (.getfield 12, 3) := by decide +kernel
theorem dX4_append_32 : decode cX4_append 32 = .ok (.getfield 48, 3) := by decide +kernel
theorem dX4_append_35 : decode cX4_append 35 = .ok (.iload_n 3, 1) := by decide +kernel
theorem dX4_append_36 : decode cX4_append 36 = .ok (.iconst 0, 1) := by decide +kernel
theorem dX4_append_37 : decode cX4_append 37 = .ok (.iastore, 1) := by decide +kernel
theorem dX4_append_38 : decode cX4_append 38 = .ok (.aload_n 0, 1) := by decide +kernel
theorem dX4_append_39 : decode cX4_append 39 = .ok (.getfield 18, 3) := by decide +kernel
theorem dX4_append_42 : decode cX4_append 42 = .ok (.iload_n 3, 1) := by decide +kernel
theorem dX4_append_43 : decode cX4_append 43 = .ok (.bipush 14, 2) := by decide +kernel
theorem dX4_append_45 : decode cX4_append 45 = .ok (.iastore, 1) := by decide +kernel
theorem dX4_append_46 : decode cX4_append 46 = .ok (.aload_n 0, 1) := by decide +kernel
theorem dX4_append_47 : decode cX4_append 47 = .ok (.getfield 12, 3) := by decide +kernel
theorem dX4_append_50 : decode cX4_append 50 = .ok (.dup, 1) := by decide +kernel
theorem dX4_append_51 : decode cX4_append 51 = .ok (.getfield 39, 3) := by decide +kernel
theorem dX4_append_54 : decode cX4_append 54 = .ok (.iconst 1, 1) := by decide +kernel
theorem dX4_append_55 : decode cX4_append 55 = .ok (.iadd, 1) := by decide +kernel
theorem dX4_append_56 : decode cX4_append 56 = .ok (.putfield 39, 3) := by decide +kernel
theorem dX4_append_59 : decode cX4_append 59 = .ok (.iload_n 3, 1) := by decide +kernel
theorem dX4_append_60 : decode cX4_append 60 = .ok (.ireturn, 1) := by decide +kernel
theorem dX4_choiceCount_0 : decode cX4_choiceCount 0 = .ok (.iconst 0, 1) := by decide +kernel
theorem dX4_choiceCount_1 : decode cX4_choiceCount 1 = .ok (.istore_n 1, 1) := by decide +kernel
theorem dX4_choiceCount_2 : decode cX4_choiceCount 2 = .ok (.iconst 0, 1) := by decide +kernel
theorem dX4_choiceCount_3 : decode cX4_choiceCount 3 = .ok (.istore_n 2, 1) := by decide +kernel
theorem dX4_choiceCount_4 : decode cX4_choiceCount 4 = .ok (.iload_n 2, 1) := by decide +kernel
theorem dX4_choiceCount_5 : decode cX4_choiceCount 5 = .ok (.aload_n 0, 1) := by decide +kernel
theorem dX4_choiceCount_6 : decode cX4_choiceCount 6 = .ok (.getfield 12, 3) := by decide +kernel
theorem dX4_choiceCount_9 : decode cX4_choiceCount 9 = .ok (.getfield 39, 3) := by decide +kernel
theorem dX4_choiceCount_12 : decode cX4_choiceCount 12 = .ok (.if_icmp .ge 28, 3) := by decide +kernel
theorem dX4_choiceCount_15 : decode cX4_choiceCount 15 = .ok (.iload_n 1, 1) := by decide +kernel
theorem dX4_choiceCount_16 : decode cX4_choiceCount 16 = .ok (.aload_n 0, 1) := by decide +kernel
theorem dX4_choiceCount_17 : decode cX4_choiceCount 17 = .ok (.getfield 18, 3) := by decide +kernel
theorem dX4_choiceCount_20 : decode cX4_choiceCount 20 = .ok (.iload_n 2, 1) := by decide +kernel
theorem dX4_choiceCount_21 : decode cX4_choiceCount 21 = .ok (.iaload, 1) := by decide +kernel
theorem dX4_choiceCount_22 : decode cX4_choiceCount 22 = .ok (.bipush 14, 2) := by decide +kernel
theorem dX4_choiceCount_24 : decode cX4_choiceCount 24 = .ok (.if_icmp .ne 7, 3) := by decide +kernel
theorem dX4_choiceCount_27 : decode cX4_choiceCount 27 = .ok (.iconst 0, 1) := by decide +kernel
theorem dX4_choiceCount_28 : decode cX4_choiceCount 28 = .ok (.goto 4, 3) := by decide +kernel
theorem dX4_choiceCount_31 : decode cX4_choiceCount 31 = .ok (.iconst 1, 1) := by decide +kernel
theorem dX4_choiceCount_32 : decode cX4_choiceCount 32 = .ok (.iadd, 1) := by decide +kernel
theorem dX4_choiceCount_33 : decode cX4_choiceCount 33 = .ok (.istore_n 1, 1) := by decide +kernel
theorem dX4_choiceCount_34 : decode cX4_choiceCount 34 = .ok (.iinc 2 1, 3) := by decide +kernel
theorem dX4_choiceCount_37 : decode cX4_choiceCount 37 = .ok (.goto (-33), 3) := by decide +kernel
theorem dX4_choiceCount_40 : decode cX4_choiceCount 40 = .ok (.iload_n 1, 1) := by decide +kernel
theorem dX4_choiceCount_41 : decode cX4_choiceCount 41 = .ok (.ireturn, 1) := by decide +kernel
theorem dX5_init_0 : decode cX5_init 0 = .ok (.aload_n 0, 1) := by decide +kernel
theorem dX5_init_1 : decode cX5_init 1 = .ok (.invokespecial 3, 3) := by decide +kernel
theorem dX5_init_4 : decode cX5_init 4 = .ok (.aload_n 0, 1) := by decide +kernel
theorem dX5_init_5 : decode cX5_init 5 = .ok (.bipush 14, 2) := by decide +kernel
theorem dX5_init_7 : decode cX5_init 7 = .ok (.newarray .int, 2) := by decide +kernel
theorem dX5_init_9 : decode cX5_init 9 = .ok (.putfield 9, 3) := by decide +kernel
theorem dX5_init_12 : decode cX5_init 12 = .ok (.return_, 1) := by decide +kernel
theorem dX5_wayFrom_0 : decode cX5_wayFrom 0 = .ok (.iload_n 1, 1) := by decide +kernel
theorem dX5_wayFrom_1 : decode cX5_wayFrom 1 = .ok (.ifCond .lt 18, 3) := by decide +kernel
theorem dX5_wayFrom_4 : decode cX5_wayFrom 4 = .ok (.iload_n 1, 1) := by decide +kernel
theorem dX5_wayFrom_5 : decode cX5_wayFrom 5 = .ok (.bipush 14, 2) := by decide +kernel
theorem dX5_wayFrom_7 : decode cX5_wayFrom 7 = .ok (.if_icmp .ge 12, 3) := by decide +kernel
theorem dX5_wayFrom_10 : decode cX5_wayFrom 10 = .ok (.aload_n 0, 1) := by decide +kernel
theorem dX5_wayFrom_11 : decode cX5_wayFrom 11 = .ok (.getfield 9, 3) := by decide +kernel
theorem dX5_wayFrom_14 : decode cX5_wayFrom 14 = .ok (.iload_n 1, 1) := by decide +kernel
theorem dX5_wayFrom_15 : decode cX5_wayFrom 15 = .ok (.iaload, 1) := by decide +kernel
theorem dX5_wayFrom_16 : decode cX5_wayFrom 16 = .ok (.goto 5, 3) := by decide +kernel
theorem dX5_wayFrom_19 : decode cX5_wayFrom 19 = .ok (.bipush 14, 2) := by decide +kernel
theorem dX5_wayFrom_21 : decode cX5_wayFrom 21 = .ok (.ireturn, 1) := by decide +kernel
set_option maxRecDepth 20000 in
theorem ggX5_follow_X6_bit : GoodIn wsX5_follow wsX6_bit := goodIn_r _ [6] (by decide +kernel) (by decide +kernel)
set_option maxRecDepth 20000 in
theorem gX5_follow_X6_bit_n15 : GoodIn wsX5_follow (wsX6_bit) := ggX5_follow_X6_bit
set_option maxRecDepth 20000 in
theorem ggX5_follow_X5_wayFrom : GoodIn wsX5_follow wsX5_wayFrom := goodIn_r _ [11, 12, 15, 16, 17, 18] (by decide +kernel) (by decide +kernel)
set_option maxRecDepth 20000 in
theorem gX5_follow_X5_wayFrom : GoodIn wsX5_follow (wsV RX5 30 RX5 yX5_wayFrom wsX5_wayFrom) := goodIn_app (goodIn_of _ (by decide +kernel)) ggX5_follow_X5_wayFrom
set_option maxRecDepth 20000 in
theorem ggX5_follow_X6_contains : GoodIn wsX5_follow wsX6_contains := goodIn_r _ [14] (by decide +kernel) (by decide +kernel)
set_option maxRecDepth 20000 in
theorem gX5_follow_X6_contains_n33 : GoodIn wsX5_follow (wsX6_contains) := ggX5_follow_X6_contains
theorem dX5_follow_0 : decode cX5_follow 0 = .ok (.iload_n 1, 1) := by decide +kernel
theorem dX5_follow_1 : decode cX5_follow 1 = .ok (.invokestatic 15, 3) := by decide +kernel
theorem dX5_follow_4 : decode cX5_follow 4 = .ok (.istore_n 2, 1) := by decide +kernel
theorem dX5_follow_5 : decode cX5_follow 5 = .ok (.aload_n 0, 1) := by decide +kernel
theorem dX5_follow_6 : decode cX5_follow 6 = .ok (.iconst 0, 1) := by decide +kernel
theorem dX5_follow_7 : decode cX5_follow 7 = .ok (.putfield 19, 3) := by decide +kernel
theorem dX5_follow_10 : decode cX5_follow 10 = .ok (.aload_n 0, 1) := by decide +kernel
theorem dX5_follow_11 : decode cX5_follow 11 = .ok (.iconst 0, 1) := by decide +kernel
theorem dX5_follow_12 : decode cX5_follow 12 = .ok (.putfield 23, 3) := by decide +kernel
theorem dX5_follow_15 : decode cX5_follow 15 = .ok (.aload_n 0, 1) := by decide +kernel
theorem dX5_follow_16 : decode cX5_follow 16 = .ok (.iload_n 1, 1) := by decide +kernel
theorem dX5_follow_17 : decode cX5_follow 17 = .ok (.putfield 27, 3) := by decide +kernel
theorem dX5_follow_20 : decode cX5_follow 20 = .ok (.aload_n 0, 1) := by decide +kernel
theorem dX5_follow_21 : decode cX5_follow 21 = .ok (.getfield 19, 3) := by decide +kernel
theorem dX5_follow_24 : decode cX5_follow 24 = .ok (.bipush 14, 2) := by decide +kernel
theorem dX5_follow_26 : decode cX5_follow 26 = .ok (.if_icmp .ge 70, 3) := by decide +kernel
theorem dX5_follow_29 : decode cX5_follow 29 = .ok (.aload_n 0, 1) := by decide +kernel
theorem dX5_follow_30 : decode cX5_follow 30 = .ok (.getfield 23, 3) := by decide +kernel
theorem dX5_follow_33 : decode cX5_follow 33 = .ok (.ifCond .ne 63, 3) := by decide +kernel
theorem dX5_follow_36 : decode cX5_follow 36 = .ok (.aload_n 0, 1) := by decide +kernel
theorem dX5_follow_37 : decode cX5_follow 37 = .ok (.aload_n 0, 1) := by decide +kernel
theorem dX5_follow_38 : decode cX5_follow 38 = .ok (.getfield 27, 3) := by decide +kernel
theorem dX5_follow_41 : decode cX5_follow 41 = .ok (.invokevirtual 30, 3) := by decide +kernel
theorem dX5_follow_44 : decode cX5_follow 44 = .ok (.bipush 14, 2) := by decide +kernel
theorem dX5_follow_46 : decode cX5_follow 46 = .ok (.if_icmp .eq 50, 3) := by decide +kernel
theorem dX5_follow_49 : decode cX5_follow 49 = .ok (.aload_n 0, 1) := by decide +kernel
theorem dX5_follow_50 : decode cX5_follow 50 = .ok (.aload_n 0, 1) := by decide +kernel
theorem dX5_follow_51 : decode cX5_follow 51 = .ok (.aload_n 0, 1) := by decide +kernel
theorem dX5_follow_52 : decode cX5_follow 52 = .ok (.getfield 27, 3) := by decide +kernel
theorem dX5_follow_55 : decode cX5_follow 55 = .ok (.invokevirtual 30, 3) := by decide +kernel
theorem dX5_follow_58 : decode cX5_follow 58 = .ok (.putfield 27, 3) := by decide +kernel
theorem dX5_follow_61 : decode cX5_follow 61 = .ok (.aload_n 0, 1) := by decide +kernel
theorem dX5_follow_62 : decode cX5_follow 62 = .ok (.dup, 1) := by decide +kernel
theorem dX5_follow_63 : decode cX5_follow 63 = .ok (.getfield 19, 3) := by decide +kernel
theorem dX5_follow_66 : decode cX5_follow 66 = .ok (.iconst 1, 1) := by decide +kernel
theorem dX5_follow_67 : decode cX5_follow 67 = .ok (.iadd, 1) := by decide +kernel
theorem dX5_follow_68 : decode cX5_follow 68 = .ok (.putfield 19, 3) := by decide +kernel
theorem dX5_follow_71 : decode cX5_follow 71 = .ok (.aload_n 0, 1) := by decide +kernel
theorem dX5_follow_72 : decode cX5_follow 72 = .ok (.iload_n 2, 1) := by decide +kernel
theorem dX5_follow_73 : decode cX5_follow 73 = .ok (.aload_n 0, 1) := by decide +kernel
theorem dX5_follow_74 : decode cX5_follow 74 = .ok (.getfield 27, 3) := by decide +kernel
theorem dX5_follow_77 : decode cX5_follow 77 = .ok (.invokestatic 33, 3) := by decide +kernel
theorem dX5_follow_80 : decode cX5_follow 80 = .ok (.putfield 23, 3) := by decide +kernel
theorem dX5_follow_83 : decode cX5_follow 83 = .ok (.iload_n 2, 1) := by decide +kernel
theorem dX5_follow_84 : decode cX5_follow 84 = .ok (.aload_n 0, 1) := by decide +kernel
theorem dX5_follow_85 : decode cX5_follow 85 = .ok (.getfield 27, 3) := by decide +kernel
theorem dX5_follow_88 : decode cX5_follow 88 = .ok (.invokestatic 15, 3) := by decide +kernel
theorem dX5_follow_91 : decode cX5_follow 91 = .ok (.ior, 1) := by decide +kernel
theorem dX5_follow_92 : decode cX5_follow 92 = .ok (.istore_n 2, 1) := by decide +kernel
theorem dX5_follow_93 : decode cX5_follow 93 = .ok (.goto (-73), 3) := by decide +kernel
theorem dX5_follow_96 : decode cX5_follow 96 = .ok (.return_, 1) := by decide +kernel
set_option maxRecDepth 20000 in
theorem ggX5_leastColourAgain_X5_wayFrom : GoodIn wsX5_leastColourAgain wsX5_wayFrom := goodIn_r _ [11, 12, 23, 24, 25, 26] (by decide +kernel) (by decide +kernel)
set_option maxRecDepth 20000 in
theorem gX5_leastColourAgain_X5_wayFrom : GoodIn wsX5_leastColourAgain (wsV RX5 30 RX5 yX5_wayFrom wsX5_wayFrom) := goodIn_app (goodIn_of _ (by decide +kernel)) ggX5_leastColourAgain_X5_wayFrom
set_option maxRecDepth 20000 in
theorem ggX5_leastColourAgain_X1_has : GoodIn wsX5_leastColourAgain wsX1_has := goodIn_r _ [17, 18, 19, 20, 21, 22] (by decide +kernel) (by decide +kernel)
set_option maxRecDepth 20000 in
theorem gX5_leastColourAgain_X1_has : GoodIn wsX5_leastColourAgain (wsV RX5 42 RX1 yX1_has wsX1_has) := goodIn_app (goodIn_of _ (by decide +kernel)) ggX5_leastColourAgain_X1_has
theorem dX5_leastColourAgain_0 : decode cX5_leastColourAgain 0 = .ok (.aload_n 1, 1) := by decide +kernel
theorem dX5_leastColourAgain_1 : decode cX5_leastColourAgain 1 = .ok (.getfield 37, 3) := by decide +kernel
theorem dX5_leastColourAgain_4 : decode cX5_leastColourAgain 4 = .ok (.aload_n 0, 1) := by decide +kernel
theorem dX5_leastColourAgain_5 : decode cX5_leastColourAgain 5 = .ok (.getfield 27, 3) := by decide +kernel
theorem dX5_leastColourAgain_8 : decode cX5_leastColourAgain 8 = .ok (.iaload, 1) := by decide +kernel
theorem dX5_leastColourAgain_9 : decode cX5_leastColourAgain 9 = .ok (.istore_n 2, 1) := by decide +kernel
theorem dX5_leastColourAgain_10 : decode cX5_leastColourAgain 10 = .ok (.aload_n 0, 1) := by decide +kernel
theorem dX5_leastColourAgain_11 : decode cX5_leastColourAgain 11 = .ok (.aload_n 0, 1) := by decide +kernel
theorem dX5_leastColourAgain_12 : decode cX5_leastColourAgain 12 = .ok (.getfield 27, 3) := by decide +kernel
theorem dX5_leastColourAgain_15 : decode cX5_leastColourAgain 15 = .ok (.invokevirtual 30, 3) := by decide +kernel
theorem dX5_leastColourAgain_18 : decode cX5_leastColourAgain 18 = .ok (.istore_n 3, 1) := by decide +kernel
theorem dX5_leastColourAgain_19 : decode cX5_leastColourAgain 19 = .ok (.iconst 0, 1) := by decide +kernel
theorem dX5_leastColourAgain_20 : decode cX5_leastColourAgain 20 = .ok (.istore 4, 2) := by decide +kernel
theorem dX5_leastColourAgain_22 : decode cX5_leastColourAgain 22 = .ok (.iload 4, 2) := by decide +kernel
theorem dX5_leastColourAgain_24 : decode cX5_leastColourAgain 24 = .ok (.bipush 14, 2) := by decide +kernel
theorem dX5_leastColourAgain_26 : decode cX5_leastColourAgain 26 = .ok (.if_icmp .ge 42, 3) := by decide +kernel
theorem dX5_leastColourAgain_29 : decode cX5_leastColourAgain 29 = .ok (.aload_n 1, 1) := by decide +kernel
theorem dX5_leastColourAgain_30 : decode cX5_leastColourAgain 30 = .ok (.iload_n 3, 1) := by decide +kernel
theorem dX5_leastColourAgain_31 : decode cX5_leastColourAgain 31 = .ok (.invokevirtual 42, 3) := by decide +kernel
theorem dX5_leastColourAgain_34 : decode cX5_leastColourAgain 34 = .ok (.ifCond .eq 34, 3) := by decide +kernel
theorem dX5_leastColourAgain_37 : decode cX5_leastColourAgain 37 = .ok (.iload_n 3, 1) := by decide +kernel
theorem dX5_leastColourAgain_38 : decode cX5_leastColourAgain 38 = .ok (.aload_n 0, 1) := by decide +kernel
theorem dX5_leastColourAgain_39 : decode cX5_leastColourAgain 39 = .ok (.getfield 27, 3) := by decide +kernel
theorem dX5_leastColourAgain_42 : decode cX5_leastColourAgain 42 = .ok (.if_icmp .eq 26, 3) := by decide +kernel
theorem dX5_leastColourAgain_45 : decode cX5_leastColourAgain 45 = .ok (.iload_n 2, 1) := by decide +kernel
theorem dX5_leastColourAgain_46 : decode cX5_leastColourAgain 46 = .ok (.aload_n 1, 1) := by decide +kernel
theorem dX5_leastColourAgain_47 : decode cX5_leastColourAgain 47 = .ok (.getfield 37, 3) := by decide +kernel
theorem dX5_leastColourAgain_50 : decode cX5_leastColourAgain 50 = .ok (.iload_n 3, 1) := by decide +kernel
theorem dX5_leastColourAgain_51 : decode cX5_leastColourAgain 51 = .ok (.iaload, 1) := by decide +kernel
theorem dX5_leastColourAgain_52 : decode cX5_leastColourAgain 52 = .ok (.invokestatic 46, 3) := by decide +kernel
theorem dX5_leastColourAgain_55 : decode cX5_leastColourAgain 55 = .ok (.istore_n 2, 1) := by decide +kernel
theorem dX5_leastColourAgain_56 : decode cX5_leastColourAgain 56 = .ok (.aload_n 0, 1) := by decide +kernel
theorem dX5_leastColourAgain_57 : decode cX5_leastColourAgain 57 = .ok (.iload_n 3, 1) := by decide +kernel
theorem dX5_leastColourAgain_58 : decode cX5_leastColourAgain 58 = .ok (.invokevirtual 30, 3) := by decide +kernel
theorem dX5_leastColourAgain_61 : decode cX5_leastColourAgain 61 = .ok (.istore_n 3, 1) := by decide +kernel
theorem dX5_leastColourAgain_62 : decode cX5_leastColourAgain 62 = .ok (.iinc 4 1, 3) := by decide +kernel
theorem dX5_leastColourAgain_65 : decode cX5_leastColourAgain 65 = .ok (.goto (-43), 3) := by decide +kernel
theorem dX5_leastColourAgain_68 : decode cX5_leastColourAgain 68 = .ok (.iload_n 2, 1) := by decide +kernel
theorem dX5_leastColourAgain_69 : decode cX5_leastColourAgain 69 = .ok (.ireturn, 1) := by decide +kernel
set_option maxRecDepth 20000 in
theorem ggX5_winner_X5_leastColourAgain : GoodIn wsX5_winner wsX5_leastColourAgain := goodIn_r _ [8, 9, 3, 10, 11, 12, 13, 14, 15, 16, 7, 17, 18, 19, 20, 21, 22, 23, 24, 29, 30, 31, 32, 25, 26, 27, 28] (by decide +kernel) (by decide +kernel)
set_option maxRecDepth 20000 in
theorem gX5_winner_X5_leastColourAgain : GoodIn wsX5_winner (wsV RX5 52 RX5 yX5_leastColourAgain wsX5_leastColourAgain) := goodIn_app (goodIn_of _ (by decide +kernel)) ggX5_winner_X5_leastColourAgain
theorem dX5_winner_0 : decode cX5_winner 0 = .ok (.aload_n 0, 1) := by decide +kernel
theorem dX5_winner_1 : decode cX5_winner 1 = .ok (.getfield 23, 3) := by decide +kernel
theorem dX5_winner_4 : decode cX5_winner 4 = .ok (.ifCond .eq 13, 3) := by decide +kernel
theorem dX5_winner_7 : decode cX5_winner 7 = .ok (.aload_n 0, 1) := by decide +kernel
theorem dX5_winner_8 : decode cX5_winner 8 = .ok (.aload_n 1, 1) := by decide +kernel
theorem dX5_winner_9 : decode cX5_winner 9 = .ok (.invokevirtual 52, 3) := by decide +kernel
theorem dX5_winner_12 : decode cX5_winner 12 = .ok (.iconst 2, 1) := by decide +kernel
theorem dX5_winner_13 : decode cX5_winner 13 = .ok (.irem, 1) := by decide +kernel
theorem dX5_winner_14 : decode cX5_winner 14 = .ok (.goto 14, 3) := by decide +kernel
theorem dX5_winner_17 : decode cX5_winner 17 = .ok (.iconst 1, 1) := by decide +kernel
theorem dX5_winner_18 : decode cX5_winner 18 = .ok (.aload_n 1, 1) := by decide +kernel
theorem dX5_winner_19 : decode cX5_winner 19 = .ok (.getfield 56, 3) := by decide +kernel
theorem dX5_winner_22 : decode cX5_winner 22 = .ok (.aload_n 0, 1) := by decide +kernel
theorem dX5_winner_23 : decode cX5_winner 23 = .ok (.getfield 27, 3) := by decide +kernel
theorem dX5_winner_26 : decode cX5_winner 26 = .ok (.iaload, 1) := by decide +kernel
theorem dX5_winner_27 : decode cX5_winner 27 = .ok (.isub, 1) := by decide +kernel
theorem dX5_winner_28 : decode cX5_winner 28 = .ok (.ireturn, 1) := by decide +kernel
set_option maxRecDepth 20000 in
theorem ggX6_init_X4_init : GoodIn wsX6_init wsX4_init := goodIn_r _ [31, 32, 2, 3, 33, 19, 20, 34, 35, 36, 37, 38, 39, 40, 41, 42, 43, 80, 81, 82, 83, 64, 65, 66, 67] (by decide +kernel) (by decide +kernel)
set_option maxRecDepth 20000 in
theorem gX6_init_X4_init_n11 : GoodIn wsX6_init (wsX4_init) := ggX6_init_X4_init
set_option maxRecDepth 20000 in
theorem ggX6_init_X2_init : GoodIn wsX6_init wsX2_init := goodIn_r _ [46, 47, 2, 3, 48, 49, 5, 6, 30, 31, 32, 33, 19, 20, 34, 35, 36, 37, 38, 39, 40, 41, 42, 43, 76, 77, 64, 65, 66, 67, 80, 81, 82, 83] (by decide +kernel) (by decide +kernel)
set_option maxRecDepth 20000 in
theorem gX6_init_X2_init : GoodIn wsX6_init (wsX2_init) := ggX6_init_X2_init
set_option maxRecDepth 20000 in
theorem ggX6_init_X0_init : GoodIn wsX6_init wsX0_init := goodIn_r _ [51, 52, 2, 3, 53, 54, 78, 79] (by decide +kernel) (by decide +kernel)
set_option maxRecDepth 20000 in
theorem gX6_init_X0_init_n32 : GoodIn wsX6_init (wsX0_init) := ggX6_init_X0_init
set_option maxRecDepth 20000 in
theorem ggX6_init_X1_init : GoodIn wsX6_init wsX1_init := goodIn_r _ [39, 40, 2, 3, 35, 41, 42, 43, 80, 81, 82, 83] (by decide +kernel) (by decide +kernel)
set_option maxRecDepth 20000 in
theorem gX6_init_X1_init_n39 : GoodIn wsX6_init (wsX1_init) := ggX6_init_X1_init
set_option maxRecDepth 20000 in
theorem ggX6_init_X3_init : GoodIn wsX6_init wsX3_init := goodIn_r _ [56, 57, 2, 3, 35, 58, 59, 84, 85, 86] (by decide +kernel) (by decide +kernel)
set_option maxRecDepth 20000 in
theorem gX6_init_X3_init_n46 : GoodIn wsX6_init (wsX3_init) := ggX6_init_X3_init
set_option maxRecDepth 20000 in
theorem ggX6_init_X5_init : GoodIn wsX6_init wsX5_init := goodIn_r _ [61, 62, 2, 3, 35, 63, 87, 88, 89, 90] (by decide +kernel) (by decide +kernel)
set_option maxRecDepth 20000 in
theorem gX6_init_X5_init_n53 : GoodIn wsX6_init (wsX5_init) := ggX6_init_X5_init
end
section
theorem dX6_init_0 : decode cX6_init 0 = .ok (.aload_n 0, 1) := by decide +kernel
theorem dX6_init_1 : decode cX6_init 1 = .ok (.invokespecial 3, 3) := by decide +kernel
theorem dX6_init_4 : decode cX6_init 4 = .ok (.aload_n 0, 1) := by decide +kernel
theorem dX6_init_5 : decode cX6_init 5 = .ok (.new 9, 3) := by decide +kernel
theorem dX6_init_8 : decode cX6_init 8 = .ok (.dup, 1) := by decide +kernel
theorem dX6_init_9 : decode cX6_init 9 = .ok (.invokespecial 11, 3) := by decide +kernel
theorem dX6_init_12 : decode cX6_init 12 = .ok (.putfield 12, 3) := by decide +kernel
theorem dX6_init_15 : decode cX6_init 15 = .ok (.aload_n 0, 1) := by decide +kernel
theorem dX6_init_16 : decode cX6_init 16 = .ok (.new 16, 3) := by decide +kernel
theorem dX6_init_19 : decode cX6_init 19 = .ok (.dup, 1) := by decide +kernel
theorem dX6_init_20 : decode cX6_init 20 = .ok (.invokespecial 18, 3) := by decide +kernel
theorem dX6_init_23 : decode cX6_init 23 = .ok (.putfield 19, 3) := by decide +kernel
theorem dX6_init_26 : decode cX6_init 26 = .ok (.aload_n 0, 1) := by decide +kernel
theorem dX6_init_27 : decode cX6_init 27 = .ok (.new 9, 3) := by decide +kernel
theorem dX6_init_30 : decode cX6_init 30 = .ok (.dup, 1) := by decide +kernel
theorem dX6_init_31 : decode cX6_init 31 = .ok (.invokespecial 11, 3) := by decide +kernel
theorem dX6_init_34 : decode cX6_init 34 = .ok (.putfield 23, 3) := by decide +kernel
theorem dX6_init_37 : decode cX6_init 37 = .ok (.aload_n 0, 1) := by decide +kernel
theorem dX6_init_38 : decode cX6_init 38 = .ok (.iconst 0, 1) := by decide +kernel
theorem dX6_init_39 : decode cX6_init 39 = .ok (.putfield 26, 3) := by decide +kernel
theorem dX6_init_42 : decode cX6_init 42 = .ok (.aload_n 0, 1) := by decide +kernel
theorem dX6_init_43 : decode cX6_init 43 = .ok (.new 30, 3) := by decide +kernel
theorem dX6_init_46 : decode cX6_init 46 = .ok (.dup, 1) := by decide +kernel
theorem dX6_init_47 : decode cX6_init 47 = .ok (.invokespecial 32, 3) := by decide +kernel
theorem dX6_init_50 : decode cX6_init 50 = .ok (.putfield 33, 3) := by decide +kernel
theorem dX6_init_53 : decode cX6_init 53 = .ok (.aload_n 0, 1) := by decide +kernel
theorem dX6_init_54 : decode cX6_init 54 = .ok (.new 37, 3) := by decide +kernel
theorem dX6_init_57 : decode cX6_init 57 = .ok (.dup, 1) := by decide +kernel
theorem dX6_init_58 : decode cX6_init 58 = .ok (.invokespecial 39, 3) := by decide +kernel
theorem dX6_init_61 : decode cX6_init 61 = .ok (.putfield 40, 3) := by decide +kernel
theorem dX6_init_64 : decode cX6_init 64 = .ok (.aload_n 0, 1) := by decide +kernel
theorem dX6_init_65 : decode cX6_init 65 = .ok (.new 44, 3) := by decide +kernel
theorem dX6_init_68 : decode cX6_init 68 = .ok (.dup, 1) := by decide +kernel
theorem dX6_init_69 : decode cX6_init 69 = .ok (.invokespecial 46, 3) := by decide +kernel
theorem dX6_init_72 : decode cX6_init 72 = .ok (.putfield 47, 3) := by decide +kernel
theorem dX6_init_75 : decode cX6_init 75 = .ok (.aload_n 0, 1) := by decide +kernel
theorem dX6_init_76 : decode cX6_init 76 = .ok (.new 51, 3) := by decide +kernel
theorem dX6_init_79 : decode cX6_init 79 = .ok (.dup, 1) := by decide +kernel
theorem dX6_init_80 : decode cX6_init 80 = .ok (.invokespecial 53, 3) := by decide +kernel
theorem dX6_init_83 : decode cX6_init 83 = .ok (.putfield 54, 3) := by decide +kernel
theorem dX6_init_86 : decode cX6_init 86 = .ok (.return_, 1) := by decide +kernel
set_option maxRecDepth 20000 in
theorem ggX6_addPlace_X6_isPlayer : GoodIn wsX6_addPlace wsX6_isPlayer := goodIn_r _ [8] (by decide +kernel) (by decide +kernel)
set_option maxRecDepth 20000 in
theorem gX6_addPlace_X6_isPlayer : GoodIn wsX6_addPlace (va_wsS RX6 58 yX6_isPlayer wsX6_isPlayer) := goodIn_app (goodIn_of _ (by decide +kernel)) ggX6_addPlace_X6_isPlayer
set_option maxRecDepth 20000 in
theorem ggX6_addPlace_X6_isColour : GoodIn wsX6_addPlace wsX6_isColour := goodIn_r _ [11] (by decide +kernel) (by decide +kernel)
set_option maxRecDepth 20000 in
theorem gX6_addPlace_X6_isColour : GoodIn wsX6_addPlace (va_wsS RX6 62 yX6_isColour wsX6_isColour) := goodIn_app (goodIn_of _ (by decide +kernel)) ggX6_addPlace_X6_isColour
set_option maxRecDepth 20000 in
theorem ggX6_addPlace_X2_remember : GoodIn wsX6_addPlace wsX2_remember := goodIn_r _ [16, 17, 18, 19, 20, 21, 15, 22, 23, 24, 25, 26, 27, 28, 29, 30, 31, 32, 33, 34, 35, 36, 37, 38, 39, 40, 41, 42, 43, 44, 45, 70, 71, 62, 63, 64, 65, 66, 67, 68, 69] (by decide +kernel) (by decide +kernel)
set_option maxRecDepth 20000 in
theorem gX6_addPlace_X2_remember : GoodIn wsX6_addPlace (wsV RX6 72 RX2 yX2_remember wsX2_remember) := goodIn_app (goodIn_of _ (by decide +kernel)) ggX6_addPlace_X2_remember
set_option maxRecDepth 20000 in
theorem ggX6_addPlace_X4_append : GoodIn wsX6_addPlace wsX4_append := goodIn_r _ [49, 28, 50, 51, 52, 53, 29, 62, 63, 64, 65, 66, 67, 68, 69] (by decide +kernel) (by decide +kernel)
set_option maxRecDepth 20000 in
theorem gX6_addPlace_X4_append : GoodIn wsX6_addPlace (wsV RX6 76 RX4 yX4_append wsX4_append) := goodIn_app (goodIn_of _ (by decide +kernel)) ggX6_addPlace_X4_append
theorem dX6_addPlace_0 : decode cX6_addPlace 0 = .ok (.iload_n 1, 1) := by decide +kernel
theorem dX6_addPlace_1 : decode cX6_addPlace 1 = .ok (.invokestatic 58, 3) := by decide +kernel
theorem dX6_addPlace_4 : decode cX6_addPlace 4 = .ok (.ifCond .eq 10, 3) := by decide +kernel
theorem dX6_addPlace_7 : decode cX6_addPlace 7 = .ok (.iload_n 2, 1) := by decide +kernel
theorem dX6_addPlace_8 : decode cX6_addPlace 8 = .ok (.invokestatic 62, 3) := by decide +kernel
theorem dX6_addPlace_11 : decode cX6_addPlace 11 = .ok (.ifCond .ne 6, 3) := by decide +kernel
theorem dX6_addPlace_14 : decode cX6_addPlace 14 = .ok (.bipush (-2), 2) := by decide +kernel
theorem dX6_addPlace_16 : decode cX6_addPlace 16 = .ok (.ireturn, 1) := by decide +kernel
theorem dX6_addPlace_17 : decode cX6_addPlace 17 = .ok (.aload_n 0, 1) := by decide +kernel
theorem dX6_addPlace_18 : decode cX6_addPlace 18 = .ok (.getfield 12, 3) := by decide +kernel
theorem dX6_addPlace_21 : decode cX6_addPlace 21 = .ok (.getfield 65, 3) := by decide +kernel
theorem dX6_addPlace_24 : decode cX6_addPlace 24 = .ok (.getfield 68, 3) := by decide +kernel
theorem dX6_addPlace_27 : decode cX6_addPlace 27 = .ok (.bipush 14, 2) := by decide +kernel
theorem dX6_addPlace_29 : decode cX6_addPlace 29 = .ok (.if_icmp .lt 6, 3) := by decide +kernel
theorem dX6_addPlace_32 : decode cX6_addPlace 32 = .ok (.bipush (-3), 2) := by decide +kernel
theorem dX6_addPlace_34 : decode cX6_addPlace 34 = .ok (.ireturn, 1) := by decide +kernel
theorem dX6_addPlace_35 : decode cX6_addPlace 35 = .ok (.aload_n 0, 1) := by decide +kernel
theorem dX6_addPlace_36 : decode cX6_addPlace 36 = .ok (.getfield 19, 3) := by decide +kernel
theorem dX6_addPlace_39 : decode cX6_addPlace 39 = .ok (.aload_n 0, 1) := by decide +kernel
theorem dX6_addPlace_40 : decode cX6_addPlace 40 = .ok (.getfield 12, 3) := by decide +kernel
theorem dX6_addPlace_43 : decode cX6_addPlace 43 = .ok (.invokevirtual 72, 3) := by decide +kernel
theorem dX6_addPlace_46 : decode cX6_addPlace 46 = .ok (.aload_n 0, 1) := by decide +kernel
theorem dX6_addPlace_47 : decode cX6_addPlace 47 = .ok (.getfield 12, 3) := by decide +kernel
theorem dX6_addPlace_50 : decode cX6_addPlace 50 = .ok (.iload_n 1, 1) := by decide +kernel
theorem dX6_addPlace_51 : decode cX6_addPlace 51 = .ok (.iload_n 2, 1) := by decide +kernel
theorem dX6_addPlace_52 : decode cX6_addPlace 52 = .ok (.invokevirtual 76, 3) := by decide +kernel
theorem dX6_addPlace_55 : decode cX6_addPlace 55 = .ok (.ireturn, 1) := by decide +kernel
set_option maxRecDepth 20000 in
theorem ggX6_setOwner_X1_has : GoodIn wsX6_setOwner wsX1_has := goodIn_r _ [9, 10, 117, 118, 119, 120] (by decide +kernel) (by decide +kernel)
set_option maxRecDepth 20000 in
theorem gX6_setOwner_X1_has : GoodIn wsX6_setOwner (wsV RX6 80 RX1 yX1_has wsX1_has) := goodIn_app (goodIn_of _ (by decide +kernel)) ggX6_setOwner_X1_has
set_option maxRecDepth 20000 in
theorem ggX6_setOwner_X6_isPlayer : GoodIn wsX6_setOwner wsX6_isPlayer := goodIn_r _ [14] (by decide +kernel) (by decide +kernel)
set_option maxRecDepth 20000 in
theorem gX6_setOwner_X6_isPlayer : GoodIn wsX6_setOwner (va_wsS RX6 58 yX6_isPlayer wsX6_isPlayer) := goodIn_app (goodIn_of _ (by decide +kernel)) ggX6_setOwner_X6_isPlayer
set_option maxRecDepth 20000 in
theorem ggX6_setOwner_X2_remember : GoodIn wsX6_setOwner wsX2_remember := goodIn_r _ [19, 20, 21, 22, 23, 24, 18, 25, 26, 27, 28, 29, 30, 31, 32, 33, 34, 35, 36, 37, 38, 39, 40, 41, 8, 42, 10, 43, 44, 45, 46, 121, 122, 113, 114, 115, 116, 117, 118, 119, 120] (by decide +kernel) (by decide +kernel)
set_option maxRecDepth 20000 in
theorem gX6_setOwner_X2_remember : GoodIn wsX6_setOwner (wsV RX6 72 RX2 yX2_remember wsX2_remember) := goodIn_app (goodIn_of _ (by decide +kernel)) ggX6_setOwner_X2_remember
set_option maxRecDepth 20000 in
theorem ggX6_setOwner_X6_wonBy : GoodIn wsX6_setOwner wsX6_wonBy := goodIn_r _ [50, 1, 2, 51, 52, 53, 54, 55, 13, 56, 57, 58, 40, 41, 8, 42, 10, 43, 44, 34, 35, 36, 45, 46, 59, 60, 61, 62, 63, 64, 65, 66, 67, 68, 69, 70, 71, 72, 73, 74, 75, 76, 77, 78, 79, 80, 81, 82, 83, 84, 85, 86, 87, 88, 89, 90, 91, 92, 93, 94, 95, 96, 97, 98, 99, 100, 101, 102, 103, 104, 105, 106, 107, 108, 109, 110, 111, 112, 113, 114, 115, 116, 117, 118, 119, 120, 123, 124, 125] (by decide +kernel) (by decide +kernel)
set_option maxRecDepth 20000 in
theorem gX6_setOwner_X6_wonBy : GoodIn wsX6_setOwner (wsV RX6 87 RX6 yX6_wonBy wsX6_wonBy) := goodIn_app (goodIn_of _ (by decide +kernel)) ggX6_setOwner_X6_wonBy
theorem dX6_setOwner_0 : decode cX6_setOwner 0 = .ok (.aload_n 0, 1) := by decide +kernel
theorem dX6_setOwner_1 : decode cX6_setOwner 1 = .ok (.getfield 12, 3) := by decide +kernel
theorem dX6_setOwner_4 : decode cX6_setOwner 4 = .ok (.getfield 65, 3) := by decide +kernel
theorem dX6_setOwner_7 : decode cX6_setOwner 7 = .ok (.iload_n 1, 1) := by decide +kernel
theorem dX6_setOwner_8 : decode cX6_setOwner 8 = .ok (.invokevirtual 80, 3) := by decide +kernel
theorem dX6_setOwner_11 : decode cX6_setOwner 11 = .ok (.ifCond .ne 5, 3) := by decide +kernel
theorem dX6_setOwner_14 : decode cX6_setOwner 14 = .ok (.iconst (-1), 1) := by decide +kernel
theorem dX6_setOwner_15 : decode cX6_setOwner 15 = .ok (.ireturn, 1) := by decide +kernel
theorem dX6_setOwner_16 : decode cX6_setOwner 16 = .ok (.iload_n 2, 1) := by decide +kernel
theorem dX6_setOwner_17 : decode cX6_setOwner 17 = .ok (.invokestatic 58, 3) := by decide +kernel
theorem dX6_setOwner_20 : decode cX6_setOwner 20 = .ok (.ifCond .ne 6, 3) := by decide +kernel
theorem dX6_setOwner_23 : decode cX6_setOwner 23 = .ok (.bipush (-2), 2) := by decide +kernel
theorem dX6_setOwner_25 : decode cX6_setOwner 25 = .ok (.ireturn, 1) := by decide +kernel
theorem dX6_setOwner_26 : decode cX6_setOwner 26 = .ok (.aload_n 0, 1) := by decide +kernel
theorem dX6_setOwner_27 : decode cX6_setOwner 27 = .ok (.getfield 12, 3) := by decide +kernel
theorem dX6_setOwner_30 : decode cX6_setOwner 30 = .ok (.getfield 65, 3) := by decide +kernel
theorem dX6_setOwner_33 : decode cX6_setOwner 33 = .ok (.getfield 83, 3) := by decide +kernel
theorem dX6_setOwner_36 : decode cX6_setOwner 36 = .ok (.iload_n 1, 1) := by decide +kernel
theorem dX6_setOwner_37 : decode cX6_setOwner 37 = .ok (.iaload, 1) := by decide +kernel
theorem dX6_setOwner_38 : decode cX6_setOwner 38 = .ok (.iload_n 2, 1) := by decide +kernel
theorem dX6_setOwner_39 : decode cX6_setOwner 39 = .ok (.if_icmp .ne 6, 3) := by decide +kernel
theorem dX6_setOwner_42 : decode cX6_setOwner 42 = .ok (.bipush (-5), 2) := by decide +kernel
theorem dX6_setOwner_44 : decode cX6_setOwner 44 = .ok (.ireturn, 1) := by decide +kernel
theorem dX6_setOwner_45 : decode cX6_setOwner 45 = .ok (.aload_n 0, 1) := by decide +kernel
theorem dX6_setOwner_46 : decode cX6_setOwner 46 = .ok (.getfield 19, 3) := by decide +kernel
theorem dX6_setOwner_49 : decode cX6_setOwner 49 = .ok (.aload_n 0, 1) := by decide +kernel
theorem dX6_setOwner_50 : decode cX6_setOwner 50 = .ok (.getfield 12, 3) := by decide +kernel
theorem dX6_setOwner_53 : decode cX6_setOwner 53 = .ok (.invokevirtual 72, 3) := by decide +kernel
theorem dX6_setOwner_56 : decode cX6_setOwner 56 = .ok (.aload_n 0, 1) := by decide +kernel
theorem dX6_setOwner_57 : decode cX6_setOwner 57 = .ok (.getfield 12, 3) := by decide +kernel
theorem dX6_setOwner_60 : decode cX6_setOwner 60 = .ok (.getfield 65, 3) := by decide +kernel
theorem dX6_setOwner_63 : decode cX6_setOwner 63 = .ok (.getfield 83, 3) := by decide +kernel
theorem dX6_setOwner_66 : decode cX6_setOwner 66 = .ok (.iload_n 1, 1) := by decide +kernel
theorem dX6_setOwner_67 : decode cX6_setOwner 67 = .ok (.iload_n 2, 1) := by decide +kernel
theorem dX6_setOwner_68 : decode cX6_setOwner 68 = .ok (.iastore, 1) := by decide +kernel
theorem dX6_setOwner_69 : decode cX6_setOwner 69 = .ok (.aload_n 0, 1) := by decide +kernel
theorem dX6_setOwner_70 : decode cX6_setOwner 70 = .ok (.iconst 0, 1) := by decide +kernel
theorem dX6_setOwner_71 : decode cX6_setOwner 71 = .ok (.invokevirtual 87, 3) := by decide +kernel
theorem dX6_setOwner_74 : decode cX6_setOwner 74 = .ok (.ireturn, 1) := by decide +kernel
set_option maxRecDepth 20000 in
theorem ggX6_setColour_X1_has : GoodIn wsX6_setColour wsX1_has := goodIn_r _ [9, 10, 59, 60, 61, 62] (by decide +kernel) (by decide +kernel)
set_option maxRecDepth 20000 in
theorem gX6_setColour_X1_has : GoodIn wsX6_setColour (wsV RX6 80 RX1 yX1_has wsX1_has) := goodIn_app (goodIn_of _ (by decide +kernel)) ggX6_setColour_X1_has
set_option maxRecDepth 20000 in
theorem ggX6_setColour_X6_isColour : GoodIn wsX6_setColour wsX6_isColour := goodIn_r _ [14] (by decide +kernel) (by decide +kernel)
set_option maxRecDepth 20000 in
theorem gX6_setColour_X6_isColour : GoodIn wsX6_setColour (va_wsS RX6 62 yX6_isColour wsX6_isColour) := goodIn_app (goodIn_of _ (by decide +kernel)) ggX6_setColour_X6_isColour
set_option maxRecDepth 20000 in
theorem ggX6_setColour_X2_remember : GoodIn wsX6_setColour wsX2_remember := goodIn_r _ [19, 20, 21, 22, 23, 24, 18, 25, 26, 27, 28, 29, 30, 31, 32, 33, 34, 35, 36, 37, 38, 39, 40, 41, 8, 42, 10, 43, 44, 45, 46, 63, 64, 55, 56, 57, 58, 59, 60, 61, 62] (by decide +kernel) (by decide +kernel)
set_option maxRecDepth 20000 in
theorem gX6_setColour_X2_remember : GoodIn wsX6_setColour (wsV RX6 72 RX2 yX2_remember wsX2_remember) := goodIn_app (goodIn_of _ (by decide +kernel)) ggX6_setColour_X2_remember
theorem dX6_setColour_0 : decode cX6_setColour 0 = .ok (.aload_n 0, 1) := by decide +kernel
theorem dX6_setColour_1 : decode cX6_setColour 1 = .ok (.getfield 12, 3) := by decide +kernel
theorem dX6_setColour_4 : decode cX6_setColour 4 = .ok (.getfield 65, 3) := by decide +kernel
theorem dX6_setColour_7 : decode cX6_setColour 7 = .ok (.iload_n 1, 1) := by decide +kernel
theorem dX6_setColour_8 : decode cX6_setColour 8 = .ok (.invokevirtual 80, 3) := by decide +kernel
theorem dX6_setColour_11 : decode cX6_setColour 11 = .ok (.ifCond .ne 5, 3) := by decide +kernel
theorem dX6_setColour_14 : decode cX6_setColour 14 = .ok (.iconst (-1), 1) := by decide +kernel
theorem dX6_setColour_15 : decode cX6_setColour 15 = .ok (.ireturn, 1) := by decide +kernel
theorem dX6_setColour_16 : decode cX6_setColour 16 = .ok (.iload_n 2, 1) := by decide +kernel
theorem dX6_setColour_17 : decode cX6_setColour 17 = .ok (.invokestatic 62, 3) := by decide +kernel
theorem dX6_setColour_20 : decode cX6_setColour 20 = .ok (.ifCond .ne 6, 3) := by decide +kernel
theorem dX6_setColour_23 : decode cX6_setColour 23 = .ok (.bipush (-2), 2) := by decide +kernel
theorem dX6_setColour_25 : decode cX6_setColour 25 = .ok (.ireturn, 1) := by decide +kernel
theorem dX6_setColour_26 : decode cX6_setColour 26 = .ok (.aload_n 0, 1) := by decide +kernel
theorem dX6_setColour_27 : decode cX6_setColour 27 = .ok (.getfield 12, 3) := by decide +kernel
theorem dX6_setColour_30 : decode cX6_setColour 30 = .ok (.getfield 65, 3) := by decide +kernel
theorem dX6_setColour_33 : decode cX6_setColour 33 = .ok (.getfield 91, 3) := by decide +kernel
theorem dX6_setColour_36 : decode cX6_setColour 36 = .ok (.iload_n 1, 1) := by decide +kernel
theorem dX6_setColour_37 : decode cX6_setColour 37 = .ok (.iaload, 1) := by decide +kernel
theorem dX6_setColour_38 : decode cX6_setColour 38 = .ok (.istore_n 3, 1) := by decide +kernel
theorem dX6_setColour_39 : decode cX6_setColour 39 = .ok (.iload_n 3, 1) := by decide +kernel
theorem dX6_setColour_40 : decode cX6_setColour 40 = .ok (.iload_n 2, 1) := by decide +kernel
theorem dX6_setColour_41 : decode cX6_setColour 41 = .ok (.if_icmp .ne 6, 3) := by decide +kernel
theorem dX6_setColour_44 : decode cX6_setColour 44 = .ok (.bipush (-5), 2) := by decide +kernel
theorem dX6_setColour_46 : decode cX6_setColour 46 = .ok (.ireturn, 1) := by decide +kernel
theorem dX6_setColour_47 : decode cX6_setColour 47 = .ok (.aload_n 0, 1) := by decide +kernel
theorem dX6_setColour_48 : decode cX6_setColour 48 = .ok (.getfield 19, 3) := by decide +kernel
theorem dX6_setColour_51 : decode cX6_setColour 51 = .ok (.aload_n 0, 1) := by decide +kernel
theorem dX6_setColour_52 : decode cX6_setColour 52 = .ok (.getfield 12, 3) := by decide +kernel
theorem dX6_setColour_55 : decode cX6_setColour 55 = .ok (.invokevirtual 72, 3) := by decide +kernel
theorem dX6_setColour_58 : decode cX6_setColour 58 = .ok (.aload_n 0, 1) := by decide +kernel
theorem dX6_setColour_59 : decode cX6_setColour 59 = .ok (.getfield 12, 3) := by decide +kernel
theorem dX6_setColour_62 : decode cX6_setColour 62 = .ok (.getfield 65, 3) := by decide +kernel
theorem dX6_setColour_65 : decode cX6_setColour 65 = .ok (.getfield 91, 3) := by decide +kernel
theorem dX6_setColour_68 : decode cX6_setColour 68 = .ok (.iload_n 1, 1) := by decide +kernel
theorem dX6_setColour_69 : decode cX6_setColour 69 = .ok (.iload_n 2, 1) := by decide +kernel
theorem dX6_setColour_70 : decode cX6_setColour 70 = .ok (.iastore, 1) := by decide +kernel
theorem dX6_setColour_71 : decode cX6_setColour 71 = .ok (.iload_n 3, 1) := by decide +kernel
theorem dX6_setColour_72 : decode cX6_setColour 72 = .ok (.ireturn, 1) := by decide +kernel
set_option maxRecDepth 20000 in
theorem ggX6_addArrow_X1_has : GoodIn wsX6_addArrow wsX1_has := goodIn_r _ [9, 10, 78, 79, 80, 81] (by decide +kernel) (by decide +kernel)
set_option maxRecDepth 20000 in
theorem gX6_addArrow_X1_has : GoodIn wsX6_addArrow (wsV RX6 80 RX1 yX1_has wsX1_has) := goodIn_app (goodIn_of _ (by decide +kernel)) ggX6_addArrow_X1_has
set_option maxRecDepth 20000 in
theorem ggX6_addArrow_X1_arrowCount : GoodIn wsX6_addArrow wsX1_arrowCount := goodIn_r _ [14, 10, 15, 16, 17, 18, 19, 20, 21, 22, 78, 79, 80, 81] (by decide +kernel) (by decide +kernel)
set_option maxRecDepth 20000 in
theorem gX6_addArrow_X1_arrowCount : GoodIn wsX6_addArrow (wsV RX6 94 RX1 yX1_arrowCount wsX1_arrowCount) := goodIn_app (goodIn_of _ (by decide +kernel)) ggX6_addArrow_X1_arrowCount
set_option maxRecDepth 20000 in
theorem ggX6_addArrow_X1_leads : GoodIn wsX6_addArrow wsX1_leads := goodIn_r _ [26, 15, 27, 6, 7, 8, 9, 10, 28, 29, 30, 78, 79, 80, 81] (by decide +kernel) (by decide +kernel)
set_option maxRecDepth 20000 in
theorem gX6_addArrow_X1_leads : GoodIn wsX6_addArrow (wsV RX6 98 RX1 yX1_leads wsX1_leads) := goodIn_app (goodIn_of _ (by decide +kernel)) ggX6_addArrow_X1_leads
set_option maxRecDepth 20000 in
theorem ggX6_addArrow_X2_remember : GoodIn wsX6_addArrow wsX2_remember := goodIn_r _ [35, 36, 37, 38, 39, 40, 34, 41, 42, 43, 44, 45, 46, 47, 48, 49, 50, 51, 52, 53, 54, 55, 56, 57, 8, 58, 10, 59, 60, 61, 15, 82, 83, 74, 75, 76, 77, 78, 79, 80, 81] (by decide +kernel) (by decide +kernel)
set_option maxRecDepth 20000 in
theorem gX6_addArrow_X2_remember : GoodIn wsX6_addArrow (wsV RX6 72 RX2 yX2_remember wsX2_remember) := goodIn_app (goodIn_of _ (by decide +kernel)) ggX6_addArrow_X2_remember
set_option maxRecDepth 20000 in
theorem ggX6_addArrow_X6_bit : GoodIn wsX6_addArrow wsX6_bit := goodIn_r _ [64] (by decide +kernel) (by decide +kernel)
set_option maxRecDepth 20000 in
theorem gX6_addArrow_X6_bit : GoodIn wsX6_addArrow (va_wsS RX6 105 yX6_bit wsX6_bit) := goodIn_app (goodIn_of _ (by decide +kernel)) ggX6_addArrow_X6_bit
set_option maxRecDepth 20000 in
theorem ggX6_addArrow_J6_bitCount_0f7a4 : GoodIn wsX6_addArrow wsJ6_bitCount_0f7a4 := goodIn_r _ [19, 20, 21, 22] (by decide +kernel) (by decide +kernel)
set_option maxRecDepth 20000 in
theorem gX6_addArrow_J6_bitCount_0f7a4 : GoodIn wsX6_addArrow (va_wsS RX6 108 yJ6_bitCount_0f7a4 wsJ6_bitCount_0f7a4) := goodIn_app (goodIn_of _ (by decide +kernel)) ggX6_addArrow_J6_bitCount_0f7a4
theorem dX6_addArrow_0 : decode cX6_addArrow 0 = .ok (.aload_n 0, 1) := by decide +kernel
theorem dX6_addArrow_1 : decode cX6_addArrow 1 = .ok (.getfield 12, 3) := by decide +kernel
theorem dX6_addArrow_4 : decode cX6_addArrow 4 = .ok (.getfield 65, 3) := by decide +kernel
theorem dX6_addArrow_7 : decode cX6_addArrow 7 = .ok (.iload_n 1, 1) := by decide +kernel
theorem dX6_addArrow_8 : decode cX6_addArrow 8 = .ok (.invokevirtual 80, 3) := by decide +kernel
theorem dX6_addArrow_11 : decode cX6_addArrow 11 = .ok (.ifCond .eq 17, 3) := by decide +kernel
theorem dX6_addArrow_14 : decode cX6_addArrow 14 = .ok (.aload_n 0, 1) := by decide +kernel
theorem dX6_addArrow_15 : decode cX6_addArrow 15 = .ok (.getfield 12, 3) := by decide +kernel
theorem dX6_addArrow_18 : decode cX6_addArrow 18 = .ok (.getfield 65, 3) := by decide +kernel
theorem dX6_addArrow_21 : decode cX6_addArrow 21 = .ok (.iload_n 2, 1) := by decide +kernel
theorem dX6_addArrow_22 : decode cX6_addArrow 22 = .ok (.invokevirtual 80, 3) := by decide +kernel
theorem dX6_addArrow_25 : decode cX6_addArrow 25 = .ok (.ifCond .ne 5, 3) := by decide +kernel
theorem dX6_addArrow_28 : decode cX6_addArrow 28 = .ok (.iconst (-1), 1) := by decide +kernel
theorem dX6_addArrow_29 : decode cX6_addArrow 29 = .ok (.ireturn, 1) := by decide +kernel
theorem dX6_addArrow_30 : decode cX6_addArrow 30 = .ok (.aload_n 0, 1) := by decide +kernel
theorem dX6_addArrow_31 : decode cX6_addArrow 31 = .ok (.getfield 12, 3) := by decide +kernel
theorem dX6_addArrow_34 : decode cX6_addArrow 34 = .ok (.getfield 65, 3) := by decide +kernel
theorem dX6_addArrow_37 : decode cX6_addArrow 37 = .ok (.invokevirtual 94, 3) := by decide +kernel
theorem dX6_addArrow_40 : decode cX6_addArrow 40 = .ok (.bipush 60, 2) := by decide +kernel
theorem dX6_addArrow_42 : decode cX6_addArrow 42 = .ok (.if_icmp .lt 6, 3) := by decide +kernel
theorem dX6_addArrow_45 : decode cX6_addArrow 45 = .ok (.bipush (-3), 2) := by decide +kernel
theorem dX6_addArrow_47 : decode cX6_addArrow 47 = .ok (.ireturn, 1) := by decide +kernel
theorem dX6_addArrow_48 : decode cX6_addArrow 48 = .ok (.aload_n 0, 1) := by decide +kernel
theorem dX6_addArrow_49 : decode cX6_addArrow 49 = .ok (.getfield 12, 3) := by decide +kernel
theorem dX6_addArrow_52 : decode cX6_addArrow 52 = .ok (.getfield 65, 3) := by decide +kernel
theorem dX6_addArrow_55 : decode cX6_addArrow 55 = .ok (.iload_n 1, 1) := by decide +kernel
theorem dX6_addArrow_56 : decode cX6_addArrow 56 = .ok (.iload_n 2, 1) := by decide +kernel
theorem dX6_addArrow_57 : decode cX6_addArrow 57 = .ok (.invokevirtual 98, 3) := by decide +kernel
theorem dX6_addArrow_60 : decode cX6_addArrow 60 = .ok (.ifCond .eq 6, 3) := by decide +kernel
theorem dX6_addArrow_63 : decode cX6_addArrow 63 = .ok (.bipush (-5), 2) := by decide +kernel
theorem dX6_addArrow_65 : decode cX6_addArrow 65 = .ok (.ireturn, 1) := by decide +kernel
theorem dX6_addArrow_66 : decode cX6_addArrow 66 = .ok (.aload_n 0, 1) := by decide +kernel
theorem dX6_addArrow_67 : decode cX6_addArrow 67 = .ok (.getfield 19, 3) := by decide +kernel
theorem dX6_addArrow_70 : decode cX6_addArrow 70 = .ok (.aload_n 0, 1) := by decide +kernel
theorem dX6_addArrow_71 : decode cX6_addArrow 71 = .ok (.getfield 12, 3) := by decide +kernel
theorem dX6_addArrow_74 : decode cX6_addArrow 74 = .ok (.invokevirtual 72, 3) := by decide +kernel
theorem dX6_addArrow_77 : decode cX6_addArrow 77 = .ok (.aload_n 0, 1) := by decide +kernel
theorem dX6_addArrow_78 : decode cX6_addArrow 78 = .ok (.getfield 12, 3) := by decide +kernel
theorem dX6_addArrow_81 : decode cX6_addArrow 81 = .ok (.getfield 65, 3) := by decide +kernel
theorem dX6_addArrow_84 : decode cX6_addArrow 84 = .ok (.getfield 102, 3) := by decide +kernel
theorem dX6_addArrow_87 : decode cX6_addArrow 87 = .ok (.iload_n 1, 1) := by decide +kernel
theorem dX6_addArrow_88 : decode cX6_addArrow 88 = .ok (.dup2, 1) := by decide +kernel
theorem dX6_addArrow_89 : decode cX6_addArrow 89 = .ok (.iaload, 1) := by decide +kernel
theorem dX6_addArrow_90 : decode cX6_addArrow 90 = .ok (.iload_n 2, 1) := by decide +kernel
theorem dX6_addArrow_91 : decode cX6_addArrow 91 = .ok (.invokestatic 105, 3) := by decide +kernel
theorem dX6_addArrow_94 : decode cX6_addArrow 94 = .ok (.ior, 1) := by decide +kernel
theorem dX6_addArrow_95 : decode cX6_addArrow 95 = .ok (.iastore, 1) := by decide +kernel
theorem dX6_addArrow_96 : decode cX6_addArrow 96 = .ok (.aload_n 0, 1) := by decide +kernel
theorem dX6_addArrow_97 : decode cX6_addArrow 97 = .ok (.getfield 12, 3) := by decide +kernel
theorem dX6_addArrow_100 : decode cX6_addArrow 100 = .ok (.getfield 65, 3) := by decide +kernel
theorem dX6_addArrow_103 : decode cX6_addArrow 103 = .ok (.getfield 102, 3) := by decide +kernel
theorem dX6_addArrow_106 : decode cX6_addArrow 106 = .ok (.iload_n 1, 1) := by decide +kernel
theorem dX6_addArrow_107 : decode cX6_addArrow 107 = .ok (.iaload, 1) := by decide +kernel
theorem dX6_addArrow_108 : decode cX6_addArrow 108 = .ok (.invokestatic 108, 3) := by decide +kernel
theorem dX6_addArrow_111 : decode cX6_addArrow 111 = .ok (.ireturn, 1) := by decide +kernel
set_option maxRecDepth 20000 in
theorem ggX6_removeArrow_X1_has : GoodIn wsX6_removeArrow wsX1_has := goodIn_r _ [10, 11, 74, 75, 76, 77] (by decide +kernel) (by decide +kernel)
set_option maxRecDepth 20000 in
theorem gX6_removeArrow_X1_has : GoodIn wsX6_removeArrow (wsV RX6 80 RX1 yX1_has wsX1_has) := goodIn_app (goodIn_of _ (by decide +kernel)) ggX6_removeArrow_X1_has
set_option maxRecDepth 20000 in
theorem ggX6_removeArrow_X1_leads : GoodIn wsX6_removeArrow wsX1_leads := goodIn_r _ [15, 16, 17, 7, 8, 9, 10, 11, 18, 19, 20, 74, 75, 76, 77] (by decide +kernel) (by decide +kernel)
set_option maxRecDepth 20000 in
theorem gX6_removeArrow_X1_leads : GoodIn wsX6_removeArrow (wsV RX6 98 RX1 yX1_leads wsX1_leads) := goodIn_app (goodIn_of _ (by decide +kernel)) ggX6_removeArrow_X1_leads
set_option maxRecDepth 20000 in
theorem ggX6_removeArrow_X2_remember : GoodIn wsX6_removeArrow wsX2_remember := goodIn_r _ [25, 26, 27, 28, 29, 30, 24, 31, 32, 33, 34, 35, 36, 37, 38, 39, 40, 41, 42, 43, 44, 45, 46, 47, 9, 48, 11, 49, 50, 51, 16, 78, 79, 70, 71, 72, 73, 74, 75, 76, 77] (by decide +kernel) (by decide +kernel)
set_option maxRecDepth 20000 in
theorem gX6_removeArrow_X2_remember : GoodIn wsX6_removeArrow (wsV RX6 72 RX2 yX2_remember wsX2_remember) := goodIn_app (goodIn_of _ (by decide +kernel)) ggX6_removeArrow_X2_remember
set_option maxRecDepth 20000 in
theorem ggX6_removeArrow_X6_bit : GoodIn wsX6_removeArrow wsX6_bit := goodIn_r _ [54] (by decide +kernel) (by decide +kernel)
set_option maxRecDepth 20000 in
theorem gX6_removeArrow_X6_bit : GoodIn wsX6_removeArrow (va_wsS RX6 105 yX6_bit wsX6_bit) := goodIn_app (goodIn_of _ (by decide +kernel)) ggX6_removeArrow_X6_bit
set_option maxRecDepth 20000 in
theorem ggX6_removeArrow_J6_bitCount_0f7a4 : GoodIn wsX6_removeArrow wsJ6_bitCount_0f7a4 := goodIn_r _ [58, 59, 60, 61] (by decide +kernel) (by decide +kernel)
set_option maxRecDepth 20000 in
theorem gX6_removeArrow_J6_bitCount_0f7a4 : GoodIn wsX6_removeArrow (va_wsS RX6 108 yJ6_bitCount_0f7a4 wsJ6_bitCount_0f7a4) := goodIn_app (goodIn_of _ (by decide +kernel)) ggX6_removeArrow_J6_bitCount_0f7a4
theorem dX6_removeArrow_0 : decode cX6_removeArrow 0 = .ok (.aload_n 0, 1) := by decide +kernel
theorem dX6_removeArrow_1 : decode cX6_removeArrow 1 = .ok (.getfield 12, 3) := by decide +kernel
theorem dX6_removeArrow_4 : decode cX6_removeArrow 4 = .ok (.getfield 65, 3) := by decide +kernel
theorem dX6_removeArrow_7 : decode cX6_removeArrow 7 = .ok (.iload_n 1, 1) := by decide +kernel
theorem dX6_removeArrow_8 : decode cX6_removeArrow 8 = .ok (.invokevirtual 80, 3) := by decide +kernel
theorem dX6_removeArrow_11 : decode cX6_removeArrow 11 = .ok (.ifCond .eq 17, 3) := by decide +kernel
theorem dX6_removeArrow_14 : decode cX6_removeArrow 14 = .ok (.aload_n 0, 1) := by decide +kernel
theorem dX6_removeArrow_15 : decode cX6_removeArrow 15 = .ok (.getfield 12, 3) := by decide +kernel
theorem dX6_removeArrow_18 : decode cX6_removeArrow 18 = .ok (.getfield 65, 3) := by decide +kernel
theorem dX6_removeArrow_21 : decode cX6_removeArrow 21 = .ok (.iload_n 2, 1) := by decide +kernel
theorem dX6_removeArrow_22 : decode cX6_removeArrow 22 = .ok (.invokevirtual 80, 3) := by decide +kernel
theorem dX6_removeArrow_25 : decode cX6_removeArrow 25 = .ok (.ifCond .ne 5, 3) := by decide +kernel
theorem dX6_removeArrow_28 : decode cX6_removeArrow 28 = .ok (.iconst (-1), 1) := by decide +kernel
theorem dX6_removeArrow_29 : decode cX6_removeArrow 29 = .ok (.ireturn, 1) := by decide +kernel
theorem dX6_removeArrow_30 : decode cX6_removeArrow 30 = .ok (.aload_n 0, 1) := by decide +kernel
theorem dX6_removeArrow_31 : decode cX6_removeArrow 31 = .ok (.getfield 12, 3) := by decide +kernel
theorem dX6_removeArrow_34 : decode cX6_removeArrow 34 = .ok (.getfield 65, 3) := by decide +kernel
theorem dX6_removeArrow_37 : decode cX6_removeArrow 37 = .ok (.iload_n 1, 1) := by decide +kernel
theorem dX6_removeArrow_38 : decode cX6_removeArrow 38 = .ok (.iload_n 2, 1) := by decide +kernel
theorem dX6_removeArrow_39 : decode cX6_removeArrow 39 = .ok (.invokevirtual 98, 3) := by decide +kernel
theorem dX6_removeArrow_42 : decode cX6_removeArrow 42 = .ok (.ifCond .ne 6, 3) := by decide +kernel
theorem dX6_removeArrow_45 : decode cX6_removeArrow 45 = .ok (.bipush (-5), 2) := by decide +kernel
theorem dX6_removeArrow_47 : decode cX6_removeArrow 47 = .ok (.ireturn, 1) := by decide +kernel
theorem dX6_removeArrow_48 : decode cX6_removeArrow 48 = .ok (.aload_n 0, 1) := by decide +kernel
theorem dX6_removeArrow_49 : decode cX6_removeArrow 49 = .ok (.getfield 19, 3) := by decide +kernel
theorem dX6_removeArrow_52 : decode cX6_removeArrow 52 = .ok (.aload_n 0, 1) := by decide +kernel
theorem dX6_removeArrow_53 : decode cX6_removeArrow 53 = .ok (.getfield 12, 3) := by decide +kernel
theorem dX6_removeArrow_56 : decode cX6_removeArrow 56 = .ok (.invokevirtual 72, 3) := by decide +kernel
theorem dX6_removeArrow_59 : decode cX6_removeArrow 59 = .ok (.aload_n 0, 1) := by decide +kernel
theorem dX6_removeArrow_60 : decode cX6_removeArrow 60 = .ok (.getfield 12, 3) := by decide +kernel
theorem dX6_removeArrow_63 : decode cX6_removeArrow 63 = .ok (.getfield 65, 3) := by decide +kernel
theorem dX6_removeArrow_66 : decode cX6_removeArrow 66 = .ok (.getfield 102, 3) := by decide +kernel
theorem dX6_removeArrow_69 : decode cX6_removeArrow 69 = .ok (.iload_n 1, 1) := by decide +kernel
theorem dX6_removeArrow_70 : decode cX6_removeArrow 70 = .ok (.dup2, 1) := by decide +kernel
theorem dX6_removeArrow_71 : decode cX6_removeArrow 71 = .ok (.iaload, 1) := by decide +kernel
theorem dX6_removeArrow_72 : decode cX6_removeArrow 72 = .ok (.iload_n 2, 1) := by decide +kernel
theorem dX6_removeArrow_73 : decode cX6_removeArrow 73 = .ok (.invokestatic 105, 3) := by decide +kernel
theorem dX6_removeArrow_76 : decode cX6_removeArrow 76 = .ok (.iconst (-1), 1) := by decide +kernel
theorem dX6_removeArrow_77 : decode cX6_removeArrow 77 = .ok (.ixor, 1) := by decide +kernel
theorem dX6_removeArrow_78 : decode cX6_removeArrow 78 = .ok (.iand, 1) := by decide +kernel
theorem dX6_removeArrow_79 : decode cX6_removeArrow 79 = .ok (.iastore, 1) := by decide +kernel
theorem dX6_removeArrow_80 : decode cX6_removeArrow 80 = .ok (.aload_n 0, 1) := by decide +kernel
theorem dX6_removeArrow_81 : decode cX6_removeArrow 81 = .ok (.getfield 12, 3) := by decide +kernel
theorem dX6_removeArrow_84 : decode cX6_removeArrow 84 = .ok (.getfield 113, 3) := by decide +kernel
theorem dX6_removeArrow_87 : decode cX6_removeArrow 87 = .ok (.iload_n 1, 1) := by decide +kernel
theorem dX6_removeArrow_88 : decode cX6_removeArrow 88 = .ok (.iaload, 1) := by decide +kernel
theorem dX6_removeArrow_89 : decode cX6_removeArrow 89 = .ok (.iload_n 2, 1) := by decide +kernel
theorem dX6_removeArrow_90 : decode cX6_removeArrow 90 = .ok (.if_icmp .ne 14, 3) := by decide +kernel
theorem dX6_removeArrow_93 : decode cX6_removeArrow 93 = .ok (.aload_n 0, 1) := by decide +kernel
theorem dX6_removeArrow_94 : decode cX6_removeArrow 94 = .ok (.getfield 12, 3) := by decide +kernel
theorem dX6_removeArrow_97 : decode cX6_removeArrow 97 = .ok (.getfield 113, 3) := by decide +kernel
theorem dX6_removeArrow_100 : decode cX6_removeArrow 100 = .ok (.iload_n 1, 1) := by decide +kernel
theorem dX6_removeArrow_101 : decode cX6_removeArrow 101 = .ok (.bipush 14, 2) := by decide +kernel
theorem dX6_removeArrow_103 : decode cX6_removeArrow 103 = .ok (.iastore, 1) := by decide +kernel
theorem dX6_removeArrow_104 : decode cX6_removeArrow 104 = .ok (.aload_n 0, 1) := by decide +kernel
theorem dX6_removeArrow_105 : decode cX6_removeArrow 105 = .ok (.getfield 12, 3) := by decide +kernel
theorem dX6_removeArrow_108 : decode cX6_removeArrow 108 = .ok (.getfield 65, 3) := by decide +kernel
theorem dX6_removeArrow_111 : decode cX6_removeArrow 111 = .ok (.getfield 102, 3) := by decide +kernel
theorem dX6_removeArrow_114 : decode cX6_removeArrow 114 = .ok (.iload_n 1, 1) := by decide +kernel
theorem dX6_removeArrow_115 : decode cX6_removeArrow 115 = .ok (.iaload, 1) := by decide +kernel
theorem dX6_removeArrow_116 : decode cX6_removeArrow 116 = .ok (.invokestatic 108, 3) := by decide +kernel
theorem dX6_removeArrow_119 : decode cX6_removeArrow 119 = .ok (.ireturn, 1) := by decide +kernel
set_option maxRecDepth 20000 in
theorem ggX6_readArrows_X0_fault : GoodIn wsX6_readArrows wsX0_fault := goodIn_r _ [10, 11, 12, 13, 14, 9, 15, 16, 17, 18, 89, 90] (by decide +kernel) (by decide +kernel)
set_option maxRecDepth 20000 in
theorem gX6_readArrows_X0_fault : GoodIn wsX6_readArrows (wsV RX6 116 RX0 yX0_fault wsX0_fault) := goodIn_app (goodIn_of _ (by decide +kernel)) ggX6_readArrows_X0_fault
set_option maxRecDepth 20000 in
theorem ggX6_readArrows_X1_become : GoodIn wsX6_readArrows wsX1_become := goodIn_r _ [23, 24, 25, 26, 27, 28, 29, 30, 31, 91, 92, 93, 94] (by decide +kernel) (by decide +kernel)
set_option maxRecDepth 20000 in
theorem gX6_readArrows_X1_become : GoodIn wsX6_readArrows (wsV RX6 119 RX1 yX1_become wsX1_become) := goodIn_app (goodIn_of _ (by decide +kernel)) ggX6_readArrows_X1_become
set_option maxRecDepth 20000 in
theorem ggX6_readArrows_X0_drawInto : GoodIn wsX6_readArrows wsX0_drawInto := goodIn_r _ [35, 11, 12, 36, 13, 14, 9, 15, 37, 38, 39, 22, 40, 24, 41, 42, 43, 89, 90, 91, 92, 93, 94] (by decide +kernel) (by decide +kernel)
set_option maxRecDepth 20000 in
theorem gX6_readArrows_X0_drawInto : GoodIn wsX6_readArrows (wsV RX6 123 RX0 yX0_drawInto wsX0_drawInto) := goodIn_app (goodIn_of _ (by decide +kernel)) ggX6_readArrows_X0_drawInto
set_option maxRecDepth 20000 in
theorem ggX6_readArrows_X1_arrowCount : GoodIn wsX6_readArrows wsX1_arrowCount := goodIn_r _ [47, 24, 31, 48, 49, 50, 51, 52, 53, 54, 91, 92, 93, 94] (by decide +kernel) (by decide +kernel)
set_option maxRecDepth 20000 in
theorem gX6_readArrows_X1_arrowCount : GoodIn wsX6_readArrows (wsV RX6 94 RX1 yX1_arrowCount wsX1_arrowCount) := goodIn_app (goodIn_of _ (by decide +kernel)) ggX6_readArrows_X1_arrowCount
set_option maxRecDepth 20000 in
theorem ggX6_readArrows_X2_remember : GoodIn wsX6_readArrows wsX2_remember := goodIn_r _ [59, 60, 61, 62, 63, 64, 58, 65, 66, 67, 68, 69, 70, 71, 72, 73, 27, 28, 29, 74, 75, 76, 20, 21, 22, 23, 24, 25, 26, 30, 31, 95, 96, 85, 86, 87, 88, 91, 92, 93, 94] (by decide +kernel) (by decide +kernel)
set_option maxRecDepth 20000 in
theorem gX6_readArrows_X2_remember : GoodIn wsX6_readArrows (wsV RX6 72 RX2 yX2_remember wsX2_remember) := goodIn_app (goodIn_of _ (by decide +kernel)) ggX6_readArrows_X2_remember
theorem dX6_readArrows_0 : decode cX6_readArrows 0 = .ok (.aload_n 0, 1) := by decide +kernel
theorem dX6_readArrows_1 : decode cX6_readArrows 1 = .ok (.getfield 33, 3) := by decide +kernel
theorem dX6_readArrows_4 : decode cX6_readArrows 4 = .ok (.invokevirtual 116, 3) := by decide +kernel
theorem dX6_readArrows_7 : decode cX6_readArrows 7 = .ok (.istore_n 1, 1) := by decide +kernel
theorem dX6_readArrows_8 : decode cX6_readArrows 8 = .ok (.iload_n 1, 1) := by decide +kernel
theorem dX6_readArrows_9 : decode cX6_readArrows 9 = .ok (.ifCond .lt 8, 3) := by decide +kernel
theorem dX6_readArrows_12 : decode cX6_readArrows 12 = .ok (.bipush (-100), 2) := by decide +kernel
theorem dX6_readArrows_14 : decode cX6_readArrows 14 = .ok (.iload_n 1, 1) := by decide +kernel
theorem dX6_readArrows_15 : decode cX6_readArrows 15 = .ok (.isub, 1) := by decide +kernel
theorem dX6_readArrows_16 : decode cX6_readArrows 16 = .ok (.ireturn, 1) := by decide +kernel
theorem dX6_readArrows_17 : decode cX6_readArrows 17 = .ok (.aload_n 0, 1) := by decide +kernel
theorem dX6_readArrows_18 : decode cX6_readArrows 18 = .ok (.getfield 40, 3) := by decide +kernel
theorem dX6_readArrows_21 : decode cX6_readArrows 21 = .ok (.aload_n 0, 1) := by decide +kernel
theorem dX6_readArrows_22 : decode cX6_readArrows 22 = .ok (.getfield 12, 3) := by decide +kernel
theorem dX6_readArrows_25 : decode cX6_readArrows 25 = .ok (.getfield 65, 3) := by decide +kernel
theorem dX6_readArrows_28 : decode cX6_readArrows 28 = .ok (.invokevirtual 119, 3) := by decide +kernel
theorem dX6_readArrows_31 : decode cX6_readArrows 31 = .ok (.aload_n 0, 1) := by decide +kernel
theorem dX6_readArrows_32 : decode cX6_readArrows 32 = .ok (.getfield 33, 3) := by decide +kernel
theorem dX6_readArrows_35 : decode cX6_readArrows 35 = .ok (.aload_n 0, 1) := by decide +kernel
theorem dX6_readArrows_36 : decode cX6_readArrows 36 = .ok (.getfield 40, 3) := by decide +kernel
theorem dX6_readArrows_39 : decode cX6_readArrows 39 = .ok (.invokevirtual 123, 3) := by decide +kernel
theorem dX6_readArrows_42 : decode cX6_readArrows 42 = .ok (.ifCond .ne 5, 3) := by decide +kernel
theorem dX6_readArrows_45 : decode cX6_readArrows 45 = .ok (.iconst (-1), 1) := by decide +kernel
theorem dX6_readArrows_46 : decode cX6_readArrows 46 = .ok (.ireturn, 1) := by decide +kernel
theorem dX6_readArrows_47 : decode cX6_readArrows 47 = .ok (.aload_n 0, 1) := by decide +kernel
theorem dX6_readArrows_48 : decode cX6_readArrows 48 = .ok (.getfield 40, 3) := by decide +kernel
theorem dX6_readArrows_51 : decode cX6_readArrows 51 = .ok (.invokevirtual 94, 3) := by decide +kernel
theorem dX6_readArrows_54 : decode cX6_readArrows 54 = .ok (.bipush 60, 2) := by decide +kernel
theorem dX6_readArrows_56 : decode cX6_readArrows 56 = .ok (.if_icmp .le 6, 3) := by decide +kernel
theorem dX6_readArrows_59 : decode cX6_readArrows 59 = .ok (.bipush (-3), 2) := by decide +kernel
theorem dX6_readArrows_61 : decode cX6_readArrows 61 = .ok (.ireturn, 1) := by decide +kernel
theorem dX6_readArrows_62 : decode cX6_readArrows 62 = .ok (.aload_n 0, 1) := by decide +kernel
theorem dX6_readArrows_63 : decode cX6_readArrows 63 = .ok (.getfield 40, 3) := by decide +kernel
theorem dX6_readArrows_66 : decode cX6_readArrows 66 = .ok (.invokevirtual 94, 3) := by decide +kernel
theorem dX6_readArrows_69 : decode cX6_readArrows 69 = .ok (.aload_n 0, 1) := by decide +kernel
theorem dX6_readArrows_70 : decode cX6_readArrows 70 = .ok (.getfield 12, 3) := by decide +kernel
theorem dX6_readArrows_73 : decode cX6_readArrows 73 = .ok (.getfield 65, 3) := by decide +kernel
theorem dX6_readArrows_76 : decode cX6_readArrows 76 = .ok (.invokevirtual 94, 3) := by decide +kernel
theorem dX6_readArrows_79 : decode cX6_readArrows 79 = .ok (.isub, 1) := by decide +kernel
theorem dX6_readArrows_80 : decode cX6_readArrows 80 = .ok (.istore_n 2, 1) := by decide +kernel
theorem dX6_readArrows_81 : decode cX6_readArrows 81 = .ok (.aload_n 0, 1) := by decide +kernel
theorem dX6_readArrows_82 : decode cX6_readArrows 82 = .ok (.getfield 19, 3) := by decide +kernel
theorem dX6_readArrows_85 : decode cX6_readArrows 85 = .ok (.aload_n 0, 1) := by decide +kernel
theorem dX6_readArrows_86 : decode cX6_readArrows 86 = .ok (.getfield 12, 3) := by decide +kernel
theorem dX6_readArrows_89 : decode cX6_readArrows 89 = .ok (.invokevirtual 72, 3) := by decide +kernel
theorem dX6_readArrows_92 : decode cX6_readArrows 92 = .ok (.aload_n 0, 1) := by decide +kernel
theorem dX6_readArrows_93 : decode cX6_readArrows 93 = .ok (.getfield 12, 3) := by decide +kernel
theorem dX6_readArrows_96 : decode cX6_readArrows 96 = .ok (.getfield 65, 3) := by decide +kernel
theorem dX6_readArrows_99 : decode cX6_readArrows 99 = .ok (.aload_n 0, 1) := by decide +kernel
theorem dX6_readArrows_100 : decode cX6_readArrows 100 = .ok (.getfield 40, 3) := by decide +kernel
theorem dX6_readArrows_103 : decode cX6_readArrows 103 = .ok (.invokevirtual 119, 3) := by decide +kernel
theorem dX6_readArrows_106 : decode cX6_readArrows 106 = .ok (.iload_n 2, 1) := by decide +kernel
theorem dX6_readArrows_107 : decode cX6_readArrows 107 = .ok (.ireturn, 1) := by decide +kernel
set_option maxRecDepth 20000 in
theorem ggX6_turnOver_X1_hasColour : GoodIn wsX6_turnOver wsX1_hasColour := goodIn_r _ [8, 9, 10, 113, 114, 115, 116] (by decide +kernel) (by decide +kernel)
set_option maxRecDepth 20000 in
theorem gX6_turnOver_X1_hasColour : GoodIn wsX6_turnOver (wsV RX6 127 RX1 yX1_hasColour wsX1_hasColour) := goodIn_app (goodIn_of _ (by decide +kernel)) ggX6_turnOver_X1_hasColour
set_option maxRecDepth 20000 in
theorem ggX6_turnOver_X2_remember : GoodIn wsX6_turnOver wsX2_remember := goodIn_r _ [15, 16, 17, 18, 19, 20, 14, 21, 22, 23, 24, 25, 26, 27, 28, 29, 30, 31, 32, 33, 34, 35, 36, 37, 7, 38, 9, 39, 40, 10, 41, 117, 118, 109, 110, 111, 112, 113, 114, 115, 116] (by decide +kernel) (by decide +kernel)
set_option maxRecDepth 20000 in
theorem gX6_turnOver_X2_remember : GoodIn wsX6_turnOver (wsV RX6 72 RX2 yX2_remember wsX2_remember) := goodIn_app (goodIn_of _ (by decide +kernel)) ggX6_turnOver_X2_remember
set_option maxRecDepth 20000 in
theorem ggX6_turnOver_X1_exchange : GoodIn wsX6_turnOver wsX1_exchange := goodIn_r _ [45, 9, 39, 10, 113, 114, 115, 116] (by decide +kernel) (by decide +kernel)
set_option maxRecDepth 20000 in
theorem gX6_turnOver_X1_exchange : GoodIn wsX6_turnOver (wsV RX6 130 RX1 yX1_exchange wsX1_exchange) := goodIn_app (goodIn_of _ (by decide +kernel)) ggX6_turnOver_X1_exchange
set_option maxRecDepth 20000 in
theorem ggX6_turnOver_X6_wonBy : GoodIn wsX6_turnOver wsX6_wonBy := goodIn_r _ [50, 1, 2, 51, 52, 53, 54, 55, 49, 56, 57, 58, 36, 37, 7, 38, 9, 39, 40, 30, 31, 32, 10, 41, 42, 43, 44, 45, 59, 60, 61, 62, 63, 64, 65, 66, 67, 68, 69, 70, 71, 72, 73, 74, 75, 76, 77, 78, 79, 80, 81, 82, 83, 84, 85, 86, 87, 88, 89, 90, 91, 92, 93, 94, 95, 96, 97, 98, 99, 100, 101, 102, 103, 104, 105, 106, 107, 108, 109, 110, 111, 112, 113, 114, 115, 116, 119, 120, 121] (by decide +kernel) (by decide +kernel)
set_option maxRecDepth 20000 in
theorem gX6_turnOver_X6_wonBy : GoodIn wsX6_turnOver (wsV RX6 87 RX6 yX6_wonBy wsX6_wonBy) := goodIn_app (goodIn_of _ (by decide +kernel)) ggX6_turnOver_X6_wonBy
theorem dX6_turnOver_0 : decode cX6_turnOver 0 = .ok (.aload_n 0, 1) := by decide +kernel
theorem dX6_turnOver_1 : decode cX6_turnOver 1 = .ok (.getfield 12, 3) := by decide +kernel
theorem dX6_turnOver_4 : decode cX6_turnOver 4 = .ok (.getfield 65, 3) := by decide +kernel
theorem dX6_turnOver_7 : decode cX6_turnOver 7 = .ok (.bipush 7, 2) := by decide +kernel
theorem dX6_turnOver_9 : decode cX6_turnOver 9 = .ok (.invokevirtual 127, 3) := by decide +kernel
theorem dX6_turnOver_12 : decode cX6_turnOver 12 = .ok (.ifCond .eq 6, 3) := by decide +kernel
theorem dX6_turnOver_15 : decode cX6_turnOver 15 = .ok (.bipush (-4), 2) := by decide +kernel
theorem dX6_turnOver_17 : decode cX6_turnOver 17 = .ok (.ireturn, 1) := by decide +kernel
theorem dX6_turnOver_18 : decode cX6_turnOver 18 = .ok (.aload_n 0, 1) := by decide +kernel
theorem dX6_turnOver_19 : decode cX6_turnOver 19 = .ok (.getfield 19, 3) := by decide +kernel
theorem dX6_turnOver_22 : decode cX6_turnOver 22 = .ok (.aload_n 0, 1) := by decide +kernel
theorem dX6_turnOver_23 : decode cX6_turnOver 23 = .ok (.getfield 12, 3) := by decide +kernel
theorem dX6_turnOver_26 : decode cX6_turnOver 26 = .ok (.invokevirtual 72, 3) := by decide +kernel
theorem dX6_turnOver_29 : decode cX6_turnOver 29 = .ok (.aload_n 0, 1) := by decide +kernel
theorem dX6_turnOver_30 : decode cX6_turnOver 30 = .ok (.getfield 12, 3) := by decide +kernel
theorem dX6_turnOver_33 : decode cX6_turnOver 33 = .ok (.getfield 65, 3) := by decide +kernel
theorem dX6_turnOver_36 : decode cX6_turnOver 36 = .ok (.invokevirtual 130, 3) := by decide +kernel
theorem dX6_turnOver_39 : decode cX6_turnOver 39 = .ok (.aload_n 0, 1) := by decide +kernel
theorem dX6_turnOver_40 : decode cX6_turnOver 40 = .ok (.iconst 1, 1) := by decide +kernel
theorem dX6_turnOver_41 : decode cX6_turnOver 41 = .ok (.invokevirtual 87, 3) := by decide +kernel
theorem dX6_turnOver_44 : decode cX6_turnOver 44 = .ok (.ireturn, 1) := by decide +kernel
set_option maxRecDepth 20000 in
theorem ggX6_choose_X1_has : GoodIn wsX6_choose wsX1_has := goodIn_r _ [9, 10, 63, 64, 65, 66] (by decide +kernel) (by decide +kernel)
set_option maxRecDepth 20000 in
theorem gX6_choose_X1_has : GoodIn wsX6_choose (wsV RX6 80 RX1 yX1_has wsX1_has) := goodIn_app (goodIn_of _ (by decide +kernel)) ggX6_choose_X1_has
set_option maxRecDepth 20000 in
theorem ggX6_choose_X1_leads : GoodIn wsX6_choose wsX1_leads := goodIn_r _ [14, 15, 16, 6, 7, 8, 9, 10, 17, 18, 19, 63, 64, 65, 66] (by decide +kernel) (by decide +kernel)
set_option maxRecDepth 20000 in
theorem gX6_choose_X1_leads : GoodIn wsX6_choose (wsV RX6 98 RX1 yX1_leads wsX1_leads) := goodIn_app (goodIn_of _ (by decide +kernel)) ggX6_choose_X1_leads
set_option maxRecDepth 20000 in
theorem ggX6_choose_X2_remember : GoodIn wsX6_choose wsX2_remember := goodIn_r _ [24, 25, 26, 27, 28, 29, 23, 30, 31, 32, 33, 34, 35, 36, 37, 38, 39, 40, 41, 42, 43, 44, 45, 46, 8, 47, 10, 48, 49, 50, 15, 67, 68, 59, 60, 61, 62, 63, 64, 65, 66] (by decide +kernel) (by decide +kernel)
set_option maxRecDepth 20000 in
theorem gX6_choose_X2_remember : GoodIn wsX6_choose (wsV RX6 72 RX2 yX2_remember wsX2_remember) := goodIn_app (goodIn_of _ (by decide +kernel)) ggX6_choose_X2_remember
theorem dX6_choose_0 : decode cX6_choose 0 = .ok (.aload_n 0, 1) := by decide +kernel
theorem dX6_choose_1 : decode cX6_choose 1 = .ok (.getfield 12, 3) := by decide +kernel
theorem dX6_choose_4 : decode cX6_choose 4 = .ok (.getfield 65, 3) := by decide +kernel
theorem dX6_choose_7 : decode cX6_choose 7 = .ok (.iload_n 1, 1) := by decide +kernel
theorem dX6_choose_8 : decode cX6_choose 8 = .ok (.invokevirtual 80, 3) := by decide +kernel
theorem dX6_choose_11 : decode cX6_choose 11 = .ok (.ifCond .ne 5, 3) := by decide +kernel
theorem dX6_choose_14 : decode cX6_choose 14 = .ok (.iconst (-1), 1) := by decide +kernel
theorem dX6_choose_15 : decode cX6_choose 15 = .ok (.ireturn, 1) := by decide +kernel
theorem dX6_choose_16 : decode cX6_choose 16 = .ok (.iload_n 2, 1) := by decide +kernel
theorem dX6_choose_17 : decode cX6_choose 17 = .ok (.ifCond .lt 9, 3) := by decide +kernel
theorem dX6_choose_20 : decode cX6_choose 20 = .ok (.iload_n 2, 1) := by decide +kernel
theorem dX6_choose_21 : decode cX6_choose 21 = .ok (.bipush 14, 2) := by decide +kernel
theorem dX6_choose_23 : decode cX6_choose 23 = .ok (.if_icmp .le 6, 3) := by decide +kernel
theorem dX6_choose_26 : decode cX6_choose 26 = .ok (.bipush (-2), 2) := by decide +kernel
theorem dX6_choose_28 : decode cX6_choose 28 = .ok (.ireturn, 1) := by decide +kernel
theorem dX6_choose_29 : decode cX6_choose 29 = .ok (.iload_n 2, 1) := by decide +kernel
theorem dX6_choose_30 : decode cX6_choose 30 = .ok (.bipush 14, 2) := by decide +kernel
theorem dX6_choose_32 : decode cX6_choose 32 = .ok (.if_icmp .eq 21, 3) := by decide +kernel
theorem dX6_choose_35 : decode cX6_choose 35 = .ok (.aload_n 0, 1) := by decide +kernel
theorem dX6_choose_36 : decode cX6_choose 36 = .ok (.getfield 12, 3) := by decide +kernel
theorem dX6_choose_39 : decode cX6_choose 39 = .ok (.getfield 65, 3) := by decide +kernel
theorem dX6_choose_42 : decode cX6_choose 42 = .ok (.iload_n 1, 1) := by decide +kernel
theorem dX6_choose_43 : decode cX6_choose 43 = .ok (.iload_n 2, 1) := by decide +kernel
theorem dX6_choose_44 : decode cX6_choose 44 = .ok (.invokevirtual 98, 3) := by decide +kernel
theorem dX6_choose_47 : decode cX6_choose 47 = .ok (.ifCond .ne 6, 3) := by decide +kernel
theorem dX6_choose_50 : decode cX6_choose 50 = .ok (.bipush (-4), 2) := by decide +kernel
theorem dX6_choose_52 : decode cX6_choose 52 = .ok (.ireturn, 1) := by decide +kernel
theorem dX6_choose_53 : decode cX6_choose 53 = .ok (.aload_n 0, 1) := by decide +kernel
theorem dX6_choose_54 : decode cX6_choose 54 = .ok (.getfield 12, 3) := by decide +kernel
theorem dX6_choose_57 : decode cX6_choose 57 = .ok (.getfield 113, 3) := by decide +kernel
theorem dX6_choose_60 : decode cX6_choose 60 = .ok (.iload_n 1, 1) := by decide +kernel
theorem dX6_choose_61 : decode cX6_choose 61 = .ok (.iaload, 1) := by decide +kernel
theorem dX6_choose_62 : decode cX6_choose 62 = .ok (.istore_n 3, 1) := by decide +kernel
theorem dX6_choose_63 : decode cX6_choose 63 = .ok (.iload_n 3, 1) := by decide +kernel
theorem dX6_choose_64 : decode cX6_choose 64 = .ok (.iload_n 2, 1) := by decide +kernel
theorem dX6_choose_65 : decode cX6_choose 65 = .ok (.if_icmp .ne 6, 3) := by decide +kernel
theorem dX6_choose_68 : decode cX6_choose 68 = .ok (.bipush (-5), 2) := by decide +kernel
theorem dX6_choose_70 : decode cX6_choose 70 = .ok (.ireturn, 1) := by decide +kernel
theorem dX6_choose_71 : decode cX6_choose 71 = .ok (.aload_n 0, 1) := by decide +kernel
theorem dX6_choose_72 : decode cX6_choose 72 = .ok (.getfield 19, 3) := by decide +kernel
theorem dX6_choose_75 : decode cX6_choose 75 = .ok (.aload_n 0, 1) := by decide +kernel
theorem dX6_choose_76 : decode cX6_choose 76 = .ok (.getfield 12, 3) := by decide +kernel
theorem dX6_choose_79 : decode cX6_choose 79 = .ok (.invokevirtual 72, 3) := by decide +kernel
theorem dX6_choose_82 : decode cX6_choose 82 = .ok (.aload_n 0, 1) := by decide +kernel
theorem dX6_choose_83 : decode cX6_choose 83 = .ok (.getfield 12, 3) := by decide +kernel
theorem dX6_choose_86 : decode cX6_choose 86 = .ok (.getfield 113, 3) := by decide +kernel
theorem dX6_choose_89 : decode cX6_choose 89 = .ok (.iload_n 1, 1) := by decide +kernel
theorem dX6_choose_90 : decode cX6_choose 90 = .ok (.iload_n 2, 1) := by decide +kernel
theorem dX6_choose_91 : decode cX6_choose 91 = .ok (.iastore, 1) := by decide +kernel
theorem dX6_choose_92 : decode cX6_choose 92 = .ok (.iload_n 3, 1) := by decide +kernel
theorem dX6_choose_93 : decode cX6_choose 93 = .ok (.ireturn, 1) := by decide +kernel
set_option maxRecDepth 20000 in
theorem ggX6_chooseWell_X6_isPlayer : GoodIn wsX6_chooseWell wsX6_isPlayer := goodIn_r _ [12] (by decide +kernel) (by decide +kernel)
set_option maxRecDepth 20000 in
theorem gX6_chooseWell_X6_isPlayer : GoodIn wsX6_chooseWell (va_wsS RX6 58 yX6_isPlayer wsX6_isPlayer) := goodIn_app (goodIn_of _ (by decide +kernel)) ggX6_chooseWell_X6_isPlayer
set_option maxRecDepth 20000 in
theorem ggX6_chooseWell_X2_remember : GoodIn wsX6_chooseWell wsX2_remember := goodIn_r _ [17, 18, 19, 20, 21, 22, 16, 23, 24, 25, 26, 27, 28, 29, 30, 31, 32, 33, 34, 35, 36, 37, 38, 39, 40, 41, 42, 43, 44, 45, 46, 119, 120, 111, 112, 113, 114, 115, 116, 117, 118] (by decide +kernel) (by decide +kernel)
set_option maxRecDepth 20000 in
theorem gX6_chooseWell_X2_remember : GoodIn wsX6_chooseWell (wsV RX6 72 RX2 yX2_remember wsX2_remember) := goodIn_app (goodIn_of _ (by decide +kernel)) ggX6_chooseWell_X2_remember
set_option maxRecDepth 20000 in
theorem ggX6_chooseWell_X6_solveFor : GoodIn wsX6_chooseWell wsX6_solveFor := goodIn_r _ [50, 8, 2, 3, 7, 51, 38, 39, 40, 41, 42, 43, 44, 32, 33, 34, 45, 46, 52, 53, 54, 55, 56, 57, 58, 59, 60, 61, 62, 63, 64, 65, 66, 67, 68, 69, 70, 71, 72, 73, 74, 75, 76, 77, 78, 79, 80, 81, 82, 83, 84, 85, 11, 86, 87, 88, 89, 90, 103, 104, 105, 106, 107, 108, 109, 110, 111, 112, 113, 114, 115, 116, 117, 118, 121, 122, 123] (by decide +kernel) (by decide +kernel)
set_option maxRecDepth 20000 in
theorem gX6_chooseWell_X6_solveFor : GoodIn wsX6_chooseWell (wsV RX6 133 RX6 yX6_solveFor wsX6_solveFor) := goodIn_app (goodIn_of _ (by decide +kernel)) ggX6_chooseWell_X6_solveFor
set_option maxRecDepth 20000 in
theorem ggX6_chooseWell_X3_bestArrow : GoodIn wsX6_chooseWell wsX3_bestArrow := goodIn_r _ [94, 76, 62, 75, 95, 96, 97, 40, 98, 46, 99, 100, 101, 102, 42, 85, 11, 86, 87, 88, 89, 59, 90, 63, 64, 61, 115, 116, 117, 118, 121, 122, 123] (by decide +kernel) (by decide +kernel)
set_option maxRecDepth 20000 in
theorem gX6_chooseWell_X3_bestArrow : GoodIn wsX6_chooseWell (wsV RX6 137 RX3 yX3_bestArrow wsX3_bestArrow) := goodIn_app (goodIn_of _ (by decide +kernel)) ggX6_chooseWell_X3_bestArrow
theorem dX6_chooseWell_0 : decode cX6_chooseWell 0 = .ok (.iload_n 1, 1) := by decide +kernel
theorem dX6_chooseWell_1 : decode cX6_chooseWell 1 = .ok (.invokestatic 58, 3) := by decide +kernel
theorem dX6_chooseWell_4 : decode cX6_chooseWell 4 = .ok (.ifCond .ne 5, 3) := by decide +kernel
theorem dX6_chooseWell_7 : decode cX6_chooseWell 7 = .ok (.iconst (-1), 1) := by decide +kernel
theorem dX6_chooseWell_8 : decode cX6_chooseWell 8 = .ok (.ireturn, 1) := by decide +kernel
theorem dX6_chooseWell_9 : decode cX6_chooseWell 9 = .ok (.aload_n 0, 1) := by decide +kernel
theorem dX6_chooseWell_10 : decode cX6_chooseWell 10 = .ok (.getfield 19, 3) := by decide +kernel
theorem dX6_chooseWell_13 : decode cX6_chooseWell 13 = .ok (.aload_n 0, 1) := by decide +kernel
theorem dX6_chooseWell_14 : decode cX6_chooseWell 14 = .ok (.getfield 12, 3) := by decide +kernel
theorem dX6_chooseWell_17 : decode cX6_chooseWell 17 = .ok (.invokevirtual 72, 3) := by decide +kernel
theorem dX6_chooseWell_20 : decode cX6_chooseWell 20 = .ok (.aload_n 0, 1) := by decide +kernel
theorem dX6_chooseWell_21 : decode cX6_chooseWell 21 = .ok (.iload_n 1, 1) := by decide +kernel
theorem dX6_chooseWell_22 : decode cX6_chooseWell 22 = .ok (.invokevirtual 133, 3) := by decide +kernel
theorem dX6_chooseWell_25 : decode cX6_chooseWell 25 = .ok (.iconst 0, 1) := by decide +kernel
theorem dX6_chooseWell_26 : decode cX6_chooseWell 26 = .ok (.istore_n 2, 1) := by decide +kernel
theorem dX6_chooseWell_27 : decode cX6_chooseWell 27 = .ok (.iconst 0, 1) := by decide +kernel
theorem dX6_chooseWell_28 : decode cX6_chooseWell 28 = .ok (.istore_n 3, 1) := by decide +kernel
theorem dX6_chooseWell_29 : decode cX6_chooseWell 29 = .ok (.iload_n 3, 1) := by decide +kernel
theorem dX6_chooseWell_30 : decode cX6_chooseWell 30 = .ok (.aload_n 0, 1) := by decide +kernel
theorem dX6_chooseWell_31 : decode cX6_chooseWell 31 = .ok (.getfield 12, 3) := by decide +kernel
theorem dX6_chooseWell_34 : decode cX6_chooseWell 34 = .ok (.getfield 65, 3) := by decide +kernel
theorem dX6_chooseWell_37 : decode cX6_chooseWell 37 = .ok (.getfield 68, 3) := by decide +kernel
theorem dX6_chooseWell_40 : decode cX6_chooseWell 40 = .ok (.if_icmp .ge 68, 3) := by decide +kernel
theorem dX6_chooseWell_43 : decode cX6_chooseWell 43 = .ok (.aload_n 0, 1) := by decide +kernel
theorem dX6_chooseWell_44 : decode cX6_chooseWell 44 = .ok (.getfield 12, 3) := by decide +kernel
theorem dX6_chooseWell_47 : decode cX6_chooseWell 47 = .ok (.getfield 65, 3) := by decide +kernel
theorem dX6_chooseWell_50 : decode cX6_chooseWell 50 = .ok (.getfield 83, 3) := by decide +kernel
theorem dX6_chooseWell_53 : decode cX6_chooseWell 53 = .ok (.iload_n 3, 1) := by decide +kernel
theorem dX6_chooseWell_54 : decode cX6_chooseWell 54 = .ok (.iaload, 1) := by decide +kernel
theorem dX6_chooseWell_55 : decode cX6_chooseWell 55 = .ok (.iload_n 1, 1) := by decide +kernel
theorem dX6_chooseWell_56 : decode cX6_chooseWell 56 = .ok (.if_icmp .ne 46, 3) := by decide +kernel
theorem dX6_chooseWell_59 : decode cX6_chooseWell 59 = .ok (.aload_n 0, 1) := by decide +kernel
theorem dX6_chooseWell_60 : decode cX6_chooseWell 60 = .ok (.getfield 12, 3) := by decide +kernel
theorem dX6_chooseWell_63 : decode cX6_chooseWell 63 = .ok (.getfield 113, 3) := by decide +kernel
theorem dX6_chooseWell_66 : decode cX6_chooseWell 66 = .ok (.iload_n 3, 1) := by decide +kernel
theorem dX6_chooseWell_67 : decode cX6_chooseWell 67 = .ok (.aload_n 0, 1) := by decide +kernel
theorem dX6_chooseWell_68 : decode cX6_chooseWell 68 = .ok (.getfield 47, 3) := by decide +kernel
theorem dX6_chooseWell_71 : decode cX6_chooseWell 71 = .ok (.aload_n 0, 1) := by decide +kernel
theorem dX6_chooseWell_72 : decode cX6_chooseWell 72 = .ok (.getfield 40, 3) := by decide +kernel
theorem dX6_chooseWell_75 : decode cX6_chooseWell 75 = .ok (.iload_n 3, 1) := by decide +kernel
theorem dX6_chooseWell_76 : decode cX6_chooseWell 76 = .ok (.invokevirtual 137, 3) := by decide +kernel
theorem dX6_chooseWell_79 : decode cX6_chooseWell 79 = .ok (.iastore, 1) := by decide +kernel
theorem dX6_chooseWell_80 : decode cX6_chooseWell 80 = .ok (.iload_n 2, 1) := by decide +kernel
theorem dX6_chooseWell_81 : decode cX6_chooseWell 81 = .ok (.aload_n 0, 1) := by decide +kernel
theorem dX6_chooseWell_82 : decode cX6_chooseWell 82 = .ok (.getfield 12, 3) := by decide +kernel
theorem dX6_chooseWell_85 : decode cX6_chooseWell 85 = .ok (.getfield 113, 3) := by decide +kernel
theorem dX6_chooseWell_88 : decode cX6_chooseWell 88 = .ok (.iload_n 3, 1) := by decide +kernel
theorem dX6_chooseWell_89 : decode cX6_chooseWell 89 = .ok (.iaload, 1) := by decide +kernel
theorem dX6_chooseWell_90 : decode cX6_chooseWell 90 = .ok (.bipush 14, 2) := by decide +kernel
theorem dX6_chooseWell_92 : decode cX6_chooseWell 92 = .ok (.if_icmp .ne 7, 3) := by decide +kernel
theorem dX6_chooseWell_95 : decode cX6_chooseWell 95 = .ok (.iconst 0, 1) := by decide +kernel
theorem dX6_chooseWell_96 : decode cX6_chooseWell 96 = .ok (.goto 4, 3) := by decide +kernel
theorem dX6_chooseWell_99 : decode cX6_chooseWell 99 = .ok (.iconst 1, 1) := by decide +kernel
theorem dX6_chooseWell_100 : decode cX6_chooseWell 100 = .ok (.iadd, 1) := by decide +kernel
theorem dX6_chooseWell_101 : decode cX6_chooseWell 101 = .ok (.istore_n 2, 1) := by decide +kernel
theorem dX6_chooseWell_102 : decode cX6_chooseWell 102 = .ok (.iinc 3 1, 3) := by decide +kernel
theorem dX6_chooseWell_105 : decode cX6_chooseWell 105 = .ok (.goto (-76), 3) := by decide +kernel
theorem dX6_chooseWell_108 : decode cX6_chooseWell 108 = .ok (.iload_n 2, 1) := by decide +kernel
theorem dX6_chooseWell_109 : decode cX6_chooseWell 109 = .ok (.ireturn, 1) := by decide +kernel
set_option maxRecDepth 20000 in
theorem ggX6_start_X1_has : GoodIn wsX6_start wsX1_has := goodIn_r _ [10, 11, 115, 116, 117, 118] (by decide +kernel) (by decide +kernel)
set_option maxRecDepth 20000 in
theorem gX6_start_X1_has : GoodIn wsX6_start (wsV RX6 80 RX1 yX1_has wsX1_has) := goodIn_app (goodIn_of _ (by decide +kernel)) ggX6_start_X1_has
set_option maxRecDepth 20000 in
theorem ggX6_start_X2_remember : GoodIn wsX6_start wsX2_remember := goodIn_r _ [16, 17, 18, 19, 20, 21, 15, 22, 23, 24, 25, 26, 27, 28, 29, 30, 31, 32, 33, 34, 35, 36, 37, 38, 9, 39, 11, 40, 41, 42, 43, 119, 120, 111, 112, 113, 114, 115, 116, 117, 118] (by decide +kernel) (by decide +kernel)
set_option maxRecDepth 20000 in
theorem gX6_start_X2_remember : GoodIn wsX6_start (wsV RX6 72 RX2 yX2_remember wsX2_remember) := goodIn_app (goodIn_of _ (by decide +kernel)) ggX6_start_X2_remember
set_option maxRecDepth 20000 in
theorem ggX6_start_X6_winnerOf : GoodIn wsX6_start wsX6_winnerOf := goodIn_r _ [48, 49, 50, 51, 52, 47, 53, 54, 1, 2, 55, 37, 38, 9, 39, 11, 40, 41, 31, 32, 33, 42, 43, 56, 57, 58, 59, 60, 61, 62, 63, 64, 65, 66, 67, 68, 69, 70, 71, 72, 73, 74, 75, 76, 77, 78, 79, 80, 81, 82, 83, 84, 85, 86, 87, 88, 89, 90, 91, 92, 93, 94, 95, 96, 97, 98, 99, 100, 101, 102, 103, 104, 105, 106, 107, 108, 109, 110, 111, 112, 113, 114, 115, 116, 117, 118, 121, 122, 123] (by decide +kernel) (by decide +kernel)
set_option maxRecDepth 20000 in
theorem gX6_start_X6_winnerOf : GoodIn wsX6_start (wsV RX6 147 RX6 yX6_winnerOf wsX6_winnerOf) := goodIn_app (goodIn_of _ (by decide +kernel)) ggX6_start_X6_winnerOf
theorem dX6_start_0 : decode cX6_start 0 = .ok (.aload_n 0, 1) := by decide +kernel
theorem dX6_start_1 : decode cX6_start 1 = .ok (.getfield 12, 3) := by decide +kernel
theorem dX6_start_4 : decode cX6_start 4 = .ok (.getfield 65, 3) := by decide +kernel
theorem dX6_start_7 : decode cX6_start 7 = .ok (.iload_n 1, 1) := by decide +kernel
theorem dX6_start_8 : decode cX6_start 8 = .ok (.invokevirtual 80, 3) := by decide +kernel
theorem dX6_start_11 : decode cX6_start 11 = .ok (.ifCond .ne 5, 3) := by decide +kernel
theorem dX6_start_14 : decode cX6_start 14 = .ok (.iconst (-1), 1) := by decide +kernel
theorem dX6_start_15 : decode cX6_start 15 = .ok (.ireturn, 1) := by decide +kernel
theorem dX6_start_16 : decode cX6_start 16 = .ok (.aload_n 0, 1) := by decide +kernel
theorem dX6_start_17 : decode cX6_start 17 = .ok (.getfield 19, 3) := by decide +kernel
theorem dX6_start_20 : decode cX6_start 20 = .ok (.aload_n 0, 1) := by decide +kernel
theorem dX6_start_21 : decode cX6_start 21 = .ok (.getfield 12, 3) := by decide +kernel
theorem dX6_start_24 : decode cX6_start 24 = .ok (.invokevirtual 72, 3) := by decide +kernel
theorem dX6_start_27 : decode cX6_start 27 = .ok (.aload_n 0, 1) := by decide +kernel
theorem dX6_start_28 : decode cX6_start 28 = .ok (.getfield 12, 3) := by decide +kernel
theorem dX6_start_31 : decode cX6_start 31 = .ok (.iload_n 1, 1) := by decide +kernel
theorem dX6_start_32 : decode cX6_start 32 = .ok (.putfield 141, 3) := by decide +kernel
theorem dX6_start_35 : decode cX6_start 35 = .ok (.aload_n 0, 1) := by decide +kernel
theorem dX6_start_36 : decode cX6_start 36 = .ok (.getfield 12, 3) := by decide +kernel
theorem dX6_start_39 : decode cX6_start 39 = .ok (.iconst 0, 1) := by decide +kernel
theorem dX6_start_40 : decode cX6_start 40 = .ok (.putfield 144, 3) := by decide +kernel
theorem dX6_start_43 : decode cX6_start 43 = .ok (.aload_n 0, 1) := by decide +kernel
theorem dX6_start_44 : decode cX6_start 44 = .ok (.iload_n 1, 1) := by decide +kernel
theorem dX6_start_45 : decode cX6_start 45 = .ok (.invokevirtual 147, 3) := by decide +kernel
theorem dX6_start_48 : decode cX6_start 48 = .ok (.ireturn, 1) := by decide +kernel
set_option maxRecDepth 20000 in
theorem ggX6_step_X1_has : GoodIn wsX6_step wsX1_has := goodIn_r _ [11, 12, 136, 137, 138, 139] (by decide +kernel) (by decide +kernel)
set_option maxRecDepth 20000 in
theorem gX6_step_X1_has : GoodIn wsX6_step (wsV RX6 80 RX1 yX1_has wsX1_has) := goodIn_app (goodIn_of _ (by decide +kernel)) ggX6_step_X1_has
set_option maxRecDepth 20000 in
theorem ggX6_step_X6_findWays : GoodIn wsX6_step wsX6_findWays := goodIn_r _ [17, 1, 2, 18, 19, 4, 20, 21, 22, 23, 16, 24, 25, 26, 27, 28, 29, 10, 30, 12, 31, 32, 33, 34, 35, 36, 37, 38, 39, 40, 41, 42, 43, 44, 45, 46, 47, 48, 49, 50, 51, 52, 53, 54, 55, 56, 57, 58, 59, 60, 61, 62, 63, 64, 65, 66, 67, 68, 69, 70, 71, 72, 73, 74, 75, 76, 77, 78, 79, 80, 81, 82, 83, 84, 85, 86, 87, 88, 89, 90, 8, 9, 11, 91, 92, 93, 94, 95, 124, 125, 126, 127, 128, 129, 130, 131, 132, 133, 134, 135, 136, 137, 138, 139, 140, 141, 142, 143, 144, 145, 146] (by decide +kernel) (by decide +kernel)
set_option maxRecDepth 20000 in
theorem gX6_step_X6_findWays : GoodIn wsX6_step (wsV RX6 150 RX6 yX6_findWays wsX6_findWays) := goodIn_app (goodIn_of _ (by decide +kernel)) ggX6_step_X6_findWays
set_option maxRecDepth 20000 in
theorem ggX6_step_X5_wayFrom : GoodIn wsX6_step wsX5_wayFrom := goodIn_r _ [100, 101, 140, 141, 142, 143] (by decide +kernel) (by decide +kernel)
set_option maxRecDepth 20000 in
theorem gX6_step_X5_wayFrom : GoodIn wsX6_step (wsV RX6 153 RX5 yX5_wayFrom wsX5_wayFrom) := goodIn_app (goodIn_of _ (by decide +kernel)) ggX6_step_X5_wayFrom
set_option maxRecDepth 20000 in
theorem ggX6_step_X2_remember : GoodIn wsX6_step wsX2_remember := goodIn_r _ [106, 107, 108, 109, 110, 111, 105, 112, 113, 114, 115, 116, 117, 118, 119, 120, 33, 34, 35, 121, 122, 123, 28, 29, 10, 30, 12, 31, 32, 36, 37, 147, 148, 132, 133, 134, 135, 136, 137, 138, 139] (by decide +kernel) (by decide +kernel)
set_option maxRecDepth 20000 in
theorem gX6_step_X2_remember : GoodIn wsX6_step (wsV RX6 72 RX2 yX2_remember wsX2_remember) := goodIn_app (goodIn_of _ (by decide +kernel)) ggX6_step_X2_remember
theorem dX6_step_0 : decode cX6_step 0 = .ok (.iload_n 1, 1) := by decide +kernel
theorem dX6_step_1 : decode cX6_step 1 = .ok (.iconst 1, 1) := by decide +kernel
theorem dX6_step_2 : decode cX6_step 2 = .ok (.if_icmp .lt 9, 3) := by decide +kernel
theorem dX6_step_5 : decode cX6_step 5 = .ok (.iload_n 1, 1) := by decide +kernel
theorem dX6_step_6 : decode cX6_step 6 = .ok (.bipush 50, 2) := by decide +kernel
theorem dX6_step_8 : decode cX6_step 8 = .ok (.if_icmp .le 6, 3) := by decide +kernel
theorem dX6_step_11 : decode cX6_step 11 = .ok (.bipush (-2), 2) := by decide +kernel
theorem dX6_step_13 : decode cX6_step 13 = .ok (.ireturn, 1) := by decide +kernel
theorem dX6_step_14 : decode cX6_step 14 = .ok (.aload_n 0, 1) := by decide +kernel
theorem dX6_step_15 : decode cX6_step 15 = .ok (.getfield 12, 3) := by decide +kernel
theorem dX6_step_18 : decode cX6_step 18 = .ok (.getfield 65, 3) := by decide +kernel
theorem dX6_step_21 : decode cX6_step 21 = .ok (.aload_n 0, 1) := by decide +kernel
theorem dX6_step_22 : decode cX6_step 22 = .ok (.getfield 12, 3) := by decide +kernel
theorem dX6_step_25 : decode cX6_step 25 = .ok (.getfield 141, 3) := by decide +kernel
theorem dX6_step_28 : decode cX6_step 28 = .ok (.invokevirtual 80, 3) := by decide +kernel
theorem dX6_step_31 : decode cX6_step 31 = .ok (.ifCond .ne 6, 3) := by decide +kernel
theorem dX6_step_34 : decode cX6_step 34 = .ok (.bipush (-4), 2) := by decide +kernel
theorem dX6_step_36 : decode cX6_step 36 = .ok (.ireturn, 1) := by decide +kernel
theorem dX6_step_37 : decode cX6_step 37 = .ok (.aload_n 0, 1) := by decide +kernel
theorem dX6_step_38 : decode cX6_step 38 = .ok (.invokevirtual 150, 3) := by decide +kernel
theorem dX6_step_41 : decode cX6_step 41 = .ok (.aload_n 0, 1) := by decide +kernel
theorem dX6_step_42 : decode cX6_step 42 = .ok (.getfield 54, 3) := by decide +kernel
theorem dX6_step_45 : decode cX6_step 45 = .ok (.aload_n 0, 1) := by decide +kernel
theorem dX6_step_46 : decode cX6_step 46 = .ok (.getfield 12, 3) := by decide +kernel
theorem dX6_step_49 : decode cX6_step 49 = .ok (.getfield 141, 3) := by decide +kernel
theorem dX6_step_52 : decode cX6_step 52 = .ok (.invokevirtual 153, 3) := by decide +kernel
theorem dX6_step_55 : decode cX6_step 55 = .ok (.bipush 14, 2) := by decide +kernel
theorem dX6_step_57 : decode cX6_step 57 = .ok (.if_icmp .ne 6, 3) := by decide +kernel
theorem dX6_step_60 : decode cX6_step 60 = .ok (.bipush (-4), 2) := by decide +kernel
theorem dX6_step_62 : decode cX6_step 62 = .ok (.ireturn, 1) := by decide +kernel
theorem dX6_step_63 : decode cX6_step 63 = .ok (.aload_n 0, 1) := by decide +kernel
theorem dX6_step_64 : decode cX6_step 64 = .ok (.getfield 19, 3) := by decide +kernel
theorem dX6_step_67 : decode cX6_step 67 = .ok (.aload_n 0, 1) := by decide +kernel
theorem dX6_step_68 : decode cX6_step 68 = .ok (.getfield 12, 3) := by decide +kernel
theorem dX6_step_71 : decode cX6_step 71 = .ok (.invokevirtual 72, 3) := by decide +kernel
theorem dX6_step_74 : decode cX6_step 74 = .ok (.iconst 0, 1) := by decide +kernel
theorem dX6_step_75 : decode cX6_step 75 = .ok (.istore_n 2, 1) := by decide +kernel
theorem dX6_step_76 : decode cX6_step 76 = .ok (.iload_n 2, 1) := by decide +kernel
theorem dX6_step_77 : decode cX6_step 77 = .ok (.iload_n 1, 1) := by decide +kernel
theorem dX6_step_78 : decode cX6_step 78 = .ok (.if_icmp .ge 62, 3) := by decide +kernel
theorem dX6_step_81 : decode cX6_step 81 = .ok (.aload_n 0, 1) := by decide +kernel
theorem dX6_step_82 : decode cX6_step 82 = .ok (.getfield 54, 3) := by decide +kernel
theorem dX6_step_85 : decode cX6_step 85 = .ok (.aload_n 0, 1) := by decide +kernel
theorem dX6_step_86 : decode cX6_step 86 = .ok (.getfield 12, 3) := by decide +kernel
theorem dX6_step_89 : decode cX6_step 89 = .ok (.getfield 141, 3) := by decide +kernel
theorem dX6_step_92 : decode cX6_step 92 = .ok (.invokevirtual 153, 3) := by decide +kernel
theorem dX6_step_95 : decode cX6_step 95 = .ok (.bipush 14, 2) := by decide +kernel
theorem dX6_step_97 : decode cX6_step 97 = .ok (.if_icmp .eq 43, 3) := by decide +kernel
theorem dX6_step_100 : decode cX6_step 100 = .ok (.aload_n 0, 1) := by decide +kernel
theorem dX6_step_101 : decode cX6_step 101 = .ok (.getfield 12, 3) := by decide +kernel
theorem dX6_step_104 : decode cX6_step 104 = .ok (.aload_n 0, 1) := by decide +kernel
theorem dX6_step_105 : decode cX6_step 105 = .ok (.getfield 54, 3) := by decide +kernel
theorem dX6_step_108 : decode cX6_step 108 = .ok (.aload_n 0, 1) := by decide +kernel
theorem dX6_step_109 : decode cX6_step 109 = .ok (.getfield 12, 3) := by decide +kernel
theorem dX6_step_112 : decode cX6_step 112 = .ok (.getfield 141, 3) := by decide +kernel
theorem dX6_step_115 : decode cX6_step 115 = .ok (.invokevirtual 153, 3) := by decide +kernel
theorem dX6_step_118 : decode cX6_step 118 = .ok (.putfield 141, 3) := by decide +kernel
theorem dX6_step_121 : decode cX6_step 121 = .ok (.aload_n 0, 1) := by decide +kernel
theorem dX6_step_122 : decode cX6_step 122 = .ok (.getfield 12, 3) := by decide +kernel
theorem dX6_step_125 : decode cX6_step 125 = .ok (.dup, 1) := by decide +kernel
theorem dX6_step_126 : decode cX6_step 126 = .ok (.getfield 144, 3) := by decide +kernel
theorem dX6_step_129 : decode cX6_step 129 = .ok (.iconst 1, 1) := by decide +kernel
theorem dX6_step_130 : decode cX6_step 130 = .ok (.iadd, 1) := by decide +kernel
theorem dX6_step_131 : decode cX6_step 131 = .ok (.putfield 144, 3) := by decide +kernel
theorem dX6_step_134 : decode cX6_step 134 = .ok (.iinc 2 1, 3) := by decide +kernel
theorem dX6_step_137 : decode cX6_step 137 = .ok (.goto (-61), 3) := by decide +kernel
theorem dX6_step_140 : decode cX6_step 140 = .ok (.aload_n 0, 1) := by decide +kernel
theorem dX6_step_141 : decode cX6_step 141 = .ok (.getfield 12, 3) := by decide +kernel
theorem dX6_step_144 : decode cX6_step 144 = .ok (.getfield 141, 3) := by decide +kernel
theorem dX6_step_147 : decode cX6_step 147 = .ok (.ireturn, 1) := by decide +kernel
set_option maxRecDepth 20000 in
theorem ggX6_type_X0_append : GoodIn wsX6_type wsX0_append := goodIn_r _ [7, 8, 9, 18, 19] (by decide +kernel) (by decide +kernel)
set_option maxRecDepth 20000 in
theorem gX6_type_X0_append : GoodIn wsX6_type (wsV RX6 156 RX0 yX0_append wsX0_append) := goodIn_app (goodIn_of _ (by decide +kernel)) ggX6_type_X0_append
theorem dX6_type_0 : decode cX6_type 0 = .ok (.aload_n 0, 1) := by decide +kernel
theorem dX6_type_1 : decode cX6_type 1 = .ok (.getfield 33, 3) := by decide +kernel
theorem dX6_type_4 : decode cX6_type 4 = .ok (.iload_n 1, 1) := by decide +kernel
theorem dX6_type_5 : decode cX6_type 5 = .ok (.invokevirtual 156, 3) := by decide +kernel
theorem dX6_type_8 : decode cX6_type 8 = .ok (.ifCond .eq 13, 3) := by decide +kernel
theorem dX6_type_11 : decode cX6_type 11 = .ok (.aload_n 0, 1) := by decide +kernel
theorem dX6_type_12 : decode cX6_type 12 = .ok (.getfield 33, 3) := by decide +kernel
theorem dX6_type_15 : decode cX6_type 15 = .ok (.getfield 159, 3) := by decide +kernel
theorem dX6_type_18 : decode cX6_type 18 = .ok (.goto 5, 3) := by decide +kernel
theorem dX6_type_21 : decode cX6_type 21 = .ok (.bipush (-3), 2) := by decide +kernel
theorem dX6_type_23 : decode cX6_type 23 = .ok (.ireturn, 1) := by decide +kernel
theorem dX6_clearText_0 : decode cX6_clearText 0 = .ok (.aload_n 0, 1) := by decide +kernel
theorem dX6_clearText_1 : decode cX6_clearText 1 = .ok (.getfield 33, 3) := by decide +kernel
theorem dX6_clearText_4 : decode cX6_clearText 4 = .ok (.getfield 159, 3) := by decide +kernel
theorem dX6_clearText_7 : decode cX6_clearText 7 = .ok (.istore_n 1, 1) := by decide +kernel
theorem dX6_clearText_8 : decode cX6_clearText 8 = .ok (.aload_n 0, 1) := by decide +kernel
theorem dX6_clearText_9 : decode cX6_clearText 9 = .ok (.getfield 33, 3) := by decide +kernel
theorem dX6_clearText_12 : decode cX6_clearText 12 = .ok (.iconst 0, 1) := by decide +kernel
theorem dX6_clearText_13 : decode cX6_clearText 13 = .ok (.putfield 159, 3) := by decide +kernel
theorem dX6_clearText_16 : decode cX6_clearText 16 = .ok (.iload_n 1, 1) := by decide +kernel
theorem dX6_clearText_17 : decode cX6_clearText 17 = .ok (.ireturn, 1) := by decide +kernel
set_option maxRecDepth 20000 in
theorem ggX6_undo_X2_takeInto : GoodIn wsX6_undo wsX2_takeInto := goodIn_r _ [8, 9, 10, 11, 12, 13, 14, 15, 16, 17, 18, 19, 20, 21, 22, 23, 24, 25, 26, 27, 28, 29, 30, 31, 32, 33, 42, 43, 44, 45, 46, 47, 48, 49, 50, 51] (by decide +kernel) (by decide +kernel)
set_option maxRecDepth 20000 in
theorem gX6_undo_X2_takeInto : GoodIn wsX6_undo (wsV RX6 162 RX2 yX2_takeInto wsX2_takeInto) := goodIn_app (goodIn_of _ (by decide +kernel)) ggX6_undo_X2_takeInto
theorem dX6_undo_0 : decode cX6_undo 0 = .ok (.aload_n 0, 1) := by decide +kernel
theorem dX6_undo_1 : decode cX6_undo 1 = .ok (.getfield 19, 3) := by decide +kernel
theorem dX6_undo_4 : decode cX6_undo 4 = .ok (.aload_n 0, 1) := by decide +kernel
theorem dX6_undo_5 : decode cX6_undo 5 = .ok (.getfield 12, 3) := by decide +kernel
theorem dX6_undo_8 : decode cX6_undo 8 = .ok (.invokevirtual 162, 3) := by decide +kernel
theorem dX6_undo_11 : decode cX6_undo 11 = .ok (.ifCond .eq 13, 3) := by decide +kernel
theorem dX6_undo_14 : decode cX6_undo 14 = .ok (.aload_n 0, 1) := by decide +kernel
theorem dX6_undo_15 : decode cX6_undo 15 = .ok (.getfield 19, 3) := by decide +kernel
theorem dX6_undo_18 : decode cX6_undo 18 = .ok (.getfield 166, 3) := by decide +kernel
theorem dX6_undo_21 : decode cX6_undo 21 = .ok (.goto 5, 3) := by decide +kernel
theorem dX6_undo_24 : decode cX6_undo 24 = .ok (.bipush (-5), 2) := by decide +kernel
theorem dX6_undo_26 : decode cX6_undo 26 = .ok (.ireturn, 1) := by decide +kernel
set_option maxRecDepth 20000 in
theorem ggX6_keep_X4_become : GoodIn wsX6_keep wsX4_become := goodIn_r _ [10, 11, 12, 13, 14, 15, 16, 17, 18, 19, 20, 21, 22, 23, 24, 25, 26, 27, 28, 37, 38, 39, 40, 41, 42, 43, 44] (by decide +kernel) (by decide +kernel)
set_option maxRecDepth 20000 in
theorem gX6_keep_X4_become : GoodIn wsX6_keep (wsV RX6 169 RX4 yX4_become wsX4_become) := goodIn_app (goodIn_of _ (by decide +kernel)) ggX6_keep_X4_become
theorem dX6_keep_0 : decode cX6_keep 0 = .ok (.aload_n 0, 1) := by decide +kernel
theorem dX6_keep_1 : decode cX6_keep 1 = .ok (.getfield 23, 3) := by decide +kernel
theorem dX6_keep_4 : decode cX6_keep 4 = .ok (.aload_n 0, 1) := by decide +kernel
theorem dX6_keep_5 : decode cX6_keep 5 = .ok (.getfield 12, 3) := by decide +kernel
theorem dX6_keep_8 : decode cX6_keep 8 = .ok (.invokevirtual 169, 3) := by decide +kernel
theorem dX6_keep_11 : decode cX6_keep 11 = .ok (.aload_n 0, 1) := by decide +kernel
theorem dX6_keep_12 : decode cX6_keep 12 = .ok (.iconst 1, 1) := by decide +kernel
theorem dX6_keep_13 : decode cX6_keep 13 = .ok (.putfield 26, 3) := by decide +kernel
theorem dX6_keep_16 : decode cX6_keep 16 = .ok (.aload_n 0, 1) := by decide +kernel
theorem dX6_keep_17 : decode cX6_keep 17 = .ok (.getfield 12, 3) := by decide +kernel
theorem dX6_keep_20 : decode cX6_keep 20 = .ok (.getfield 65, 3) := by decide +kernel
theorem dX6_keep_23 : decode cX6_keep 23 = .ok (.getfield 68, 3) := by decide +kernel
theorem dX6_keep_26 : decode cX6_keep 26 = .ok (.ireturn, 1) := by decide +kernel
set_option maxRecDepth 20000 in
theorem ggX6_restore_X2_remember : GoodIn wsX6_restore wsX2_remember := goodIn_r _ [11, 12, 13, 14, 15, 16, 10, 17, 18, 19, 20, 21, 22, 23, 24, 25, 26, 27, 28, 29, 30, 31, 32, 33, 34, 35, 36, 37, 38, 39, 40, 58, 59, 50, 51, 52, 53, 54, 55, 56, 57] (by decide +kernel) (by decide +kernel)
set_option maxRecDepth 20000 in
theorem gX6_restore_X2_remember : GoodIn wsX6_restore (wsV RX6 72 RX2 yX2_remember wsX2_remember) := goodIn_app (goodIn_of _ (by decide +kernel)) ggX6_restore_X2_remember
set_option maxRecDepth 20000 in
theorem ggX6_restore_X4_become : GoodIn wsX6_restore wsX4_become := goodIn_r _ [22, 23, 24, 25, 26, 27, 28, 29, 30, 31, 32, 33, 34, 35, 36, 37, 38, 39, 40, 50, 51, 52, 53, 54, 55, 56, 57] (by decide +kernel) (by decide +kernel)
set_option maxRecDepth 20000 in
theorem gX6_restore_X4_become : GoodIn wsX6_restore (wsV RX6 169 RX4 yX4_become wsX4_become) := goodIn_app (goodIn_of _ (by decide +kernel)) ggX6_restore_X4_become
theorem dX6_restore_0 : decode cX6_restore 0 = .ok (.aload_n 0, 1) := by decide +kernel
theorem dX6_restore_1 : decode cX6_restore 1 = .ok (.getfield 26, 3) := by decide +kernel
theorem dX6_restore_4 : decode cX6_restore 4 = .ok (.ifCond .ne 6, 3) := by decide +kernel
theorem dX6_restore_7 : decode cX6_restore 7 = .ok (.bipush (-5), 2) := by decide +kernel
theorem dX6_restore_9 : decode cX6_restore 9 = .ok (.ireturn, 1) := by decide +kernel
theorem dX6_restore_10 : decode cX6_restore 10 = .ok (.aload_n 0, 1) := by decide +kernel
theorem dX6_restore_11 : decode cX6_restore 11 = .ok (.getfield 19, 3) := by decide +kernel
theorem dX6_restore_14 : decode cX6_restore 14 = .ok (.aload_n 0, 1) := by decide +kernel
theorem dX6_restore_15 : decode cX6_restore 15 = .ok (.getfield 12, 3) := by decide +kernel
theorem dX6_restore_18 : decode cX6_restore 18 = .ok (.invokevirtual 72, 3) := by decide +kernel
theorem dX6_restore_21 : decode cX6_restore 21 = .ok (.aload_n 0, 1) := by decide +kernel
theorem dX6_restore_22 : decode cX6_restore 22 = .ok (.getfield 12, 3) := by decide +kernel
theorem dX6_restore_25 : decode cX6_restore 25 = .ok (.aload_n 0, 1) := by decide +kernel
theorem dX6_restore_26 : decode cX6_restore 26 = .ok (.getfield 23, 3) := by decide +kernel
theorem dX6_restore_29 : decode cX6_restore 29 = .ok (.invokevirtual 169, 3) := by decide +kernel
theorem dX6_restore_32 : decode cX6_restore 32 = .ok (.aload_n 0, 1) := by decide +kernel
theorem dX6_restore_33 : decode cX6_restore 33 = .ok (.getfield 12, 3) := by decide +kernel
theorem dX6_restore_36 : decode cX6_restore 36 = .ok (.getfield 65, 3) := by decide +kernel
theorem dX6_restore_39 : decode cX6_restore 39 = .ok (.getfield 68, 3) := by decide +kernel
theorem dX6_restore_42 : decode cX6_restore 42 = .ok (.ireturn, 1) := by decide +kernel
set_option maxRecDepth 20000 in
theorem ggX6_place_X1_has : GoodIn wsX6_place wsX1_has := goodIn_r _ [11, 12, 104, 105, 106, 107] (by decide +kernel) (by decide +kernel)
set_option maxRecDepth 20000 in
theorem gX6_place_X1_has : GoodIn wsX6_place (wsV RX6 80 RX1 yX1_has wsX1_has) := goodIn_app (goodIn_of _ (by decide +kernel)) ggX6_place_X1_has
set_option maxRecDepth 20000 in
theorem ggX6_place_X6_bit : GoodIn wsX6_place wsX6_bit := goodIn_r _ [16] (by decide +kernel) (by decide +kernel)
set_option maxRecDepth 20000 in
theorem gX6_place_X6_bit : GoodIn wsX6_place (va_wsS RX6 105 yX6_bit wsX6_bit) := goodIn_app (goodIn_of _ (by decide +kernel)) ggX6_place_X6_bit
set_option maxRecDepth 20000 in
theorem ggX6_place_X1_sources : GoodIn wsX6_place wsX1_sources := goodIn_r _ [20, 12, 21, 14, 15, 16, 104, 105, 106, 107] (by decide +kernel) (by decide +kernel)
set_option maxRecDepth 20000 in
theorem gX6_place_X1_sources : GoodIn wsX6_place (wsV RX6 171 RX1 yX1_sources wsX1_sources) := goodIn_app (goodIn_of _ (by decide +kernel)) ggX6_place_X1_sources
set_option maxRecDepth 20000 in
theorem ggX6_place_X6_winnerOf : GoodIn wsX6_place wsX6_winnerOf := goodIn_r _ [25, 26, 27, 28, 29, 15, 30, 31, 1, 2, 32, 33, 34, 10, 35, 12, 36, 37, 38, 39, 40, 41, 21, 42, 43, 44, 45, 46, 47, 48, 49, 50, 51, 52, 53, 54, 55, 56, 57, 58, 59, 60, 61, 62, 63, 64, 65, 66, 67, 68, 69, 70, 71, 72, 73, 74, 75, 76, 77, 78, 79, 80, 81, 82, 83, 84, 85, 86, 87, 88, 92, 93, 94, 95, 96, 97, 98, 99, 100, 101, 102, 103, 104, 105, 106, 107, 108, 109, 110] (by decide +kernel) (by decide +kernel)
set_option maxRecDepth 20000 in
theorem gX6_place_X6_winnerOf : GoodIn wsX6_place (wsV RX6 147 RX6 yX6_winnerOf wsX6_winnerOf) := goodIn_app (goodIn_of _ (by decide +kernel)) ggX6_place_X6_winnerOf
set_option maxRecDepth 20000 in
theorem ggX6_place_X6_placeOrNone : GoodIn wsX6_place wsX6_placeOrNone := goodIn_r _ [91] (by decide +kernel) (by decide +kernel)
set_option maxRecDepth 20000 in
theorem gX6_place_X6_placeOrNone : GoodIn wsX6_place (va_wsS RX6 174 yX6_placeOrNone wsX6_placeOrNone) := goodIn_app (goodIn_of _ (by decide +kernel)) ggX6_place_X6_placeOrNone
theorem dX6_place_0 : decode cX6_place 0 = .ok (.aload_n 0, 1) := by decide +kernel
theorem dX6_place_1 : decode cX6_place 1 = .ok (.getfield 12, 3) := by decide +kernel
theorem dX6_place_4 : decode cX6_place 4 = .ok (.getfield 65, 3) := by decide +kernel
theorem dX6_place_7 : decode cX6_place 7 = .ok (.iload_n 1, 1) := by decide +kernel
theorem dX6_place_8 : decode cX6_place 8 = .ok (.invokevirtual 80, 3) := by decide +kernel
theorem dX6_place_11 : decode cX6_place 11 = .ok (.ifCond .ne 5, 3) := by decide +kernel
theorem dX6_place_14 : decode cX6_place 14 = .ok (.iconst (-1), 1) := by decide +kernel
theorem dX6_place_15 : decode cX6_place 15 = .ok (.ireturn, 1) := by decide +kernel
theorem dX6_place_16 : decode cX6_place 16 = .ok (.iload_n 2, 1) := by decide +kernel
theorem dX6_place_17 : decode cX6_place 17 = .ok (.tableswitch 112 0 5 #[39, 52, 65, 78, 93, 99], 39) := by decide +kernel
theorem dX6_place_56 : decode cX6_place 56 = .ok (.aload_n 0, 1) := by decide +kernel
theorem dX6_place_57 : decode cX6_place 57 = .ok (.getfield 12, 3) := by decide +kernel
theorem dX6_place_60 : decode cX6_place 60 = .ok (.getfield 65, 3) := by decide +kernel
theorem dX6_place_63 : decode cX6_place 63 = .ok (.getfield 83, 3) := by decide +kernel
theorem dX6_place_66 : decode cX6_place 66 = .ok (.iload_n 1, 1) := by decide +kernel
theorem dX6_place_67 : decode cX6_place 67 = .ok (.iaload, 1) := by decide +kernel
theorem dX6_place_68 : decode cX6_place 68 = .ok (.ireturn, 1) := by decide +kernel
theorem dX6_place_69 : decode cX6_place 69 = .ok (.aload_n 0, 1) := by decide +kernel
theorem dX6_place_70 : decode cX6_place 70 = .ok (.getfield 12, 3) := by decide +kernel
theorem dX6_place_73 : decode cX6_place 73 = .ok (.getfield 65, 3) := by decide +kernel
theorem dX6_place_76 : decode cX6_place 76 = .ok (.getfield 91, 3) := by decide +kernel
theorem dX6_place_79 : decode cX6_place 79 = .ok (.iload_n 1, 1) := by decide +kernel
theorem dX6_place_80 : decode cX6_place 80 = .ok (.iaload, 1) := by decide +kernel
theorem dX6_place_81 : decode cX6_place 81 = .ok (.ireturn, 1) := by decide +kernel
theorem dX6_place_82 : decode cX6_place 82 = .ok (.aload_n 0, 1) := by decide +kernel
theorem dX6_place_83 : decode cX6_place 83 = .ok (.getfield 12, 3) := by decide +kernel
theorem dX6_place_86 : decode cX6_place 86 = .ok (.getfield 65, 3) := by decide +kernel
theorem dX6_place_89 : decode cX6_place 89 = .ok (.getfield 102, 3) := by decide +kernel
theorem dX6_place_92 : decode cX6_place 92 = .ok (.iload_n 1, 1) := by decide +kernel
theorem dX6_place_93 : decode cX6_place 93 = .ok (.iaload, 1) := by decide +kernel
theorem dX6_place_94 : decode cX6_place 94 = .ok (.ireturn, 1) := by decide +kernel
theorem dX6_place_95 : decode cX6_place 95 = .ok (.aload_n 0, 1) := by decide +kernel
theorem dX6_place_96 : decode cX6_place 96 = .ok (.getfield 12, 3) := by decide +kernel
theorem dX6_place_99 : decode cX6_place 99 = .ok (.getfield 65, 3) := by decide +kernel
theorem dX6_place_102 : decode cX6_place 102 = .ok (.iload_n 1, 1) := by decide +kernel
theorem dX6_place_103 : decode cX6_place 103 = .ok (.invokestatic 105, 3) := by decide +kernel
theorem dX6_place_106 : decode cX6_place 106 = .ok (.invokevirtual 171, 3) := by decide +kernel
theorem dX6_place_109 : decode cX6_place 109 = .ok (.ireturn, 1) := by decide +kernel
theorem dX6_place_110 : decode cX6_place 110 = .ok (.aload_n 0, 1) := by decide +kernel
theorem dX6_place_111 : decode cX6_place 111 = .ok (.iload_n 1, 1) := by decide +kernel
theorem dX6_place_112 : decode cX6_place 112 = .ok (.invokevirtual 147, 3) := by decide +kernel
theorem dX6_place_115 : decode cX6_place 115 = .ok (.ireturn, 1) := by decide +kernel
theorem dX6_place_116 : decode cX6_place 116 = .ok (.aload_n 0, 1) := by decide +kernel
theorem dX6_place_117 : decode cX6_place 117 = .ok (.getfield 12, 3) := by decide +kernel
theorem dX6_place_120 : decode cX6_place 120 = .ok (.getfield 113, 3) := by decide +kernel
theorem dX6_place_123 : decode cX6_place 123 = .ok (.iload_n 1, 1) := by decide +kernel
theorem dX6_place_124 : decode cX6_place 124 = .ok (.iaload, 1) := by decide +kernel
theorem dX6_place_125 : decode cX6_place 125 = .ok (.invokestatic 174, 3) := by decide +kernel
theorem dX6_place_128 : decode cX6_place 128 = .ok (.ireturn, 1) := by decide +kernel
theorem dX6_place_129 : decode cX6_place 129 = .ok (.bipush (-2), 2) := by decide +kernel
theorem dX6_place_131 : decode cX6_place 131 = .ok (.ireturn, 1) := by decide +kernel
set_option maxRecDepth 20000 in
theorem ggX6_wins_X6_isPlayer : GoodIn wsX6_wins wsX6_isPlayer := goodIn_r _ [4] (by decide +kernel) (by decide +kernel)
set_option maxRecDepth 20000 in
theorem gX6_wins_X6_isPlayer : GoodIn wsX6_wins (va_wsS RX6 58 yX6_isPlayer wsX6_isPlayer) := goodIn_app (goodIn_of _ (by decide +kernel)) ggX6_wins_X6_isPlayer
set_option maxRecDepth 20000 in
theorem ggX6_wins_X6_wonBy : GoodIn wsX6_wins wsX6_wonBy := goodIn_r _ [8, 9, 10, 11, 12, 13, 14, 15, 3, 16, 17, 18, 19, 20, 21, 22, 23, 24, 25, 26, 27, 28, 29, 30, 31, 32, 33, 34, 35, 36, 37, 38, 39, 40, 41, 42, 43, 44, 45, 46, 47, 48, 49, 50, 51, 52, 53, 54, 55, 56, 57, 58, 59, 60, 61, 62, 63, 64, 65, 66, 67, 68, 69, 70, 71, 72, 73, 74, 75, 76, 77, 78, 79, 80, 81, 82, 83, 84, 85, 86, 87, 88, 89, 90, 91, 92, 93, 94, 95] (by decide +kernel) (by decide +kernel)
set_option maxRecDepth 20000 in
theorem gX6_wins_X6_wonBy : GoodIn wsX6_wins (wsV RX6 87 RX6 yX6_wonBy wsX6_wonBy) := goodIn_app (goodIn_of _ (by decide +kernel)) ggX6_wins_X6_wonBy
theorem dX6_wins_0 : decode cX6_wins 0 = .ok (.iload_n 1, 1) := by decide +kernel
theorem dX6_wins_1 : decode cX6_wins 1 = .ok (.invokestatic 58, 3) := by decide +kernel
theorem dX6_wins_4 : decode cX6_wins 4 = .ok (.ifCond .eq 11, 3) := by decide +kernel
theorem dX6_wins_7 : decode cX6_wins 7 = .ok (.aload_n 0, 1) := by decide +kernel
theorem dX6_wins_8 : decode cX6_wins 8 = .ok (.iload_n 1, 1) := by decide +kernel
theorem dX6_wins_9 : decode cX6_wins 9 = .ok (.invokevirtual 87, 3) := by decide +kernel
theorem dX6_wins_12 : decode cX6_wins 12 = .ok (.goto 4, 3) := by decide +kernel
theorem dX6_wins_15 : decode cX6_wins 15 = .ok (.iconst (-1), 1) := by decide +kernel
theorem dX6_wins_16 : decode cX6_wins 16 = .ok (.ireturn, 1) := by decide +kernel
set_option maxRecDepth 20000 in
theorem ggX6_winningChoice_X1_has : GoodIn wsX6_winningChoice wsX1_has := goodIn_r _ [10, 11, 91, 92, 93, 94] (by decide +kernel) (by decide +kernel)
set_option maxRecDepth 20000 in
theorem gX6_winningChoice_X1_has : GoodIn wsX6_winningChoice (wsV RX6 80 RX1 yX1_has wsX1_has) := goodIn_app (goodIn_of _ (by decide +kernel)) ggX6_winningChoice_X1_has
set_option maxRecDepth 20000 in
theorem ggX6_winningChoice_X6_solveFor : GoodIn wsX6_winningChoice wsX6_solveFor := goodIn_r _ [16, 5, 1, 2, 4, 17, 18, 19, 9, 20, 11, 21, 22, 23, 24, 25, 26, 27, 28, 29, 30, 31, 32, 33, 34, 35, 36, 37, 38, 39, 40, 41, 42, 43, 44, 45, 46, 47, 48, 49, 50, 51, 52, 53, 54, 55, 56, 57, 58, 59, 60, 61, 15, 62, 63, 64, 65, 66, 79, 80, 81, 82, 83, 84, 85, 86, 87, 88, 89, 90, 91, 92, 93, 94, 95, 96, 97] (by decide +kernel) (by decide +kernel)
set_option maxRecDepth 20000 in
theorem gX6_winningChoice_X6_solveFor : GoodIn wsX6_winningChoice (wsV RX6 133 RX6 yX6_solveFor wsX6_solveFor) := goodIn_app (goodIn_of _ (by decide +kernel)) ggX6_winningChoice_X6_solveFor
set_option maxRecDepth 20000 in
theorem ggX6_winningChoice_X3_bestArrow : GoodIn wsX6_winningChoice wsX3_bestArrow := goodIn_r _ [70, 52, 38, 51, 71, 72, 73, 9, 74, 27, 75, 7, 8, 10, 11, 61, 15, 62, 63, 64, 65, 35, 66, 39, 40, 37, 91, 92, 93, 94, 95, 96, 97] (by decide +kernel) (by decide +kernel)
set_option maxRecDepth 20000 in
theorem gX6_winningChoice_X3_bestArrow : GoodIn wsX6_winningChoice (wsV RX6 137 RX3 yX3_bestArrow wsX3_bestArrow) := goodIn_app (goodIn_of _ (by decide +kernel)) ggX6_winningChoice_X3_bestArrow
set_option maxRecDepth 20000 in
theorem ggX6_winningChoice_X6_placeOrNone : GoodIn wsX6_winningChoice wsX6_placeOrNone := goodIn_r _ [78] (by decide +kernel) (by decide +kernel)
set_option maxRecDepth 20000 in
theorem gX6_winningChoice_X6_placeOrNone : GoodIn wsX6_winningChoice (va_wsS RX6 174 yX6_placeOrNone wsX6_placeOrNone) := goodIn_app (goodIn_of _ (by decide +kernel)) ggX6_winningChoice_X6_placeOrNone
theorem dX6_winningChoice_0 : decode cX6_winningChoice 0 = .ok (.aload_n 0, 1) := by decide +kernel
theorem dX6_winningChoice_1 : decode cX6_winningChoice 1 = .ok (.getfield 12, 3) := by decide +kernel
theorem dX6_winningChoice_4 : decode cX6_winningChoice 4 = .ok (.getfield 65, 3) := by decide +kernel
theorem dX6_winningChoice_7 : decode cX6_winningChoice 7 = .ok (.iload_n 1, 1) := by decide +kernel
theorem dX6_winningChoice_8 : decode cX6_winningChoice 8 = .ok (.invokevirtual 80, 3) := by decide +kernel
theorem dX6_winningChoice_11 : decode cX6_winningChoice 11 = .ok (.ifCond .ne 5, 3) := by decide +kernel
theorem dX6_winningChoice_14 : decode cX6_winningChoice 14 = .ok (.iconst (-1), 1) := by decide +kernel
theorem dX6_winningChoice_15 : decode cX6_winningChoice 15 = .ok (.ireturn, 1) := by decide +kernel
theorem dX6_winningChoice_16 : decode cX6_winningChoice 16 = .ok (.aload_n 0, 1) := by decide +kernel
theorem dX6_winningChoice_17 : decode cX6_winningChoice 17 = .ok (.aload_n 0, 1) := by decide +kernel
theorem dX6_winningChoice_18 : decode cX6_winningChoice 18 = .ok (.getfield 12, 3) := by decide +kernel
theorem dX6_winningChoice_21 : decode cX6_winningChoice 21 = .ok (.getfield 65, 3) := by decide +kernel
theorem dX6_winningChoice_24 : decode cX6_winningChoice 24 = .ok (.getfield 83, 3) := by decide +kernel
theorem dX6_winningChoice_27 : decode cX6_winningChoice 27 = .ok (.iload_n 1, 1) := by decide +kernel
theorem dX6_winningChoice_28 : decode cX6_winningChoice 28 = .ok (.iaload, 1) := by decide +kernel
theorem dX6_winningChoice_29 : decode cX6_winningChoice 29 = .ok (.invokevirtual 133, 3) := by decide +kernel
theorem dX6_winningChoice_32 : decode cX6_winningChoice 32 = .ok (.aload_n 0, 1) := by decide +kernel
theorem dX6_winningChoice_33 : decode cX6_winningChoice 33 = .ok (.getfield 47, 3) := by decide +kernel
theorem dX6_winningChoice_36 : decode cX6_winningChoice 36 = .ok (.aload_n 0, 1) := by decide +kernel
theorem dX6_winningChoice_37 : decode cX6_winningChoice 37 = .ok (.getfield 40, 3) := by decide +kernel
theorem dX6_winningChoice_40 : decode cX6_winningChoice 40 = .ok (.iload_n 1, 1) := by decide +kernel
theorem dX6_winningChoice_41 : decode cX6_winningChoice 41 = .ok (.invokevirtual 137, 3) := by decide +kernel
theorem dX6_winningChoice_44 : decode cX6_winningChoice 44 = .ok (.invokestatic 174, 3) := by decide +kernel
theorem dX6_winningChoice_47 : decode cX6_winningChoice 47 = .ok (.ireturn, 1) := by decide +kernel
set_option maxRecDepth 20000 in
theorem ggX6_measure_X6_isPlayer : GoodIn wsX6_measure wsX6_isPlayer := goodIn_r _ [7] (by decide +kernel) (by decide +kernel)
set_option maxRecDepth 20000 in
theorem gX6_measure_X6_isPlayer : GoodIn wsX6_measure (va_wsS RX6 58 yX6_isPlayer wsX6_isPlayer) := goodIn_app (goodIn_of _ (by decide +kernel)) ggX6_measure_X6_isPlayer
set_option maxRecDepth 20000 in
theorem ggX6_measure_X1_has : GoodIn wsX6_measure wsX1_has := goodIn_r _ [12, 13, 92, 93, 94, 95] (by decide +kernel) (by decide +kernel)
set_option maxRecDepth 20000 in
theorem gX6_measure_X1_has : GoodIn wsX6_measure (wsV RX6 80 RX1 yX1_has wsX1_has) := goodIn_app (goodIn_of _ (by decide +kernel)) ggX6_measure_X1_has
set_option maxRecDepth 20000 in
theorem ggX6_measure_X6_isColour : GoodIn wsX6_measure wsX6_isColour := goodIn_r _ [16] (by decide +kernel) (by decide +kernel)
set_option maxRecDepth 20000 in
theorem gX6_measure_X6_isColour : GoodIn wsX6_measure (va_wsS RX6 62 yX6_isColour wsX6_isColour) := goodIn_app (goodIn_of _ (by decide +kernel)) ggX6_measure_X6_isColour
set_option maxRecDepth 20000 in
theorem ggX6_measure_X6_solveFor : GoodIn wsX6_measure wsX6_solveFor := goodIn_r _ [20, 21, 1, 2, 3, 22, 23, 24, 11, 25, 13, 26, 27, 28, 29, 30, 31, 32, 33, 34, 35, 36, 37, 38, 39, 40, 41, 42, 43, 44, 45, 46, 47, 48, 49, 50, 51, 52, 53, 54, 55, 56, 57, 58, 59, 60, 61, 62, 63, 64, 65, 66, 6, 67, 68, 69, 70, 71, 80, 81, 82, 83, 84, 85, 86, 87, 88, 89, 90, 91, 92, 93, 94, 95, 96, 97, 98] (by decide +kernel) (by decide +kernel)
set_option maxRecDepth 20000 in
theorem gX6_measure_X6_solveFor : GoodIn wsX6_measure (wsV RX6 133 RX6 yX6_solveFor wsX6_solveFor) := goodIn_app (goodIn_of _ (by decide +kernel)) ggX6_measure_X6_solveFor
set_option maxRecDepth 20000 in
theorem ggX6_measure_X3_isLost : GoodIn wsX6_measure wsX3_isLost := goodIn_r _ [75, 44, 57, 96, 97, 98] (by decide +kernel) (by decide +kernel)
set_option maxRecDepth 20000 in
theorem gX6_measure_X3_isLost : GoodIn wsX6_measure (wsV RX6 177 RX3 yX3_isLost wsX3_isLost) := goodIn_app (goodIn_of _ (by decide +kernel)) ggX6_measure_X3_isLost
set_option maxRecDepth 20000 in
theorem ggX6_measure_X3_number : GoodIn wsX6_measure wsX3_number := goodIn_r _ [79, 44, 96, 97, 98] (by decide +kernel) (by decide +kernel)
set_option maxRecDepth 20000 in
theorem gX6_measure_X3_number : GoodIn wsX6_measure (wsV RX6 180 RX3 yX3_number wsX3_number) := goodIn_app (goodIn_of _ (by decide +kernel)) ggX6_measure_X3_number
theorem dX6_measure_0 : decode cX6_measure 0 = .ok (.iload_n 1, 1) := by decide +kernel
theorem dX6_measure_1 : decode cX6_measure 1 = .ok (.invokestatic 58, 3) := by decide +kernel
theorem dX6_measure_4 : decode cX6_measure 4 = .ok (.ifCond .eq 17, 3) := by decide +kernel
theorem dX6_measure_7 : decode cX6_measure 7 = .ok (.aload_n 0, 1) := by decide +kernel
theorem dX6_measure_8 : decode cX6_measure 8 = .ok (.getfield 12, 3) := by decide +kernel
theorem dX6_measure_11 : decode cX6_measure 11 = .ok (.getfield 65, 3) := by decide +kernel
theorem dX6_measure_14 : decode cX6_measure 14 = .ok (.iload_n 2, 1) := by decide +kernel
theorem dX6_measure_15 : decode cX6_measure 15 = .ok (.invokevirtual 80, 3) := by decide +kernel
theorem dX6_measure_18 : decode cX6_measure 18 = .ok (.ifCond .ne 5, 3) := by decide +kernel
theorem dX6_measure_21 : decode cX6_measure 21 = .ok (.iconst (-1), 1) := by decide +kernel
theorem dX6_measure_22 : decode cX6_measure 22 = .ok (.ireturn, 1) := by decide +kernel
theorem dX6_measure_23 : decode cX6_measure 23 = .ok (.iload_n 3, 1) := by decide +kernel
theorem dX6_measure_24 : decode cX6_measure 24 = .ok (.invokestatic 62, 3) := by decide +kernel
theorem dX6_measure_27 : decode cX6_measure 27 = .ok (.ifCond .eq 9, 3) := by decide +kernel
theorem dX6_measure_30 : decode cX6_measure 30 = .ok (.iload_n 3, 1) := by decide +kernel
theorem dX6_measure_31 : decode cX6_measure 31 = .ok (.iconst 2, 1) := by decide +kernel
theorem dX6_measure_32 : decode cX6_measure 32 = .ok (.irem, 1) := by decide +kernel
theorem dX6_measure_33 : decode cX6_measure 33 = .ok (.ifCond .ne 6, 3) := by decide +kernel
theorem dX6_measure_36 : decode cX6_measure 36 = .ok (.bipush (-2), 2) := by decide +kernel
theorem dX6_measure_38 : decode cX6_measure 38 = .ok (.ireturn, 1) := by decide +kernel
theorem dX6_measure_39 : decode cX6_measure 39 = .ok (.aload_n 0, 1) := by decide +kernel
theorem dX6_measure_40 : decode cX6_measure 40 = .ok (.iload_n 1, 1) := by decide +kernel
theorem dX6_measure_41 : decode cX6_measure 41 = .ok (.invokevirtual 133, 3) := by decide +kernel
theorem dX6_measure_44 : decode cX6_measure 44 = .ok (.aload_n 0, 1) := by decide +kernel
theorem dX6_measure_45 : decode cX6_measure 45 = .ok (.getfield 47, 3) := by decide +kernel
theorem dX6_measure_48 : decode cX6_measure 48 = .ok (.iload_n 2, 1) := by decide +kernel
theorem dX6_measure_49 : decode cX6_measure 49 = .ok (.invokevirtual 177, 3) := by decide +kernel
theorem dX6_measure_52 : decode cX6_measure 52 = .ok (.ifCond .eq 8, 3) := by decide +kernel
theorem dX6_measure_55 : decode cX6_measure 55 = .ok (.bipush (-5), 2) := by decide +kernel
theorem dX6_measure_57 : decode cX6_measure 57 = .ok (.goto 12, 3) := by decide +kernel
theorem dX6_measure_60 : decode cX6_measure 60 = .ok (.aload_n 0, 1) := by decide +kernel
theorem dX6_measure_61 : decode cX6_measure 61 = .ok (.getfield 47, 3) := by decide +kernel
theorem dX6_measure_64 : decode cX6_measure 64 = .ok (.iload_n 2, 1) := by decide +kernel
theorem dX6_measure_65 : decode cX6_measure 65 = .ok (.iload_n 3, 1) := by decide +kernel
theorem dX6_measure_66 : decode cX6_measure 66 = .ok (.invokevirtual 180, 3) := by decide +kernel
theorem dX6_measure_69 : decode cX6_measure 69 = .ok (.ireturn, 1) := by decide +kernel
set_option maxRecDepth 20000 in
theorem ggX6_rounds_X6_isPlayer : GoodIn wsX6_rounds wsX6_isPlayer := goodIn_r _ [6] (by decide +kernel) (by decide +kernel)
set_option maxRecDepth 20000 in
theorem gX6_rounds_X6_isPlayer : GoodIn wsX6_rounds (va_wsS RX6 58 yX6_isPlayer wsX6_isPlayer) := goodIn_app (goodIn_of _ (by decide +kernel)) ggX6_rounds_X6_isPlayer
set_option maxRecDepth 20000 in
theorem ggX6_rounds_X6_solveFor : GoodIn wsX6_rounds wsX6_solveFor := goodIn_r _ [10, 11, 12, 13, 1, 14, 15, 16, 17, 18, 19, 20, 21, 22, 23, 24, 25, 26, 27, 28, 29, 30, 31, 32, 33, 34, 35, 36, 37, 38, 39, 40, 41, 42, 43, 44, 45, 46, 47, 48, 49, 50, 51, 52, 53, 54, 55, 56, 57, 58, 59, 60, 5, 61, 62, 63, 64, 65, 66, 67, 68, 69, 70, 71, 72, 73, 77, 78, 79, 80, 81, 82, 83, 84, 74, 75, 76] (by decide +kernel) (by decide +kernel)
set_option maxRecDepth 20000 in
theorem gX6_rounds_X6_solveFor : GoodIn wsX6_rounds (wsV RX6 133 RX6 yX6_solveFor wsX6_solveFor) := goodIn_app (goodIn_of _ (by decide +kernel)) ggX6_rounds_X6_solveFor
theorem dX6_rounds_0 : decode cX6_rounds 0 = .ok (.iload_n 1, 1) := by decide +kernel
theorem dX6_rounds_1 : decode cX6_rounds 1 = .ok (.invokestatic 58, 3) := by decide +kernel
theorem dX6_rounds_4 : decode cX6_rounds 4 = .ok (.ifCond .ne 5, 3) := by decide +kernel
theorem dX6_rounds_7 : decode cX6_rounds 7 = .ok (.iconst (-1), 1) := by decide +kernel
theorem dX6_rounds_8 : decode cX6_rounds 8 = .ok (.ireturn, 1) := by decide +kernel
theorem dX6_rounds_9 : decode cX6_rounds 9 = .ok (.aload_n 0, 1) := by decide +kernel
theorem dX6_rounds_10 : decode cX6_rounds 10 = .ok (.iload_n 1, 1) := by decide +kernel
theorem dX6_rounds_11 : decode cX6_rounds 11 = .ok (.invokevirtual 133, 3) := by decide +kernel
theorem dX6_rounds_14 : decode cX6_rounds 14 = .ok (.aload_n 0, 1) := by decide +kernel
theorem dX6_rounds_15 : decode cX6_rounds 15 = .ok (.getfield 47, 3) := by decide +kernel
theorem dX6_rounds_18 : decode cX6_rounds 18 = .ok (.getfield 183, 3) := by decide +kernel
theorem dX6_rounds_21 : decode cX6_rounds 21 = .ok (.ireturn, 1) := by decide +kernel
set_option maxRecDepth 20000 in
theorem ggX6_forced_X6_isPlayer : GoodIn wsX6_forced wsX6_isPlayer := goodIn_r _ [7] (by decide +kernel) (by decide +kernel)
set_option maxRecDepth 20000 in
theorem gX6_forced_X6_isPlayer : GoodIn wsX6_forced (va_wsS RX6 58 yX6_isPlayer wsX6_isPlayer) := goodIn_app (goodIn_of _ (by decide +kernel)) ggX6_forced_X6_isPlayer
set_option maxRecDepth 20000 in
theorem ggX6_forced_X1_hasAll : GoodIn wsX6_forced wsX1_hasAll := goodIn_r _ [12, 13, 14, 15, 11, 16, 17, 18, 6, 19, 38, 39, 40, 41] (by decide +kernel) (by decide +kernel)
set_option maxRecDepth 20000 in
theorem gX6_forced_X1_hasAll : GoodIn wsX6_forced (wsV RX6 186 RX1 yX1_hasAll wsX1_hasAll) := goodIn_app (goodIn_of _ (by decide +kernel)) ggX6_forced_X1_hasAll
set_option maxRecDepth 20000 in
theorem ggX6_forced_X1_forcedNext : GoodIn wsX6_forced wsX1_forcedNext := goodIn_r _ [23, 17, 24, 25, 18, 6, 19, 38, 39, 40, 41] (by decide +kernel) (by decide +kernel)
set_option maxRecDepth 20000 in
theorem gX6_forced_X1_forcedNext : GoodIn wsX6_forced (wsV RX6 189 RX1 yX1_forcedNext wsX1_forcedNext) := goodIn_app (goodIn_of _ (by decide +kernel)) ggX6_forced_X1_forcedNext
theorem dX6_forced_0 : decode cX6_forced 0 = .ok (.iload_n 1, 1) := by decide +kernel
theorem dX6_forced_1 : decode cX6_forced 1 = .ok (.invokestatic 58, 3) := by decide +kernel
theorem dX6_forced_4 : decode cX6_forced 4 = .ok (.ifCond .ne 5, 3) := by decide +kernel
theorem dX6_forced_7 : decode cX6_forced 7 = .ok (.iconst (-1), 1) := by decide +kernel
theorem dX6_forced_8 : decode cX6_forced 8 = .ok (.ireturn, 1) := by decide +kernel
theorem dX6_forced_9 : decode cX6_forced 9 = .ok (.aload_n 0, 1) := by decide +kernel
theorem dX6_forced_10 : decode cX6_forced 10 = .ok (.getfield 12, 3) := by decide +kernel
theorem dX6_forced_13 : decode cX6_forced 13 = .ok (.getfield 65, 3) := by decide +kernel
theorem dX6_forced_16 : decode cX6_forced 16 = .ok (.iload_n 2, 1) := by decide +kernel
theorem dX6_forced_17 : decode cX6_forced 17 = .ok (.invokevirtual 186, 3) := by decide +kernel
theorem dX6_forced_20 : decode cX6_forced 20 = .ok (.ifCond .ne 6, 3) := by decide +kernel
theorem dX6_forced_23 : decode cX6_forced 23 = .ok (.bipush (-2), 2) := by decide +kernel
theorem dX6_forced_25 : decode cX6_forced 25 = .ok (.ireturn, 1) := by decide +kernel
theorem dX6_forced_26 : decode cX6_forced 26 = .ok (.iload_n 2, 1) := by decide +kernel
theorem dX6_forced_27 : decode cX6_forced 27 = .ok (.istore_n 3, 1) := by decide +kernel
theorem dX6_forced_28 : decode cX6_forced 28 = .ok (.iconst 1, 1) := by decide +kernel
theorem dX6_forced_29 : decode cX6_forced 29 = .ok (.istore 4, 2) := by decide +kernel
theorem dX6_forced_31 : decode cX6_forced 31 = .ok (.iload 4, 2) := by decide +kernel
theorem dX6_forced_33 : decode cX6_forced 33 = .ok (.aload_n 0, 1) := by decide +kernel
theorem dX6_forced_34 : decode cX6_forced 34 = .ok (.getfield 12, 3) := by decide +kernel
theorem dX6_forced_37 : decode cX6_forced 37 = .ok (.getfield 65, 3) := by decide +kernel
theorem dX6_forced_40 : decode cX6_forced 40 = .ok (.getfield 68, 3) := by decide +kernel
theorem dX6_forced_43 : decode cX6_forced 43 = .ok (.if_icmp .gt 22, 3) := by decide +kernel
theorem dX6_forced_46 : decode cX6_forced 46 = .ok (.aload_n 0, 1) := by decide +kernel
theorem dX6_forced_47 : decode cX6_forced 47 = .ok (.getfield 12, 3) := by decide +kernel
theorem dX6_forced_50 : decode cX6_forced 50 = .ok (.getfield 65, 3) := by decide +kernel
theorem dX6_forced_53 : decode cX6_forced 53 = .ok (.iload_n 1, 1) := by decide +kernel
theorem dX6_forced_54 : decode cX6_forced 54 = .ok (.iload_n 3, 1) := by decide +kernel
theorem dX6_forced_55 : decode cX6_forced 55 = .ok (.invokevirtual 189, 3) := by decide +kernel
theorem dX6_forced_58 : decode cX6_forced 58 = .ok (.istore_n 3, 1) := by decide +kernel
theorem dX6_forced_59 : decode cX6_forced 59 = .ok (.iinc 4 1, 3) := by decide +kernel
theorem dX6_forced_62 : decode cX6_forced 62 = .ok (.goto (-31), 3) := by decide +kernel
theorem dX6_forced_65 : decode cX6_forced 65 = .ok (.iload_n 3, 1) := by decide +kernel
theorem dX6_forced_66 : decode cX6_forced 66 = .ok (.ireturn, 1) := by decide +kernel
set_option maxRecDepth 20000 in
theorem ggX6_rank_X6_isPlayer : GoodIn wsX6_rank wsX6_isPlayer := goodIn_r _ [7] (by decide +kernel) (by decide +kernel)
set_option maxRecDepth 20000 in
theorem gX6_rank_X6_isPlayer : GoodIn wsX6_rank (va_wsS RX6 58 yX6_isPlayer wsX6_isPlayer) := goodIn_app (goodIn_of _ (by decide +kernel)) ggX6_rank_X6_isPlayer
set_option maxRecDepth 20000 in
theorem ggX6_rank_X1_has : GoodIn wsX6_rank wsX1_has := goodIn_r _ [12, 13, 45, 46, 47, 48] (by decide +kernel) (by decide +kernel)
set_option maxRecDepth 20000 in
theorem gX6_rank_X1_has : GoodIn wsX6_rank (wsV RX6 80 RX1 yX1_has wsX1_has) := goodIn_app (goodIn_of _ (by decide +kernel)) ggX6_rank_X1_has
set_option maxRecDepth 20000 in
theorem ggX6_rank_X1_hasAll : GoodIn wsX6_rank wsX1_hasAll := goodIn_r _ [17, 18, 19, 20, 11, 21, 13, 22, 6, 23, 45, 46, 47, 48] (by decide +kernel) (by decide +kernel)
set_option maxRecDepth 20000 in
theorem gX6_rank_X1_hasAll : GoodIn wsX6_rank (wsV RX6 186 RX1 yX1_hasAll wsX1_hasAll) := goodIn_app (goodIn_of _ (by decide +kernel)) ggX6_rank_X1_hasAll
set_option maxRecDepth 20000 in
theorem ggX6_rank_X6_contains : GoodIn wsX6_rank wsX6_contains := goodIn_r _ [26] (by decide +kernel) (by decide +kernel)
set_option maxRecDepth 20000 in
theorem gX6_rank_X6_contains : GoodIn wsX6_rank (va_wsS RX6 192 yX6_contains wsX6_contains) := goodIn_app (goodIn_of _ (by decide +kernel)) ggX6_rank_X6_contains
set_option maxRecDepth 20000 in
theorem ggX6_rank_X1_forcedNext : GoodIn wsX6_rank wsX1_forcedNext := goodIn_r _ [30, 13, 31, 32, 22, 6, 23, 45, 46, 47, 48] (by decide +kernel) (by decide +kernel)
set_option maxRecDepth 20000 in
theorem gX6_rank_X1_forcedNext : GoodIn wsX6_rank (wsV RX6 189 RX1 yX1_forcedNext wsX1_forcedNext) := goodIn_app (goodIn_of _ (by decide +kernel)) ggX6_rank_X1_forcedNext
theorem dX6_rank_0 : decode cX6_rank 0 = .ok (.iload_n 1, 1) := by decide +kernel
theorem dX6_rank_1 : decode cX6_rank 1 = .ok (.invokestatic 58, 3) := by decide +kernel
theorem dX6_rank_4 : decode cX6_rank 4 = .ok (.ifCond .eq 17, 3) := by decide +kernel
theorem dX6_rank_7 : decode cX6_rank 7 = .ok (.aload_n 0, 1) := by decide +kernel
theorem dX6_rank_8 : decode cX6_rank 8 = .ok (.getfield 12, 3) := by decide +kernel
theorem dX6_rank_11 : decode cX6_rank 11 = .ok (.getfield 65, 3) := by decide +kernel
theorem dX6_rank_14 : decode cX6_rank 14 = .ok (.iload_n 3, 1) := by decide +kernel
theorem dX6_rank_15 : decode cX6_rank 15 = .ok (.invokevirtual 80, 3) := by decide +kernel
theorem dX6_rank_18 : decode cX6_rank 18 = .ok (.ifCond .ne 5, 3) := by decide +kernel
theorem dX6_rank_21 : decode cX6_rank 21 = .ok (.iconst (-1), 1) := by decide +kernel
theorem dX6_rank_22 : decode cX6_rank 22 = .ok (.ireturn, 1) := by decide +kernel
theorem dX6_rank_23 : decode cX6_rank 23 = .ok (.aload_n 0, 1) := by decide +kernel
theorem dX6_rank_24 : decode cX6_rank 24 = .ok (.getfield 12, 3) := by decide +kernel
theorem dX6_rank_27 : decode cX6_rank 27 = .ok (.getfield 65, 3) := by decide +kernel
theorem dX6_rank_30 : decode cX6_rank 30 = .ok (.iload_n 2, 1) := by decide +kernel
theorem dX6_rank_31 : decode cX6_rank 31 = .ok (.invokevirtual 186, 3) := by decide +kernel
theorem dX6_rank_34 : decode cX6_rank 34 = .ok (.ifCond .ne 6, 3) := by decide +kernel
theorem dX6_rank_37 : decode cX6_rank 37 = .ok (.bipush (-2), 2) := by decide +kernel
theorem dX6_rank_39 : decode cX6_rank 39 = .ok (.ireturn, 1) := by decide +kernel
theorem dX6_rank_40 : decode cX6_rank 40 = .ok (.iload_n 2, 1) := by decide +kernel
theorem dX6_rank_41 : decode cX6_rank 41 = .ok (.istore 4, 2) := by decide +kernel
theorem dX6_rank_43 : decode cX6_rank 43 = .ok (.iconst 0, 1) := by decide +kernel
theorem dX6_rank_44 : decode cX6_rank 44 = .ok (.istore 5, 2) := by decide +kernel
theorem dX6_rank_46 : decode cX6_rank 46 = .ok (.iload 5, 2) := by decide +kernel
theorem dX6_rank_48 : decode cX6_rank 48 = .ok (.aload_n 0, 1) := by decide +kernel
theorem dX6_rank_49 : decode cX6_rank 49 = .ok (.getfield 12, 3) := by decide +kernel
theorem dX6_rank_52 : decode cX6_rank 52 = .ok (.getfield 65, 3) := by decide +kernel
theorem dX6_rank_55 : decode cX6_rank 55 = .ok (.getfield 68, 3) := by decide +kernel
theorem dX6_rank_58 : decode cX6_rank 58 = .ok (.if_icmp .gt 36, 3) := by decide +kernel
theorem dX6_rank_61 : decode cX6_rank 61 = .ok (.iload 4, 2) := by decide +kernel
theorem dX6_rank_63 : decode cX6_rank 63 = .ok (.iload_n 3, 1) := by decide +kernel
theorem dX6_rank_64 : decode cX6_rank 64 = .ok (.invokestatic 192, 3) := by decide +kernel
theorem dX6_rank_67 : decode cX6_rank 67 = .ok (.ifCond .eq 6, 3) := by decide +kernel
theorem dX6_rank_70 : decode cX6_rank 70 = .ok (.iload 5, 2) := by decide +kernel
theorem dX6_rank_72 : decode cX6_rank 72 = .ok (.ireturn, 1) := by decide +kernel
theorem dX6_rank_73 : decode cX6_rank 73 = .ok (.aload_n 0, 1) := by decide +kernel
theorem dX6_rank_74 : decode cX6_rank 74 = .ok (.getfield 12, 3) := by decide +kernel
theorem dX6_rank_77 : decode cX6_rank 77 = .ok (.getfield 65, 3) := by decide +kernel
theorem dX6_rank_80 : decode cX6_rank 80 = .ok (.iload_n 1, 1) := by decide +kernel
theorem dX6_rank_81 : decode cX6_rank 81 = .ok (.iload 4, 2) := by decide +kernel
theorem dX6_rank_83 : decode cX6_rank 83 = .ok (.invokevirtual 189, 3) := by decide +kernel
theorem dX6_rank_86 : decode cX6_rank 86 = .ok (.istore 4, 2) := by decide +kernel
theorem dX6_rank_88 : decode cX6_rank 88 = .ok (.iinc 5 1, 3) := by decide +kernel
theorem dX6_rank_91 : decode cX6_rank 91 = .ok (.goto (-45), 3) := by decide +kernel
theorem dX6_rank_94 : decode cX6_rank 94 = .ok (.bipush (-5), 2) := by decide +kernel
theorem dX6_rank_96 : decode cX6_rank 96 = .ok (.ireturn, 1) := by decide +kernel
set_option maxRecDepth 20000 in
theorem ggX6_trap_X6_isPlayer : GoodIn wsX6_trap wsX6_isPlayer := goodIn_r _ [6] (by decide +kernel) (by decide +kernel)
set_option maxRecDepth 20000 in
theorem gX6_trap_X6_isPlayer : GoodIn wsX6_trap (va_wsS RX6 58 yX6_isPlayer wsX6_isPlayer) := goodIn_app (goodIn_of _ (by decide +kernel)) ggX6_trap_X6_isPlayer
set_option maxRecDepth 20000 in
theorem ggX6_trap_X1_hasAll : GoodIn wsX6_trap wsX1_hasAll := goodIn_r _ [11, 12, 13, 14, 10, 15, 16, 17, 5, 18, 39, 40, 41, 42] (by decide +kernel) (by decide +kernel)
set_option maxRecDepth 20000 in
theorem gX6_trap_X1_hasAll : GoodIn wsX6_trap (wsV RX6 186 RX1 yX1_hasAll wsX1_hasAll) := goodIn_app (goodIn_of _ (by decide +kernel)) ggX6_trap_X1_hasAll
set_option maxRecDepth 20000 in
theorem ggX6_trap_X1_isTrap : GoodIn wsX6_trap wsX1_isTrap := goodIn_r _ [22, 16, 23, 24, 25, 5, 26, 39, 40, 41, 42] (by decide +kernel) (by decide +kernel)
set_option maxRecDepth 20000 in
theorem gX6_trap_X1_isTrap : GoodIn wsX6_trap (wsV RX6 195 RX1 yX1_isTrap wsX1_isTrap) := goodIn_app (goodIn_of _ (by decide +kernel)) ggX6_trap_X1_isTrap
theorem dX6_trap_0 : decode cX6_trap 0 = .ok (.iload_n 1, 1) := by decide +kernel
theorem dX6_trap_1 : decode cX6_trap 1 = .ok (.invokestatic 58, 3) := by decide +kernel
theorem dX6_trap_4 : decode cX6_trap 4 = .ok (.ifCond .ne 5, 3) := by decide +kernel
theorem dX6_trap_7 : decode cX6_trap 7 = .ok (.iconst (-1), 1) := by decide +kernel
theorem dX6_trap_8 : decode cX6_trap 8 = .ok (.ireturn, 1) := by decide +kernel
theorem dX6_trap_9 : decode cX6_trap 9 = .ok (.aload_n 0, 1) := by decide +kernel
theorem dX6_trap_10 : decode cX6_trap 10 = .ok (.getfield 12, 3) := by decide +kernel
theorem dX6_trap_13 : decode cX6_trap 13 = .ok (.getfield 65, 3) := by decide +kernel
theorem dX6_trap_16 : decode cX6_trap 16 = .ok (.iload_n 2, 1) := by decide +kernel
theorem dX6_trap_17 : decode cX6_trap 17 = .ok (.invokevirtual 186, 3) := by decide +kernel
theorem dX6_trap_20 : decode cX6_trap 20 = .ok (.ifCond .ne 6, 3) := by decide +kernel
theorem dX6_trap_23 : decode cX6_trap 23 = .ok (.bipush (-2), 2) := by decide +kernel
theorem dX6_trap_25 : decode cX6_trap 25 = .ok (.ireturn, 1) := by decide +kernel
theorem dX6_trap_26 : decode cX6_trap 26 = .ok (.aload_n 0, 1) := by decide +kernel
theorem dX6_trap_27 : decode cX6_trap 27 = .ok (.getfield 12, 3) := by decide +kernel
theorem dX6_trap_30 : decode cX6_trap 30 = .ok (.getfield 65, 3) := by decide +kernel
theorem dX6_trap_33 : decode cX6_trap 33 = .ok (.iload_n 1, 1) := by decide +kernel
theorem dX6_trap_34 : decode cX6_trap 34 = .ok (.iload_n 2, 1) := by decide +kernel
theorem dX6_trap_35 : decode cX6_trap 35 = .ok (.invokevirtual 195, 3) := by decide +kernel
theorem dX6_trap_38 : decode cX6_trap 38 = .ok (.ifCond .eq 7, 3) := by decide +kernel
theorem dX6_trap_41 : decode cX6_trap 41 = .ok (.iconst 1, 1) := by decide +kernel
theorem dX6_trap_42 : decode cX6_trap 42 = .ok (.goto 4, 3) := by decide +kernel
theorem dX6_trap_45 : decode cX6_trap 45 = .ok (.iconst 0, 1) := by decide +kernel
theorem dX6_trap_46 : decode cX6_trap 46 = .ok (.ireturn, 1) := by decide +kernel
set_option maxRecDepth 20000 in
theorem ggX6_judged_X6_isPlayer : GoodIn wsX6_judged wsX6_isPlayer := goodIn_r _ [7] (by decide +kernel) (by decide +kernel)
set_option maxRecDepth 20000 in
theorem gX6_judged_X6_isPlayer : GoodIn wsX6_judged (va_wsS RX6 58 yX6_isPlayer wsX6_isPlayer) := goodIn_app (goodIn_of _ (by decide +kernel)) ggX6_judged_X6_isPlayer
set_option maxRecDepth 20000 in
theorem ggX6_judged_X1_has : GoodIn wsX6_judged wsX1_has := goodIn_r _ [12, 13, 95, 96, 97, 98] (by decide +kernel) (by decide +kernel)
set_option maxRecDepth 20000 in
theorem gX6_judged_X1_has : GoodIn wsX6_judged (wsV RX6 80 RX1 yX1_has wsX1_has) := goodIn_app (goodIn_of _ (by decide +kernel)) ggX6_judged_X1_has
set_option maxRecDepth 20000 in
theorem ggX6_judged_X6_judgeFor : GoodIn wsX6_judged wsX6_judgeFor := goodIn_r _ [17, 3, 1, 2, 18, 19, 20, 21, 22, 23, 24, 11, 25, 13, 26, 27, 28, 29, 30, 31, 32, 33, 34, 6, 35, 83, 84, 85, 86, 87, 88, 89, 90, 91, 92, 93, 94, 95, 96, 97, 98] (by decide +kernel) (by decide +kernel)
set_option maxRecDepth 20000 in
theorem gX6_judged_X6_judgeFor : GoodIn wsX6_judged (wsV RX6 198 RX6 yX6_judgeFor wsX6_judgeFor) := goodIn_app (goodIn_of _ (by decide +kernel)) ggX6_judged_X6_judgeFor
set_option maxRecDepth 20000 in
theorem ggX6_judged_X1_badRingPlaces : GoodIn wsX6_judged wsX1_badRingPlaces := goodIn_r _ [39, 13, 31, 40, 41, 42, 11, 43, 44, 45, 46, 47, 48, 49, 50, 51, 34, 6, 35, 52, 53, 54, 55, 56, 57, 58, 59, 32, 60, 61, 62, 63, 64, 65, 66, 67, 68, 69, 95, 96, 97, 98] (by decide +kernel) (by decide +kernel)
set_option maxRecDepth 20000 in
theorem gX6_judged_X1_badRingPlaces : GoodIn wsX6_judged (wsV RX6 201 RX1 yX1_badRingPlaces wsX1_badRingPlaces) := goodIn_app (goodIn_of _ (by decide +kernel)) ggX6_judged_X1_badRingPlaces
set_option maxRecDepth 20000 in
theorem ggX6_judged_X1_owned : GoodIn wsX6_judged wsX1_owned := goodIn_r _ [73, 13, 26, 34, 6, 35, 95, 96, 97, 98] (by decide +kernel) (by decide +kernel)
set_option maxRecDepth 20000 in
theorem gX6_judged_X1_owned : GoodIn wsX6_judged (wsV RX6 204 RX1 yX1_owned wsX1_owned) := goodIn_app (goodIn_of _ (by decide +kernel)) ggX6_judged_X1_owned
set_option maxRecDepth 20000 in
theorem ggX6_judged_X1_withoutArrows : GoodIn wsX6_judged wsX1_withoutArrows := goodIn_r _ [77, 13, 32, 34, 6, 35, 95, 96, 97, 98] (by decide +kernel) (by decide +kernel)
set_option maxRecDepth 20000 in
theorem gX6_judged_X1_withoutArrows : GoodIn wsX6_judged (wsV RX6 207 RX1 yX1_withoutArrows wsX1_withoutArrows) := goodIn_app (goodIn_of _ (by decide +kernel)) ggX6_judged_X1_withoutArrows
set_option maxRecDepth 20000 in
theorem ggX6_judged_X6_bit : GoodIn wsX6_judged wsX6_bit := goodIn_r _ [35] (by decide +kernel) (by decide +kernel)
set_option maxRecDepth 20000 in
theorem gX6_judged_X6_bit : GoodIn wsX6_judged (va_wsS RX6 105 yX6_bit wsX6_bit) := goodIn_app (goodIn_of _ (by decide +kernel)) ggX6_judged_X6_bit
set_option maxRecDepth 20000 in
theorem ggX6_judged_X1_all : GoodIn wsX6_judged wsX1_all := goodIn_r _ [81, 13, 34, 6, 35, 95, 96, 97, 98] (by decide +kernel) (by decide +kernel)
set_option maxRecDepth 20000 in
theorem gX6_judged_X1_all : GoodIn wsX6_judged (wsV RX6 210 RX1 yX1_all wsX1_all) := goodIn_app (goodIn_of _ (by decide +kernel)) ggX6_judged_X1_all
set_option maxRecDepth 20000 in
theorem ggX6_judged_X1_reached : GoodIn wsX6_judged wsX1_reached := goodIn_r _ [55, 13, 56, 57, 58, 11, 59, 32, 60, 6, 61, 95, 96, 97, 98] (by decide +kernel) (by decide +kernel)
set_option maxRecDepth 20000 in
theorem gX6_judged_X1_reached : GoodIn wsX6_judged (wsV RX6 213 RX1 yX1_reached wsX1_reached) := goodIn_app (goodIn_of _ (by decide +kernel)) ggX6_judged_X1_reached
theorem dX6_judged_0 : decode cX6_judged 0 = .ok (.iload_n 1, 1) := by decide +kernel
theorem dX6_judged_1 : decode cX6_judged 1 = .ok (.invokestatic 58, 3) := by decide +kernel
theorem dX6_judged_4 : decode cX6_judged 4 = .ok (.ifCond .eq 17, 3) := by decide +kernel
theorem dX6_judged_7 : decode cX6_judged 7 = .ok (.aload_n 0, 1) := by decide +kernel
theorem dX6_judged_8 : decode cX6_judged 8 = .ok (.getfield 12, 3) := by decide +kernel
theorem dX6_judged_11 : decode cX6_judged 11 = .ok (.getfield 65, 3) := by decide +kernel
theorem dX6_judged_14 : decode cX6_judged 14 = .ok (.iload_n 2, 1) := by decide +kernel
theorem dX6_judged_15 : decode cX6_judged 15 = .ok (.invokevirtual 80, 3) := by decide +kernel
theorem dX6_judged_18 : decode cX6_judged 18 = .ok (.ifCond .ne 5, 3) := by decide +kernel
theorem dX6_judged_21 : decode cX6_judged 21 = .ok (.iconst (-1), 1) := by decide +kernel
theorem dX6_judged_22 : decode cX6_judged 22 = .ok (.ireturn, 1) := by decide +kernel
theorem dX6_judged_23 : decode cX6_judged 23 = .ok (.aload_n 0, 1) := by decide +kernel
theorem dX6_judged_24 : decode cX6_judged 24 = .ok (.iload_n 1, 1) := by decide +kernel
theorem dX6_judged_25 : decode cX6_judged 25 = .ok (.invokevirtual 198, 3) := by decide +kernel
theorem dX6_judged_28 : decode cX6_judged 28 = .ok (.aload_n 0, 1) := by decide +kernel
theorem dX6_judged_29 : decode cX6_judged 29 = .ok (.getfield 40, 3) := by decide +kernel
theorem dX6_judged_32 : decode cX6_judged 32 = .ok (.iload_n 1, 1) := by decide +kernel
theorem dX6_judged_33 : decode cX6_judged 33 = .ok (.invokevirtual 201, 3) := by decide +kernel
theorem dX6_judged_36 : decode cX6_judged 36 = .ok (.aload_n 0, 1) := by decide +kernel
theorem dX6_judged_37 : decode cX6_judged 37 = .ok (.getfield 40, 3) := by decide +kernel
theorem dX6_judged_40 : decode cX6_judged 40 = .ok (.iload_n 1, 1) := by decide +kernel
theorem dX6_judged_41 : decode cX6_judged 41 = .ok (.invokevirtual 204, 3) := by decide +kernel
theorem dX6_judged_44 : decode cX6_judged 44 = .ok (.aload_n 0, 1) := by decide +kernel
theorem dX6_judged_45 : decode cX6_judged 45 = .ok (.getfield 40, 3) := by decide +kernel
theorem dX6_judged_48 : decode cX6_judged 48 = .ok (.invokevirtual 207, 3) := by decide +kernel
theorem dX6_judged_51 : decode cX6_judged 51 = .ok (.iand, 1) := by decide +kernel
theorem dX6_judged_52 : decode cX6_judged 52 = .ok (.ior, 1) := by decide +kernel
theorem dX6_judged_53 : decode cX6_judged 53 = .ok (.istore_n 3, 1) := by decide +kernel
theorem dX6_judged_54 : decode cX6_judged 54 = .ok (.iload_n 2, 1) := by decide +kernel
theorem dX6_judged_55 : decode cX6_judged 55 = .ok (.invokestatic 105, 3) := by decide +kernel
theorem dX6_judged_58 : decode cX6_judged 58 = .ok (.aload_n 0, 1) := by decide +kernel
theorem dX6_judged_59 : decode cX6_judged 59 = .ok (.getfield 40, 3) := by decide +kernel
theorem dX6_judged_62 : decode cX6_judged 62 = .ok (.iload_n 2, 1) := by decide +kernel
theorem dX6_judged_63 : decode cX6_judged 63 = .ok (.invokestatic 105, 3) := by decide +kernel
theorem dX6_judged_66 : decode cX6_judged 66 = .ok (.aload_n 0, 1) := by decide +kernel
theorem dX6_judged_67 : decode cX6_judged 67 = .ok (.getfield 40, 3) := by decide +kernel
theorem dX6_judged_70 : decode cX6_judged 70 = .ok (.invokevirtual 210, 3) := by decide +kernel
theorem dX6_judged_73 : decode cX6_judged 73 = .ok (.invokevirtual 213, 3) := by decide +kernel
theorem dX6_judged_76 : decode cX6_judged 76 = .ok (.ior, 1) := by decide +kernel
theorem dX6_judged_77 : decode cX6_judged 77 = .ok (.istore 4, 2) := by decide +kernel
theorem dX6_judged_79 : decode cX6_judged 79 = .ok (.iload 4, 2) := by decide +kernel
theorem dX6_judged_81 : decode cX6_judged 81 = .ok (.iload_n 3, 1) := by decide +kernel
theorem dX6_judged_82 : decode cX6_judged 82 = .ok (.iand, 1) := by decide +kernel
theorem dX6_judged_83 : decode cX6_judged 83 = .ok (.ifCond .ne 7, 3) := by decide +kernel
theorem dX6_judged_86 : decode cX6_judged 86 = .ok (.iconst 1, 1) := by decide +kernel
theorem dX6_judged_87 : decode cX6_judged 87 = .ok (.goto 4, 3) := by decide +kernel
theorem dX6_judged_90 : decode cX6_judged 90 = .ok (.iconst 0, 1) := by decide +kernel
theorem dX6_judged_91 : decode cX6_judged 91 = .ok (.ireturn, 1) := by decide +kernel
set_option maxRecDepth 20000 in
theorem ggX6_badRings_X6_isPlayer : GoodIn wsX6_badRings wsX6_isPlayer := goodIn_r _ [5] (by decide +kernel) (by decide +kernel)
set_option maxRecDepth 20000 in
theorem gX6_badRings_X6_isPlayer : GoodIn wsX6_badRings (va_wsS RX6 58 yX6_isPlayer wsX6_isPlayer) := goodIn_app (goodIn_of _ (by decide +kernel)) ggX6_badRings_X6_isPlayer
set_option maxRecDepth 20000 in
theorem ggX6_badRings_X6_judgeFor : GoodIn wsX6_badRings wsX6_judgeFor := goodIn_r _ [9, 1, 10, 11, 12, 13, 14, 15, 16, 17, 18, 19, 20, 21, 22, 23, 24, 25, 26, 27, 28, 29, 30, 4, 31, 78, 79, 80, 81, 82, 83, 84, 85, 86, 87, 88, 89, 90, 91, 92, 93] (by decide +kernel) (by decide +kernel)
set_option maxRecDepth 20000 in
theorem gX6_badRings_X6_judgeFor : GoodIn wsX6_badRings (wsV RX6 198 RX6 yX6_judgeFor wsX6_judgeFor) := goodIn_app (goodIn_of _ (by decide +kernel)) ggX6_badRings_X6_judgeFor
set_option maxRecDepth 20000 in
theorem ggX6_badRings_X1_badRingPlaces : GoodIn wsX6_badRings wsX1_badRingPlaces := goodIn_r _ [35, 21, 27, 36, 37, 38, 19, 39, 40, 41, 42, 43, 44, 45, 46, 47, 30, 4, 31, 48, 49, 50, 51, 52, 53, 54, 55, 28, 56, 57, 58, 59, 60, 61, 62, 63, 64, 65, 90, 91, 92, 93] (by decide +kernel) (by decide +kernel)
set_option maxRecDepth 20000 in
theorem gX6_badRings_X1_badRingPlaces : GoodIn wsX6_badRings (wsV RX6 201 RX1 yX1_badRingPlaces wsX1_badRingPlaces) := goodIn_app (goodIn_of _ (by decide +kernel)) ggX6_badRings_X1_badRingPlaces
set_option maxRecDepth 20000 in
theorem ggX6_badRings_X1_leastBadColour : GoodIn wsX6_badRings wsX1_leastBadColour := goodIn_r _ [69, 21, 27, 36, 37, 38, 19, 39, 40, 41, 42, 43, 44, 45, 46, 47, 30, 4, 31, 48, 49, 50, 51, 52, 53, 54, 55, 28, 56, 57, 58, 59, 60, 61, 62, 63, 64, 65, 90, 91, 92, 93] (by decide +kernel) (by decide +kernel)
set_option maxRecDepth 20000 in
theorem gX6_badRings_X1_leastBadColour : GoodIn wsX6_badRings (wsV RX6 216 RX1 yX1_leastBadColour wsX1_leastBadColour) := goodIn_app (goodIn_of _ (by decide +kernel)) ggX6_badRings_X1_leastBadColour
set_option maxRecDepth 20000 in
theorem ggX6_badRings_X1_shortestBadRing : GoodIn wsX6_badRings wsX1_shortestBadRing := goodIn_r _ [73, 21, 27, 36, 37, 38, 19, 39, 74, 75, 76, 77, 44, 45, 46, 47, 30, 4, 31, 52, 53, 54, 55, 28, 56, 57, 90, 91, 92, 93] (by decide +kernel) (by decide +kernel)
set_option maxRecDepth 20000 in
theorem gX6_badRings_X1_shortestBadRing : GoodIn wsX6_badRings (wsV RX6 219 RX1 yX1_shortestBadRing wsX1_shortestBadRing) := goodIn_app (goodIn_of _ (by decide +kernel)) ggX6_badRings_X1_shortestBadRing
theorem dX6_badRings_0 : decode cX6_badRings 0 = .ok (.iload_n 1, 1) := by decide +kernel
theorem dX6_badRings_1 : decode cX6_badRings 1 = .ok (.invokestatic 58, 3) := by decide +kernel
theorem dX6_badRings_4 : decode cX6_badRings 4 = .ok (.ifCond .ne 5, 3) := by decide +kernel
theorem dX6_badRings_7 : decode cX6_badRings 7 = .ok (.iconst (-1), 1) := by decide +kernel
theorem dX6_badRings_8 : decode cX6_badRings 8 = .ok (.ireturn, 1) := by decide +kernel
theorem dX6_badRings_9 : decode cX6_badRings 9 = .ok (.aload_n 0, 1) := by decide +kernel
theorem dX6_badRings_10 : decode cX6_badRings 10 = .ok (.iload_n 1, 1) := by decide +kernel
theorem dX6_badRings_11 : decode cX6_badRings 11 = .ok (.invokevirtual 198, 3) := by decide +kernel
theorem dX6_badRings_14 : decode cX6_badRings 14 = .ok (.iload_n 2, 1) := by decide +kernel
theorem dX6_badRings_15 : decode cX6_badRings 15 = .ok (.tableswitch 52 0 2 #[25, 34, 43], 25) := by decide +kernel
theorem dX6_badRings_40 : decode cX6_badRings 40 = .ok (.aload_n 0, 1) := by decide +kernel
theorem dX6_badRings_41 : decode cX6_badRings 41 = .ok (.getfield 40, 3) := by decide +kernel
theorem dX6_badRings_44 : decode cX6_badRings 44 = .ok (.iload_n 1, 1) := by decide +kernel
theorem dX6_badRings_45 : decode cX6_badRings 45 = .ok (.invokevirtual 201, 3) := by decide +kernel
theorem dX6_badRings_48 : decode cX6_badRings 48 = .ok (.ireturn, 1) := by decide +kernel
theorem dX6_badRings_49 : decode cX6_badRings 49 = .ok (.aload_n 0, 1) := by decide +kernel
theorem dX6_badRings_50 : decode cX6_badRings 50 = .ok (.getfield 40, 3) := by decide +kernel
theorem dX6_badRings_53 : decode cX6_badRings 53 = .ok (.iload_n 1, 1) := by decide +kernel
theorem dX6_badRings_54 : decode cX6_badRings 54 = .ok (.invokevirtual 216, 3) := by decide +kernel
theorem dX6_badRings_57 : decode cX6_badRings 57 = .ok (.ireturn, 1) := by decide +kernel
theorem dX6_badRings_58 : decode cX6_badRings 58 = .ok (.aload_n 0, 1) := by decide +kernel
theorem dX6_badRings_59 : decode cX6_badRings 59 = .ok (.getfield 40, 3) := by decide +kernel
theorem dX6_badRings_62 : decode cX6_badRings 62 = .ok (.iload_n 1, 1) := by decide +kernel
theorem dX6_badRings_63 : decode cX6_badRings 63 = .ok (.invokevirtual 219, 3) := by decide +kernel
theorem dX6_badRings_66 : decode cX6_badRings 66 = .ok (.ireturn, 1) := by decide +kernel
theorem dX6_badRings_67 : decode cX6_badRings 67 = .ok (.bipush (-2), 2) := by decide +kernel
theorem dX6_badRings_69 : decode cX6_badRings 69 = .ok (.ireturn, 1) := by decide +kernel
set_option maxRecDepth 20000 in
theorem ggX6_pivots_X1_has : GoodIn wsX6_pivots wsX1_has := goodIn_r _ [11, 12, 95, 96, 97, 98] (by decide +kernel) (by decide +kernel)
set_option maxRecDepth 20000 in
theorem gX6_pivots_X1_has : GoodIn wsX6_pivots (wsV RX6 80 RX1 yX1_has wsX1_has) := goodIn_app (goodIn_of _ (by decide +kernel)) ggX6_pivots_X1_has
set_option maxRecDepth 20000 in
theorem ggX6_pivots_X6_winnerOf : GoodIn wsX6_pivots wsX6_winnerOf := goodIn_r _ [17, 6, 18, 19, 20, 16, 21, 3, 1, 2, 22, 23, 24, 10, 25, 12, 26, 27, 28, 29, 30, 31, 32, 33, 34, 35, 36, 37, 38, 39, 40, 41, 42, 43, 44, 45, 46, 47, 48, 49, 50, 51, 52, 53, 54, 55, 56, 57, 58, 59, 60, 61, 62, 63, 64, 65, 66, 67, 68, 69, 70, 71, 72, 73, 74, 75, 76, 77, 78, 79, 83, 84, 85, 86, 87, 88, 89, 90, 91, 92, 93, 94, 95, 96, 97, 98, 99, 100, 101] (by decide +kernel) (by decide +kernel)
set_option maxRecDepth 20000 in
theorem gX6_pivots_X6_winnerOf : GoodIn wsX6_pivots (wsV RX6 147 RX6 yX6_winnerOf wsX6_winnerOf) := goodIn_app (goodIn_of _ (by decide +kernel)) ggX6_pivots_X6_winnerOf
set_option maxRecDepth 20000 in
theorem ggX6_pivots_X1_become : GoodIn wsX6_pivots wsX1_become := goodIn_r _ [25, 12, 26, 27, 28, 29, 30, 31, 32, 95, 96, 97, 98] (by decide +kernel) (by decide +kernel)
set_option maxRecDepth 20000 in
theorem gX6_pivots_X1_become : GoodIn wsX6_pivots (wsV RX6 119 RX1 yX1_become wsX1_become) := goodIn_app (goodIn_of _ (by decide +kernel)) ggX6_pivots_X1_become
set_option maxRecDepth 20000 in
theorem ggX6_pivots_X3_find : GoodIn wsX6_pivots wsX3_find := goodIn_r _ [41, 42, 43, 44, 45, 46, 47, 48, 49, 50, 40, 51, 52, 53, 54, 55, 56, 57, 58, 59, 60, 61, 62, 63, 64, 65, 66, 16, 67, 68, 69, 70, 71, 99, 100, 101, 95, 96, 97, 98] (by decide +kernel) (by decide +kernel)
set_option maxRecDepth 20000 in
theorem gX6_pivots_X3_find : GoodIn wsX6_pivots (wsV RX6 222 RX3 yX3_find wsX3_find) := goodIn_app (goodIn_of _ (by decide +kernel)) ggX6_pivots_X3_find
set_option maxRecDepth 20000 in
theorem ggX6_pivots_X3_winner : GoodIn wsX6_pivots wsX3_winner := goodIn_r _ [75, 76, 77, 78, 40, 79, 44, 57, 99, 100, 101] (by decide +kernel) (by decide +kernel)
set_option maxRecDepth 20000 in
theorem gX6_pivots_X3_winner : GoodIn wsX6_pivots (wsV RX6 225 RX3 yX3_winner wsX3_winner) := goodIn_app (goodIn_of _ (by decide +kernel)) ggX6_pivots_X3_winner
set_option maxRecDepth 20000 in
theorem ggX6_pivots_X6_bit : GoodIn wsX6_pivots wsX6_bit := goodIn_r _ [82] (by decide +kernel) (by decide +kernel)
set_option maxRecDepth 20000 in
theorem gX6_pivots_X6_bit : GoodIn wsX6_pivots (va_wsS RX6 105 yX6_bit wsX6_bit) := goodIn_app (goodIn_of _ (by decide +kernel)) ggX6_pivots_X6_bit
theorem dX6_pivots_0 : decode cX6_pivots 0 = .ok (.aload_n 0, 1) := by decide +kernel
theorem dX6_pivots_1 : decode cX6_pivots 1 = .ok (.getfield 12, 3) := by decide +kernel
theorem dX6_pivots_4 : decode cX6_pivots 4 = .ok (.getfield 65, 3) := by decide +kernel
theorem dX6_pivots_7 : decode cX6_pivots 7 = .ok (.iload_n 1, 1) := by decide +kernel
theorem dX6_pivots_8 : decode cX6_pivots 8 = .ok (.invokevirtual 80, 3) := by decide +kernel
theorem dX6_pivots_11 : decode cX6_pivots 11 = .ok (.ifCond .ne 5, 3) := by decide +kernel
theorem dX6_pivots_14 : decode cX6_pivots 14 = .ok (.iconst (-1), 1) := by decide +kernel
theorem dX6_pivots_15 : decode cX6_pivots 15 = .ok (.ireturn, 1) := by decide +kernel
theorem dX6_pivots_16 : decode cX6_pivots 16 = .ok (.aload_n 0, 1) := by decide +kernel
theorem dX6_pivots_17 : decode cX6_pivots 17 = .ok (.iload_n 1, 1) := by decide +kernel
theorem dX6_pivots_18 : decode cX6_pivots 18 = .ok (.invokevirtual 147, 3) := by decide +kernel
theorem dX6_pivots_21 : decode cX6_pivots 21 = .ok (.istore_n 2, 1) := by decide +kernel
theorem dX6_pivots_22 : decode cX6_pivots 22 = .ok (.iconst 0, 1) := by decide +kernel
theorem dX6_pivots_23 : decode cX6_pivots 23 = .ok (.istore_n 3, 1) := by decide +kernel
theorem dX6_pivots_24 : decode cX6_pivots 24 = .ok (.aload_n 0, 1) := by decide +kernel
theorem dX6_pivots_25 : decode cX6_pivots 25 = .ok (.getfield 40, 3) := by decide +kernel
theorem dX6_pivots_28 : decode cX6_pivots 28 = .ok (.aload_n 0, 1) := by decide +kernel
theorem dX6_pivots_29 : decode cX6_pivots 29 = .ok (.getfield 12, 3) := by decide +kernel
theorem dX6_pivots_32 : decode cX6_pivots 32 = .ok (.getfield 65, 3) := by decide +kernel
theorem dX6_pivots_35 : decode cX6_pivots 35 = .ok (.invokevirtual 119, 3) := by decide +kernel
theorem dX6_pivots_38 : decode cX6_pivots 38 = .ok (.iconst 0, 1) := by decide +kernel
theorem dX6_pivots_39 : decode cX6_pivots 39 = .ok (.istore 4, 2) := by decide +kernel
theorem dX6_pivots_41 : decode cX6_pivots 41 = .ok (.iload 4, 2) := by decide +kernel
theorem dX6_pivots_43 : decode cX6_pivots 43 = .ok (.aload_n 0, 1) := by decide +kernel
theorem dX6_pivots_44 : decode cX6_pivots 44 = .ok (.getfield 12, 3) := by decide +kernel
theorem dX6_pivots_47 : decode cX6_pivots 47 = .ok (.getfield 65, 3) := by decide +kernel
theorem dX6_pivots_50 : decode cX6_pivots 50 = .ok (.getfield 68, 3) := by decide +kernel
theorem dX6_pivots_53 : decode cX6_pivots 53 = .ok (.if_icmp .ge 88, 3) := by decide +kernel
theorem dX6_pivots_56 : decode cX6_pivots 56 = .ok (.aload_n 0, 1) := by decide +kernel
theorem dX6_pivots_57 : decode cX6_pivots 57 = .ok (.getfield 40, 3) := by decide +kernel
theorem dX6_pivots_60 : decode cX6_pivots 60 = .ok (.getfield 83, 3) := by decide +kernel
theorem dX6_pivots_63 : decode cX6_pivots 63 = .ok (.iload 4, 2) := by decide +kernel
theorem dX6_pivots_65 : decode cX6_pivots 65 = .ok (.iconst 1, 1) := by decide +kernel
theorem dX6_pivots_66 : decode cX6_pivots 66 = .ok (.aload_n 0, 1) := by decide +kernel
theorem dX6_pivots_67 : decode cX6_pivots 67 = .ok (.getfield 12, 3) := by decide +kernel
theorem dX6_pivots_70 : decode cX6_pivots 70 = .ok (.getfield 65, 3) := by decide +kernel
theorem dX6_pivots_73 : decode cX6_pivots 73 = .ok (.getfield 83, 3) := by decide +kernel
theorem dX6_pivots_76 : decode cX6_pivots 76 = .ok (.iload 4, 2) := by decide +kernel
theorem dX6_pivots_78 : decode cX6_pivots 78 = .ok (.iaload, 1) := by decide +kernel
theorem dX6_pivots_79 : decode cX6_pivots 79 = .ok (.isub, 1) := by decide +kernel
theorem dX6_pivots_80 : decode cX6_pivots 80 = .ok (.iastore, 1) := by decide +kernel
theorem dX6_pivots_81 : decode cX6_pivots 81 = .ok (.aload_n 0, 1) := by decide +kernel
theorem dX6_pivots_82 : decode cX6_pivots 82 = .ok (.getfield 47, 3) := by decide +kernel
theorem dX6_pivots_85 : decode cX6_pivots 85 = .ok (.aload_n 0, 1) := by decide +kernel
theorem dX6_pivots_86 : decode cX6_pivots 86 = .ok (.getfield 40, 3) := by decide +kernel
theorem dX6_pivots_89 : decode cX6_pivots 89 = .ok (.invokevirtual 222, 3) := by decide +kernel
theorem dX6_pivots_92 : decode cX6_pivots 92 = .ok (.aload_n 0, 1) := by decide +kernel
theorem dX6_pivots_93 : decode cX6_pivots 93 = .ok (.getfield 47, 3) := by decide +kernel
theorem dX6_pivots_96 : decode cX6_pivots 96 = .ok (.iload_n 1, 1) := by decide +kernel
theorem dX6_pivots_97 : decode cX6_pivots 97 = .ok (.invokevirtual 225, 3) := by decide +kernel
theorem dX6_pivots_100 : decode cX6_pivots 100 = .ok (.iload_n 2, 1) := by decide +kernel
theorem dX6_pivots_101 : decode cX6_pivots 101 = .ok (.if_icmp .eq 11, 3) := by decide +kernel
theorem dX6_pivots_104 : decode cX6_pivots 104 = .ok (.iload_n 3, 1) := by decide +kernel
theorem dX6_pivots_105 : decode cX6_pivots 105 = .ok (.iload 4, 2) := by decide +kernel
theorem dX6_pivots_107 : decode cX6_pivots 107 = .ok (.invokestatic 105, 3) := by decide +kernel
theorem dX6_pivots_110 : decode cX6_pivots 110 = .ok (.ior, 1) := by decide +kernel
theorem dX6_pivots_111 : decode cX6_pivots 111 = .ok (.istore_n 3, 1) := by decide +kernel
theorem dX6_pivots_112 : decode cX6_pivots 112 = .ok (.aload_n 0, 1) := by decide +kernel
theorem dX6_pivots_113 : decode cX6_pivots 113 = .ok (.getfield 40, 3) := by decide +kernel
theorem dX6_pivots_116 : decode cX6_pivots 116 = .ok (.getfield 83, 3) := by decide +kernel
theorem dX6_pivots_119 : decode cX6_pivots 119 = .ok (.iload 4, 2) := by decide +kernel
theorem dX6_pivots_121 : decode cX6_pivots 121 = .ok (.aload_n 0, 1) := by decide +kernel
theorem dX6_pivots_122 : decode cX6_pivots 122 = .ok (.getfield 12, 3) := by decide +kernel
theorem dX6_pivots_125 : decode cX6_pivots 125 = .ok (.getfield 65, 3) := by decide +kernel
theorem dX6_pivots_128 : decode cX6_pivots 128 = .ok (.getfield 83, 3) := by decide +kernel
theorem dX6_pivots_131 : decode cX6_pivots 131 = .ok (.iload 4, 2) := by decide +kernel
theorem dX6_pivots_133 : decode cX6_pivots 133 = .ok (.iaload, 1) := by decide +kernel
theorem dX6_pivots_134 : decode cX6_pivots 134 = .ok (.iastore, 1) := by decide +kernel
theorem dX6_pivots_135 : decode cX6_pivots 135 = .ok (.iinc 4 1, 3) := by decide +kernel
theorem dX6_pivots_138 : decode cX6_pivots 138 = .ok (.goto (-97), 3) := by decide +kernel
theorem dX6_pivots_141 : decode cX6_pivots 141 = .ok (.iload_n 3, 1) := by decide +kernel
theorem dX6_pivots_142 : decode cX6_pivots 142 = .ok (.ireturn, 1) := by decide +kernel
set_option maxRecDepth 20000 in
theorem ggX6_weakArrows_X1_has : GoodIn wsX6_weakArrows wsX1_has := goodIn_r _ [11, 12, 100, 101, 102, 103] (by decide +kernel) (by decide +kernel)
set_option maxRecDepth 20000 in
theorem gX6_weakArrows_X1_has : GoodIn wsX6_weakArrows (wsV RX6 80 RX1 yX1_has wsX1_has) := goodIn_app (goodIn_of _ (by decide +kernel)) ggX6_weakArrows_X1_has
set_option maxRecDepth 20000 in
theorem ggX6_weakArrows_X6_winnerOf : GoodIn wsX6_weakArrows wsX6_winnerOf := goodIn_r _ [17, 6, 18, 19, 20, 16, 21, 3, 1, 2, 22, 23, 24, 10, 25, 12, 26, 27, 28, 29, 30, 31, 32, 33, 34, 35, 36, 37, 38, 39, 40, 41, 42, 43, 44, 45, 46, 47, 48, 49, 50, 51, 52, 53, 54, 55, 56, 57, 58, 59, 60, 61, 62, 63, 64, 65, 66, 67, 68, 69, 70, 71, 72, 73, 74, 75, 76, 77, 78, 79, 88, 89, 90, 91, 92, 93, 94, 95, 96, 97, 98, 99, 100, 101, 102, 103, 104, 105, 106] (by decide +kernel) (by decide +kernel)
set_option maxRecDepth 20000 in
theorem gX6_weakArrows_X6_winnerOf : GoodIn wsX6_weakArrows (wsV RX6 147 RX6 yX6_winnerOf wsX6_winnerOf) := goodIn_app (goodIn_of _ (by decide +kernel)) ggX6_weakArrows_X6_winnerOf
set_option maxRecDepth 20000 in
theorem ggX6_weakArrows_X1_become : GoodIn wsX6_weakArrows wsX1_become := goodIn_r _ [25, 12, 26, 27, 28, 29, 30, 31, 32, 100, 101, 102, 103] (by decide +kernel) (by decide +kernel)
set_option maxRecDepth 20000 in
theorem gX6_weakArrows_X1_become : GoodIn wsX6_weakArrows (wsV RX6 119 RX1 yX1_become wsX1_become) := goodIn_app (goodIn_of _ (by decide +kernel)) ggX6_weakArrows_X1_become
set_option maxRecDepth 20000 in
theorem ggX6_weakArrows_X1_leads : GoodIn wsX6_weakArrows wsX1_leads := goodIn_r _ [83, 32, 84, 8, 9, 10, 11, 12, 66, 16, 67, 100, 101, 102, 103] (by decide +kernel) (by decide +kernel)
set_option maxRecDepth 20000 in
theorem gX6_weakArrows_X1_leads : GoodIn wsX6_weakArrows (wsV RX6 98 RX1 yX1_leads wsX1_leads) := goodIn_app (goodIn_of _ (by decide +kernel)) ggX6_weakArrows_X1_leads
set_option maxRecDepth 20000 in
theorem ggX6_weakArrows_X6_bit : GoodIn wsX6_weakArrows wsX6_bit := goodIn_r _ [87] (by decide +kernel) (by decide +kernel)
set_option maxRecDepth 20000 in
theorem gX6_weakArrows_X6_bit : GoodIn wsX6_weakArrows (va_wsS RX6 105 yX6_bit wsX6_bit) := goodIn_app (goodIn_of _ (by decide +kernel)) ggX6_weakArrows_X6_bit
set_option maxRecDepth 20000 in
theorem ggX6_weakArrows_X3_find : GoodIn wsX6_weakArrows wsX3_find := goodIn_r _ [41, 42, 43, 44, 45, 46, 47, 48, 49, 50, 40, 51, 52, 53, 54, 55, 56, 57, 58, 59, 60, 61, 62, 63, 64, 65, 66, 16, 67, 68, 69, 70, 71, 104, 105, 106, 100, 101, 102, 103] (by decide +kernel) (by decide +kernel)
set_option maxRecDepth 20000 in
theorem gX6_weakArrows_X3_find : GoodIn wsX6_weakArrows (wsV RX6 222 RX3 yX3_find wsX3_find) := goodIn_app (goodIn_of _ (by decide +kernel)) ggX6_weakArrows_X3_find
set_option maxRecDepth 20000 in
theorem ggX6_weakArrows_X3_winner : GoodIn wsX6_weakArrows wsX3_winner := goodIn_r _ [75, 76, 77, 78, 40, 79, 44, 57, 104, 105, 106] (by decide +kernel) (by decide +kernel)
set_option maxRecDepth 20000 in
theorem gX6_weakArrows_X3_winner : GoodIn wsX6_weakArrows (wsV RX6 225 RX3 yX3_winner wsX3_winner) := goodIn_app (goodIn_of _ (by decide +kernel)) ggX6_weakArrows_X3_winner
theorem dX6_weakArrows_0 : decode cX6_weakArrows 0 = .ok (.aload_n 0, 1) := by decide +kernel
theorem dX6_weakArrows_1 : decode cX6_weakArrows 1 = .ok (.getfield 12, 3) := by decide +kernel
theorem dX6_weakArrows_4 : decode cX6_weakArrows 4 = .ok (.getfield 65, 3) := by decide +kernel
theorem dX6_weakArrows_7 : decode cX6_weakArrows 7 = .ok (.iload_n 1, 1) := by decide +kernel
theorem dX6_weakArrows_8 : decode cX6_weakArrows 8 = .ok (.invokevirtual 80, 3) := by decide +kernel
theorem dX6_weakArrows_11 : decode cX6_weakArrows 11 = .ok (.ifCond .ne 5, 3) := by decide +kernel
theorem dX6_weakArrows_14 : decode cX6_weakArrows 14 = .ok (.iconst (-1), 1) := by decide +kernel
theorem dX6_weakArrows_15 : decode cX6_weakArrows 15 = .ok (.ireturn, 1) := by decide +kernel
theorem dX6_weakArrows_16 : decode cX6_weakArrows 16 = .ok (.aload_n 0, 1) := by decide +kernel
theorem dX6_weakArrows_17 : decode cX6_weakArrows 17 = .ok (.iload_n 1, 1) := by decide +kernel
theorem dX6_weakArrows_18 : decode cX6_weakArrows 18 = .ok (.invokevirtual 147, 3) := by decide +kernel
theorem dX6_weakArrows_21 : decode cX6_weakArrows 21 = .ok (.istore_n 2, 1) := by decide +kernel
theorem dX6_weakArrows_22 : decode cX6_weakArrows 22 = .ok (.iconst 0, 1) := by decide +kernel
theorem dX6_weakArrows_23 : decode cX6_weakArrows 23 = .ok (.istore_n 3, 1) := by decide +kernel
theorem dX6_weakArrows_24 : decode cX6_weakArrows 24 = .ok (.aload_n 0, 1) := by decide +kernel
theorem dX6_weakArrows_25 : decode cX6_weakArrows 25 = .ok (.getfield 40, 3) := by decide +kernel
theorem dX6_weakArrows_28 : decode cX6_weakArrows 28 = .ok (.aload_n 0, 1) := by decide +kernel
theorem dX6_weakArrows_29 : decode cX6_weakArrows 29 = .ok (.getfield 12, 3) := by decide +kernel
theorem dX6_weakArrows_32 : decode cX6_weakArrows 32 = .ok (.getfield 65, 3) := by decide +kernel
theorem dX6_weakArrows_35 : decode cX6_weakArrows 35 = .ok (.invokevirtual 119, 3) := by decide +kernel
theorem dX6_weakArrows_38 : decode cX6_weakArrows 38 = .ok (.iconst 0, 1) := by decide +kernel
theorem dX6_weakArrows_39 : decode cX6_weakArrows 39 = .ok (.istore 4, 2) := by decide +kernel
theorem dX6_weakArrows_41 : decode cX6_weakArrows 41 = .ok (.iload 4, 2) := by decide +kernel
theorem dX6_weakArrows_43 : decode cX6_weakArrows 43 = .ok (.aload_n 0, 1) := by decide +kernel
theorem dX6_weakArrows_44 : decode cX6_weakArrows 44 = .ok (.getfield 12, 3) := by decide +kernel
theorem dX6_weakArrows_47 : decode cX6_weakArrows 47 = .ok (.getfield 65, 3) := by decide +kernel
theorem dX6_weakArrows_50 : decode cX6_weakArrows 50 = .ok (.getfield 68, 3) := by decide +kernel
theorem dX6_weakArrows_53 : decode cX6_weakArrows 53 = .ok (.if_icmp .ge 85, 3) := by decide +kernel
theorem dX6_weakArrows_56 : decode cX6_weakArrows 56 = .ok (.aload_n 0, 1) := by decide +kernel
theorem dX6_weakArrows_57 : decode cX6_weakArrows 57 = .ok (.getfield 12, 3) := by decide +kernel
theorem dX6_weakArrows_60 : decode cX6_weakArrows 60 = .ok (.getfield 65, 3) := by decide +kernel
theorem dX6_weakArrows_63 : decode cX6_weakArrows 63 = .ok (.iload_n 1, 1) := by decide +kernel
theorem dX6_weakArrows_64 : decode cX6_weakArrows 64 = .ok (.iload 4, 2) := by decide +kernel
theorem dX6_weakArrows_66 : decode cX6_weakArrows 66 = .ok (.invokevirtual 98, 3) := by decide +kernel
theorem dX6_weakArrows_69 : decode cX6_weakArrows 69 = .ok (.ifCond .eq 63, 3) := by decide +kernel
theorem dX6_weakArrows_72 : decode cX6_weakArrows 72 = .ok (.aload_n 0, 1) := by decide +kernel
theorem dX6_weakArrows_73 : decode cX6_weakArrows 73 = .ok (.getfield 40, 3) := by decide +kernel
theorem dX6_weakArrows_76 : decode cX6_weakArrows 76 = .ok (.getfield 102, 3) := by decide +kernel
theorem dX6_weakArrows_79 : decode cX6_weakArrows 79 = .ok (.iload_n 1, 1) := by decide +kernel
theorem dX6_weakArrows_80 : decode cX6_weakArrows 80 = .ok (.aload_n 0, 1) := by decide +kernel
theorem dX6_weakArrows_81 : decode cX6_weakArrows 81 = .ok (.getfield 12, 3) := by decide +kernel
theorem dX6_weakArrows_84 : decode cX6_weakArrows 84 = .ok (.getfield 65, 3) := by decide +kernel
theorem dX6_weakArrows_87 : decode cX6_weakArrows 87 = .ok (.getfield 102, 3) := by decide +kernel
theorem dX6_weakArrows_90 : decode cX6_weakArrows 90 = .ok (.iload_n 1, 1) := by decide +kernel
theorem dX6_weakArrows_91 : decode cX6_weakArrows 91 = .ok (.iaload, 1) := by decide +kernel
theorem dX6_weakArrows_92 : decode cX6_weakArrows 92 = .ok (.iload 4, 2) := by decide +kernel
theorem dX6_weakArrows_94 : decode cX6_weakArrows 94 = .ok (.invokestatic 105, 3) := by decide +kernel
theorem dX6_weakArrows_97 : decode cX6_weakArrows 97 = .ok (.iconst (-1), 1) := by decide +kernel
theorem dX6_weakArrows_98 : decode cX6_weakArrows 98 = .ok (.ixor, 1) := by decide +kernel
theorem dX6_weakArrows_99 : decode cX6_weakArrows 99 = .ok (.iand, 1) := by decide +kernel
theorem dX6_weakArrows_100 : decode cX6_weakArrows 100 = .ok (.iastore, 1) := by decide +kernel
theorem dX6_weakArrows_101 : decode cX6_weakArrows 101 = .ok (.aload_n 0, 1) := by decide +kernel
theorem dX6_weakArrows_102 : decode cX6_weakArrows 102 = .ok (.getfield 47, 3) := by decide +kernel
theorem dX6_weakArrows_105 : decode cX6_weakArrows 105 = .ok (.aload_n 0, 1) := by decide +kernel
theorem dX6_weakArrows_106 : decode cX6_weakArrows 106 = .ok (.getfield 40, 3) := by decide +kernel
theorem dX6_weakArrows_109 : decode cX6_weakArrows 109 = .ok (.invokevirtual 222, 3) := by decide +kernel
theorem dX6_weakArrows_112 : decode cX6_weakArrows 112 = .ok (.aload_n 0, 1) := by decide +kernel
theorem dX6_weakArrows_113 : decode cX6_weakArrows 113 = .ok (.getfield 47, 3) := by decide +kernel
theorem dX6_weakArrows_116 : decode cX6_weakArrows 116 = .ok (.iload_n 1, 1) := by decide +kernel
theorem dX6_weakArrows_117 : decode cX6_weakArrows 117 = .ok (.invokevirtual 225, 3) := by decide +kernel
theorem dX6_weakArrows_120 : decode cX6_weakArrows 120 = .ok (.iload_n 2, 1) := by decide +kernel
theorem dX6_weakArrows_121 : decode cX6_weakArrows 121 = .ok (.if_icmp .eq 11, 3) := by decide +kernel
theorem dX6_weakArrows_124 : decode cX6_weakArrows 124 = .ok (.iload_n 3, 1) := by decide +kernel
theorem dX6_weakArrows_125 : decode cX6_weakArrows 125 = .ok (.iload 4, 2) := by decide +kernel
theorem dX6_weakArrows_127 : decode cX6_weakArrows 127 = .ok (.invokestatic 105, 3) := by decide +kernel
theorem dX6_weakArrows_130 : decode cX6_weakArrows 130 = .ok (.ior, 1) := by decide +kernel
theorem dX6_weakArrows_131 : decode cX6_weakArrows 131 = .ok (.istore_n 3, 1) := by decide +kernel
theorem dX6_weakArrows_132 : decode cX6_weakArrows 132 = .ok (.iinc 4 1, 3) := by decide +kernel
theorem dX6_weakArrows_135 : decode cX6_weakArrows 135 = .ok (.goto (-94), 3) := by decide +kernel
theorem dX6_weakArrows_138 : decode cX6_weakArrows 138 = .ok (.iload_n 3, 1) := by decide +kernel
theorem dX6_weakArrows_139 : decode cX6_weakArrows 139 = .ok (.ireturn, 1) := by decide +kernel
set_option maxRecDepth 20000 in
theorem ggX6_token_X1_has : GoodIn wsX6_token wsX1_has := goodIn_r _ [11, 12, 140, 141, 142, 143] (by decide +kernel) (by decide +kernel)
set_option maxRecDepth 20000 in
theorem gX6_token_X1_has : GoodIn wsX6_token (wsV RX6 80 RX1 yX1_has wsX1_has) := goodIn_app (goodIn_of _ (by decide +kernel)) ggX6_token_X1_has
set_option maxRecDepth 20000 in
theorem ggX6_token_X6_findWays : GoodIn wsX6_token wsX6_findWays := goodIn_r _ [17, 1, 2, 18, 19, 4, 20, 21, 22, 23, 16, 24, 25, 26, 27, 28, 29, 10, 30, 12, 31, 32, 33, 34, 35, 36, 37, 38, 39, 40, 41, 42, 43, 44, 45, 46, 47, 48, 49, 50, 51, 52, 53, 54, 55, 56, 57, 58, 59, 60, 61, 62, 63, 64, 65, 66, 67, 68, 69, 70, 71, 72, 73, 74, 75, 76, 77, 78, 79, 80, 81, 82, 83, 84, 85, 86, 87, 88, 89, 90, 8, 9, 11, 91, 92, 93, 94, 95, 124, 125, 126, 127, 128, 129, 130, 131, 132, 133, 134, 135, 140, 141, 142, 143, 136, 137, 138, 139, 144, 145, 146] (by decide +kernel) (by decide +kernel)
set_option maxRecDepth 20000 in
theorem gX6_token_X6_findWays : GoodIn wsX6_token (wsV RX6 150 RX6 yX6_findWays wsX6_findWays) := goodIn_app (goodIn_of _ (by decide +kernel)) ggX6_token_X6_findWays
set_option maxRecDepth 20000 in
theorem ggX6_token_X5_follow : GoodIn wsX6_token wsX5_follow := goodIn_r _ [100, 101, 102, 103, 104, 16, 105, 106, 107, 108, 99, 109, 110, 71, 72, 136, 137, 138, 139] (by decide +kernel) (by decide +kernel)
set_option maxRecDepth 20000 in
theorem gX6_token_X5_follow : GoodIn wsX6_token (wsV RX6 228 RX5 yX5_follow wsX5_follow) := goodIn_app (goodIn_of _ (by decide +kernel)) ggX6_token_X5_follow
set_option maxRecDepth 20000 in
theorem ggX6_token_X5_leastColourAgain : GoodIn wsX6_token wsX5_leastColourAgain := goodIn_r _ [114, 115, 103, 116, 65, 66, 67, 106, 107, 108, 99, 109, 110, 117, 8, 9, 10, 11, 12, 140, 141, 142, 143, 136, 137, 138, 139] (by decide +kernel) (by decide +kernel)
set_option maxRecDepth 20000 in
theorem gX6_token_X5_leastColourAgain : GoodIn wsX6_token (wsV RX6 237 RX5 yX5_leastColourAgain wsX5_leastColourAgain) := goodIn_app (goodIn_of _ (by decide +kernel)) ggX6_token_X5_leastColourAgain
set_option maxRecDepth 20000 in
theorem ggX6_token_X5_winner : GoodIn wsX6_token wsX5_winner := goodIn_r _ [121, 102, 122, 103, 123, 112, 113, 99, 114, 115, 116, 65, 66, 67, 106, 107, 108, 109, 110, 117, 8, 9, 10, 11, 12, 136, 137, 138, 139, 140, 141, 142, 143] (by decide +kernel) (by decide +kernel)
set_option maxRecDepth 20000 in
theorem gX6_token_X5_winner : GoodIn wsX6_token (wsV RX6 241 RX5 yX5_winner wsX5_winner) := goodIn_app (goodIn_of _ (by decide +kernel)) ggX6_token_X5_winner
theorem dX6_token_0 : decode cX6_token 0 = .ok (.iload_n 1, 1) := by decide +kernel
theorem dX6_token_1 : decode cX6_token 1 = .ok (.ifCond .lt 8, 3) := by decide +kernel
theorem dX6_token_4 : decode cX6_token 4 = .ok (.iload_n 1, 1) := by decide +kernel
theorem dX6_token_5 : decode cX6_token 5 = .ok (.iconst 4, 1) := by decide +kernel
theorem dX6_token_6 : decode cX6_token 6 = .ok (.if_icmp .le 6, 3) := by decide +kernel
theorem dX6_token_9 : decode cX6_token 9 = .ok (.bipush (-2), 2) := by decide +kernel
theorem dX6_token_11 : decode cX6_token 11 = .ok (.ireturn, 1) := by decide +kernel
theorem dX6_token_12 : decode cX6_token 12 = .ok (.aload_n 0, 1) := by decide +kernel
theorem dX6_token_13 : decode cX6_token 13 = .ok (.getfield 12, 3) := by decide +kernel
theorem dX6_token_16 : decode cX6_token 16 = .ok (.getfield 65, 3) := by decide +kernel
theorem dX6_token_19 : decode cX6_token 19 = .ok (.aload_n 0, 1) := by decide +kernel
theorem dX6_token_20 : decode cX6_token 20 = .ok (.getfield 12, 3) := by decide +kernel
theorem dX6_token_23 : decode cX6_token 23 = .ok (.getfield 141, 3) := by decide +kernel
theorem dX6_token_26 : decode cX6_token 26 = .ok (.invokevirtual 80, 3) := by decide +kernel
theorem dX6_token_29 : decode cX6_token 29 = .ok (.ifCond .ne 6, 3) := by decide +kernel
theorem dX6_token_32 : decode cX6_token 32 = .ok (.bipush (-4), 2) := by decide +kernel
theorem dX6_token_34 : decode cX6_token 34 = .ok (.ireturn, 1) := by decide +kernel
theorem dX6_token_35 : decode cX6_token 35 = .ok (.aload_n 0, 1) := by decide +kernel
theorem dX6_token_36 : decode cX6_token 36 = .ok (.invokevirtual 150, 3) := by decide +kernel
theorem dX6_token_39 : decode cX6_token 39 = .ok (.aload_n 0, 1) := by decide +kernel
theorem dX6_token_40 : decode cX6_token 40 = .ok (.getfield 54, 3) := by decide +kernel
theorem dX6_token_43 : decode cX6_token 43 = .ok (.aload_n 0, 1) := by decide +kernel
theorem dX6_token_44 : decode cX6_token 44 = .ok (.getfield 12, 3) := by decide +kernel
theorem dX6_token_47 : decode cX6_token 47 = .ok (.getfield 141, 3) := by decide +kernel
theorem dX6_token_50 : decode cX6_token 50 = .ok (.invokevirtual 228, 3) := by decide +kernel
theorem dX6_token_53 : decode cX6_token 53 = .ok (.iload_n 1, 1) := by decide +kernel
theorem dX6_token_54 : decode cX6_token 54 = .ok (.tableswitch 114 0 3 #[30, 38, 61, 91], 30) := by decide +kernel
theorem dX6_token_84 : decode cX6_token 84 = .ok (.aload_n 0, 1) := by decide +kernel
theorem dX6_token_85 : decode cX6_token 85 = .ok (.getfield 12, 3) := by decide +kernel
theorem dX6_token_88 : decode cX6_token 88 = .ok (.getfield 141, 3) := by decide +kernel
theorem dX6_token_91 : decode cX6_token 91 = .ok (.ireturn, 1) := by decide +kernel
theorem dX6_token_92 : decode cX6_token 92 = .ok (.aload_n 0, 1) := by decide +kernel
theorem dX6_token_93 : decode cX6_token 93 = .ok (.getfield 54, 3) := by decide +kernel
theorem dX6_token_96 : decode cX6_token 96 = .ok (.getfield 231, 3) := by decide +kernel
theorem dX6_token_99 : decode cX6_token 99 = .ok (.ifCond .eq 8, 3) := by decide +kernel
theorem dX6_token_102 : decode cX6_token 102 = .ok (.bipush (-5), 2) := by decide +kernel
theorem dX6_token_104 : decode cX6_token 104 = .ok (.goto 10, 3) := by decide +kernel
theorem dX6_token_107 : decode cX6_token 107 = .ok (.aload_n 0, 1) := by decide +kernel
theorem dX6_token_108 : decode cX6_token 108 = .ok (.getfield 54, 3) := by decide +kernel
theorem dX6_token_111 : decode cX6_token 111 = .ok (.getfield 234, 3) := by decide +kernel
theorem dX6_token_114 : decode cX6_token 114 = .ok (.ireturn, 1) := by decide +kernel
theorem dX6_token_115 : decode cX6_token 115 = .ok (.aload_n 0, 1) := by decide +kernel
theorem dX6_token_116 : decode cX6_token 116 = .ok (.getfield 54, 3) := by decide +kernel
theorem dX6_token_119 : decode cX6_token 119 = .ok (.getfield 231, 3) := by decide +kernel
theorem dX6_token_122 : decode cX6_token 122 = .ok (.ifCond .eq 20, 3) := by decide +kernel
theorem dX6_token_125 : decode cX6_token 125 = .ok (.aload_n 0, 1) := by decide +kernel
theorem dX6_token_126 : decode cX6_token 126 = .ok (.getfield 54, 3) := by decide +kernel
theorem dX6_token_129 : decode cX6_token 129 = .ok (.aload_n 0, 1) := by decide +kernel
theorem dX6_token_130 : decode cX6_token 130 = .ok (.getfield 12, 3) := by decide +kernel
theorem dX6_token_133 : decode cX6_token 133 = .ok (.getfield 65, 3) := by decide +kernel
theorem dX6_token_136 : decode cX6_token 136 = .ok (.invokevirtual 237, 3) := by decide +kernel
theorem dX6_token_139 : decode cX6_token 139 = .ok (.goto 5, 3) := by decide +kernel
theorem dX6_token_142 : decode cX6_token 142 = .ok (.bipush (-5), 2) := by decide +kernel
theorem dX6_token_144 : decode cX6_token 144 = .ok (.ireturn, 1) := by decide +kernel
theorem dX6_token_145 : decode cX6_token 145 = .ok (.aload_n 0, 1) := by decide +kernel
theorem dX6_token_146 : decode cX6_token 146 = .ok (.getfield 54, 3) := by decide +kernel
theorem dX6_token_149 : decode cX6_token 149 = .ok (.getfield 231, 3) := by decide +kernel
theorem dX6_token_152 : decode cX6_token 152 = .ok (.ifCond .eq 13, 3) := by decide +kernel
theorem dX6_token_155 : decode cX6_token 155 = .ok (.aload_n 0, 1) := by decide +kernel
theorem dX6_token_156 : decode cX6_token 156 = .ok (.getfield 54, 3) := by decide +kernel
theorem dX6_token_159 : decode cX6_token 159 = .ok (.getfield 234, 3) := by decide +kernel
theorem dX6_token_162 : decode cX6_token 162 = .ok (.goto 5, 3) := by decide +kernel
theorem dX6_token_165 : decode cX6_token 165 = .ok (.bipush (-5), 2) := by decide +kernel
theorem dX6_token_167 : decode cX6_token 167 = .ok (.ireturn, 1) := by decide +kernel
theorem dX6_token_168 : decode cX6_token 168 = .ok (.aload_n 0, 1) := by decide +kernel
theorem dX6_token_169 : decode cX6_token 169 = .ok (.getfield 54, 3) := by decide +kernel
theorem dX6_token_172 : decode cX6_token 172 = .ok (.aload_n 0, 1) := by decide +kernel
theorem dX6_token_173 : decode cX6_token 173 = .ok (.getfield 12, 3) := by decide +kernel
theorem dX6_token_176 : decode cX6_token 176 = .ok (.getfield 65, 3) := by decide +kernel
theorem dX6_token_179 : decode cX6_token 179 = .ok (.invokevirtual 241, 3) := by decide +kernel
theorem dX6_token_182 : decode cX6_token 182 = .ok (.ireturn, 1) := by decide +kernel
set_option maxRecDepth 20000 in
theorem ggX6_count_X1_arrowCount : GoodIn wsX6_count wsX1_arrowCount := goodIn_r _ [13, 14, 15, 16, 17, 18, 19, 20, 21, 22, 61, 62, 63, 64] (by decide +kernel) (by decide +kernel)
set_option maxRecDepth 20000 in
theorem gX6_count_X1_arrowCount : GoodIn wsX6_count (wsV RX6 94 RX1 yX1_arrowCount wsX1_arrowCount) := goodIn_app (goodIn_of _ (by decide +kernel)) ggX6_count_X1_arrowCount
set_option maxRecDepth 20000 in
theorem ggX6_count_X1_owned : GoodIn wsX6_count wsX1_owned := goodIn_r _ [26, 14, 27, 28, 29, 30, 61, 62, 63, 64] (by decide +kernel) (by decide +kernel)
set_option maxRecDepth 20000 in
theorem gX6_count_X1_owned : GoodIn wsX6_count (wsV RX6 204 RX1 yX1_owned wsX1_owned) := goodIn_app (goodIn_of _ (by decide +kernel)) ggX6_count_X1_owned
set_option maxRecDepth 20000 in
theorem ggX6_count_J6_bitCount_0f7a4 : GoodIn wsX6_count wsJ6_bitCount_0f7a4 := goodIn_r _ [19, 20, 21, 22] (by decide +kernel) (by decide +kernel)
set_option maxRecDepth 20000 in
theorem gX6_count_J6_bitCount_0f7a4 : GoodIn wsX6_count (va_wsS RX6 108 yJ6_bitCount_0f7a4 wsJ6_bitCount_0f7a4) := goodIn_app (goodIn_of _ (by decide +kernel)) ggX6_count_J6_bitCount_0f7a4
set_option maxRecDepth 20000 in
theorem ggX6_count_X1_withoutArrows : GoodIn wsX6_count wsX1_withoutArrows := goodIn_r _ [35, 14, 15, 28, 29, 30, 61, 62, 63, 64] (by decide +kernel) (by decide +kernel)
set_option maxRecDepth 20000 in
theorem gX6_count_X1_withoutArrows : GoodIn wsX6_count (wsV RX6 207 RX1 yX1_withoutArrows wsX1_withoutArrows) := goodIn_app (goodIn_of _ (by decide +kernel)) ggX6_count_X1_withoutArrows
set_option maxRecDepth 20000 in
theorem ggX6_count_X1_leastColour : GoodIn wsX6_count wsX1_leastColour := goodIn_r _ [39, 14, 40, 61, 62, 63, 64] (by decide +kernel) (by decide +kernel)
set_option maxRecDepth 20000 in
theorem gX6_count_X1_leastColour : GoodIn wsX6_count (wsV RX6 243 RX1 yX1_leastColour wsX1_leastColour) := goodIn_app (goodIn_of _ (by decide +kernel)) ggX6_count_X1_leastColour
set_option maxRecDepth 20000 in
theorem ggX6_count_X4_choiceCount : GoodIn wsX6_count wsX4_choiceCount := goodIn_r _ [45, 46, 47, 48, 57, 58, 59, 60, 61, 62, 63, 64] (by decide +kernel) (by decide +kernel)
set_option maxRecDepth 20000 in
theorem gX6_count_X4_choiceCount : GoodIn wsX6_count (wsV RX6 246 RX4 yX4_choiceCount wsX4_choiceCount) := goodIn_app (goodIn_of _ (by decide +kernel)) ggX6_count_X4_choiceCount
theorem dX6_count_0 : decode cX6_count 0 = .ok (.iload_n 1, 1) := by decide +kernel
theorem dX6_count_1 : decode cX6_count 1 = .ok (.tableswitch 142 0 8 #[51, 62, 73, 88, 99, 110, 118, 126, 134], 51) := by decide +kernel
theorem dX6_count_52 : decode cX6_count 52 = .ok (.aload_n 0, 1) := by decide +kernel
theorem dX6_count_53 : decode cX6_count 53 = .ok (.getfield 12, 3) := by decide +kernel
theorem dX6_count_56 : decode cX6_count 56 = .ok (.getfield 65, 3) := by decide +kernel
theorem dX6_count_59 : decode cX6_count 59 = .ok (.getfield 68, 3) := by decide +kernel
theorem dX6_count_62 : decode cX6_count 62 = .ok (.ireturn, 1) := by decide +kernel
theorem dX6_count_63 : decode cX6_count 63 = .ok (.aload_n 0, 1) := by decide +kernel
theorem dX6_count_64 : decode cX6_count 64 = .ok (.getfield 12, 3) := by decide +kernel
theorem dX6_count_67 : decode cX6_count 67 = .ok (.getfield 65, 3) := by decide +kernel
theorem dX6_count_70 : decode cX6_count 70 = .ok (.invokevirtual 94, 3) := by decide +kernel
theorem dX6_count_73 : decode cX6_count 73 = .ok (.ireturn, 1) := by decide +kernel
theorem dX6_count_74 : decode cX6_count 74 = .ok (.aload_n 0, 1) := by decide +kernel
theorem dX6_count_75 : decode cX6_count 75 = .ok (.getfield 12, 3) := by decide +kernel
theorem dX6_count_78 : decode cX6_count 78 = .ok (.getfield 65, 3) := by decide +kernel
theorem dX6_count_81 : decode cX6_count 81 = .ok (.iconst 0, 1) := by decide +kernel
theorem dX6_count_82 : decode cX6_count 82 = .ok (.invokevirtual 204, 3) := by decide +kernel
theorem dX6_count_85 : decode cX6_count 85 = .ok (.invokestatic 108, 3) := by decide +kernel
theorem dX6_count_88 : decode cX6_count 88 = .ok (.ireturn, 1) := by decide +kernel
theorem dX6_count_89 : decode cX6_count 89 = .ok (.aload_n 0, 1) := by decide +kernel
theorem dX6_count_90 : decode cX6_count 90 = .ok (.getfield 12, 3) := by decide +kernel
theorem dX6_count_93 : decode cX6_count 93 = .ok (.getfield 65, 3) := by decide +kernel
theorem dX6_count_96 : decode cX6_count 96 = .ok (.invokevirtual 207, 3) := by decide +kernel
theorem dX6_count_99 : decode cX6_count 99 = .ok (.ireturn, 1) := by decide +kernel
theorem dX6_count_100 : decode cX6_count 100 = .ok (.aload_n 0, 1) := by decide +kernel
theorem dX6_count_101 : decode cX6_count 101 = .ok (.getfield 12, 3) := by decide +kernel
theorem dX6_count_104 : decode cX6_count 104 = .ok (.getfield 65, 3) := by decide +kernel
theorem dX6_count_107 : decode cX6_count 107 = .ok (.invokevirtual 243, 3) := by decide +kernel
theorem dX6_count_110 : decode cX6_count 110 = .ok (.ireturn, 1) := by decide +kernel
theorem dX6_count_111 : decode cX6_count 111 = .ok (.aload_n 0, 1) := by decide +kernel
theorem dX6_count_112 : decode cX6_count 112 = .ok (.getfield 12, 3) := by decide +kernel
theorem dX6_count_115 : decode cX6_count 115 = .ok (.invokevirtual 246, 3) := by decide +kernel
theorem dX6_count_118 : decode cX6_count 118 = .ok (.ireturn, 1) := by decide +kernel
theorem dX6_count_119 : decode cX6_count 119 = .ok (.aload_n 0, 1) := by decide +kernel
theorem dX6_count_120 : decode cX6_count 120 = .ok (.getfield 12, 3) := by decide +kernel
theorem dX6_count_123 : decode cX6_count 123 = .ok (.getfield 144, 3) := by decide +kernel
theorem dX6_count_126 : decode cX6_count 126 = .ok (.ireturn, 1) := by decide +kernel
theorem dX6_count_127 : decode cX6_count 127 = .ok (.aload_n 0, 1) := by decide +kernel
theorem dX6_count_128 : decode cX6_count 128 = .ok (.getfield 19, 3) := by decide +kernel
theorem dX6_count_131 : decode cX6_count 131 = .ok (.getfield 166, 3) := by decide +kernel
theorem dX6_count_134 : decode cX6_count 134 = .ok (.ireturn, 1) := by decide +kernel
theorem dX6_count_135 : decode cX6_count 135 = .ok (.aload_n 0, 1) := by decide +kernel
theorem dX6_count_136 : decode cX6_count 136 = .ok (.getfield 33, 3) := by decide +kernel
theorem dX6_count_139 : decode cX6_count 139 = .ok (.getfield 159, 3) := by decide +kernel
theorem dX6_count_142 : decode cX6_count 142 = .ok (.ireturn, 1) := by decide +kernel
theorem dX6_count_143 : decode cX6_count 143 = .ok (.bipush (-2), 2) := by decide +kernel
theorem dX6_count_145 : decode cX6_count 145 = .ok (.ireturn, 1) := by decide +kernel
theorem dX6_isPlayer_0 : decode cX6_isPlayer 0 = .ok (.iload_n 0, 1) := by decide +kernel
theorem dX6_isPlayer_1 : decode cX6_isPlayer 1 = .ok (.ifCond .eq 8, 3) := by decide +kernel
theorem dX6_isPlayer_4 : decode cX6_isPlayer 4 = .ok (.iload_n 0, 1) := by decide +kernel
theorem dX6_isPlayer_5 : decode cX6_isPlayer 5 = .ok (.iconst 1, 1) := by decide +kernel
theorem dX6_isPlayer_6 : decode cX6_isPlayer 6 = .ok (.if_icmp .ne 7, 3) := by decide +kernel
theorem dX6_isPlayer_9 : decode cX6_isPlayer 9 = .ok (.iconst 1, 1) := by decide +kernel
theorem dX6_isPlayer_10 : decode cX6_isPlayer 10 = .ok (.goto 4, 3) := by decide +kernel
theorem dX6_isPlayer_13 : decode cX6_isPlayer 13 = .ok (.iconst 0, 1) := by decide +kernel
theorem dX6_isPlayer_14 : decode cX6_isPlayer 14 = .ok (.ireturn, 1) := by decide +kernel
theorem dX6_isColour_0 : decode cX6_isColour 0 = .ok (.iload_n 0, 1) := by decide +kernel
theorem dX6_isColour_1 : decode cX6_isColour 1 = .ok (.ifCond .lt 13, 3) := by decide +kernel
theorem dX6_isColour_4 : decode cX6_isColour 4 = .ok (.iload_n 0, 1) := by decide +kernel
theorem dX6_isColour_5 : decode cX6_isColour 5 = .ok (.bipush 7, 2) := by decide +kernel
theorem dX6_isColour_7 : decode cX6_isColour 7 = .ok (.if_icmp .gt 7, 3) := by decide +kernel
theorem dX6_isColour_10 : decode cX6_isColour 10 = .ok (.iconst 1, 1) := by decide +kernel
theorem dX6_isColour_11 : decode cX6_isColour 11 = .ok (.goto 4, 3) := by decide +kernel
theorem dX6_isColour_14 : decode cX6_isColour 14 = .ok (.iconst 0, 1) := by decide +kernel
theorem dX6_isColour_15 : decode cX6_isColour 15 = .ok (.ireturn, 1) := by decide +kernel
theorem dX6_bit_0 : decode cX6_bit 0 = .ok (.iconst 1, 1) := by decide +kernel
theorem dX6_bit_1 : decode cX6_bit 1 = .ok (.iload_n 0, 1) := by decide +kernel
theorem dX6_bit_2 : decode cX6_bit 2 = .ok (.ishl, 1) := by decide +kernel
theorem dX6_bit_3 : decode cX6_bit 3 = .ok (.ireturn, 1) := by decide +kernel
theorem dX6_contains_0 : decode cX6_contains 0 = .ok (.iload_n 0, 1) := by decide +kernel
theorem dX6_contains_1 : decode cX6_contains 1 = .ok (.iload_n 1, 1) := by decide +kernel
theorem dX6_contains_2 : decode cX6_contains 2 = .ok (.ishr, 1) := by decide +kernel
theorem dX6_contains_3 : decode cX6_contains 3 = .ok (.iconst 1, 1) := by decide +kernel
theorem dX6_contains_4 : decode cX6_contains 4 = .ok (.iand, 1) := by decide +kernel
theorem dX6_contains_5 : decode cX6_contains 5 = .ok (.iconst 1, 1) := by decide +kernel
theorem dX6_contains_6 : decode cX6_contains 6 = .ok (.if_icmp .ne 7, 3) := by decide +kernel
theorem dX6_contains_9 : decode cX6_contains 9 = .ok (.iconst 1, 1) := by decide +kernel
theorem dX6_contains_10 : decode cX6_contains 10 = .ok (.goto 4, 3) := by decide +kernel
theorem dX6_contains_13 : decode cX6_contains 13 = .ok (.iconst 0, 1) := by decide +kernel
theorem dX6_contains_14 : decode cX6_contains 14 = .ok (.ireturn, 1) := by decide +kernel
theorem dX6_placeOrNone_0 : decode cX6_placeOrNone 0 = .ok (.iload_n 0, 1) := by decide +kernel
theorem dX6_placeOrNone_1 : decode cX6_placeOrNone 1 = .ok (.bipush 14, 2) := by decide +kernel
theorem dX6_placeOrNone_3 : decode cX6_placeOrNone 3 = .ok (.if_icmp .ne 8, 3) := by decide +kernel
theorem dX6_placeOrNone_6 : decode cX6_placeOrNone 6 = .ok (.bipush (-5), 2) := by decide +kernel
theorem dX6_placeOrNone_8 : decode cX6_placeOrNone 8 = .ok (.goto 4, 3) := by decide +kernel
theorem dX6_placeOrNone_11 : decode cX6_placeOrNone 11 = .ok (.iload_n 0, 1) := by decide +kernel
theorem dX6_placeOrNone_12 : decode cX6_placeOrNone 12 = .ok (.ireturn, 1) := by decide +kernel
set_option maxRecDepth 20000 in
theorem ggX6_solveFor_X1_become : GoodIn wsX6_solveFor wsX1_become := goodIn_r _ [9, 10, 11, 12, 13, 14, 15, 16, 17, 70, 71, 72, 73] (by decide +kernel) (by decide +kernel)
set_option maxRecDepth 20000 in
theorem gX6_solveFor_X1_become : GoodIn wsX6_solveFor (wsV RX6 119 RX1 yX1_become wsX1_become) := goodIn_app (goodIn_of _ (by decide +kernel)) ggX6_solveFor_X1_become
set_option maxRecDepth 20000 in
theorem ggX6_solveFor_X1_exchange : GoodIn wsX6_solveFor wsX1_exchange := goodIn_r _ [21, 10, 11, 16, 70, 71, 72, 73] (by decide +kernel) (by decide +kernel)
set_option maxRecDepth 20000 in
theorem gX6_solveFor_X1_exchange : GoodIn wsX6_solveFor (wsV RX6 130 RX1 yX1_exchange wsX1_exchange) := goodIn_app (goodIn_of _ (by decide +kernel)) ggX6_solveFor_X1_exchange
set_option maxRecDepth 20000 in
theorem ggX6_solveFor_X3_find : GoodIn wsX6_solveFor wsX3_find := goodIn_r _ [26, 27, 28, 29, 30, 31, 32, 33, 34, 35, 25, 36, 37, 38, 39, 40, 41, 42, 43, 44, 45, 46, 47, 48, 49, 50, 51, 52, 53, 54, 55, 56, 57, 74, 75, 76, 70, 71, 72, 73] (by decide +kernel) (by decide +kernel)
set_option maxRecDepth 20000 in
theorem gX6_solveFor_X3_find : GoodIn wsX6_solveFor (wsV RX6 222 RX3 yX3_find wsX3_find) := goodIn_app (goodIn_of _ (by decide +kernel)) ggX6_solveFor_X3_find
theorem dX6_solveFor_0 : decode cX6_solveFor 0 = .ok (.aload_n 0, 1) := by decide +kernel
theorem dX6_solveFor_1 : decode cX6_solveFor 1 = .ok (.getfield 40, 3) := by decide +kernel
theorem dX6_solveFor_4 : decode cX6_solveFor 4 = .ok (.aload_n 0, 1) := by decide +kernel
theorem dX6_solveFor_5 : decode cX6_solveFor 5 = .ok (.getfield 12, 3) := by decide +kernel
theorem dX6_solveFor_8 : decode cX6_solveFor 8 = .ok (.getfield 65, 3) := by decide +kernel
theorem dX6_solveFor_11 : decode cX6_solveFor 11 = .ok (.invokevirtual 119, 3) := by decide +kernel
theorem dX6_solveFor_14 : decode cX6_solveFor 14 = .ok (.iload_n 1, 1) := by decide +kernel
theorem dX6_solveFor_15 : decode cX6_solveFor 15 = .ok (.iconst 1, 1) := by decide +kernel
theorem dX6_solveFor_16 : decode cX6_solveFor 16 = .ok (.if_icmp .ne 10, 3) := by decide +kernel
theorem dX6_solveFor_19 : decode cX6_solveFor 19 = .ok (.aload_n 0, 1) := by decide +kernel
theorem dX6_solveFor_20 : decode cX6_solveFor 20 = .ok (.getfield 40, 3) := by decide +kernel
theorem dX6_solveFor_23 : decode cX6_solveFor 23 = .ok (.invokevirtual 130, 3) := by decide +kernel
theorem dX6_solveFor_26 : decode cX6_solveFor 26 = .ok (.aload_n 0, 1) := by decide +kernel
theorem dX6_solveFor_27 : decode cX6_solveFor 27 = .ok (.getfield 47, 3) := by decide +kernel
theorem dX6_solveFor_30 : decode cX6_solveFor 30 = .ok (.aload_n 0, 1) := by decide +kernel
theorem dX6_solveFor_31 : decode cX6_solveFor 31 = .ok (.getfield 40, 3) := by decide +kernel
theorem dX6_solveFor_34 : decode cX6_solveFor 34 = .ok (.invokevirtual 222, 3) := by decide +kernel
theorem dX6_solveFor_37 : decode cX6_solveFor 37 = .ok (.return_, 1) := by decide +kernel
set_option maxRecDepth 20000 in
theorem ggX6_wonBy_X6_solveFor : GoodIn wsX6_wonBy wsX6_solveFor := goodIn_r _ [9, 10, 1, 2, 4, 11, 12, 13, 14, 15, 16, 17, 18, 19, 20, 21, 22, 23, 24, 25, 26, 27, 28, 29, 30, 31, 32, 33, 34, 35, 36, 37, 38, 39, 40, 41, 42, 43, 44, 45, 46, 47, 48, 49, 50, 51, 52, 53, 54, 55, 56, 57, 8, 58, 59, 60, 61, 62, 70, 71, 72, 73, 74, 75, 76, 77, 78, 79, 80, 81, 82, 83, 84, 85, 86, 87, 88] (by decide +kernel) (by decide +kernel)
set_option maxRecDepth 20000 in
theorem gX6_wonBy_X6_solveFor : GoodIn wsX6_wonBy (wsV RX6 133 RX6 yX6_solveFor wsX6_solveFor) := goodIn_app (goodIn_of _ (by decide +kernel)) ggX6_wonBy_X6_solveFor
set_option maxRecDepth 20000 in
theorem ggX6_wonBy_X3_isLost : GoodIn wsX6_wonBy wsX3_isLost := goodIn_r _ [66, 35, 48, 86, 87, 88] (by decide +kernel) (by decide +kernel)
set_option maxRecDepth 20000 in
theorem gX6_wonBy_X3_isLost : GoodIn wsX6_wonBy (wsV RX6 177 RX3 yX3_isLost wsX3_isLost) := goodIn_app (goodIn_of _ (by decide +kernel)) ggX6_wonBy_X3_isLost
set_option maxRecDepth 20000 in
theorem ggX6_wonBy_X6_bit : GoodIn wsX6_wonBy wsX6_bit := goodIn_r _ [69] (by decide +kernel) (by decide +kernel)
set_option maxRecDepth 20000 in
theorem gX6_wonBy_X6_bit : GoodIn wsX6_wonBy (va_wsS RX6 105 yX6_bit wsX6_bit) := goodIn_app (goodIn_of _ (by decide +kernel)) ggX6_wonBy_X6_bit
theorem dX6_wonBy_0 : decode cX6_wonBy 0 = .ok (.aload_n 0, 1) := by decide +kernel
theorem dX6_wonBy_1 : decode cX6_wonBy 1 = .ok (.iload_n 1, 1) := by decide +kernel
theorem dX6_wonBy_2 : decode cX6_wonBy 2 = .ok (.invokevirtual 133, 3) := by decide +kernel
theorem dX6_wonBy_5 : decode cX6_wonBy 5 = .ok (.iconst 0, 1) := by decide +kernel
theorem dX6_wonBy_6 : decode cX6_wonBy 6 = .ok (.istore_n 2, 1) := by decide +kernel
theorem dX6_wonBy_7 : decode cX6_wonBy 7 = .ok (.iconst 0, 1) := by decide +kernel
theorem dX6_wonBy_8 : decode cX6_wonBy 8 = .ok (.istore_n 3, 1) := by decide +kernel
theorem dX6_wonBy_9 : decode cX6_wonBy 9 = .ok (.iload_n 3, 1) := by decide +kernel
theorem dX6_wonBy_10 : decode cX6_wonBy 10 = .ok (.aload_n 0, 1) := by decide +kernel
theorem dX6_wonBy_11 : decode cX6_wonBy 11 = .ok (.getfield 12, 3) := by decide +kernel
theorem dX6_wonBy_14 : decode cX6_wonBy 14 = .ok (.getfield 65, 3) := by decide +kernel
theorem dX6_wonBy_17 : decode cX6_wonBy 17 = .ok (.getfield 68, 3) := by decide +kernel
theorem dX6_wonBy_20 : decode cX6_wonBy 20 = .ok (.if_icmp .ge 27, 3) := by decide +kernel
theorem dX6_wonBy_23 : decode cX6_wonBy 23 = .ok (.aload_n 0, 1) := by decide +kernel
theorem dX6_wonBy_24 : decode cX6_wonBy 24 = .ok (.getfield 47, 3) := by decide +kernel
theorem dX6_wonBy_27 : decode cX6_wonBy 27 = .ok (.iload_n 3, 1) := by decide +kernel
theorem dX6_wonBy_28 : decode cX6_wonBy 28 = .ok (.invokevirtual 177, 3) := by decide +kernel
theorem dX6_wonBy_31 : decode cX6_wonBy 31 = .ok (.ifCond .ne 10, 3) := by decide +kernel
theorem dX6_wonBy_34 : decode cX6_wonBy 34 = .ok (.iload_n 2, 1) := by decide +kernel
theorem dX6_wonBy_35 : decode cX6_wonBy 35 = .ok (.iload_n 3, 1) := by decide +kernel
theorem dX6_wonBy_36 : decode cX6_wonBy 36 = .ok (.invokestatic 105, 3) := by decide +kernel
theorem dX6_wonBy_39 : decode cX6_wonBy 39 = .ok (.ior, 1) := by decide +kernel
theorem dX6_wonBy_40 : decode cX6_wonBy 40 = .ok (.istore_n 2, 1) := by decide +kernel
theorem dX6_wonBy_41 : decode cX6_wonBy 41 = .ok (.iinc 3 1, 3) := by decide +kernel
theorem dX6_wonBy_44 : decode cX6_wonBy 44 = .ok (.goto (-35), 3) := by decide +kernel
theorem dX6_wonBy_47 : decode cX6_wonBy 47 = .ok (.iload_n 2, 1) := by decide +kernel
theorem dX6_wonBy_48 : decode cX6_wonBy 48 = .ok (.ireturn, 1) := by decide +kernel
set_option maxRecDepth 20000 in
theorem ggX6_winnerOf_X6_solveFor : GoodIn wsX6_winnerOf wsX6_solveFor := goodIn_r _ [6, 7, 8, 9, 1, 10, 11, 12, 13, 14, 15, 16, 17, 18, 19, 20, 21, 22, 23, 24, 25, 26, 27, 28, 29, 30, 31, 32, 33, 34, 35, 36, 37, 38, 39, 40, 41, 42, 43, 44, 45, 46, 47, 48, 49, 50, 51, 52, 53, 54, 55, 56, 5, 57, 58, 59, 60, 61, 70, 71, 72, 73, 74, 75, 76, 77, 78, 79, 80, 81, 82, 83, 84, 85, 86, 87, 88] (by decide +kernel) (by decide +kernel)
set_option maxRecDepth 20000 in
theorem gX6_winnerOf_X6_solveFor : GoodIn wsX6_winnerOf (wsV RX6 133 RX6 yX6_solveFor wsX6_solveFor) := goodIn_app (goodIn_of _ (by decide +kernel)) ggX6_winnerOf_X6_solveFor
set_option maxRecDepth 20000 in
theorem ggX6_winnerOf_X3_winner : GoodIn wsX6_winnerOf wsX3_winner := goodIn_r _ [65, 66, 67, 68, 30, 69, 34, 47, 86, 87, 88] (by decide +kernel) (by decide +kernel)
set_option maxRecDepth 20000 in
theorem gX6_winnerOf_X3_winner : GoodIn wsX6_winnerOf (wsV RX6 225 RX3 yX3_winner wsX3_winner) := goodIn_app (goodIn_of _ (by decide +kernel)) ggX6_winnerOf_X3_winner
theorem dX6_winnerOf_0 : decode cX6_winnerOf 0 = .ok (.aload_n 0, 1) := by decide +kernel
theorem dX6_winnerOf_1 : decode cX6_winnerOf 1 = .ok (.iconst 0, 1) := by decide +kernel
theorem dX6_winnerOf_2 : decode cX6_winnerOf 2 = .ok (.invokevirtual 133, 3) := by decide +kernel
theorem dX6_winnerOf_5 : decode cX6_winnerOf 5 = .ok (.aload_n 0, 1) := by decide +kernel
theorem dX6_winnerOf_6 : decode cX6_winnerOf 6 = .ok (.getfield 47, 3) := by decide +kernel
theorem dX6_winnerOf_9 : decode cX6_winnerOf 9 = .ok (.iload_n 1, 1) := by decide +kernel
theorem dX6_winnerOf_10 : decode cX6_winnerOf 10 = .ok (.invokevirtual 225, 3) := by decide +kernel
theorem dX6_winnerOf_13 : decode cX6_winnerOf 13 = .ok (.ireturn, 1) := by decide +kernel
set_option maxRecDepth 20000 in
theorem ggX6_findWays_X6_solveFor : GoodIn wsX6_findWays wsX6_solveFor := goodIn_r _ [11, 12, 1, 2, 13, 14, 15, 16, 17, 18, 19, 20, 21, 22, 23, 24, 25, 26, 27, 28, 29, 30, 31, 32, 33, 34, 35, 36, 37, 38, 39, 40, 41, 42, 43, 44, 45, 46, 47, 48, 49, 50, 51, 52, 53, 54, 55, 56, 57, 58, 59, 60, 10, 61, 62, 63, 64, 65, 88, 89, 90, 91, 92, 93, 94, 95, 96, 97, 98, 99, 100, 101, 102, 103, 108, 109, 110] (by decide +kernel) (by decide +kernel)
set_option maxRecDepth 20000 in
theorem gX6_findWays_X6_solveFor : GoodIn wsX6_findWays (wsV RX6 133 RX6 yX6_solveFor wsX6_solveFor) := goodIn_app (goodIn_of _ (by decide +kernel)) ggX6_findWays_X6_solveFor
set_option maxRecDepth 20000 in
theorem ggX6_findWays_X6_wayOn : GoodIn wsX6_findWays wsX6_wayOn := goodIn_r _ [69, 1, 70, 13, 12, 2, 71, 72, 73, 34, 74, 51, 37, 50, 75, 76, 77, 17, 78, 26, 79, 80, 81, 82, 19, 60, 10, 61, 62, 63, 64, 65, 38, 39, 36, 83, 84, 85, 86, 87, 88, 89, 90, 91, 92, 93, 94, 95, 96, 97, 98, 99, 100, 101, 102, 103, 108, 109, 110] (by decide +kernel) (by decide +kernel)
set_option maxRecDepth 20000 in
theorem gX6_findWays_X6_wayOn : GoodIn wsX6_findWays (wsV RX6 252 RX6 yX6_wayOn wsX6_wayOn) := goodIn_app (goodIn_of _ (by decide +kernel)) ggX6_findWays_X6_wayOn
theorem dX6_findWays_0 : decode cX6_findWays 0 = .ok (.iconst 0, 1) := by decide +kernel
theorem dX6_findWays_1 : decode cX6_findWays 1 = .ok (.istore_n 1, 1) := by decide +kernel
theorem dX6_findWays_2 : decode cX6_findWays 2 = .ok (.iload_n 1, 1) := by decide +kernel
theorem dX6_findWays_3 : decode cX6_findWays 3 = .ok (.iconst 1, 1) := by decide +kernel
theorem dX6_findWays_4 : decode cX6_findWays 4 = .ok (.if_icmp .gt 66, 3) := by decide +kernel
theorem dX6_findWays_7 : decode cX6_findWays 7 = .ok (.aload_n 0, 1) := by decide +kernel
theorem dX6_findWays_8 : decode cX6_findWays 8 = .ok (.iload_n 1, 1) := by decide +kernel
theorem dX6_findWays_9 : decode cX6_findWays 9 = .ok (.invokevirtual 133, 3) := by decide +kernel
theorem dX6_findWays_12 : decode cX6_findWays 12 = .ok (.iconst 0, 1) := by decide +kernel
theorem dX6_findWays_13 : decode cX6_findWays 13 = .ok (.istore_n 2, 1) := by decide +kernel
theorem dX6_findWays_14 : decode cX6_findWays 14 = .ok (.iload_n 2, 1) := by decide +kernel
theorem dX6_findWays_15 : decode cX6_findWays 15 = .ok (.aload_n 0, 1) := by decide +kernel
theorem dX6_findWays_16 : decode cX6_findWays 16 = .ok (.getfield 12, 3) := by decide +kernel
theorem dX6_findWays_19 : decode cX6_findWays 19 = .ok (.getfield 65, 3) := by decide +kernel
theorem dX6_findWays_22 : decode cX6_findWays 22 = .ok (.getfield 68, 3) := by decide +kernel
theorem dX6_findWays_25 : decode cX6_findWays 25 = .ok (.if_icmp .ge 39, 3) := by decide +kernel
theorem dX6_findWays_28 : decode cX6_findWays 28 = .ok (.aload_n 0, 1) := by decide +kernel
theorem dX6_findWays_29 : decode cX6_findWays 29 = .ok (.getfield 12, 3) := by decide +kernel
theorem dX6_findWays_32 : decode cX6_findWays 32 = .ok (.getfield 65, 3) := by decide +kernel
theorem dX6_findWays_35 : decode cX6_findWays 35 = .ok (.getfield 83, 3) := by decide +kernel
theorem dX6_findWays_38 : decode cX6_findWays 38 = .ok (.iload_n 2, 1) := by decide +kernel
theorem dX6_findWays_39 : decode cX6_findWays 39 = .ok (.iaload, 1) := by decide +kernel
theorem dX6_findWays_40 : decode cX6_findWays 40 = .ok (.iload_n 1, 1) := by decide +kernel
theorem dX6_findWays_41 : decode cX6_findWays 41 = .ok (.if_icmp .ne 17, 3) := by decide +kernel
theorem dX6_findWays_44 : decode cX6_findWays 44 = .ok (.aload_n 0, 1) := by decide +kernel
theorem dX6_findWays_45 : decode cX6_findWays 45 = .ok (.getfield 54, 3) := by decide +kernel
theorem dX6_findWays_48 : decode cX6_findWays 48 = .ok (.getfield 249, 3) := by decide +kernel
theorem dX6_findWays_51 : decode cX6_findWays 51 = .ok (.iload_n 2, 1) := by decide +kernel
theorem dX6_findWays_52 : decode cX6_findWays 52 = .ok (.aload_n 0, 1) := by decide +kernel
theorem dX6_findWays_53 : decode cX6_findWays 53 = .ok (.iload_n 2, 1) := by decide +kernel
theorem dX6_findWays_54 : decode cX6_findWays 54 = .ok (.invokevirtual 252, 3) := by decide +kernel
theorem dX6_findWays_57 : decode cX6_findWays 57 = .ok (.iastore, 1) := by decide +kernel
theorem dX6_findWays_58 : decode cX6_findWays 58 = .ok (.iinc 2 1, 3) := by decide +kernel
theorem dX6_findWays_61 : decode cX6_findWays 61 = .ok (.goto (-47), 3) := by decide +kernel
theorem dX6_findWays_64 : decode cX6_findWays 64 = .ok (.iinc 1 1, 3) := by decide +kernel
theorem dX6_findWays_67 : decode cX6_findWays 67 = .ok (.goto (-65), 3) := by decide +kernel
theorem dX6_findWays_70 : decode cX6_findWays 70 = .ok (.return_, 1) := by decide +kernel
set_option maxRecDepth 20000 in
theorem ggX6_wayOn_X3_bestArrow : GoodIn wsX6_wayOn wsX3_bestArrow := goodIn_r _ [10, 11, 12, 13, 14, 15, 16, 17, 18, 19, 20, 21, 22, 23, 24, 25, 26, 27, 28, 29, 30, 9, 31, 32, 33, 34, 52, 53, 54, 55, 56, 57, 58] (by decide +kernel) (by decide +kernel)
set_option maxRecDepth 20000 in
theorem gX6_wayOn_X3_bestArrow : GoodIn wsX6_wayOn (wsV RX6 137 RX3 yX3_bestArrow wsX3_bestArrow) := goodIn_app (goodIn_of _ (by decide +kernel)) ggX6_wayOn_X3_bestArrow
set_option maxRecDepth 20000 in
theorem ggX6_wayOn_X1_lowestArrow : GoodIn wsX6_wayOn wsX1_lowestArrow := goodIn_r _ [38, 24, 39, 15, 16, 17, 18, 19, 20, 21, 22, 23, 25, 26, 27, 52, 53, 54, 55] (by decide +kernel) (by decide +kernel)
set_option maxRecDepth 20000 in
theorem gX6_wayOn_X1_lowestArrow : GoodIn wsX6_wayOn (wsV RX6 255 RX1 yX1_lowestArrow wsX1_lowestArrow) := goodIn_app (goodIn_of _ (by decide +kernel)) ggX6_wayOn_X1_lowestArrow
theorem dX6_wayOn_0 : decode cX6_wayOn 0 = .ok (.aload_n 0, 1) := by decide +kernel
theorem dX6_wayOn_1 : decode cX6_wayOn 1 = .ok (.getfield 12, 3) := by decide +kernel
theorem dX6_wayOn_4 : decode cX6_wayOn 4 = .ok (.getfield 113, 3) := by decide +kernel
theorem dX6_wayOn_7 : decode cX6_wayOn 7 = .ok (.iload_n 1, 1) := by decide +kernel
theorem dX6_wayOn_8 : decode cX6_wayOn 8 = .ok (.iaload, 1) := by decide +kernel
theorem dX6_wayOn_9 : decode cX6_wayOn 9 = .ok (.bipush 14, 2) := by decide +kernel
theorem dX6_wayOn_11 : decode cX6_wayOn 11 = .ok (.if_icmp .eq 13, 3) := by decide +kernel
theorem dX6_wayOn_14 : decode cX6_wayOn 14 = .ok (.aload_n 0, 1) := by decide +kernel
theorem dX6_wayOn_15 : decode cX6_wayOn 15 = .ok (.getfield 12, 3) := by decide +kernel
theorem dX6_wayOn_18 : decode cX6_wayOn 18 = .ok (.getfield 113, 3) := by decide +kernel
theorem dX6_wayOn_21 : decode cX6_wayOn 21 = .ok (.iload_n 1, 1) := by decide +kernel
theorem dX6_wayOn_22 : decode cX6_wayOn 22 = .ok (.iaload, 1) := by decide +kernel
theorem dX6_wayOn_23 : decode cX6_wayOn 23 = .ok (.ireturn, 1) := by decide +kernel
theorem dX6_wayOn_24 : decode cX6_wayOn 24 = .ok (.aload_n 0, 1) := by decide +kernel
theorem dX6_wayOn_25 : decode cX6_wayOn 25 = .ok (.getfield 47, 3) := by decide +kernel
theorem dX6_wayOn_28 : decode cX6_wayOn 28 = .ok (.aload_n 0, 1) := by decide +kernel
theorem dX6_wayOn_29 : decode cX6_wayOn 29 = .ok (.getfield 40, 3) := by decide +kernel
theorem dX6_wayOn_32 : decode cX6_wayOn 32 = .ok (.iload_n 1, 1) := by decide +kernel
theorem dX6_wayOn_33 : decode cX6_wayOn 33 = .ok (.invokevirtual 137, 3) := by decide +kernel
theorem dX6_wayOn_36 : decode cX6_wayOn 36 = .ok (.istore_n 2, 1) := by decide +kernel
theorem dX6_wayOn_37 : decode cX6_wayOn 37 = .ok (.iload_n 2, 1) := by decide +kernel
theorem dX6_wayOn_38 : decode cX6_wayOn 38 = .ok (.bipush 14, 2) := by decide +kernel
theorem dX6_wayOn_40 : decode cX6_wayOn 40 = .ok (.if_icmp .eq 7, 3) := by decide +kernel
theorem dX6_wayOn_43 : decode cX6_wayOn 43 = .ok (.iload_n 2, 1) := by decide +kernel
theorem dX6_wayOn_44 : decode cX6_wayOn 44 = .ok (.goto 14, 3) := by decide +kernel
theorem dX6_wayOn_47 : decode cX6_wayOn 47 = .ok (.aload_n 0, 1) := by decide +kernel
theorem dX6_wayOn_48 : decode cX6_wayOn 48 = .ok (.getfield 12, 3) := by decide +kernel
theorem dX6_wayOn_51 : decode cX6_wayOn 51 = .ok (.getfield 65, 3) := by decide +kernel
theorem dX6_wayOn_54 : decode cX6_wayOn 54 = .ok (.iload_n 1, 1) := by decide +kernel
theorem dX6_wayOn_55 : decode cX6_wayOn 55 = .ok (.invokevirtual 255, 3) := by decide +kernel
theorem dX6_wayOn_58 : decode cX6_wayOn 58 = .ok (.ireturn, 1) := by decide +kernel
set_option maxRecDepth 20000 in
theorem ggX6_judgeFor_X1_become : GoodIn wsX6_judgeFor wsX1_become := goodIn_r _ [12, 13, 14, 15, 16, 17, 18, 19, 20, 37, 38, 39, 40] (by decide +kernel) (by decide +kernel)
set_option maxRecDepth 20000 in
theorem gX6_judgeFor_X1_become : GoodIn wsX6_judgeFor (wsV RX6 119 RX1 yX1_become wsX1_become) := goodIn_app (goodIn_of _ (by decide +kernel)) ggX6_judgeFor_X1_become
set_option maxRecDepth 20000 in
theorem ggX6_judgeFor_X6_bit : GoodIn wsX6_judgeFor wsX6_bit := goodIn_r _ [24] (by decide +kernel) (by decide +kernel)
set_option maxRecDepth 20000 in
theorem gX6_judgeFor_X6_bit : GoodIn wsX6_judgeFor (va_wsS RX6 105 yX6_bit wsX6_bit) := goodIn_app (goodIn_of _ (by decide +kernel)) ggX6_judgeFor_X6_bit
theorem dX6_judgeFor_0 : decode cX6_judgeFor 0 = .ok (.aload_n 0, 1) := by decide +kernel
theorem dX6_judgeFor_1 : decode cX6_judgeFor 1 = .ok (.getfield 40, 3) := by decide +kernel
theorem dX6_judgeFor_4 : decode cX6_judgeFor 4 = .ok (.aload_n 0, 1) := by decide +kernel
theorem dX6_judgeFor_5 : decode cX6_judgeFor 5 = .ok (.getfield 12, 3) := by decide +kernel
theorem dX6_judgeFor_8 : decode cX6_judgeFor 8 = .ok (.getfield 65, 3) := by decide +kernel
theorem dX6_judgeFor_11 : decode cX6_judgeFor 11 = .ok (.invokevirtual 119, 3) := by decide +kernel
theorem dX6_judgeFor_14 : decode cX6_judgeFor 14 = .ok (.iconst 0, 1) := by decide +kernel
theorem dX6_judgeFor_15 : decode cX6_judgeFor 15 = .ok (.istore_n 2, 1) := by decide +kernel
theorem dX6_judgeFor_16 : decode cX6_judgeFor 16 = .ok (.iload_n 2, 1) := by decide +kernel
theorem dX6_judgeFor_17 : decode cX6_judgeFor 17 = .ok (.aload_n 0, 1) := by decide +kernel
theorem dX6_judgeFor_18 : decode cX6_judgeFor 18 = .ok (.getfield 12, 3) := by decide +kernel
theorem dX6_judgeFor_21 : decode cX6_judgeFor 21 = .ok (.getfield 65, 3) := by decide +kernel
theorem dX6_judgeFor_24 : decode cX6_judgeFor 24 = .ok (.getfield 68, 3) := by decide +kernel
theorem dX6_judgeFor_27 : decode cX6_judgeFor 27 = .ok (.if_icmp .ge 60, 3) := by decide +kernel
theorem dX6_judgeFor_30 : decode cX6_judgeFor 30 = .ok (.aload_n 0, 1) := by decide +kernel
theorem dX6_judgeFor_31 : decode cX6_judgeFor 31 = .ok (.getfield 12, 3) := by decide +kernel
theorem dX6_judgeFor_34 : decode cX6_judgeFor 34 = .ok (.getfield 65, 3) := by decide +kernel
theorem dX6_judgeFor_37 : decode cX6_judgeFor 37 = .ok (.getfield 83, 3) := by decide +kernel
theorem dX6_judgeFor_40 : decode cX6_judgeFor 40 = .ok (.iload_n 2, 1) := by decide +kernel
theorem dX6_judgeFor_41 : decode cX6_judgeFor 41 = .ok (.iaload, 1) := by decide +kernel
theorem dX6_judgeFor_42 : decode cX6_judgeFor 42 = .ok (.iload_n 1, 1) := by decide +kernel
theorem dX6_judgeFor_43 : decode cX6_judgeFor 43 = .ok (.if_icmp .ne 38, 3) := by decide +kernel
theorem dX6_judgeFor_46 : decode cX6_judgeFor 46 = .ok (.aload_n 0, 1) := by decide +kernel
theorem dX6_judgeFor_47 : decode cX6_judgeFor 47 = .ok (.getfield 12, 3) := by decide +kernel
theorem dX6_judgeFor_50 : decode cX6_judgeFor 50 = .ok (.getfield 113, 3) := by decide +kernel
theorem dX6_judgeFor_53 : decode cX6_judgeFor 53 = .ok (.iload_n 2, 1) := by decide +kernel
theorem dX6_judgeFor_54 : decode cX6_judgeFor 54 = .ok (.iaload, 1) := by decide +kernel
theorem dX6_judgeFor_55 : decode cX6_judgeFor 55 = .ok (.bipush 14, 2) := by decide +kernel
theorem dX6_judgeFor_57 : decode cX6_judgeFor 57 = .ok (.if_icmp .eq 24, 3) := by decide +kernel
theorem dX6_judgeFor_60 : decode cX6_judgeFor 60 = .ok (.aload_n 0, 1) := by decide +kernel
theorem dX6_judgeFor_61 : decode cX6_judgeFor 61 = .ok (.getfield 40, 3) := by decide +kernel
theorem dX6_judgeFor_64 : decode cX6_judgeFor 64 = .ok (.getfield 102, 3) := by decide +kernel
theorem dX6_judgeFor_67 : decode cX6_judgeFor 67 = .ok (.iload_n 2, 1) := by decide +kernel
theorem dX6_judgeFor_68 : decode cX6_judgeFor 68 = .ok (.aload_n 0, 1) := by decide +kernel
theorem dX6_judgeFor_69 : decode cX6_judgeFor 69 = .ok (.getfield 12, 3) := by decide +kernel
theorem dX6_judgeFor_72 : decode cX6_judgeFor 72 = .ok (.getfield 113, 3) := by decide +kernel
theorem dX6_judgeFor_75 : decode cX6_judgeFor 75 = .ok (.iload_n 2, 1) := by decide +kernel
theorem dX6_judgeFor_76 : decode cX6_judgeFor 76 = .ok (.iaload, 1) := by decide +kernel
theorem dX6_judgeFor_77 : decode cX6_judgeFor 77 = .ok (.invokestatic 105, 3) := by decide +kernel
theorem dX6_judgeFor_80 : decode cX6_judgeFor 80 = .ok (.iastore, 1) := by decide +kernel
theorem dX6_judgeFor_81 : decode cX6_judgeFor 81 = .ok (.iinc 2 1, 3) := by decide +kernel
theorem dX6_judgeFor_84 : decode cX6_judgeFor 84 = .ok (.goto (-68), 3) := by decide +kernel
theorem dX6_judgeFor_87 : decode cX6_judgeFor 87 = .ok (.return_, 1) := by decide +kernel
end
section
theorem dJ6_bitCount_0f7a4_0 : decode cJ6_bitCount_0f7a4 0 = .ok (.iload_n 0, 1) := by decide +kernel
theorem dJ6_bitCount_0f7a4_1 : decode cJ6_bitCount_0f7a4 1 = .ok (.iload_n 0, 1) := by decide +kernel
theorem dJ6_bitCount_0f7a4_2 : decode cJ6_bitCount_0f7a4 2 = .ok (.iconst 1, 1) := by decide +kernel
theorem dJ6_bitCount_0f7a4_3 : decode cJ6_bitCount_0f7a4 3 = .ok (.iushr, 1) := by decide +kernel
theorem dJ6_bitCount_0f7a4_4 : decode cJ6_bitCount_0f7a4 4 = .ok (.ldc_w 265, 3) := by decide +kernel
theorem dJ6_bitCount_0f7a4_7 : decode cJ6_bitCount_0f7a4 7 = .ok (.iand, 1) := by decide +kernel
theorem dJ6_bitCount_0f7a4_8 : decode cJ6_bitCount_0f7a4 8 = .ok (.isub, 1) := by decide +kernel
theorem dJ6_bitCount_0f7a4_9 : decode cJ6_bitCount_0f7a4 9 = .ok (.istore_n 0, 1) := by decide +kernel
theorem dJ6_bitCount_0f7a4_10 : decode cJ6_bitCount_0f7a4 10 = .ok (.iload_n 0, 1) := by decide +kernel
theorem dJ6_bitCount_0f7a4_11 : decode cJ6_bitCount_0f7a4 11 = .ok (.ldc_w 266, 3) := by decide +kernel
theorem dJ6_bitCount_0f7a4_14 : decode cJ6_bitCount_0f7a4 14 = .ok (.iand, 1) := by decide +kernel
theorem dJ6_bitCount_0f7a4_15 : decode cJ6_bitCount_0f7a4 15 = .ok (.iload_n 0, 1) := by decide +kernel
theorem dJ6_bitCount_0f7a4_16 : decode cJ6_bitCount_0f7a4 16 = .ok (.iconst 2, 1) := by decide +kernel
theorem dJ6_bitCount_0f7a4_17 : decode cJ6_bitCount_0f7a4 17 = .ok (.iushr, 1) := by decide +kernel
theorem dJ6_bitCount_0f7a4_18 : decode cJ6_bitCount_0f7a4 18 = .ok (.ldc_w 266, 3) := by decide +kernel
theorem dJ6_bitCount_0f7a4_21 : decode cJ6_bitCount_0f7a4 21 = .ok (.iand, 1) := by decide +kernel
theorem dJ6_bitCount_0f7a4_22 : decode cJ6_bitCount_0f7a4 22 = .ok (.iadd, 1) := by decide +kernel
theorem dJ6_bitCount_0f7a4_23 : decode cJ6_bitCount_0f7a4 23 = .ok (.istore_n 0, 1) := by decide +kernel
theorem dJ6_bitCount_0f7a4_24 : decode cJ6_bitCount_0f7a4 24 = .ok (.iload_n 0, 1) := by decide +kernel
theorem dJ6_bitCount_0f7a4_25 : decode cJ6_bitCount_0f7a4 25 = .ok (.iload_n 0, 1) := by decide +kernel
theorem dJ6_bitCount_0f7a4_26 : decode cJ6_bitCount_0f7a4 26 = .ok (.iconst 4, 1) := by decide +kernel
theorem dJ6_bitCount_0f7a4_27 : decode cJ6_bitCount_0f7a4 27 = .ok (.iushr, 1) := by decide +kernel
theorem dJ6_bitCount_0f7a4_28 : decode cJ6_bitCount_0f7a4 28 = .ok (.iadd, 1) := by decide +kernel
theorem dJ6_bitCount_0f7a4_29 : decode cJ6_bitCount_0f7a4 29 = .ok (.ldc_w 267, 3) := by decide +kernel
theorem dJ6_bitCount_0f7a4_32 : decode cJ6_bitCount_0f7a4 32 = .ok (.iand, 1) := by decide +kernel
theorem dJ6_bitCount_0f7a4_33 : decode cJ6_bitCount_0f7a4 33 = .ok (.istore_n 0, 1) := by decide +kernel
theorem dJ6_bitCount_0f7a4_34 : decode cJ6_bitCount_0f7a4 34 = .ok (.iload_n 0, 1) := by decide +kernel
theorem dJ6_bitCount_0f7a4_35 : decode cJ6_bitCount_0f7a4 35 = .ok (.iload_n 0, 1) := by decide +kernel
theorem dJ6_bitCount_0f7a4_36 : decode cJ6_bitCount_0f7a4 36 = .ok (.bipush 8, 2) := by decide +kernel
theorem dJ6_bitCount_0f7a4_38 : decode cJ6_bitCount_0f7a4 38 = .ok (.iushr, 1) := by decide +kernel
theorem dJ6_bitCount_0f7a4_39 : decode cJ6_bitCount_0f7a4 39 = .ok (.iadd, 1) := by decide +kernel
theorem dJ6_bitCount_0f7a4_40 : decode cJ6_bitCount_0f7a4 40 = .ok (.istore_n 0, 1) := by decide +kernel
theorem dJ6_bitCount_0f7a4_41 : decode cJ6_bitCount_0f7a4 41 = .ok (.iload_n 0, 1) := by decide +kernel
theorem dJ6_bitCount_0f7a4_42 : decode cJ6_bitCount_0f7a4 42 = .ok (.iload_n 0, 1) := by decide +kernel
theorem dJ6_bitCount_0f7a4_43 : decode cJ6_bitCount_0f7a4 43 = .ok (.bipush 16, 2) := by decide +kernel
theorem dJ6_bitCount_0f7a4_45 : decode cJ6_bitCount_0f7a4 45 = .ok (.iushr, 1) := by decide +kernel
theorem dJ6_bitCount_0f7a4_46 : decode cJ6_bitCount_0f7a4 46 = .ok (.iadd, 1) := by decide +kernel
theorem dJ6_bitCount_0f7a4_47 : decode cJ6_bitCount_0f7a4 47 = .ok (.istore_n 0, 1) := by decide +kernel
theorem dJ6_bitCount_0f7a4_48 : decode cJ6_bitCount_0f7a4 48 = .ok (.iload_n 0, 1) := by decide +kernel
theorem dJ6_bitCount_0f7a4_49 : decode cJ6_bitCount_0f7a4 49 = .ok (.bipush 63, 2) := by decide +kernel
theorem dJ6_bitCount_0f7a4_51 : decode cJ6_bitCount_0f7a4 51 = .ok (.iand, 1) := by decide +kernel
theorem dJ6_bitCount_0f7a4_52 : decode cJ6_bitCount_0f7a4 52 = .ok (.ireturn, 1) := by decide +kernel
def f_J6_bitCount_0f7a4 (p0 : Int32) : Option Int32 := lt (((p0 - ((jushr p0 1) &&& 1431655765)) &&& 858993459) + ((jushr (p0 - ((jushr p0 1) &&& 1431655765)) 2) &&& 858993459)) fun x1 => lt (((x1 + (jushr x1 4)) &&& 252645135) + (jushr ((x1 + (jushr x1 4)) &&& 252645135) 8)) fun x2 => some (((x2 + (jushr x2 16)) &&& 63))
theorem hd_J6_bitCount_0f7a4 : yJ6_bitCount_0f7a4.cls ≠ "java/lang/invoke/MethodHandle" ∧ yJ6_bitCount_0f7a4.cls ≠ "java/lang/invoke/VarHandle" ∧ (parseMethodDescriptor yJ6_bitCount_0f7a4.desc).map (fun d => d.parameters.length) = some 1 := by decide +kernel
set_option maxHeartbeats 4000000 in
set_option maxRecDepth 100000 in
theorem c_J6_bitCount_0f7a4 (l : Launch) (D : va_G) (cI cC cS : ClassId) (R : va_W) (p0 : Int32) (r : Int32) (hf : f_J6_bitCount_0f7a4 p0 = some r) : CI l yJ6_bitCount_0f7a4 wsJ6_bitCount_0f7a4 0 0 D cI cC cS [.int p0] R r R := by
  refine XI.of (cc := cJ6_bitCount_0f7a4) (maxL := 1) (ty := .int) (own := RJ6) (by decide) rfl rfl (Nat.le_of_ble_eq_true rfl) ?_
  intro p e s m args below meth c A Q S hK hN hA hP hD hS ls hl hret
  obtain ⟨hx, hb, hml, hown, hts⟩ := id S
  have hl : lv_has ls 1 [(0, .int p0)] := hl
  unfold f_J6_bitCount_0f7a4 at hf
  refine lv_iload_n hx hb dJ6_bitCount_0f7a4_0 rfl (lv_at hl 0 rfl) ?_
  refine lv_iload_n hx hb dJ6_bitCount_0f7a4_1 rfl (lv_at hl 0 rfl) ?_
  refine lv_iconst (v := 1) hx hb dJ6_bitCount_0f7a4_2 (by decide) ?_
  refine lv_iushr hx hb dJ6_bitCount_0f7a4_3 rfl ?_
  refine lv_ldcw hx hb hown (hts (.constant RJ6 265 (1431655765)) (List.mem_of_getElem? (i := 1) rfl)) dJ6_bitCount_0f7a4_4 ?_
  refine lv_iand hx hb dJ6_bitCount_0f7a4_7 ?_
  refine lv_isub hx hb dJ6_bitCount_0f7a4_8 ?_
  refine lv_istore_n (lv' := [(0, .int (p0 - ((jushr p0 1) &&& 1431655765)))]) hx hb dJ6_bitCount_0f7a4_9 rfl hl (by decide) rfl (fun ls hl => ?_)
  refine lv_iload_n hx hb dJ6_bitCount_0f7a4_10 rfl (lv_at hl 0 rfl) ?_
  refine lv_ldcw hx hb hown (hts (.constant RJ6 266 (858993459)) (List.mem_of_getElem? (i := 2) rfl)) dJ6_bitCount_0f7a4_11 ?_
  refine lv_iand hx hb dJ6_bitCount_0f7a4_14 ?_
  refine lv_iload_n hx hb dJ6_bitCount_0f7a4_15 rfl (lv_at hl 0 rfl) ?_
  refine lv_iconst (v := 2) hx hb dJ6_bitCount_0f7a4_16 (by decide) ?_
  refine lv_iushr hx hb dJ6_bitCount_0f7a4_17 rfl ?_
  refine lv_ldcw hx hb hown (hts (.constant RJ6 266 (858993459)) (List.mem_of_getElem? (i := 2) rfl)) dJ6_bitCount_0f7a4_18 ?_
  refine lv_iand hx hb dJ6_bitCount_0f7a4_21 ?_
  refine lv_iadd hx hb dJ6_bitCount_0f7a4_22 ?_
  obtain ⟨x1, ex1, hf⟩ := lt_some hf
  rw [← ex1]
  refine lv_istore_n (lv' := [(0, .int x1)]) hx hb dJ6_bitCount_0f7a4_23 rfl hl (by decide) rfl (fun ls hl => ?_)
  refine lv_iload_n hx hb dJ6_bitCount_0f7a4_24 rfl (lv_at hl 0 rfl) ?_
  refine lv_iload_n hx hb dJ6_bitCount_0f7a4_25 rfl (lv_at hl 0 rfl) ?_
  refine lv_iconst (v := 4) hx hb dJ6_bitCount_0f7a4_26 (by decide) ?_
  refine lv_iushr hx hb dJ6_bitCount_0f7a4_27 rfl ?_
  refine lv_iadd hx hb dJ6_bitCount_0f7a4_28 ?_
  refine lv_ldcw hx hb hown (hts (.constant RJ6 267 (252645135)) (List.mem_of_getElem? (i := 3) rfl)) dJ6_bitCount_0f7a4_29 ?_
  refine lv_iand hx hb dJ6_bitCount_0f7a4_32 ?_
  refine lv_istore_n (lv' := [(0, .int ((x1 + (jushr x1 4)) &&& 252645135))]) hx hb dJ6_bitCount_0f7a4_33 rfl hl (by decide) rfl (fun ls hl => ?_)
  refine lv_iload_n hx hb dJ6_bitCount_0f7a4_34 rfl (lv_at hl 0 rfl) ?_
  refine lv_iload_n hx hb dJ6_bitCount_0f7a4_35 rfl (lv_at hl 0 rfl) ?_
  refine lv_bipush (v := 8) hx hb dJ6_bitCount_0f7a4_36 (by decide) ?_
  refine lv_iushr hx hb dJ6_bitCount_0f7a4_38 rfl ?_
  refine lv_iadd hx hb dJ6_bitCount_0f7a4_39 ?_
  obtain ⟨x2, ex2, hf⟩ := lt_some hf
  rw [← ex2]
  refine lv_istore_n (lv' := [(0, .int x2)]) hx hb dJ6_bitCount_0f7a4_40 rfl hl (by decide) rfl (fun ls hl => ?_)
  refine lv_iload_n hx hb dJ6_bitCount_0f7a4_41 rfl (lv_at hl 0 rfl) ?_
  refine lv_iload_n hx hb dJ6_bitCount_0f7a4_42 rfl (lv_at hl 0 rfl) ?_
  refine lv_bipush (v := 16) hx hb dJ6_bitCount_0f7a4_43 (by decide) ?_
  refine lv_iushr hx hb dJ6_bitCount_0f7a4_45 rfl ?_
  refine lv_iadd hx hb dJ6_bitCount_0f7a4_46 ?_
  refine lv_istore_n (lv' := [(0, .int (x2 + (jushr x2 16)))]) hx hb dJ6_bitCount_0f7a4_47 rfl hl (by decide) rfl (fun ls hl => ?_)
  refine lv_iload_n hx hb dJ6_bitCount_0f7a4_48 rfl (lv_at hl 0 rfl) ?_
  refine lv_bipush (v := 63) hx hb dJ6_bitCount_0f7a4_49 (by decide) ?_
  refine lv_iand hx hb dJ6_bitCount_0f7a4_51 ?_
  have hf := Option.some.inj hf
  subst hf
  exact hret _ _ _ _ _ dJ6_bitCount_0f7a4_52 hP hD hS rfl rfl
end
section
def f_X6_isPlayer (p0 : Int32) : Option Int32 := (if p0 = 0 then some (1) else (if p0 = 1 then some (1) else some (0)))
theorem hd_X6_isPlayer : yX6_isPlayer.cls ≠ "java/lang/invoke/MethodHandle" ∧ yX6_isPlayer.cls ≠ "java/lang/invoke/VarHandle" ∧ (parseMethodDescriptor yX6_isPlayer.desc).map (fun d => d.parameters.length) = some 1 := by decide +kernel
set_option maxHeartbeats 4000000 in
set_option maxRecDepth 100000 in
theorem c_X6_isPlayer (l : Launch) (D : va_G) (cI cC cS : ClassId) (R : va_W) (p0 : Int32) (r : Int32) (hf : f_X6_isPlayer p0 = some r) : CI l yX6_isPlayer wsX6_isPlayer 0 0 D cI cC cS [.int p0] R r R := by
  refine XI.of (cc := cX6_isPlayer) (maxL := 1) (ty := .boolean) (own := RX6) (by decide) rfl rfl (Nat.le_of_ble_eq_true rfl) ?_
  intro p e s m args below meth c A Q S hK hN hA hP hD hS ls hl hret
  obtain ⟨hx, hb, hml, hown, hts⟩ := id S
  have hl : lv_has ls 1 [(0, .int p0)] := hl
  unfold f_X6_isPlayer at hf
  refine lv_iload_n hx hb dX6_isPlayer_0 rfl (lv_at hl 0 rfl) ?_
  refine lv_if_eq (tgt := 9) hx hb dX6_isPlayer_1 (by decide) (fun c1 => ?_) (fun c1 => ?_)
  · have hf := if_t hf c1
    refine lv_iconst (v := 1) hx hb dX6_isPlayer_9 (by decide) ?_
    refine lv_goto (tgt := 14) hx hb dX6_isPlayer_10 (by decide) ?_
    have hf := Option.some.inj hf
    subst hf
    exact hret _ _ _ _ _ dX6_isPlayer_14 hP hD hS rfl rfl
  · have hf := if_f hf c1
    refine lv_iload_n hx hb dX6_isPlayer_4 rfl (lv_at hl 0 rfl) ?_
    refine lv_iconst (v := 1) hx hb dX6_isPlayer_5 (by decide) ?_
    refine lv_icmp_ne (tgt := 13) hx hb dX6_isPlayer_6 (by decide) (fun c2 => ?_) (fun c2 => ?_)
    · have hf := if_f hf c2
      refine lv_iconst (v := 0) hx hb dX6_isPlayer_13 (by decide) ?_
      have hf := Option.some.inj hf
      subst hf
      exact hret _ _ _ _ _ dX6_isPlayer_14 hP hD hS rfl rfl
    · have hf := if_t hf c2
      refine lv_iconst (v := 1) hx hb dX6_isPlayer_9 (by decide) ?_
      refine lv_goto (tgt := 14) hx hb dX6_isPlayer_10 (by decide) ?_
      have hf := Option.some.inj hf
      subst hf
      exact hret _ _ _ _ _ dX6_isPlayer_14 hP hD hS rfl rfl
def f_X6_isColour (p0 : Int32) : Option Int32 := (if p0 < 0 then some (0) else (if 7 < p0 then some (0) else some (1)))
theorem hd_X6_isColour : yX6_isColour.cls ≠ "java/lang/invoke/MethodHandle" ∧ yX6_isColour.cls ≠ "java/lang/invoke/VarHandle" ∧ (parseMethodDescriptor yX6_isColour.desc).map (fun d => d.parameters.length) = some 1 := by decide +kernel
set_option maxHeartbeats 4000000 in
set_option maxRecDepth 100000 in
theorem c_X6_isColour (l : Launch) (D : va_G) (cI cC cS : ClassId) (R : va_W) (p0 : Int32) (r : Int32) (hf : f_X6_isColour p0 = some r) : CI l yX6_isColour wsX6_isColour 0 0 D cI cC cS [.int p0] R r R := by
  refine XI.of (cc := cX6_isColour) (maxL := 1) (ty := .boolean) (own := RX6) (by decide) rfl rfl (Nat.le_of_ble_eq_true rfl) ?_
  intro p e s m args below meth c A Q S hK hN hA hP hD hS ls hl hret
  obtain ⟨hx, hb, hml, hown, hts⟩ := id S
  have hl : lv_has ls 1 [(0, .int p0)] := hl
  unfold f_X6_isColour at hf
  refine lv_iload_n hx hb dX6_isColour_0 rfl (lv_at hl 0 rfl) ?_
  refine lv_if_lt (tgt := 14) hx hb dX6_isColour_1 (by decide) (fun c1 => ?_) (fun c1 => ?_)
  · have hf := if_t hf c1
    refine lv_iconst (v := 0) hx hb dX6_isColour_14 (by decide) ?_
    have hf := Option.some.inj hf
    subst hf
    exact hret _ _ _ _ _ dX6_isColour_15 hP hD hS rfl rfl
  · have hf := if_f hf c1
    refine lv_iload_n hx hb dX6_isColour_4 rfl (lv_at hl 0 rfl) ?_
    refine lv_bipush (v := 7) hx hb dX6_isColour_5 (by decide) ?_
    refine lv_icmp_gt (tgt := 14) hx hb dX6_isColour_7 (by decide) (fun c2 => ?_) (fun c2 => ?_)
    · have hf := if_t hf c2
      refine lv_iconst (v := 0) hx hb dX6_isColour_14 (by decide) ?_
      have hf := Option.some.inj hf
      subst hf
      exact hret _ _ _ _ _ dX6_isColour_15 hP hD hS rfl rfl
    · have hf := if_f hf c2
      refine lv_iconst (v := 1) hx hb dX6_isColour_10 (by decide) ?_
      refine lv_goto (tgt := 15) hx hb dX6_isColour_11 (by decide) ?_
      have hf := Option.some.inj hf
      subst hf
      exact hret _ _ _ _ _ dX6_isColour_15 hP hD hS rfl rfl
def f_X6_bit (p0 : Int32) : Option Int32 := some ((jshl 1 p0))
theorem hd_X6_bit : yX6_bit.cls ≠ "java/lang/invoke/MethodHandle" ∧ yX6_bit.cls ≠ "java/lang/invoke/VarHandle" ∧ (parseMethodDescriptor yX6_bit.desc).map (fun d => d.parameters.length) = some 1 := by decide +kernel
set_option maxHeartbeats 4000000 in
set_option maxRecDepth 100000 in
theorem c_X6_bit (l : Launch) (D : va_G) (cI cC cS : ClassId) (R : va_W) (p0 : Int32) (r : Int32) (hf : f_X6_bit p0 = some r) : CI l yX6_bit wsX6_bit 0 0 D cI cC cS [.int p0] R r R := by
  refine XI.of (cc := cX6_bit) (maxL := 1) (ty := .int) (own := RX6) (by decide) rfl rfl (Nat.le_of_ble_eq_true rfl) ?_
  intro p e s m args below meth c A Q S hK hN hA hP hD hS ls hl hret
  obtain ⟨hx, hb, hml, hown, hts⟩ := id S
  have hl : lv_has ls 1 [(0, .int p0)] := hl
  unfold f_X6_bit at hf
  refine lv_iconst (v := 1) hx hb dX6_bit_0 (by decide) ?_
  refine lv_iload_n hx hb dX6_bit_1 rfl (lv_at hl 0 rfl) ?_
  refine lv_ishl hx hb dX6_bit_2 ?_
  have hf := Option.some.inj hf
  subst hf
  exact hret _ _ _ _ _ dX6_bit_3 hP hD hS rfl rfl
def f_X6_contains (p0 : Int32) (p1 : Int32) : Option Int32 := (if ((jshr p0 p1) &&& 1) = 1 then some (1) else some (0))
theorem hd_X6_contains : yX6_contains.cls ≠ "java/lang/invoke/MethodHandle" ∧ yX6_contains.cls ≠ "java/lang/invoke/VarHandle" ∧ (parseMethodDescriptor yX6_contains.desc).map (fun d => d.parameters.length) = some 2 := by decide +kernel
set_option maxHeartbeats 4000000 in
set_option maxRecDepth 100000 in
theorem c_X6_contains (l : Launch) (D : va_G) (cI cC cS : ClassId) (R : va_W) (p0 : Int32) (p1 : Int32) (r : Int32) (hf : f_X6_contains p0 p1 = some r) : CI l yX6_contains wsX6_contains 0 0 D cI cC cS [.int p0, .int p1] R r R := by
  refine XI.of (cc := cX6_contains) (maxL := 2) (ty := .boolean) (own := RX6) (by decide) rfl rfl (Nat.le_of_ble_eq_true rfl) ?_
  intro p e s m args below meth c A Q S hK hN hA hP hD hS ls hl hret
  obtain ⟨hx, hb, hml, hown, hts⟩ := id S
  have hl : lv_has ls 2 [(0, .int p0), (1, .int p1)] := hl
  unfold f_X6_contains at hf
  refine lv_iload_n hx hb dX6_contains_0 rfl (lv_at hl 0 rfl) ?_
  refine lv_iload_n hx hb dX6_contains_1 rfl (lv_at hl 1 rfl) ?_
  refine lv_ishr hx hb dX6_contains_2 ?_
  refine lv_iconst (v := 1) hx hb dX6_contains_3 (by decide) ?_
  refine lv_iand hx hb dX6_contains_4 ?_
  refine lv_iconst (v := 1) hx hb dX6_contains_5 (by decide) ?_
  refine lv_icmp_ne (tgt := 13) hx hb dX6_contains_6 (by decide) (fun c1 => ?_) (fun c1 => ?_)
  · have hf := if_f hf c1
    refine lv_iconst (v := 0) hx hb dX6_contains_13 (by decide) ?_
    have hf := Option.some.inj hf
    subst hf
    exact hret _ _ _ _ _ dX6_contains_14 hP hD hS rfl rfl
  · have hf := if_t hf c1
    refine lv_iconst (v := 1) hx hb dX6_contains_9 (by decide) ?_
    refine lv_goto (tgt := 14) hx hb dX6_contains_10 (by decide) ?_
    have hf := Option.some.inj hf
    subst hf
    exact hret _ _ _ _ _ dX6_contains_14 hP hD hS rfl rfl
def f_X6_placeOrNone (p0 : Int32) : Option Int32 := (if p0 = 14 then some ((-5)) else some (p0))
theorem hd_X6_placeOrNone : yX6_placeOrNone.cls ≠ "java/lang/invoke/MethodHandle" ∧ yX6_placeOrNone.cls ≠ "java/lang/invoke/VarHandle" ∧ (parseMethodDescriptor yX6_placeOrNone.desc).map (fun d => d.parameters.length) = some 1 := by decide +kernel
set_option maxHeartbeats 4000000 in
set_option maxRecDepth 100000 in
theorem c_X6_placeOrNone (l : Launch) (D : va_G) (cI cC cS : ClassId) (R : va_W) (p0 : Int32) (r : Int32) (hf : f_X6_placeOrNone p0 = some r) : CI l yX6_placeOrNone wsX6_placeOrNone 0 0 D cI cC cS [.int p0] R r R := by
  refine XI.of (cc := cX6_placeOrNone) (maxL := 1) (ty := .int) (own := RX6) (by decide) rfl rfl (Nat.le_of_ble_eq_true rfl) ?_
  intro p e s m args below meth c A Q S hK hN hA hP hD hS ls hl hret
  obtain ⟨hx, hb, hml, hown, hts⟩ := id S
  have hl : lv_has ls 1 [(0, .int p0)] := hl
  unfold f_X6_placeOrNone at hf
  refine lv_iload_n hx hb dX6_placeOrNone_0 rfl (lv_at hl 0 rfl) ?_
  refine lv_bipush (v := 14) hx hb dX6_placeOrNone_1 (by decide) ?_
  refine lv_icmp_ne (tgt := 11) hx hb dX6_placeOrNone_3 (by decide) (fun c1 => ?_) (fun c1 => ?_)
  · have hf := if_f hf c1
    refine lv_iload_n hx hb dX6_placeOrNone_11 rfl (lv_at hl 0 rfl) ?_
    have hf := Option.some.inj hf
    subst hf
    exact hret _ _ _ _ _ dX6_placeOrNone_12 hP hD hS rfl rfl
  · have hf := if_t hf c1
    refine lv_bipush (v := (-5)) hx hb dX6_placeOrNone_6 (by decide) ?_
    refine lv_goto (tgt := 12) hx hb dX6_placeOrNone_8 (by decide) ?_
    have hf := Option.some.inj hf
    subst hf
    exact hret _ _ _ _ _ dX6_placeOrNone_12 hP hD hS rfl rfl
end
