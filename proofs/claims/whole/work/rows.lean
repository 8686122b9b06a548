section
-- ===== PART A: goes FIRST, ahead of the names: the tables' words, and 'selects' of the private methods out of them =====
/-- a private method of a class that the tables say can be made, by its rows of tables_1 -/
def lw_okq (q : MethodName × Nat) : Prop := (q.1.cls ≠ "java/lang/invoke/MethodHandle" ∧ q.1.cls ≠ "java/lang/invoke/VarHandle") ∧ Cond.instantiable q.1.cls q.2 ∈ tables_1 ∧ Cond.privateMethod q.1 ∈ tables_1 ∧ Cond.instanceMethod q.1 ∈ tables_1
theorem lw_p0 : lw_okq (⟨"Cocite$Shelf", "referringToBoth", "(II)I"⟩, 8) := ⟨⟨by decide +kernel, by decide +kernel⟩, List.mem_of_getElem? (i := 25) (by decide +kernel), List.mem_of_getElem? (i := 189) (by decide +kernel), List.mem_of_getElem? (i := 190) (by decide +kernel)⟩
theorem lw_p1 : lw_okq (⟨"java/lang/Throwable", "fillInStackTrace", "(I)Ljava/lang/Throwable;"⟩, 6) := ⟨⟨by decide +kernel, by decide +kernel⟩, List.mem_of_getElem? (i := 297) (by decide +kernel), List.mem_of_getElem? (i := 295) (by decide +kernel), List.mem_of_getElem? (i := 296) (by decide +kernel)⟩
theorem lw_p2 : lw_okq (⟨"Cocite$Shelf", "addCiting", "(II)V"⟩, 8) := ⟨⟨by decide +kernel, by decide +kernel⟩, List.mem_of_getElem? (i := 25) (by decide +kernel), List.mem_of_getElem? (i := 363) (by decide +kernel), List.mem_of_getElem? (i := 364) (by decide +kernel)⟩
theorem lw_p3 : lw_okq (⟨"Cocite$Shelf", "countCiting", "(III)V"⟩, 8) := ⟨⟨by decide +kernel, by decide +kernel⟩, List.mem_of_getElem? (i := 25) (by decide +kernel), List.mem_of_getElem? (i := 367) (by decide +kernel), List.mem_of_getElem? (i := 368) (by decide +kernel)⟩
theorem lw_p4 : lw_okq (⟨"Cocite$Table", "setOneWay", "(III)V"⟩, 1) := ⟨⟨by decide +kernel, by decide +kernel⟩, List.mem_of_getElem? (i := 42) (by decide +kernel), List.mem_of_getElem? (i := 376) (by decide +kernel), List.mem_of_getElem? (i := 377) (by decide +kernel)⟩
theorem lw_p5 : lw_okq (⟨"Cocite", "mapAnew", "()V"⟩, 3) := ⟨⟨by decide +kernel, by decide +kernel⟩, List.mem_of_getElem? (i := 17) (by decide +kernel), List.mem_of_getElem? (i := 380) (by decide +kernel), List.mem_of_getElem? (i := 381) (by decide +kernel)⟩
theorem lw_p6 : lw_okq (⟨"Cocite$Grouping", "partAll", "(LCocite$Shelf;)V"⟩, 8) := ⟨⟨by decide +kernel, by decide +kernel⟩, List.mem_of_getElem? (i := 77) (by decide +kernel), List.mem_of_getElem? (i := 388) (by decide +kernel), List.mem_of_getElem? (i := 389) (by decide +kernel)⟩
theorem lw_p7 : lw_okq (⟨"Cocite$Grouping", "joinGreatest", "()Z"⟩, 8) := ⟨⟨by decide +kernel, by decide +kernel⟩, List.mem_of_getElem? (i := 77) (by decide +kernel), List.mem_of_getElem? (i := 401) (by decide +kernel), List.mem_of_getElem? (i := 402) (by decide +kernel)⟩
theorem lw_p8 : lw_okq (⟨"Cocite$Grouping", "gainFrom", "(III)I"⟩, 8) := ⟨⟨by decide +kernel, by decide +kernel⟩, List.mem_of_getElem? (i := 77) (by decide +kernel), List.mem_of_getElem? (i := 416) (by decide +kernel), List.mem_of_getElem? (i := 417) (by decide +kernel)⟩
theorem lw_p9 : lw_okq (⟨"Cocite$Grouping", "join", "(II)V"⟩, 8) := ⟨⟨by decide +kernel, by decide +kernel⟩, List.mem_of_getElem? (i := 77) (by decide +kernel), List.mem_of_getElem? (i := 420) (by decide +kernel), List.mem_of_getElem? (i := 421) (by decide +kernel)⟩
theorem lw_p10 : lw_okq (⟨"Cocite$Grouping", "bestSplit", "(I)I"⟩, 8) := ⟨⟨by decide +kernel, by decide +kernel⟩, List.mem_of_getElem? (i := 77) (by decide +kernel), List.mem_of_getElem? (i := 432) (by decide +kernel), List.mem_of_getElem? (i := 433) (by decide +kernel)⟩
theorem lw_p11 : lw_okq (⟨"Cocite$Grouping", "membersOf", "(I)I"⟩, 8) := ⟨⟨by decide +kernel, by decide +kernel⟩, List.mem_of_getElem? (i := 77) (by decide +kernel), List.mem_of_getElem? (i := 436) (by decide +kernel), List.mem_of_getElem? (i := 437) (by decide +kernel)⟩
theorem lw_p12 : lw_okq (⟨"Cocite$Grouping", "gainOfParts", "(II)I"⟩, 8) := ⟨⟨by decide +kernel, by decide +kernel⟩, List.mem_of_getElem? (i := 77) (by decide +kernel), List.mem_of_getElem? (i := 441) (by decide +kernel), List.mem_of_getElem? (i := 442) (by decide +kernel)⟩
theorem lw_p13 : lw_okq (⟨"Cocite$Grouping", "weightWithAll", "(II)I"⟩, 8) := ⟨⟨by decide +kernel, by decide +kernel⟩, List.mem_of_getElem? (i := 77) (by decide +kernel), List.mem_of_getElem? (i := 445) (by decide +kernel), List.mem_of_getElem? (i := 446) (by decide +kernel)⟩
theorem lw_p14 : lw_okq (⟨"Cocite$Grouping", "strengthOf", "(I)I"⟩, 8) := ⟨⟨by decide +kernel, by decide +kernel⟩, List.mem_of_getElem? (i := 77) (by decide +kernel), List.mem_of_getElem? (i := 449) (by decide +kernel), List.mem_of_getElem? (i := 450) (by decide +kernel)⟩
theorem lw_p15 : lw_okq (⟨"Cocite$Routes", "findNext", "(LCocite$Shelf;I)V"⟩, 8) := ⟨⟨by decide +kernel, by decide +kernel⟩, List.mem_of_getElem? (i := 112) (by decide +kernel), List.mem_of_getElem? (i := 471) (by decide +kernel), List.mem_of_getElem? (i := 472) (by decide +kernel)⟩
def lw_privs_1 : List (MethodName × Nat) := [(⟨"Cocite$Shelf", "referringToBoth", "(II)I"⟩, 8), (⟨"java/lang/Throwable", "fillInStackTrace", "(I)Ljava/lang/Throwable;"⟩, 6), (⟨"Cocite$Shelf", "addCiting", "(II)V"⟩, 8), (⟨"Cocite$Shelf", "countCiting", "(III)V"⟩, 8), (⟨"Cocite$Table", "setOneWay", "(III)V"⟩, 1), (⟨"Cocite", "mapAnew", "()V"⟩, 3), (⟨"Cocite$Grouping", "partAll", "(LCocite$Shelf;)V"⟩, 8), (⟨"Cocite$Grouping", "joinGreatest", "()Z"⟩, 8), (⟨"Cocite$Grouping", "gainFrom", "(III)I"⟩, 8), (⟨"Cocite$Grouping", "join", "(II)V"⟩, 8), (⟨"Cocite$Grouping", "bestSplit", "(I)I"⟩, 8), (⟨"Cocite$Grouping", "membersOf", "(I)I"⟩, 8), (⟨"Cocite$Grouping", "gainOfParts", "(II)I"⟩, 8), (⟨"Cocite$Grouping", "weightWithAll", "(II)I"⟩, 8), (⟨"Cocite$Grouping", "strengthOf", "(I)I"⟩, 8), (⟨"Cocite$Routes", "findNext", "(LCocite$Shelf;I)V"⟩, 8)]
theorem lw_r1 : ∀ q ∈ lw_privs_1, lw_okq q := List.forall_mem_cons.mpr ⟨lw_p0, List.forall_mem_cons.mpr ⟨lw_p1, List.forall_mem_cons.mpr ⟨lw_p2, List.forall_mem_cons.mpr ⟨lw_p3, List.forall_mem_cons.mpr ⟨lw_p4, List.forall_mem_cons.mpr ⟨lw_p5, List.forall_mem_cons.mpr ⟨lw_p6, List.forall_mem_cons.mpr ⟨lw_p7, List.forall_mem_cons.mpr ⟨lw_p8, List.forall_mem_cons.mpr ⟨lw_p9, List.forall_mem_cons.mpr ⟨lw_p10, List.forall_mem_cons.mpr ⟨lw_p11, List.forall_mem_cons.mpr ⟨lw_p12, List.forall_mem_cons.mpr ⟨lw_p13, List.forall_mem_cons.mpr ⟨lw_p14, List.forall_mem_cons.mpr ⟨lw_p15, fun _ h => absurd h List.not_mem_nil⟩⟩⟩⟩⟩⟩⟩⟩⟩⟩⟩⟩⟩⟩⟩⟩
theorem lw_p16 : lw_okq (⟨"Cocite$Routes", "findMain", "(LCocite$Shelf;)V"⟩, 8) := ⟨⟨by decide +kernel, by decide +kernel⟩, List.mem_of_getElem? (i := 112) (by decide +kernel), List.mem_of_getElem? (i := 480) (by decide +kernel), List.mem_of_getElem? (i := 481) (by decide +kernel)⟩
theorem lw_p17 : lw_okq (⟨"Cocite$Routes", "follow", "(I)V"⟩, 8) := ⟨⟨by decide +kernel, by decide +kernel⟩, List.mem_of_getElem? (i := 112) (by decide +kernel), List.mem_of_getElem? (i := 485) (by decide +kernel), List.mem_of_getElem? (i := 486) (by decide +kernel)⟩
theorem lw_p18 : lw_okq (⟨"Cocite", "requirePaper", "(I)V"⟩, 3) := ⟨⟨by decide +kernel, by decide +kernel⟩, List.mem_of_getElem? (i := 17) (by decide +kernel), List.mem_of_getElem? (i := 497) (by decide +kernel), List.mem_of_getElem? (i := 498) (by decide +kernel)⟩
theorem lw_p19 : lw_okq (⟨"Cocite$Shelf", "dropCiting", "(II)V"⟩, 8) := ⟨⟨by decide +kernel, by decide +kernel⟩, List.mem_of_getElem? (i := 25) (by decide +kernel), List.mem_of_getElem? (i := 523) (by decide +kernel), List.mem_of_getElem? (i := 524) (by decide +kernel)⟩
theorem lw_p20 : lw_okq (⟨"Cocite", "referencePairs", "(II)I"⟩, 3) := ⟨⟨by decide +kernel, by decide +kernel⟩, List.mem_of_getElem? (i := 17) (by decide +kernel), List.mem_of_getElem? (i := 571) (by decide +kernel), List.mem_of_getElem? (i := 572) (by decide +kernel)⟩
theorem lw_p21 : lw_okq (⟨"Cocite", "requireField", "(I)V"⟩, 3) := ⟨⟨by decide +kernel, by decide +kernel⟩, List.mem_of_getElem? (i := 17) (by decide +kernel), List.mem_of_getElem? (i := 603) (by decide +kernel), List.mem_of_getElem? (i := 604) (by decide +kernel)⟩
theorem lw_p22 : lw_okq (⟨"Cocite$Shelf", "citersOfYear", "(II)I"⟩, 8) := ⟨⟨by decide +kernel, by decide +kernel⟩, List.mem_of_getElem? (i := 25) (by decide +kernel), List.mem_of_getElem? (i := 674) (by decide +kernel), List.mem_of_getElem? (i := 675) (by decide +kernel)⟩
theorem lw_p23 : lw_okq (⟨"CociteModel", "all", "()I"⟩, 10) := ⟨⟨by decide +kernel, by decide +kernel⟩, List.mem_of_getElem? (i := 692) (by decide +kernel), List.mem_of_getElem? (i := 742) (by decide +kernel), List.mem_of_getElem? (i := 743) (by decide +kernel)⟩
theorem lw_p24 : lw_okq (⟨"CociteModel", "goes", "(I)Z"⟩, 10) := ⟨⟨by decide +kernel, by decide +kernel⟩, List.mem_of_getElem? (i := 692) (by decide +kernel), List.mem_of_getElem? (i := 746) (by decide +kernel), List.mem_of_getElem? (i := 747) (by decide +kernel)⟩
theorem lw_p25 : lw_okq (⟨"CociteModel", "asks", "(I)Z"⟩, 10) := ⟨⟨by decide +kernel, by decide +kernel⟩, List.mem_of_getElem? (i := 692) (by decide +kernel), List.mem_of_getElem? (i := 754) (by decide +kernel), List.mem_of_getElem? (i := 755) (by decide +kernel)⟩
theorem lw_p26 : lw_okq (⟨"CociteModel", "isPaper", "(I)Z"⟩, 10) := ⟨⟨by decide +kernel, by decide +kernel⟩, List.mem_of_getElem? (i := 692) (by decide +kernel), List.mem_of_getElem? (i := 758) (by decide +kernel), List.mem_of_getElem? (i := 759) (by decide +kernel)⟩
theorem lw_p27 : lw_okq (⟨"CociteModel", "citers", "(I)I"⟩, 10) := ⟨⟨by decide +kernel, by decide +kernel⟩, List.mem_of_getElem? (i := 692) (by decide +kernel), List.mem_of_getElem? (i := 762) (by decide +kernel), List.mem_of_getElem? (i := 763) (by decide +kernel)⟩
theorem lw_p28 : lw_okq (⟨"CociteModel", "asksTwo", "(II)Z"⟩, 10) := ⟨⟨by decide +kernel, by decide +kernel⟩, List.mem_of_getElem? (i := 692) (by decide +kernel), List.mem_of_getElem? (i := 785) (by decide +kernel), List.mem_of_getElem? (i := 786) (by decide +kernel)⟩
theorem lw_p29 : lw_okq (⟨"CociteModel", "totalNow", "()I"⟩, 10) := ⟨⟨by decide +kernel, by decide +kernel⟩, List.mem_of_getElem? (i := 692) (by decide +kernel), List.mem_of_getElem? (i := 797) (by decide +kernel), List.mem_of_getElem? (i := 798) (by decide +kernel)⟩
theorem lw_p30 : lw_okq (⟨"CociteModel", "laysWeights", "()V"⟩, 10) := ⟨⟨by decide +kernel, by decide +kernel⟩, List.mem_of_getElem? (i := 692) (by decide +kernel), List.mem_of_getElem? (i := 801) (by decide +kernel), List.mem_of_getElem? (i := 802) (by decide +kernel)⟩
theorem lw_p31 : lw_okq (⟨"CociteModel", "weights", "(II)I"⟩, 10) := ⟨⟨by decide +kernel, by decide +kernel⟩, List.mem_of_getElem? (i := 692) (by decide +kernel), List.mem_of_getElem? (i := 805) (by decide +kernel), List.mem_of_getElem? (i := 806) (by decide +kernel)⟩
def lw_privs_2 : List (MethodName × Nat) := [(⟨"Cocite$Routes", "findMain", "(LCocite$Shelf;)V"⟩, 8), (⟨"Cocite$Routes", "follow", "(I)V"⟩, 8), (⟨"Cocite", "requirePaper", "(I)V"⟩, 3), (⟨"Cocite$Shelf", "dropCiting", "(II)V"⟩, 8), (⟨"Cocite", "referencePairs", "(II)I"⟩, 3), (⟨"Cocite", "requireField", "(I)V"⟩, 3), (⟨"Cocite$Shelf", "citersOfYear", "(II)I"⟩, 8), (⟨"CociteModel", "all", "()I"⟩, 10), (⟨"CociteModel", "goes", "(I)Z"⟩, 10), (⟨"CociteModel", "asks", "(I)Z"⟩, 10), (⟨"CociteModel", "isPaper", "(I)Z"⟩, 10), (⟨"CociteModel", "citers", "(I)I"⟩, 10), (⟨"CociteModel", "asksTwo", "(II)Z"⟩, 10), (⟨"CociteModel", "totalNow", "()I"⟩, 10), (⟨"CociteModel", "laysWeights", "()V"⟩, 10), (⟨"CociteModel", "weights", "(II)I"⟩, 10)]
theorem lw_r2 : ∀ q ∈ lw_privs_2, lw_okq q := List.forall_mem_cons.mpr ⟨lw_p16, List.forall_mem_cons.mpr ⟨lw_p17, List.forall_mem_cons.mpr ⟨lw_p18, List.forall_mem_cons.mpr ⟨lw_p19, List.forall_mem_cons.mpr ⟨lw_p20, List.forall_mem_cons.mpr ⟨lw_p21, List.forall_mem_cons.mpr ⟨lw_p22, List.forall_mem_cons.mpr ⟨lw_p23, List.forall_mem_cons.mpr ⟨lw_p24, List.forall_mem_cons.mpr ⟨lw_p25, List.forall_mem_cons.mpr ⟨lw_p26, List.forall_mem_cons.mpr ⟨lw_p27, List.forall_mem_cons.mpr ⟨lw_p28, List.forall_mem_cons.mpr ⟨lw_p29, List.forall_mem_cons.mpr ⟨lw_p30, List.forall_mem_cons.mpr ⟨lw_p31, fun _ h => absurd h List.not_mem_nil⟩⟩⟩⟩⟩⟩⟩⟩⟩⟩⟩⟩⟩⟩⟩⟩
theorem lw_p32 : lw_okq (⟨"CociteModel", "likeness", "(IIZ)I"⟩, 10) := ⟨⟨by decide +kernel, by decide +kernel⟩, List.mem_of_getElem? (i := 692) (by decide +kernel), List.mem_of_getElem? (i := 817) (by decide +kernel), List.mem_of_getElem? (i := 818) (by decide +kernel)⟩
theorem lw_p33 : lw_okq (⟨"CociteModel", "laysFields", "()V"⟩, 10) := ⟨⟨by decide +kernel, by decide +kernel⟩, List.mem_of_getElem? (i := 692) (by decide +kernel), List.mem_of_getElem? (i := 832) (by decide +kernel), List.mem_of_getElem? (i := 833) (by decide +kernel)⟩
theorem lw_p34 : lw_okq (⟨"CociteModel", "gains", "(III)I"⟩, 10) := ⟨⟨by decide +kernel, by decide +kernel⟩, List.mem_of_getElem? (i := 692) (by decide +kernel), List.mem_of_getElem? (i := 836) (by decide +kernel), List.mem_of_getElem? (i := 837) (by decide +kernel)⟩
theorem lw_p35 : lw_okq (⟨"CociteModel", "isField", "(I)Z"⟩, 10) := ⟨⟨by decide +kernel, by decide +kernel⟩, List.mem_of_getElem? (i := 692) (by decide +kernel), List.mem_of_getElem? (i := 848) (by decide +kernel), List.mem_of_getElem? (i := 849) (by decide +kernel)⟩
theorem lw_p36 : lw_okq (⟨"CociteModel", "laysWays", "()V"⟩, 10) := ⟨⟨by decide +kernel, by decide +kernel⟩, List.mem_of_getElem? (i := 692) (by decide +kernel), List.mem_of_getElem? (i := 860) (by decide +kernel), List.mem_of_getElem? (i := 861) (by decide +kernel)⟩
theorem lw_p37 : lw_okq (⟨"CociteModel", "length", "()I"⟩, 10) := ⟨⟨by decide +kernel, by decide +kernel⟩, List.mem_of_getElem? (i := 692) (by decide +kernel), List.mem_of_getElem? (i := 872) (by decide +kernel), List.mem_of_getElem? (i := 873) (by decide +kernel)⟩
theorem lw_p38 : lw_okq (⟨"CociteModel", "first", "()I"⟩, 10) := ⟨⟨by decide +kernel, by decide +kernel⟩, List.mem_of_getElem? (i := 692) (by decide +kernel), List.mem_of_getElem? (i := 876) (by decide +kernel), List.mem_of_getElem? (i := 877) (by decide +kernel)⟩
theorem lw_p39 : lw_okq (⟨"CociteModel", "next", "(I)I"⟩, 10) := ⟨⟨by decide +kernel, by decide +kernel⟩, List.mem_of_getElem? (i := 692) (by decide +kernel), List.mem_of_getElem? (i := 880) (by decide +kernel), List.mem_of_getElem? (i := 881) (by decide +kernel)⟩
theorem lw_p40 : lw_okq (⟨"CociteModel", "rises", "(II)I"⟩, 10) := ⟨⟨by decide +kernel, by decide +kernel⟩, List.mem_of_getElem? (i := 692) (by decide +kernel), List.mem_of_getElem? (i := 896) (by decide +kernel), List.mem_of_getElem? (i := 897) (by decide +kernel)⟩
def lw_privs_3 : List (MethodName × Nat) := [(⟨"CociteModel", "likeness", "(IIZ)I"⟩, 10), (⟨"CociteModel", "laysFields", "()V"⟩, 10), (⟨"CociteModel", "gains", "(III)I"⟩, 10), (⟨"CociteModel", "isField", "(I)Z"⟩, 10), (⟨"CociteModel", "laysWays", "()V"⟩, 10), (⟨"CociteModel", "length", "()I"⟩, 10), (⟨"CociteModel", "first", "()I"⟩, 10), (⟨"CociteModel", "next", "(I)I"⟩, 10), (⟨"CociteModel", "rises", "(II)I"⟩, 10)]
theorem lw_r3 : ∀ q ∈ lw_privs_3, lw_okq q := List.forall_mem_cons.mpr ⟨lw_p32, List.forall_mem_cons.mpr ⟨lw_p33, List.forall_mem_cons.mpr ⟨lw_p34, List.forall_mem_cons.mpr ⟨lw_p35, List.forall_mem_cons.mpr ⟨lw_p36, List.forall_mem_cons.mpr ⟨lw_p37, List.forall_mem_cons.mpr ⟨lw_p38, List.forall_mem_cons.mpr ⟨lw_p39, List.forall_mem_cons.mpr ⟨lw_p40, fun _ h => absurd h List.not_mem_nil⟩⟩⟩⟩⟩⟩⟩⟩⟩
def lw_privs : List (MethodName × Nat) := lw_privs_1 ++ (lw_privs_2 ++ (lw_privs_3))
def lw_tbl : List Cond := k2_sels lw_privs ++ tables_1
theorem lw_privs_ok : ∀ q ∈ lw_privs, lw_okq q := by
  show ∀ q ∈ lw_privs_1 ++ (lw_privs_2 ++ (lw_privs_3)), lw_okq q
  exact List.forall_mem_append.mpr ⟨lw_r1, List.forall_mem_append.mpr ⟨lw_r2, lw_r3⟩⟩

-- ===== end of PART A
/-! ===== BEGIN words of one list among another's, by their places ===== -/
theorem goodIn_r {big : List Cond} (ws : List Cond) (ps : List Nat) (hp : ws = ps.filterMap (fun i => big[i]?)) (h : ws.all goodWord = true) : GoodIn big ws := by
  intro w hw
  have h1 := List.all_eq_true.mp h w hw
  rw [hp] at hw
  obtain ⟨i, -, hi⟩ := List.mem_filterMap.mp hw
  have hm : w ∈ big := by first | exact List.mem_of_getElem? hi | exact List.getElem?_mem hi
  exact ⟨hm, good_of_word h1⟩
theorem goodIn_app {big a b : List Cond} (ha : GoodIn big a) (hb : GoodIn big b) : GoodIn big (a ++ b) := fun w h => (List.mem_append.mp h).elim (ha w) (hb w)
theorem goodIn_ca {big a b : List Cond} {c : Cond} (ha : GoodIn big (c :: a)) (hb : GoodIn big b) : GoodIn big (c :: (a ++ b)) := fun w h => (List.mem_cons.mp h).elim (fun e => ha w (List.mem_cons.mpr (Or.inl e))) (fun h => (List.mem_append.mp h).elim (fun h => ha w (List.mem_cons.mpr (Or.inr h))) (hb w))
theorem goodIn_sub {big ws : List Cond} (hm : ∀ w ∈ ws, w ∈ big) (h : ws.all goodWord = true) : GoodIn big ws := fun w hw => ⟨hm w hw, good_of_word (List.all_eq_true.mp h w hw)⟩
/-! ===== END ===== -/
/-! ===== BEGIN exceptions that leave a method, and their catching by the caller (launches without stack traces) ===== -/
section VXA
/-! The laws vx_back, vx_callV, vx_callS, vx_callSW, vx_throw0, vx_throwS follow proofs of the library, with one case more: JvmDerived/Free/Laws.lean (Back.of_free), Shelf42/LK1.lean (callV, callS), Shelf/KitTraced.lean (throwNew0V, throwNewS). -/
/-- where a method has thrown q: the class by its name, the cell, what was written, the world -/
def vx_T (XC : String → State → State → Prop) (st : State) (q : Addr) (t : State) (mc ms : Nat) (free : Addr → Prop) : Prop :=
  ∃ (E : String) (ce : Cell) (L : List Loc), XC E st t ∧ t.heap[q]? = some ce ∧ ce.vm = .none ∧ st.vm.findClass E = some ce.cls ∧ st.WarmedH t.vm ∧ st.sameButNew ({ t with vm := st.vm } : State) L mc ms ∧ ∀ z ∈ L, free z.base
def vx_Q (Qc : Array Value → State → Outcome → State → Prop) (XC : String → State → State → Prop) (mc ms : Nat) (free : Addr → Prop) : Array Value → State → Outcome → State → Prop := fun a st o t =>
  (Qc a st o t ∧ ∃ L, FrameEnd st o t L mc ms ∧ ∀ q ∈ L, free q.base) ∨ ∃ q, o = .threw q ∧ vx_T XC st q t mc ms free
/-- a callee that returns or throws -/
def vx_Met (l : Launch) (y : MethodName) (ws : List Cond) (rm : Room) (Pc : Array Value → State → Prop) (Qc : Array Value → State → Outcome → State → Prop) (XC : String → State → State → Prop) (mc ms : Nat) (free : Addr → Prop) : Prop :=
  MetFree l y (headSpec ws rm) Pc (fun _ _ _ _ _ => True) (vx_Q Qc XC mc ms free)
def vx_Post (XC : String → State → State → Prop) (mc ms : Nat) (free : Addr → Prop) : Pt → Array Value → Addr → Pt → Prop := fun A a q B =>
  ∃ (g : JFrame) (mk : MethodId) (t : State) (L : List Loc) (E : String) (ce : Cell), B.U.heap = t.heap ∧ B.U.vm = t.vm ∧ XC E (A.U.calling g mk a) t ∧ t.heap[q]? = some ce ∧ ce.vm = .none ∧ A.U.vm.findClass E = some ce.cls ∧ B.locs = A.locs ++ L ∧ (∀ z ∈ L, free z.base) ∧ B.cells = A.cells + mc ∧ B.slots = A.slots + ms
def vx_Back (l : Launch) (R : Room) (p : Program) (e : Env) (below : List Frame) (s : State) (sargs : Array Value) (y : MethodName) (len W9 : Nat)
    (Pre : Pt → Array Value → Prop) (Post : Pt → Array Value → Option Value → Pt → Prop) (PostX : Pt → Array Value → Addr → Pt → Prop) : Prop :=
  ∀ (m : MethodId) (meth : Method) (c : Code) (A : Pt) (g : JFrame) (ig : Instr) (mk : MethodId) (a : Array Value),
    Stand p l e R s m sargs below meth c A.U A.locs A.cells A.slots → g.method = m → g.locals.size = c.maxLocals → decode c.code g.pc = .ok (ig, len) →
    2 * g.monitorRoom + (g.stack.map fun v => v.category).sum ≤ W9 → A.U.methodNamed? y = some mk → Pre A a →
    (∃ (v : Option Value) (B : Pt), Stand p l e R s m sargs below meth c B.U B.locs B.cells B.slots ∧ Post A a v B ∧
      Steps p.tables e below (doInvoke e (A.U.setTop g) [] mk a).1 (B.U.setTop { g with pc := g.pc + len, stack := v.toList ++ g.stack })) ∨
    (∃ (q : Addr) (B : Pt), Stand p l e R s m sargs below meth c B.U B.locs B.cells B.slots ∧ PostX A a q B ∧
      Steps p.tables e below (doInvoke e (A.U.setTop g) [] mk a).1 ((B.U.setTop g).pushFrame (.throwing q)))
section Payer
variable {l : Launch} {R : Room} {p : Program} {e : Env} {below : List Frame} {s : State} {sargs : Array Value} {y : MethodName} {len W9 : Nat}
theorem vx_back {ws : List Cond} {rm : Room} {Pc : Array Value → State → Prop} {Qc : Array Value → State → Outcome → State → Prop} {XC : String → State → State → Prop} {mc ms : Nat} {free : Addr → Prop} {bytes : ByteArray} {maxL : Nat} {ret : Option FieldType}
    (hM : vx_Met l y ws rm Pc Qc XC mc ms free) (hblind : FrameBlind Pc) (hrc : rm.cells = mc) (hrs : rm.slots = ms)
    (hframes : rm.frames + 1 ≤ R.frames) (hlocals : W9 + (maxL + 11) + rm.locals ≤ R.locals)
    (hws : ∀ w ∈ ws, ∀ a' U, s.WarmedH U.vm → w.before a' U = true) (hcode : Cond.code y bytes maxL ret ∈ ws) (hinit : ∀ a' U, s.WarmedH U.vm → (Cond.initialized y.cls).before a' U = true) :
    vx_Back l R p e below s sargs y len W9 (PreOf R mc ms Pc) (PostOf Qc mc ms free) (vx_Post XC mc ms free) := by
  intro m meth c A g ig mk a X hg hsize hdg hW hn hp
  have h1 : (headSpec ws rm).pre.before a A.U = true := atoms_intro fun w hw => hws w hw _ _ X.warmed
  have h2 : (Cond.code y bytes maxL ret).before a A.U = true := hws _ hcode _ _ X.warmed
  have h3 : (Cond.initialized y.cls).before a A.U = true := hinit _ _ X.warmed
  have h4 : A.cells + (headSpec ws rm).room.cells ≤ R.cells := by rw [show (headSpec ws rm).room.cells = mc from hrc]; exact hp.1
  have h5 : A.slots + (headSpec ws rm).room.slots ≤ R.slots := by rw [show (headSpec ws rm).room.slots = ms from hrs]; exact hp.2.1
  have hPc : Pc a (A.U.calling g mk a) := hblind _ _ _ _ hp.2.2
  obtain ⟨U, Ls, c0, s0⟩ := A
  dsimp only [Pt.U, Pt.locs, Pt.cells, Pt.slots] at h1 h2 h3 h4 h5 X hn hPc ⊢
  obtain ⟨methY, cY, hmY, hcY, -, hlY, -, -, -, -⟩ := Cond.code_spec hn h2
  obtain ⟨kY, hkY, -⟩ := className_of_methodNamed hn
  have hinitY : kY.init = .initialized := Cond.initialized_spec (findClass_of_methodNamed hn) hkY h3
  have h : At U g.method c below := by rw [hg]; exact X.here
  have hlocals9 : W9 + (maxL + 11) + (headSpec ws rm).room.locals ≤ R.locals := hlocals
  have happ : (headSpec ws rm).appliesLoose y e.platform (U.calling g mk a) = true :=
    Spec.appliesLoose_calling (g := g) h hdg hn hkY hinitY
      (X.room_calling (g := g) (R' := (headSpec ws rm).room) hsize hmY hcY hframes (by rw [hlY]; omega) h4 h5) h1
  obtain ⟨mid, hmid⟩ := h.above
  have hfr : (U.setTop g).frames = (.java g :: mid) ++ below := by rw [State.frames_setTop' g h.top, hmid]; rfl
  obtain ⟨o, s₂, hsteps, -, hend, hq⟩ := Steps.callFree hM p X.admits X.cas X.clock (acts := []) hfr happ hPc trivial
  have hq' : vx_Q Qc XC mc ms free a (U.calling g mk a) o s₂ := hq
  rw [State.frames_setTop' g h.top] at hend
  obtain ⟨g₀, hg0⟩ := Option.isSome_iff_exists.mp h.top
  obtain ⟨r, hr⟩ := State.topJava?_eq_some.mp hg0
  have hr' : (({ U with heap := s₂.heap, slotsUsed := s₂.slotsUsed } : State).setVm s₂.vm).frames = .java g₀ :: r := hr
  rcases hq' with ⟨hqc, L, hfe, hL⟩ | ⟨q, rfl, E, ce, L, hx, hce, hcv, hcl, hW₂, hsm, hL⟩
  · obtain ⟨⟨v, rfl⟩, hW₂, e2, q2, q3, q4, q5, q6⟩ := id hfe
    have e3 : s₂ = ({ (U.calling g mk a).setFrames s₂.frames with heap := s₂.heap, slotsUsed := s₂.slotsUsed } : State).setVm s₂.vm := by
      have : s₂ = ({ s₂ with vm := (U.calling g mk a).vm } : State).setVm s₂.vm := rfl
      rw [e2] at this
      exact this
    obtain ⟨c₂, i₂, len₂, hc₂, hd₂, hf₂⟩ := hend
    have hW' : U.WarmedH s₂.vm := hW₂
    have hcc : c₂ = c := by
      have h1 : s₂.code? g.method = U.code? g.method := by
        rw [State.code?_eq, State.code?_eq, hW'.alike.method?]
      exact Option.some.inj (hc₂.symm.trans (h1.trans h.code))
    subst hcc
    have hlen : len₂ = len := by rw [hdg] at hd₂; cases hd₂; rfl
    subst hlen
    have hs₂ : s₂ = (({ U with heap := s₂.heap, slotsUsed := s₂.slotsUsed } : State).setVm s₂.vm).setTop { g with pc := g.pc + len₂, stack := v.toList ++ g.stack } := by
      refine e3.trans ?_
      rw [hf₂, State.calling_eq h.top, State.setFrames_setFrames, State.setTop_of_frames _ hr', hr]
      rfl
    have hsame : U.sameButNew ({ U with heap := s₂.heap, slotsUsed := s₂.slotsUsed } : State) L mc ms := by
      refine ⟨?_, q2, q3, q4, q5, q6⟩
      obtain ⟨t, ht, -⟩ := State.frames_cons hr
      show ({ U with heap := s₂.heap, slotsUsed := s₂.slotsUsed } : State) = { U.setFrames U.frames with heap := s₂.heap, slotsUsed := s₂.slotsUsed }
      rw [State.setFrames_self ht]
    subst hg
    refine Or.inl ⟨v, ⟨(({ U with heap := s₂.heap, slotsUsed := s₂.slotsUsed } : State).setVm s₂.vm), Ls ++ L, c0 + mc, s0 + ms⟩,
      ⟨X.admits, X.cas, X.clock, X.frames, X.room, X.hears, X.method, X.code, (X.here.setHeapUsed s₂.heap s₂.slotsUsed).setVm hW'.alike, X.tail, State.WarmedH.trans X.warmed hW', X.limits, X.bytes, X.same.trans (hsame.setVm s.vm)⟩,
      ⟨g, mk, s₂, L, rfl, rfl, hqc, rfl, hL, rfl, rfl⟩, ?_⟩
    show Steps p.tables e below _ ((({ U with heap := s₂.heap, slotsUsed := s₂.slotsUsed } : State).setVm s₂.vm).setTop { g with pc := g.pc + len₂, stack := v.toList ++ g.stack })
    rw [← hs₂]
    exact hsteps
  · obtain ⟨e2, q2, q3, q4, q5, q6⟩ := id hsm
    have e3 : s₂ = ({ (U.calling g mk a).setFrames s₂.frames with heap := s₂.heap, slotsUsed := s₂.slotsUsed } : State).setVm s₂.vm := by
      have : s₂ = ({ s₂ with vm := (U.calling g mk a).vm } : State).setVm s₂.vm := rfl
      rw [e2] at this
      exact this
    have hf₂ : s₂.frames = .throwing q :: .java g :: U.frames.tail := hend
    have hW' : U.WarmedH s₂.vm := hW₂
    have hs₂ : s₂ = ((({ U with heap := s₂.heap, slotsUsed := s₂.slotsUsed } : State).setVm s₂.vm).setTop g).pushFrame (.throwing q) := by
      refine e3.trans ?_
      rw [hf₂, State.calling_eq h.top, State.setFrames_setFrames, State.pushFrame, State.frames_setTop _ hr', State.setTop_of_frames _ hr', State.setFrames_setFrames, hr]
      rfl
    have hsame : U.sameButNew ({ U with heap := s₂.heap, slotsUsed := s₂.slotsUsed } : State) L mc ms := by
      refine ⟨?_, q2, q3, q4, q5, q6⟩
      obtain ⟨t, ht, -⟩ := State.frames_cons hr
      show ({ U with heap := s₂.heap, slotsUsed := s₂.slotsUsed } : State) = { U.setFrames U.frames with heap := s₂.heap, slotsUsed := s₂.slotsUsed }
      rw [State.setFrames_self ht]
    subst hg
    refine Or.inr ⟨q, ⟨(({ U with heap := s₂.heap, slotsUsed := s₂.slotsUsed } : State).setVm s₂.vm), Ls ++ L, c0 + mc, s0 + ms⟩,
      ⟨X.admits, X.cas, X.clock, X.frames, X.room, X.hears, X.method, X.code, (X.here.setHeapUsed s₂.heap s₂.slotsUsed).setVm hW'.alike, X.tail, State.WarmedH.trans X.warmed hW', X.limits, X.bytes, X.same.trans (hsame.setVm s.vm)⟩,
      ⟨g, mk, s₂, L, E, ce, rfl, rfl, hx, hce, hcv, hcl, rfl, hL, rfl, rfl⟩, ?_⟩
    show Steps p.tables e below _ (((({ U with heap := s₂.heap, slotsUsed := s₂.slotsUsed } : State).setVm s₂.vm).setTop g).pushFrame (.throwing q))
    rw [← hs₂]
    exact hsteps
end Payer
section Calls
variable {p : Program} {l : Launch} {e : Env} {R : Room} {s : State} {m : MethodId} {args : Array Value} {below : List Frame} {meth : Method} {c : Code} {T : State} {locs : List Loc} {cells slots : Nat}
theorem vx_callV (X : Stand p l e R s m args below meth c T locs cells slots) (hexec : p.tables.exec = Jvm.exec) {own C : String} {index : Nat} {y : MethodName} {bytes : ByteArray} {maxL : Nat} {ret : Option FieldType}
    (hown : s.vm.findClass own = some m.cls) (hlink : (Cond.methodLink own index y).before args s = true) (hinst : (Cond.instanceMethod y).before args s = true) (hsel : (Cond.selects C y y).before args s = true)
    (hcode : (Cond.code y bytes maxL ret).before args s = true) (hy : y.cls ≠ "java/lang/invoke/MethodHandle" ∧ y.cls ≠ "java/lang/invoke/VarHandle")
    {W9 : Nat} {Pre : Pt → Array Value → Prop} {Post : Pt → Array Value → Option Value → Pt → Prop} {PostX : Pt → Array Value → Addr → Pt → Prop} (hK : vx_Back l R p e below s args y 3 W9 Pre Post PostX)
    {b : Addr} {cellB : Cell} (hcell : T.heap[b]? = some cellB) (hobj : cellB.vm.isStatics = false) (hcls : s.vm.findClass C = some cellB.cls)
    {g : JFrame} (hg : g.method = m) (hsize : g.locals.size = c.maxLocals) {argsL rest : List Value} (hlen : ∀ sig, parseMethodDescriptor y.desc = some sig → argsL.length = sig.parameters.length)
    (hstack : g.stack = argsL.reverse ++ .ref b :: rest) (hW : 2 * g.monitorRoom + (rest.map fun v => v.category).sum ≤ W9) (hdg : decode c.code g.pc = .ok (.invokevirtual index, 3))
    (hpre : ∀ vm₁, s.WarmedH vm₁ → Pre ⟨T.setVm vm₁, locs, cells, slots⟩ (Value.ref b :: argsL).toArray) :
    (∃ (v : Option Value) (vm₁ : Vm) (B : Pt), s.WarmedH vm₁ ∧ Stand p l e R s m args below meth c B.U B.locs B.cells B.slots ∧ Post ⟨T.setVm vm₁, locs, cells, slots⟩ (Value.ref b :: argsL).toArray v B ∧
      ∀ target, Steps p.tables e below (B.U.setTop { g with pc := g.pc + 3, stack := v.toList ++ rest }) target → Steps p.tables e below (T.setTop g) target) ∨
    (∃ (q : Addr) (vm₁ : Vm) (B : Pt), s.WarmedH vm₁ ∧ Stand p l e R s m args below meth c B.U B.locs B.cells B.slots ∧ PostX ⟨T.setVm vm₁, locs, cells, slots⟩ (Value.ref b :: argsL).toArray q B ∧
      Steps p.tables e below (T.setTop g) ((B.U.setTop { g with stack := rest }).pushFrame (.throwing q))) := by
  obtain ⟨mk, methM, hnamed, hmethM, hstM, habM⟩ := Cond.instanceMethod_spec hinst
  obtain ⟨methM', cM, hmethM', -, -, -, -, -, -, hsigM⟩ := Cond.code_spec hnamed hcode
  cases hmethM.symm.trans hmethM'
  obtain ⟨c2, r2, m2, q1, q2, q3, q4, kP, hkP, hkPi⟩ := Cond.selects_spec hsel
  cases hcls.symm.trans q1
  cases (State.methodFound?_of_named hnamed hy).symm.trans q2
  cases hnamed.symm.trans q3
  have hselP : selectMethod e.platform s.vm cellB.cls mk = .method mk := by rw [Launch.admits_selectMethod X.admits]; exact q4
  obtain ⟨vm₁, X₁, hstep₁⟩ := X.invokevirtual hexec hown hlink hnamed hmethM hstM hkP hkPi hy (a := b) (cell := cellB) hcell
    (fun z h => by rw [h] at hobj; cases hobj) hselP hmethM habM hkP hkPi (g := g) hg (argsL := argsL) (rest := rest) (hlen _ hsigM) hstack hdg
  rcases hK m meth c ⟨T.setVm vm₁, locs, cells, slots⟩ { g with stack := rest } (.invokevirtual index) mk (Value.ref b :: argsL).toArray X₁ hg hsize hdg hW (X₁.named hnamed) (hpre vm₁ X₁.warmed) with ⟨v, B, X', hpost, hsteps⟩ | ⟨q, B, X', hpost, hsteps⟩
  · exact Or.inl ⟨v, vm₁, B, X₁.warmed, X', hpost, fun target h => hstep₁ _ fun acts => by rw [doInvoke_state]; exact hsteps.trans h⟩
  · exact Or.inr ⟨q, vm₁, B, X₁.warmed, X', hpost, hstep₁ _ fun acts => by rw [doInvoke_state]; exact hsteps⟩
theorem vx_callS (X : Stand p l e R s m args below meth c T locs cells slots) (hexec : p.tables.exec = Jvm.exec) {own : String} {index : Nat} {y : MethodName} {bytes : ByteArray} {maxL : Nat} {ret : Option FieldType}
    (hown : s.vm.findClass own = some m.cls) (hlink : (Cond.methodLink own index y).before args s = true) (hstat : (Cond.static y).before args s = true) (hinit : (Cond.initialized y.cls).before args s = true)
    (hcode : (Cond.code y bytes maxL ret).before args s = true) (hy : y.cls ≠ "java/lang/invoke/MethodHandle" ∧ y.cls ≠ "java/lang/invoke/VarHandle")
    {W9 : Nat} {Pre : Pt → Array Value → Prop} {Post : Pt → Array Value → Option Value → Pt → Prop} {PostX : Pt → Array Value → Addr → Pt → Prop} (hK : vx_Back l R p e below s args y 3 W9 Pre Post PostX)
    {g : JFrame} (hg : g.method = m) (hsize : g.locals.size = c.maxLocals) {argsL rest : List Value} (hlen : ∀ sig, parseMethodDescriptor y.desc = some sig → argsL.length = sig.parameters.length)
    (hstack : g.stack = argsL.reverse ++ rest) (hW : 2 * g.monitorRoom + (rest.map fun v => v.category).sum ≤ W9) (hdg : decode c.code g.pc = .ok (.invokestatic index, 3))
    (hpre : ∀ vm₁, s.WarmedH vm₁ → Pre ⟨T.setVm vm₁, locs, cells, slots⟩ argsL.toArray) :
    (∃ (v : Option Value) (vm₁ : Vm) (B : Pt), s.WarmedH vm₁ ∧ Stand p l e R s m args below meth c B.U B.locs B.cells B.slots ∧ Post ⟨T.setVm vm₁, locs, cells, slots⟩ argsL.toArray v B ∧
      ∀ target, Steps p.tables e below (B.U.setTop { g with pc := g.pc + 3, stack := v.toList ++ rest }) target → Steps p.tables e below (T.setTop g) target) ∨
    (∃ (q : Addr) (vm₁ : Vm) (B : Pt), s.WarmedH vm₁ ∧ Stand p l e R s m args below meth c B.U B.locs B.cells B.slots ∧ PostX ⟨T.setVm vm₁, locs, cells, slots⟩ argsL.toArray q B ∧
      Steps p.tables e below (T.setTop g) ((B.U.setTop { g with stack := rest }).pushFrame (.throwing q))) := by
  obtain ⟨mk, hnamed⟩ := Cond.code_named hcode
  obtain ⟨methM, cM, hmethM, -, -, -, -, -, -, hsigM⟩ := Cond.code_spec hnamed hcode
  have hstatic : methM.isStatic = true := Cond.static_spec hnamed hmethM hstat
  obtain ⟨kP, hkP, -⟩ := className_of_methodNamed hnamed
  have hinitP : kP.init = .initialized := Cond.initialized_spec (findClass_of_methodNamed hnamed) hkP hinit
  obtain ⟨vm₁, X₁, hstep₁⟩ := X.invokestatic hexec hown hlink hnamed hmethM hstatic hkP hinitP hy (g := g) hg (argsL := argsL) (rest := rest) (hlen _ hsigM) hstack hdg
  rcases hK m meth c ⟨T.setVm vm₁, locs, cells, slots⟩ { g with stack := rest } (.invokestatic index) mk argsL.toArray X₁ hg hsize hdg hW (X₁.named hnamed) (hpre vm₁ X₁.warmed) with ⟨v, B, X', hpost, hsteps⟩ | ⟨q, B, X', hpost, hsteps⟩
  · exact Or.inl ⟨v, vm₁, B, X₁.warmed, X', hpost, fun target h => hstep₁ _ fun acts => by rw [doInvoke_state]; exact hsteps.trans h⟩
  · exact Or.inr ⟨q, vm₁, B, X₁.warmed, X', hpost, hstep₁ _ fun acts => by rw [doInvoke_state]; exact hsteps⟩
end Calls
theorem vx_cls {s : State} {T : State} {vm₁ : Vm} {E : String} {k : ClassId} (hW : s.WarmedH vm₁) (h : (T.setVm vm₁).vm.findClass E = some k) : s.vm.findClass E = some k := by
  have h1 : vm₁.findClass E = some k := h
  rw [hW.alike.findClass] at h1
  exact h1
/-- the method's frame g, with q thrown over it -/
def vx_W (p : Program) (l : Launch) (e : Env) (R : Room) (s : State) (m : MethodId) (args : Array Value) (below : List Frame) (meth : Method) (c : Code) (H : Heap) (locs : List Loc) (cells slots : Nat) (Q : State → Prop) (g : JFrame) (q : Addr) : Prop :=
  ∀ T : State, T.heap = H → Stand p l e R s m args below meth c T locs cells slots → ∃ t, Steps p.tables e below ((T.setTop g).pushFrame (.throwing q)) t ∧ Q t
def vx_Run (p : Program) (l : Launch) (e : Env) (R : Room) (s : State) (m : MethodId) (args : Array Value) (below : List Frame) (meth : Method) (c : Code) (H : Heap) (locs : List Loc) (cells slots mc ms : Nat) (g : JFrame) (rest : List Value) (Qa : State → Outcome → State → Prop) (XC : String → State → State → Prop) (free : Addr → Prop) : Prop :=
  ∀ T : State, T.heap = H → Stand p l e R s m args below meth c T locs cells slots →
    (∃ (v : Option Value) (st₀ t T' : State) (L : List Loc), st₀.heap = H ∧ Stand p l e R s m args below meth c T' (locs ++ L) (cells + mc) (slots + ms) ∧ (∀ q ∈ L, free q.base) ∧ T'.heap = t.heap ∧ T'.vm = t.vm ∧ Qa st₀ (.returned v) t ∧
      Goes p e below T g T' { g with pc := g.pc + 3, stack := v.toList ++ rest }) ∨
    (∃ (q : Addr) (st₀ t T' : State) (L : List Loc) (E : String) (ce : Cell), st₀.heap = H ∧ Stand p l e R s m args below meth c T' (locs ++ L) (cells + mc) (slots + ms) ∧ (∀ z ∈ L, free z.base) ∧ T'.heap = t.heap ∧ T'.vm = t.vm ∧ XC E st₀ t ∧ t.heap[q]? = some ce ∧ ce.vm = .none ∧ s.vm.findClass E = some ce.cls ∧
      Steps p.tables e below (T.setTop g) ((T'.setTop { g with stack := rest }).pushFrame (.throwing q)))
def vx_X {S : Type} (px : S → Prop) (B : String → S → State → Prop) (A : Nat → Prop) : String → State → State → Prop := fun E st t => ∃ u : S, px u ∧ B E u t ∧ va_F A st t
section Runs
variable {p : Program} {l : Launch} {e : Env} {R : Room} {s : State} {m : MethodId} {args : Array Value} {below : List Frame} {meth : Method} {c : Code} {H : Heap} {locs : List Loc} {cells slots : Nat}
variable {y : MethodName} {bytes cc : ByteArray} {maxL nL mc ms n index : Nat} {ret : Option FieldType} {ws : List Cond} {rm : Room} {Pc : Array Value → State → Prop} {Qc : Array Value → State → Outcome → State → Prop} {XC : String → State → State → Prop} {free : Addr → Prop} {Ts : List Cond} {own C : String} {b : Addr} {As rest : List Value} {g : JFrame}
theorem vx_callBack (cb : CallB R s args own index y bytes maxL ret ws rm mc ms n) (hM : vx_Met l y ws rm Pc Qc XC mc ms free) (hbl : FrameBlind Pc) : vx_Back l R p e below s args y 3 8 (PreOf R mc ms Pc) (PostOf Qc mc ms free) (vx_Post XC mc ms free) := by
  obtain ⟨hrc, hrs, hfr, hlo, hws, hcw, -, hini, -⟩ := cb
  exact vx_back (bytes := bytes) (maxL := maxL) (ret := ret) hM hbl hrc hrs hfr hlo hws hcw (fun a' U hW => word_at hW (Or.inl (by first | rfl | simp [Cond.onTables, Cond.keeps, Cond.steady])) hini)
theorem vx_runV (S : CallFix p m c cc nL s args Ts own) (hM : vx_Met l y ws rm Pc Qc XC mc ms free) (cw : CallW R s args own C index y bytes maxL ret ws rm mc ms n) (hp : PreV s H C b Pc As)
    (hg : g.method = m) (hn : As.length = n) (hsize : g.locals.size = nL) (hstack : g.stack = As.reverse ++ .ref b :: rest) (hW : 2 * g.monitorRoom + (rest.map fun v => v.category).sum ≤ 8) (hdg : decode cc g.pc = .ok (.invokevirtual index, 3)) (hf : cells + mc ≤ R.cells ∧ slots + ms ≤ R.slots) :
    vx_Run p l e R s m args below meth c H locs cells slots mc ms g rest (Qc (Value.ref b :: As).toArray) XC free := by
  have hK : vx_Back l R p e below s args y 3 8 (PreOf R mc ms Pc) (PostOf Qc mc ms free) (vx_Post XC mc ms free) := vx_callBack cw.1 hM hp.1
  obtain ⟨⟨-, -, -, -, -, -, hcode, -, hy, hlen, hl⟩, hin, hse⟩ := cw
  obtain ⟨hx, hb, hml, ho, -⟩ := S
  obtain ⟨-, ⟨cellB, hcB, hoB, hclB⟩, hPc⟩ := hp
  intro T hT X
  rcases vx_callV X hx (C := C) (bytes := bytes) (maxL := maxL) (ret := ret) ho hl hin hse hcode hy hK (by rw [hT]; exact hcB) hoB hclB hg (hsize.trans hml.symm) (argsL := As) (rest := rest) (fun sig h => hn.trans (hlen sig h)) hstack hW (by rw [hb]; exact hdg)
    (fun vm₁ hW₁ => ⟨hf.1, hf.2, hPc (T.setVm vm₁) hT hW₁⟩) with ⟨v, vm₁, ⟨U', l2, c2, s2⟩, hW₁, X', ⟨g', mk, t, L, e1, e2, hq, h1, hL, h2, h3⟩, st⟩ | ⟨q, vm₁, ⟨U', l2, c2, s2⟩, hW₁, X', ⟨g', mk, t, L, E, ce, e1, e2, hq, hce, hcv, hcl, h1, hL, h2, h3⟩, st⟩
  · dsimp only [Pt.U, Pt.locs, Pt.cells, Pt.slots] at X' e1 e2 h1 h2 h3 st
    subst h1; subst h2; subst h3
    exact Or.inl ⟨v, (T.setVm vm₁).calling g' mk (Value.ref b :: As).toArray, t, U', L, hT, X', hL, e1, e2, hq, st⟩
  · dsimp only [Pt.U, Pt.locs, Pt.cells, Pt.slots] at X' e1 e2 h1 h2 h3 st hcl
    subst h1; subst h2; subst h3
    exact Or.inr ⟨q, (T.setVm vm₁).calling g' mk (Value.ref b :: As).toArray, t, U', L, E, ce, hT, X', hL, e1, e2, hq, hce, hcv, vx_cls hW₁ hcl, st⟩
theorem vx_runS (S : CallFix p m c cc nL s args Ts own) (hM : vx_Met l y ws rm Pc Qc XC mc ms free) (cw : CallB R s args own index y bytes maxL ret ws rm mc ms n ∧ (Cond.static y).before args s = true) (hp : PreS s H Pc As)
    (hg : g.method = m) (hn : As.length = n) (hsize : g.locals.size = nL) (hstack : g.stack = As.reverse ++ rest) (hW : 2 * g.monitorRoom + (rest.map fun v => v.category).sum ≤ 8) (hdg : decode cc g.pc = .ok (.invokestatic index, 3)) (hf : cells + mc ≤ R.cells ∧ slots + ms ≤ R.slots) :
    vx_Run p l e R s m args below meth c H locs cells slots mc ms g rest (Qc As.toArray) XC free := by
  have hK : vx_Back l R p e below s args y 3 8 (PreOf R mc ms Pc) (PostOf Qc mc ms free) (vx_Post XC mc ms free) := vx_callBack cw.1 hM hp.1
  obtain ⟨⟨-, -, -, -, -, -, hcode, hini, hy, hlen, hl⟩, hstt⟩ := cw
  obtain ⟨hx, hb, hml, ho, -⟩ := S
  intro T hT X
  rcases vx_callS X hx (bytes := bytes) (maxL := maxL) (ret := ret) ho hl hstt hini hcode hy hK hg (hsize.trans hml.symm) (argsL := As) (rest := rest) (fun sig h => hn.trans (hlen sig h)) hstack hW (by rw [hb]; exact hdg)
    (fun vm₁ hW₁ => ⟨hf.1, hf.2, hp.2 (T.setVm vm₁) hT hW₁⟩) with ⟨v, vm₁, ⟨U', l2, c2, s2⟩, hW₁, X', ⟨g', mk, t, L, e1, e2, hq, h1, hL, h2, h3⟩, st⟩ | ⟨q, vm₁, ⟨U', l2, c2, s2⟩, hW₁, X', ⟨g', mk, t, L, E, ce, e1, e2, hq, hce, hcv, hcl, h1, hL, h2, h3⟩, st⟩
  · dsimp only [Pt.U, Pt.locs, Pt.cells, Pt.slots] at X' e1 e2 h1 h2 h3 st
    subst h1; subst h2; subst h3
    exact Or.inl ⟨v, (T.setVm vm₁).calling g' mk As.toArray, t, U', L, hT, X', hL, e1, e2, hq, st⟩
  · dsimp only [Pt.U, Pt.locs, Pt.cells, Pt.slots] at X' e1 e2 h1 h2 h3 st hcl
    subst h1; subst h2; subst h3
    exact Or.inr ⟨q, (T.setVm vm₁).calling g' mk As.toArray, t, U', L, E, ce, hT, X', hL, e1, e2, hq, hce, hcv, vx_cls hW₁ hcl, st⟩
end Runs
section Rows
variable {p : Program} {l : Launch} {e : Env} {R : Room} {s : State} {m : MethodId} {args : Array Value} {below : List Frame} {meth : Method} {c : Code} {H : Heap} {locs : List Loc} {cells slots : Nat} {Q : State → Prop}
variable {mc ms : Nat} {free : Addr → Prop} {A0 A1 : Nat → Prop} {H0 : Heap} {a : Array Value} {pc : Nat} {ls : Array Slot} {st0 rest : List Value}
theorem vx_keep {st₀ t T' : State} {L : List Loc} (h0 : st₀.heap = H) (e1 : T'.heap = t.heap) (hS : va_S A0 H0 H locs) (hA : ∀ q, q < H.size → A1 q → A0 q) (hf : ∀ q, free q → A0 q) (hL : ∀ q ∈ L, free q.base) (hF : va_F A1 st₀ t) :
    H.size ≤ T'.heap.size ∧ (∀ q : Nat, q < H.size → ¬ A1 q → T'.heap[q]? = H[q]?) ∧ va_S A0 H0 T'.heap (locs ++ L) := by
  obtain ⟨hz, hk⟩ := hF
  rw [h0] at hz hk
  exact ⟨by rw [e1]; exact hz, fun q h1 h2 => by rw [e1]; exact hk q h1 h2,
    ⟨Nat.le_trans hS.1 (by rw [e1]; exact hz), fun q h1 h2 => by rw [e1, hk q (Nat.lt_of_lt_of_le h1 hS.1) (fun z => h2 (hA q (Nat.lt_of_lt_of_le h1 hS.1) z))]; exact hS.2.1 q h1 h2, fun q hq => by
      rcases List.mem_append.mp hq with h | h
      · exact hS.2.2 q h
      · exact hf _ (hL q h)⟩⟩
theorem vx_calli {S SX : Type} {post : Int32 → S → Prop} {px : SX → Prop} {B : S → State → Prop} {BX : String → SX → State → Prop} {AX : Nat → Prop} (hr : vx_Run p l e R s m args below meth c H locs cells slots mc ms (F0 m pc ls st0) rest (va_Qi post B A1 a) (vx_X px BX AX) free) (hS : va_S A0 H0 H locs) (hA : ∀ q, q < H.size → A1 q → A0 q) (hf : ∀ q, free q → A0 q) (hAX : ∀ q, q < H.size → AX q → A0 q)
    (kx : ∀ (E : String) (ce : Cell) (q9 : Addr) (u : SX) (t : State) (H1 : Heap) (locs1 : List Loc), t.heap = H1 → s.vm.Alike t.vm → px u → BX E u t → H.size ≤ H1.size → (∀ q : Nat, q < H.size → ¬ AX q → H1[q]? = H[q]?) → va_S A0 H0 H1 locs1 → H1[q9]? = some ce → ce.vm = .none → s.vm.findClass E = some ce.cls → vx_W p l e R s m args below meth c H1 locs1 (cells + mc) (slots + ms) Q (F0 m pc ls rest) q9)
    (kk : ∀ (r : Int32) (u : S) (t : State) (H1 : Heap) (locs1 : List Loc), t.heap = H1 → s.vm.Alike t.vm → post r u → B u t → H.size ≤ H1.size → (∀ q : Nat, q < H.size → ¬ A1 q → H1[q]? = H[q]?) → va_S A0 H0 H1 locs1 → W p l e R s m args below meth c H1 locs1 (cells + mc) (slots + ms) Q (F0 m (pc + 3) ls (.int r :: rest))) : W p l e R s m args below meth c H locs cells slots Q (F0 m pc ls st0) := by
  intro T hT X
  rcases hr T hT X with ⟨v, st₀, t, T', L, h0, X', hL, e1, e2, ⟨⟨r, u, hv, hp, hb⟩, hF⟩, st⟩ | ⟨q, st₀, t, T', L, E, ce, h0, X', hL, e1, e2, ⟨u, hp, hb, hF⟩, hce, hcv, hcl, st⟩
  · cases hv
    obtain ⟨k1, k2, k3⟩ := vx_keep h0 e1 hS hA hf hL hF
    obtain ⟨t2, a1, b1⟩ := kk r u t T'.heap (locs ++ L) e1.symm (by rw [← e2]; exact X'.warmed.alike) hp hb k1 k2 k3 T' rfl X'
    exact ⟨t2, st t2 a1, b1⟩
  · obtain ⟨k1, k2, k3⟩ := vx_keep h0 e1 hS hAX hf hL hF
    obtain ⟨t2, a1, b1⟩ := kx E ce q u t T'.heap (locs ++ L) e1.symm (by rw [← e2]; exact X'.warmed.alike) hp hb k1 k2 k3 (by rw [e1]; exact hce) hcv hcl T' rfl X'
    exact ⟨t2, st.trans a1, b1⟩
theorem vx_calll {S SX : Type} {post : Int64 → S → Prop} {px : SX → Prop} {B : S → State → Prop} {BX : String → SX → State → Prop} {AX : Nat → Prop} (hr : vx_Run p l e R s m args below meth c H locs cells slots mc ms (F0 m pc ls st0) rest (va_Ql post B A1 a) (vx_X px BX AX) free) (hS : va_S A0 H0 H locs) (hA : ∀ q, q < H.size → A1 q → A0 q) (hf : ∀ q, free q → A0 q) (hAX : ∀ q, q < H.size → AX q → A0 q)
    (kx : ∀ (E : String) (ce : Cell) (q9 : Addr) (u : SX) (t : State) (H1 : Heap) (locs1 : List Loc), t.heap = H1 → s.vm.Alike t.vm → px u → BX E u t → H.size ≤ H1.size → (∀ q : Nat, q < H.size → ¬ AX q → H1[q]? = H[q]?) → va_S A0 H0 H1 locs1 → H1[q9]? = some ce → ce.vm = .none → s.vm.findClass E = some ce.cls → vx_W p l e R s m args below meth c H1 locs1 (cells + mc) (slots + ms) Q (F0 m pc ls rest) q9)
    (kk : ∀ (r : Int64) (u : S) (t : State) (H1 : Heap) (locs1 : List Loc), t.heap = H1 → s.vm.Alike t.vm → post r u → B u t → H.size ≤ H1.size → (∀ q : Nat, q < H.size → ¬ A1 q → H1[q]? = H[q]?) → va_S A0 H0 H1 locs1 → W p l e R s m args below meth c H1 locs1 (cells + mc) (slots + ms) Q (F0 m (pc + 3) ls (.long r :: rest))) : W p l e R s m args below meth c H locs cells slots Q (F0 m pc ls st0) := by
  intro T hT X
  rcases hr T hT X with ⟨v, st₀, t, T', L, h0, X', hL, e1, e2, ⟨⟨r, u, hv, hp, hb⟩, hF⟩, st⟩ | ⟨q, st₀, t, T', L, E, ce, h0, X', hL, e1, e2, ⟨u, hp, hb, hF⟩, hce, hcv, hcl, st⟩
  · cases hv
    obtain ⟨k1, k2, k3⟩ := vx_keep h0 e1 hS hA hf hL hF
    obtain ⟨t2, a1, b1⟩ := kk r u t T'.heap (locs ++ L) e1.symm (by rw [← e2]; exact X'.warmed.alike) hp hb k1 k2 k3 T' rfl X'
    exact ⟨t2, st t2 a1, b1⟩
  · obtain ⟨k1, k2, k3⟩ := vx_keep h0 e1 hS hAX hf hL hF
    obtain ⟨t2, a1, b1⟩ := kx E ce q u t T'.heap (locs ++ L) e1.symm (by rw [← e2]; exact X'.warmed.alike) hp hb k1 k2 k3 (by rw [e1]; exact hce) hcv hcl T' rfl X'
    exact ⟨t2, st.trans a1, b1⟩
theorem vx_callf {S SX : Type} {post : UInt32 → S → Prop} {px : SX → Prop} {B : S → State → Prop} {BX : String → SX → State → Prop} {AX : Nat → Prop} (hr : vx_Run p l e R s m args below meth c H locs cells slots mc ms (F0 m pc ls st0) rest (va_Qf post B A1 a) (vx_X px BX AX) free) (hS : va_S A0 H0 H locs) (hA : ∀ q, q < H.size → A1 q → A0 q) (hf : ∀ q, free q → A0 q) (hAX : ∀ q, q < H.size → AX q → A0 q)
    (kx : ∀ (E : String) (ce : Cell) (q9 : Addr) (u : SX) (t : State) (H1 : Heap) (locs1 : List Loc), t.heap = H1 → s.vm.Alike t.vm → px u → BX E u t → H.size ≤ H1.size → (∀ q : Nat, q < H.size → ¬ AX q → H1[q]? = H[q]?) → va_S A0 H0 H1 locs1 → H1[q9]? = some ce → ce.vm = .none → s.vm.findClass E = some ce.cls → vx_W p l e R s m args below meth c H1 locs1 (cells + mc) (slots + ms) Q (F0 m pc ls rest) q9)
    (kk : ∀ (r : UInt32) (u : S) (t : State) (H1 : Heap) (locs1 : List Loc), t.heap = H1 → s.vm.Alike t.vm → post r u → B u t → H.size ≤ H1.size → (∀ q : Nat, q < H.size → ¬ A1 q → H1[q]? = H[q]?) → va_S A0 H0 H1 locs1 → W p l e R s m args below meth c H1 locs1 (cells + mc) (slots + ms) Q (F0 m (pc + 3) ls (.float r :: rest))) : W p l e R s m args below meth c H locs cells slots Q (F0 m pc ls st0) := by
  intro T hT X
  rcases hr T hT X with ⟨v, st₀, t, T', L, h0, X', hL, e1, e2, ⟨⟨r, u, hv, hp, hb⟩, hF⟩, st⟩ | ⟨q, st₀, t, T', L, E, ce, h0, X', hL, e1, e2, ⟨u, hp, hb, hF⟩, hce, hcv, hcl, st⟩
  · cases hv
    obtain ⟨k1, k2, k3⟩ := vx_keep h0 e1 hS hA hf hL hF
    obtain ⟨t2, a1, b1⟩ := kk r u t T'.heap (locs ++ L) e1.symm (by rw [← e2]; exact X'.warmed.alike) hp hb k1 k2 k3 T' rfl X'
    exact ⟨t2, st t2 a1, b1⟩
  · obtain ⟨k1, k2, k3⟩ := vx_keep h0 e1 hS hAX hf hL hF
    obtain ⟨t2, a1, b1⟩ := kx E ce q u t T'.heap (locs ++ L) e1.symm (by rw [← e2]; exact X'.warmed.alike) hp hb k1 k2 k3 (by rw [e1]; exact hce) hcv hcl T' rfl X'
    exact ⟨t2, st.trans a1, b1⟩
theorem vx_calld {S SX : Type} {post : UInt64 → S → Prop} {px : SX → Prop} {B : S → State → Prop} {BX : String → SX → State → Prop} {AX : Nat → Prop} (hr : vx_Run p l e R s m args below meth c H locs cells slots mc ms (F0 m pc ls st0) rest (va_Qd post B A1 a) (vx_X px BX AX) free) (hS : va_S A0 H0 H locs) (hA : ∀ q, q < H.size → A1 q → A0 q) (hf : ∀ q, free q → A0 q) (hAX : ∀ q, q < H.size → AX q → A0 q)
    (kx : ∀ (E : String) (ce : Cell) (q9 : Addr) (u : SX) (t : State) (H1 : Heap) (locs1 : List Loc), t.heap = H1 → s.vm.Alike t.vm → px u → BX E u t → H.size ≤ H1.size → (∀ q : Nat, q < H.size → ¬ AX q → H1[q]? = H[q]?) → va_S A0 H0 H1 locs1 → H1[q9]? = some ce → ce.vm = .none → s.vm.findClass E = some ce.cls → vx_W p l e R s m args below meth c H1 locs1 (cells + mc) (slots + ms) Q (F0 m pc ls rest) q9)
    (kk : ∀ (r : UInt64) (u : S) (t : State) (H1 : Heap) (locs1 : List Loc), t.heap = H1 → s.vm.Alike t.vm → post r u → B u t → H.size ≤ H1.size → (∀ q : Nat, q < H.size → ¬ A1 q → H1[q]? = H[q]?) → va_S A0 H0 H1 locs1 → W p l e R s m args below meth c H1 locs1 (cells + mc) (slots + ms) Q (F0 m (pc + 3) ls (.double r :: rest))) : W p l e R s m args below meth c H locs cells slots Q (F0 m pc ls st0) := by
  intro T hT X
  rcases hr T hT X with ⟨v, st₀, t, T', L, h0, X', hL, e1, e2, ⟨⟨r, u, hv, hp, hb⟩, hF⟩, st⟩ | ⟨q, st₀, t, T', L, E, ce, h0, X', hL, e1, e2, ⟨u, hp, hb, hF⟩, hce, hcv, hcl, st⟩
  · cases hv
    obtain ⟨k1, k2, k3⟩ := vx_keep h0 e1 hS hA hf hL hF
    obtain ⟨t2, a1, b1⟩ := kk r u t T'.heap (locs ++ L) e1.symm (by rw [← e2]; exact X'.warmed.alike) hp hb k1 k2 k3 T' rfl X'
    exact ⟨t2, st t2 a1, b1⟩
  · obtain ⟨k1, k2, k3⟩ := vx_keep h0 e1 hS hAX hf hL hF
    obtain ⟨t2, a1, b1⟩ := kx E ce q u t T'.heap (locs ++ L) e1.symm (by rw [← e2]; exact X'.warmed.alike) hp hb k1 k2 k3 (by rw [e1]; exact hce) hcv hcl T' rfl X'
    exact ⟨t2, st.trans a1, b1⟩
theorem vx_callv {S SX : Type} {post : S → Prop} {px : SX → Prop} {B : S → State → Prop} {BX : String → SX → State → Prop} {AX : Nat → Prop} (hr : vx_Run p l e R s m args below meth c H locs cells slots mc ms (F0 m pc ls st0) rest (va_Qv post B A1 a) (vx_X px BX AX) free) (hS : va_S A0 H0 H locs) (hA : ∀ q, q < H.size → A1 q → A0 q) (hf : ∀ q, free q → A0 q) (hAX : ∀ q, q < H.size → AX q → A0 q)
    (kx : ∀ (E : String) (ce : Cell) (q9 : Addr) (u : SX) (t : State) (H1 : Heap) (locs1 : List Loc), t.heap = H1 → s.vm.Alike t.vm → px u → BX E u t → H.size ≤ H1.size → (∀ q : Nat, q < H.size → ¬ AX q → H1[q]? = H[q]?) → va_S A0 H0 H1 locs1 → H1[q9]? = some ce → ce.vm = .none → s.vm.findClass E = some ce.cls → vx_W p l e R s m args below meth c H1 locs1 (cells + mc) (slots + ms) Q (F0 m pc ls rest) q9)
    (kk : ∀ (u : S) (t : State) (H1 : Heap) (locs1 : List Loc), t.heap = H1 → s.vm.Alike t.vm → post u → B u t → H.size ≤ H1.size → (∀ q : Nat, q < H.size → ¬ A1 q → H1[q]? = H[q]?) → va_S A0 H0 H1 locs1 → W p l e R s m args below meth c H1 locs1 (cells + mc) (slots + ms) Q (F0 m (pc + 3) ls (rest))) : W p l e R s m args below meth c H locs cells slots Q (F0 m pc ls st0) := by
  intro T hT X
  rcases hr T hT X with ⟨v, st₀, t, T', L, h0, X', hL, e1, e2, ⟨⟨u, hv, hp, hb⟩, hF⟩, st⟩ | ⟨q, st₀, t, T', L, E, ce, h0, X', hL, e1, e2, ⟨u, hp, hb, hF⟩, hce, hcv, hcl, st⟩
  · cases hv
    obtain ⟨k1, k2, k3⟩ := vx_keep h0 e1 hS hA hf hL hF
    obtain ⟨t2, a1, b1⟩ := kk u t T'.heap (locs ++ L) e1.symm (by rw [← e2]; exact X'.warmed.alike) hp hb k1 k2 k3 T' rfl X'
    exact ⟨t2, st t2 a1, b1⟩
  · obtain ⟨k1, k2, k3⟩ := vx_keep h0 e1 hS hAX hf hL hF
    obtain ⟨t2, a1, b1⟩ := kx E ce q u t T'.heap (locs ++ L) e1.symm (by rw [← e2]; exact X'.warmed.alike) hp hb k1 k2 k3 (by rw [e1]; exact hce) hcv hcl T' rfl X'
    exact ⟨t2, st.trans a1, b1⟩
/-- caught by the row x of this method's table; the rows ahead don't take it -/
theorem vx_catch {own name : String} {E : String} {ce : Cell} {q : Addr} (hown : s.vm.findClass own = some m.cls) (pre : List ExceptionTableEntry) (x : ExceptionTableEntry) (suf : List ExceptionTableEntry) (hsplit : c.exceptionTable.toList = pre ++ x :: suf)
    (hpass : ∀ z ∈ pre, covers z pc = false ∨ (z.catchType ≠ 0 ∧ ∃ nm : String, (Cond.classLink own z.catchType nm).before args s = true ∧ va_Nc E nm s)) (hx : covers x pc = true) (h0 : x.catchType ≠ 0)
    (hlink : (Cond.classLink own x.catchType name).before args s = true) (hcast : (Cond.castable E name).before args s = true) (hcell : H[q]? = some ce) (hv : ce.vm = .none) (hcl : s.vm.findClass E = some ce.cls)
    (kk : W p l e R s m args below meth c H locs cells slots Q (F0 m x.handlerPc ls [.ref q])) : vx_W p l e R s m args below meth c H locs cells slots Q (F0 m pc ls rest) q := by
  intro T hT X
  have hpl : e.platform.magicAccessors = ({} : Platform).magicAccessors := by rw [X.admits.platform]
  obtain ⟨c3, c4, hc3, hc4, hasg⟩ := Cond.castable_spec hcast
  cases Option.some.inj (hc3.symm.trans hcl)
  obtain ⟨c5, hc5, hcl5⟩ := Cond.classLink_spec hown hlink e.platform hpl
  cases Option.some.inj (hc4.symm.trans hc5)
  obtain ⟨vm', X', st⟩ := X.thenCaughtThrough q (g := F0 m pc ls rest) rfl (Steps.refl _) (by rw [hT]; exact hcell) (by rw [hv]; rfl) (by obtain ⟨k9, h9, -⟩ := Vm.findClass_spec hcl; exact ⟨k9, h9⟩) pre x suf hsplit
    (fun z hz => by
      rcases hpass z hz with h | ⟨hz0, nm, hl1, hn1⟩
      · exact Or.inl h
      · obtain ⟨c6, hc6, hcl6⟩ := Cond.classLink_spec hown hl1 e.platform hpl
        obtain ⟨a8, b8, h1, h2, h3⟩ := hn1
        cases Option.some.inj (h1.symm.trans hcl)
        cases Option.some.inj (h2.symm.trans hc6)
        exact Or.inr ⟨hz0, _, hcl6, h3⟩) hx (Or.inr ⟨h0, c4, hcl5, hasg⟩)
  obtain ⟨t, a1, b1⟩ := kk (T.setVm vm') hT X'
  exact ⟨t, st.trans a1, b1⟩
end Rows
section Ends
variable {p : Program} {l : Launch} {e : Env} {R : Room} {s : State} {m : MethodId} {args : Array Value} {below : List Frame} {meth : Method} {c : Code} {H : Heap} {locs : List Loc} {cells slots : Nat} {Q : State → Prop}
variable {mc ms : Nat} {free : Addr → Prop} {A0 A1 : Nat → Prop} {H0 : Heap} {a : Array Value} {ls : Array Slot} {st0 rest : List Value}
variable {Qc : Array Value → State → Outcome → State → Prop} {XC : String → State → State → Prop}
/-- what a body that may throw owes at its end -/
def vx_MQ (below : List Frame) (Qc : Array Value → State → Outcome → State → Prop) (XC : String → State → State → Prop) (a : Array Value) (s : State) (mc ms : Nat) (free : Addr → Prop) : State → Prop := fun t =>
  ∃ o, t.status = .running ∧ Ended t below o ∧ vx_Q Qc XC mc ms free a s o t
theorem vx_ret {g : JFrame} {mc ms : Nat} (k : W p l e R s m args below meth c H locs cells slots (MQ below Qc args s mc ms free) g) : W p l e R s m args below meth c H locs cells slots (vx_MQ below Qc XC args s mc ms free) g := by
  intro T hT X
  obtain ⟨t, a1, o, b1, b2, b3, b4⟩ := k T hT X
  exact ⟨t, a1, o, b1, b2, Or.inl ⟨b3, b4⟩⟩
/-- not caught here: it goes on to the caller -/
theorem vx_widen {g : JFrame} {q : Addr} {k n : Nat} (h1 : cells ≤ k) (h2 : slots ≤ n) (kk : vx_W p l e R s m args below meth c H locs k n Q g q) : vx_W p l e R s m args below meth c H locs cells slots Q g q := fun T hT X => kk T hT (stand_widen X h1 h2)
theorem vx_out {pc : Nat} {E : String} {ce : Cell} {q : Addr} {mc ms : Nat} (hout : ∀ x ∈ c.exceptionTable.toList, covers x pc = false) (hlocks : meth.locks = false) (hcell : H[q]? = some ce) (hv : ce.vm = .none) (hcl : s.vm.findClass E = some ce.cls)
    (hx : ∀ t : State, t.heap = H → s.vm.Alike t.vm → XC E s t) (hf : ∀ z ∈ locs, free z.base) (hc : cells ≤ mc) (hs : slots ≤ ms) :
    vx_W p l e R s m args below meth c H locs cells slots (vx_MQ below Qc XC args s mc ms free) (F0 m pc ls rest) q := by
  intro T hT X
  obtain ⟨st1, hrun, hend, hW, hsm⟩ := X.leaveThrown q (g := F0 m pc ls rest) rfl rfl rfl hout hlocks
  have hcell9 : (T.setFrames (.throwing q :: below)).heap[q]? = some ce := by
    show T.heap[q]? = some ce
    rw [hT]; exact hcell
  exact ⟨_, st1, .threw q, hrun, hend, Or.inr ⟨q, rfl, E, ce, locs, hx _ hT hW.alike, hcell9, hv, hcl, hW, hsm.mono hc hs, hf⟩⟩
theorem vx_frame {U : State} {k n : Nat} (h : s.sameButNew ({ U with vm := s.vm } : State) locs k n) : s.heap.size ≤ U.heap.size ∧ ∀ q : Nat, q < s.heap.size → (∀ z ∈ locs, z.base ≠ q) → U.heap[q]? = s.heap[q]? := by
  obtain ⟨-, h2, -, -, -, h6⟩ := h
  refine ⟨h2, fun q hq hz => ?_⟩
  obtain ⟨c9, e1, e2, e3, e4⟩ := h6 q _ (Array.getElem?_eq_getElem hq)
  have hs : c9.slots = (s.heap[q]).slots := Array.ext_getElem? fun i => e4 i fun hm => hz _ hm rfl
  have h9 : c9 = s.heap[q] := by
    rw [hs] at e2
    exact e2
  have e5 : U.heap[q]? = some c9 := e1
  rw [e5, h9, Array.getElem?_eq_getElem hq]
/-- the words of a throw but the four that speak of the heap -/
def vx_no (w : Cond) : Bool := decide (w ≠ .isRef (.static Bundle.tN "UNASSIGNED_STACK" Bundle.steD)) && decide (w ≠ .isRef (.static Bundle.tN "SUPPRESSED_SENTINEL" Bundle.listD)) && decide (w ≠ .laysStatic Bundle.tN "UNASSIGNED_STACK" Bundle.steD) && decide (w ≠ .laysStatic Bundle.tN "SUPPRESSED_SENTINEL" Bundle.listD)
def vx_at0 (own : String) (ic : Nat) (X : String) (names : List String) : List Cond := (Bundle.ownAtoms0 own ic X names).filter vx_no
def vx_atS (own : String) (ic : Nat) (X : String) (names : List String) : List Cond := (Bundle.ownAtoms own ic X names).filter vx_no
/-- a word that the tables alone decide, or a good one -/
def vx_ot (w : Cond) : Bool := w.onTables || goodWord w
theorem vx_ot_at {args a' : Array Value} {s U : State} {w : Cond} (hW : s.WarmedH U.vm) (hvm : s.vm = U.vm) (hg : vx_ot w = true) (h : w.before args s = true) : w.before a' U = true := by
  simp only [vx_ot, Bool.or_eq_true] at hg
  rcases hg with hg | hg
  · exact va_tabs hg hvm h
  · exact word_at hW (good_of_word hg) h
/-- a list's words: the good ones out of the method's own list, the others by premises of their own -/
theorem vx_hat {args : Array Value} {s : State} {L B : List Cond} (h1 : ∀ w ∈ L.filter goodWord, w.before args s = true) (h2 : ∀ w ∈ L.filter (fun w => !goodWord w), w ∈ B) (h3 : ∀ w ∈ B, w.before args s = true) : ∀ w ∈ L, w.before args s = true := by
  intro w hw
  by_cases g : goodWord w = true
  · exact h1 w (List.mem_filter.mpr ⟨hw, g⟩)
  · refine h3 w (h2 w (List.mem_filter.mpr ⟨hw, ?_⟩))
    show (!goodWord w) = true
    cases hgw : goodWord w
    · rfl
    · exact absurd hgw g
theorem vx_c {args : Array Value} {s : State} {w : Cond} {B : List Cond} (h : w.before args s = true) (t : ∀ w ∈ B, w.before args s = true) : ∀ w' ∈ w :: B, w'.before args s = true := fun w' h' => (List.mem_cons.mp h').elim (fun e => by rw [e]; exact h) (t w')
theorem vx_n {args : Array Value} {s : State} : ∀ w ∈ ([] : List Cond), w.before args s = true := fun _ h => nomatch h
theorem vx_own {args : Array Value} {s : State} {L : List Cond} (h1 : ∀ w ∈ L.filter vx_no, w.before args s = true)
    (hU : (Cond.isRef (.static Bundle.tN "UNASSIGNED_STACK" Bundle.steD)).before args s = true) (hN : (Cond.isRef (.static Bundle.tN "SUPPRESSED_SENTINEL" Bundle.listD)).before args s = true)
    (lU : (Cond.laysStatic Bundle.tN "UNASSIGNED_STACK" Bundle.steD).before args s = true) (lN : (Cond.laysStatic Bundle.tN "SUPPRESSED_SENTINEL" Bundle.listD).before args s = true) : ∀ w ∈ L, w.before args s = true := by
  intro w hw
  by_cases e1 : w = .isRef (.static Bundle.tN "UNASSIGNED_STACK" Bundle.steD)
  · rw [e1]; exact hU
  · by_cases e2 : w = .isRef (.static Bundle.tN "SUPPRESSED_SENTINEL" Bundle.listD)
    · rw [e2]; exact hN
    · by_cases e3 : w = .laysStatic Bundle.tN "UNASSIGNED_STACK" Bundle.steD
      · rw [e3]; exact lU
      · by_cases e4 : w = .laysStatic Bundle.tN "SUPPRESSED_SENTINEL" Bundle.listD
        · rw [e4]; exact lN
        · exact h1 w (List.mem_filter.mpr ⟨hw, by unfold vx_no; rw [decide_eq_true e1, decide_eq_true e2, decide_eq_true e3, decide_eq_true e4]; rfl⟩)
/-- where a static field lies, its class's statics cell in H -/
def vx_L (C n d : String) (A : Nat → Prop) (U : State) (H : Heap) : Prop := ∃ (c : ClassId) (k : Class) (i : Nat) (f : Field) (a : Nat) (cell : Cell), U.vm.findClass C = some c ∧ U.fieldFound? C n d = some (c, k, i, f) ∧ f.isStatic = true ∧ k.statics = some a ∧ H[a]? = some cell ∧ cell.vm.isStatics = true ∧ cell.cls = c ∧ f.slot < cell.slots.size ∧ k.staticTypes[f.slot]? = some f.type ∧ ¬ A a
theorem vx_L.moved {C n d : String} {A : Nat → Prop} {u U : State} {H : Heap} (hvm : u.vm.Alike U.vm) (h : vx_L C n d A u H) : vx_L C n d A U H := by
  obtain ⟨c, k, i, f, a, cell, h1, h2, h3, h4, h5, h6, h7, h8, h9, h10⟩ := h
  obtain ⟨k', hi', he⟩ := State.fieldFound?_setVm hvm h2
  exact ⟨c, k', i, f, a, cell, by rw [hvm.findClass]; exact h1, hi', h3, by rw [he]; exact h4, h5, h6, h7, h8, by rw [he]; exact h9, h10⟩
theorem vx_L.kept {C n d : String} {A : Nat → Prop} {U : State} {H H1 : Heap} (h : vx_L C n d A U H) (hq : ∀ a : Nat, a < H.size → ¬ A a → H1[a]? = H[a]?) : vx_L C n d A U H1 := by
  obtain ⟨c, k, i, f, a, cell, h1, h2, h3, h4, h5, h6, h7, h8, h9, h10⟩ := h
  exact ⟨c, k, i, f, a, cell, h1, h2, h3, h4, by rw [hq a (Array.getElem?_eq_some_iff.mp h5).1 h10]; exact h5, h6, h7, h8, h9, h10⟩
theorem vx_L.narrow {C n d : String} {A B : Nat → Prop} {U : State} {H : Heap} (h : vx_L C n d A U H) (hAB : ∀ q, B q → A q) : vx_L C n d B U H := by
  obtain ⟨c, k, i, f, a, cell, h1, h2, h3, h4, h5, h6, h7, h8, h9, h10⟩ := h
  exact ⟨c, k, i, f, a, cell, h1, h2, h3, h4, h5, h6, h7, h8, h9, fun z => h10 (hAB _ z)⟩
theorem vx_L.word {C n d : String} {A : Nat → Prop} {s : State} {args : Array Value} (h : vx_L C n d A s s.heap) : (Cond.laysStatic C n d).before args s = true := by
  obtain ⟨c, k, i, f, a, cell, h1, h2, h3, h4, h5, h6, h7, h8, h9, -⟩ := h
  show (Cond.laysStatic C n d).holds args s none s [] = true
  exact Cond.laysStatic_of h1 h2 h3 h4 h5 h6 h7 h8 h9
/-- .. and what it holds: null or some reference -/
def vx_Zq (C n d : String) (A : Nat → Prop) (U : State) (H : Heap) : Prop := va_Zq C n d A U H ∧ vx_L C n d A U H
theorem vx_Zq.moved {C n d : String} {A : Nat → Prop} {u U : State} {H : Heap} (hvm : u.vm.Alike U.vm) (h : vx_Zq C n d A u H) : vx_Zq C n d A U H := ⟨va_Zq.moved hvm h.1, vx_L.moved hvm h.2⟩
theorem vx_Zq.kept {C n d : String} {A : Nat → Prop} {U : State} {H H1 : Heap} (h : vx_Zq C n d A U H) (hq : ∀ a : Nat, a < H.size → ¬ A a → H1[a]? = H[a]?) : vx_Zq C n d A U H1 := ⟨va_Zq.kept h.1 hq, vx_L.kept h.2 hq⟩
theorem vx_Zq.narrow {C n d : String} {A B : Nat → Prop} {U : State} {H : Heap} (h : vx_Zq C n d A U H) (hAB : ∀ q, B q → A q) : vx_Zq C n d B U H := ⟨va_Zq.narrow h.1 hAB, vx_L.narrow h.2 hAB⟩
theorem vx_Zqof {args : Array Value} {s : State} {C n d : String} {A : Nat → Prop} (hl : (Cond.laysStatic C n d).before args s = true) (hini : (Cond.initialized C).before args s = true) (h : (Cond.isRef (.static C n d)).before args s = true) (hA : ∀ a : Nat, a < s.heap.size → ¬ A a) : vx_Zq C n d A s s.heap := by
  refine ⟨va_Zqof hl hini h hA, ?_⟩
  obtain ⟨c, k, i, f, a, cell, h1, h2, h3, h4, h5, h6, h7, h8, h9⟩ := Cond.laysStatic_spec hl
  exact ⟨c, k, i, f, a, cell, h1, h2, h3, h4, h5, h6, h7, h8, h9, hA a (Array.getElem?_eq_some_iff.mp h5).1⟩
theorem vx_isRef {C n d : String} {v : Value} {A : Nat → Prop} {s : State} {args : Array Value} (h : va_Z C n d v A s s.heap) (hv : v.isRef = true) : (Cond.isRef (.static C n d)).before args s = true := by
  obtain ⟨cf, kf, fi, f, a, cell, h1, h2, h3, h4, h5, h6, h7, -⟩ := h
  have he : (Term.static C n d).eval args s none [] s = some v := by
    simp [Term.eval, State.fieldNamed?, h1, h2, h4, h5, h6, h7]
  simp only [Cond.before, Cond.holds, Cond.value, he]
  cases v <;> simp_all [Value.isRef]
theorem vx_isRefq {C n d : String} {A : Nat → Prop} {s : State} {args : Array Value} (h : va_Zq C n d A s s.heap) : (Cond.isRef (.static C n d)).before args s = true := by
  rcases h with h | ⟨t, h⟩
  · exact vx_isRef h rfl
  · exact vx_isRef h rfl
/-- the same frame, seen from here: as if the method were called anew in this heap -/
theorem vx_rebase {T : State} (X : Stand p l e R s m args below meth c T locs cells slots) {R' : Room} (hf : R'.frames ≤ R.frames) (hl : R'.locals ≤ R.locals) (hc : cells + R'.cells ≤ R.cells) (hs : slots + R'.slots ≤ R.slots) :
    Stand p l e R' ((T.setVm s.vm).setFrames (.invoking m args :: below)) m args below meth c T [] 0 0 := by
  have htop : (T.setVm s.vm).topJava?.isSome := X.here.top
  have hF : ((T.setVm s.vm).setFrames (.invoking m args :: below)).frames = .invoking m args :: below := State.frames_setFrames _ (State.cur_lt_of_top htop)
  obtain ⟨g₀, hg0⟩ := Option.isSome_iff_exists.mp htop
  obtain ⟨r, hr⟩ := State.topJava?_eq_some.mp hg0
  have hl9 : e.platform.stackLimits (T.setVm s.vm).me = e.platform.stackLimits s.me := X.limits
  have hb9 : (T.setVm s.vm).me.stackBytes = s.me.stackBytes := X.bytes
  refine ⟨X.admits, X.cas, X.clock, hF, ?_, X.hears, X.method, X.code, X.here, X.tail, X.warmed, ?_, ?_, ?_⟩
  · have h := X.room
    have hU : ((T.setVm s.vm).setFrames (.invoking m args :: below)).localsInUse = s.localsInUse := by
      rw [State.localsInUse_invoking hF (meth := meth) (c := c) X.method X.code, State.localsInUse_invoking X.frames X.method X.code]
    simp only [State.hasRoom, Bool.and_eq_true, decide_eq_true_eq] at h ⊢
    obtain ⟨⟨⟨⟨h1, h2, h3, h4, h5, h6⟩, h7⟩, h8⟩, h9⟩ := h
    rw [X.frames, List.length_cons] at h2 h3
    have q1 := X.heapSize
    have q2 := X.used
    simp only [hF, hU, List.length_cons, State.stackLimits_setFrames, State.stackBytes_setFrames, hl9, hb9]
    refine ⟨⟨⟨⟨by omega, by omega, by omega, by omega, by omega, h6⟩, ?_⟩, ?_⟩, X.book⟩
    · show T.heap.size + R'.cells ≤ e.platform.maxCells
      omega
    · show T.slotsUsed + R'.slots ≤ e.platform.maxSlots
      omega
  · rw [State.stackLimits_setFrames]; rfl
  · rw [State.stackBytes_setFrames]; rfl
  · refine ⟨?_, Nat.le_refl _, Nat.le_refl _, ?_, ?_, fun a c9 h9 => ⟨c9, h9, rfl, rfl, fun _ _ => rfl⟩⟩
    · obtain ⟨t, ht, -⟩ := State.frames_cons hr
      show T.setVm s.vm = { ((T.setVm s.vm).setFrames (.invoking m args :: below)).setFrames (T.setVm s.vm).frames with heap := T.heap, slotsUsed := T.slotsUsed }
      rw [State.setFrames_setFrames, State.setFrames_self ht]
      rfl
    · show T.slotsUsed = T.slotsUsed + ((T.heap.toList.drop T.heap.size).map (·.slots.size)).sum
      rw [List.drop_eq_nil_of_le (Nat.le_of_eq Array.length_toList)]
      rfl
    · show ((T.heap.toList.drop T.heap.size).map (·.slots.size)).sum ≤ 0
      rw [List.drop_eq_nil_of_le (Nat.le_of_eq Array.length_toList)]
      exact Nat.le_refl _
/-- 'throw new E()': new; dup; invokespecial; athrow -/
theorem vx_throw0 {cc : ByteArray} {pc : Nat} (hexec : p.tables.exec = Jvm.exec) (hb : c.code = cc) (hl : l.stackTraces = false) {own cls : String} {names : List String} {ik ic mc ms : Nat} {A : Nat → Prop}
    (hown : s.vm.findClass own = some m.cls) (hcls : Bundle.fit cls = true) (hnames : ∀ n ∈ names, Bundle.fit n = true)
    (hk : (Cond.classLink own ik cls).before args s = true) (hini : (Cond.initialized cls).before args s = true) (hat : ∀ w ∈ vx_at0 own ic cls names, w.before args s = true)
    (hgood : ∀ w ∈ Cond.classLink own ik cls :: Cond.initialized cls :: vx_at0 own ic cls names, vx_ot w = true)
    (hU : vx_Zq Bundle.tN "UNASSIGNED_STACK" Bundle.steD A s s.heap) (hN : vx_Zq Bundle.tN "SUPPRESSED_SENTINEL" Bundle.listD A s s.heap) (hS : va_S A s.heap H locs) (hsize : ls.size = c.maxLocals)
    (d0 : decode cc pc = .ok (.new ik, 3)) (d3 : decode cc (pc + 3) = .ok (.dup, 1)) (d4 : decode cc (pc + 4) = .ok (.invokespecial ic, 3)) (d7 : decode cc (pc + 7) = .ok (.athrow, 1))
    (hout : ∀ x ∈ c.exceptionTable.toList, covers x (pc + 7) = false)
    (hRframes : names.length + 3 < R.frames) (hRlocals : (rest.map fun v => v.category).sum + (13 * (names.length + 1) + 42) ≤ R.locals) (hRcells : cells + 1 ≤ R.cells) (hRslots : slots + 6 ≤ R.slots) (hlocks : meth.locks = false)
    (hx : ∀ t : State, s.vm.Alike t.vm → H.size ≤ t.heap.size → (∀ q : Nat, q < H.size → t.heap[q]? = H[q]?) → XC cls s t)
    (hf : ∀ z ∈ locs, free z.base) (hc : cells + 1 ≤ mc) (hs : slots + 6 ≤ ms) :
    W p l e R s m args below meth c H locs cells slots (vx_MQ below Qc XC args s mc ms free) (F0 m pc ls rest) := by
  intro T hT X
  have htr : e.platform.stackTraces = false := (show e.platform.stackTraces = l.stackTraces by rw [X.admits.platform]).trans hl
  have Y := vx_rebase X (R' := { frames := R.frames, locals := R.locals, cells := 1, slots := 6 }) (Nat.le_refl _) (Nat.le_refl _) hRcells hRslots
  obtain ⟨s', hA⟩ : ∃ z, z = (T.setVm s.vm).setFrames (.invoking m args :: below) := ⟨_, rfl⟩
  rw [← hA] at Y
  have hvm : s'.vm = s.vm := by rw [hA]; rfl
  have hhp : s'.heap = H := by rw [hA]; exact hT
  have hW0 : s.WarmedH s'.vm := by rw [hvm]; exact State.WarmedH.refl s
  have hat' : ∀ w ∈ vx_at0 own ic cls names, w.before args s' = true := fun w hw => vx_ot_at hW0 hvm.symm (hgood w (List.mem_cons_of_mem _ (List.mem_cons_of_mem _ hw))) (hat w hw)
  have hk' : (Cond.classLink own ik cls).before args s' = true := vx_ot_at hW0 hvm.symm (hgood _ List.mem_cons_self) hk
  have hini' : (Cond.initialized cls).before args s' = true := vx_ot_at hW0 hvm.symm (hgood _ (List.mem_cons_of_mem _ List.mem_cons_self)) hini
  have hU' : vx_Zq Bundle.tN "UNASSIGNED_STACK" Bundle.steD A s' s'.heap := by rw [hhp]; exact vx_Zq.moved hW0.alike (hU.kept hS.2.1)
  have hN' : vx_Zq Bundle.tN "SUPPRESSED_SENTINEL" Bundle.listD A s' s'.heap := by rw [hhp]; exact vx_Zq.moved hW0.alike (hN.kept hS.2.1)
  have h : ∀ w ∈ Bundle.ownAtoms0 own ic cls names, w.before args s' = true := vx_own hat' (vx_isRefq hU'.1) (vx_isRefq hN'.1) hU'.2.word hN'.2.word
  have hown' : s'.vm.findClass own = some m.cls := by rw [hvm]; exact hown
  have hins : (Cond.instantiable cls 6).before args s' = true := h _ (by simp [Bundle.ownAtoms0])
  obtain ⟨vm₁, cX, kX, hfX, hkX, -, -, X₁, st1⟩ := Y.newCold hexec (own := own) (C := cls) (index := ik) (n := 6) hown' hk' hins hini'
    (g := F0 m pc ls rest) rfl (by rw [hb]; exact d0) (Nat.le_refl _) (Nat.le_refl _)
  generalize hT1 : (T.setVm vm₁).pushCell { cls := cX, slots := kX.instanceTypes.map defaultValue, vm := .none } = T1 at X₁ st1
  have hcat : (Value.ref T.heap.size).category = 1 := rfl
  have hcellA : T1.heap[T.heap.size]? = some (freshCell cX kX) := by rw [← hT1]; exact State.heap_pushCell_size _ _
  have d3' : decode c.code (pc + 3) = .ok (.dup, 1) := by rw [hb]; exact d3
  obtain ⟨U, hsteps, hrun, hend, hW, hsame, ce, hce, hO⟩ := X₁.ctorThrow0 hexec htr (own := own) (cls := cls) (names := names) (ic := ic) hown' hcls hnames h (fun x hx => nomatch hx) hfX hkX hcellA (by rw [hhp, hT]; exact Nat.le_refl _)
    (g := { method := m, pc := pc + 4, locals := ls, stack := .ref T.heap.size :: .ref T.heap.size :: rest, locked := none }) rfl hsize rfl rfl (rest := rest) rfl
    (by rw [hb]; exact d4) (by rw [hb]; exact d7) hout hRframes (by simp only [List.map_cons, List.sum_cons, hcat]; omega) hlocks
  obtain ⟨f1, f2⟩ := vx_frame hsame
  rw [hhp] at f1 f2
  have hWs : s.WarmedH U.vm := State.WarmedH.trans hW0 hW
  have hcl : s.vm.findClass cls = some ce.cls := by
    have h9 := hO.cls
    rw [hvm] at h9
    exact h9
  have hall : s.sameButNew ({ U with vm := s.vm } : State) locs mc ms := by
    subst hA
    obtain ⟨e1, e2⟩ := hsame
    rw [State.setFrames_setFrames] at e1
    have h2 : (T.setVm s.vm).sameButNew ({ U with vm := s.vm } : State) [] (0 + 1) (0 + 6) := ⟨e1, e2⟩
    have h3 := X.same.trans h2
    rw [List.append_nil] at h3
    exact h3.mono hc hs
  refine ⟨U, ?_, .threw T.heap.size, hrun, hend, Or.inr ⟨T.heap.size, rfl, cls, ce, locs, hx U hWs.alike f1 (fun q hq => f2 q hq (fun z hz => nomatch hz)), hce, hO.vm, hcl, hWs, hall, hf⟩⟩
  refine st1 _ ?_
  show Steps p.tables e below (T1.setTop { method := m, pc := pc + 3, locals := ls, stack := .ref T.heap.size :: rest, locked := none }) _
  jvm_step X₁.here [X₁.here.top, hexec, d3', Value.category]
  exact hsteps
/-- 'throw new E("text")': new; dup; ldc; invokespecial; athrow -/
theorem vx_throwS {cc : ByteArray} {pc : Nat} (hexec : p.tables.exec = Jvm.exec) (hb : c.code = cc) (hl : l.stackTraces = false) {own cls text : String} {names : List String} {ik is ic mc ms sa : Nat} {A : Nat → Prop}
    (hown : s.vm.findClass own = some m.cls) (hcls : Bundle.fit cls = true) (hnames : ∀ n ∈ names, Bundle.fit n = true)
    (hk : (Cond.classLink own ik cls).before args s = true) (hini : (Cond.initialized cls).before args s = true) (hstr : vk_R own is text sa s) (hat : ∀ w ∈ vx_atS own ic cls names, w.before args s = true)
    (hgood : ∀ w ∈ Cond.classLink own ik cls :: Cond.initialized cls :: vx_atS own ic cls names, vx_ot w = true)
    (hU : vx_Zq Bundle.tN "UNASSIGNED_STACK" Bundle.steD A s s.heap) (hN : vx_Zq Bundle.tN "SUPPRESSED_SENTINEL" Bundle.listD A s s.heap) (hS : va_S A s.heap H locs) (hsize : ls.size = c.maxLocals)
    (d0 : decode cc pc = .ok (.new ik, 3)) (d3 : decode cc (pc + 3) = .ok (.dup, 1)) (d4 : decode cc (pc + 4) = .ok (.ldc is, 2)) (d6 : decode cc (pc + 6) = .ok (.invokespecial ic, 3)) (d9 : decode cc (pc + 9) = .ok (.athrow, 1))
    (hout : ∀ x ∈ c.exceptionTable.toList, covers x (pc + 9) = false)
    (hRframes : names.length + 3 < R.frames) (hRlocals : (rest.map fun v => v.category).sum + (13 * (names.length + 1) + 43) ≤ R.locals) (hRcells : cells + 1 ≤ R.cells) (hRslots : slots + 6 ≤ R.slots) (hlocks : meth.locks = false)
    (hx : ∀ t : State, s.vm.Alike t.vm → H.size ≤ t.heap.size → (∀ q : Nat, q < H.size → t.heap[q]? = H[q]?) → XC cls s t)
    (hf : ∀ z ∈ locs, free z.base) (hc : cells + 1 ≤ mc) (hs : slots + 6 ≤ ms) :
    W p l e R s m args below meth c H locs cells slots (vx_MQ below Qc XC args s mc ms free) (F0 m pc ls rest) := by
  intro T hT X
  have htr : e.platform.stackTraces = false := (show e.platform.stackTraces = l.stackTraces by rw [X.admits.platform]).trans hl
  have Y := vx_rebase X (R' := { frames := R.frames, locals := R.locals, cells := 1, slots := 6 }) (Nat.le_refl _) (Nat.le_refl _) hRcells hRslots
  obtain ⟨s', hA⟩ : ∃ z, z = (T.setVm s.vm).setFrames (.invoking m args :: below) := ⟨_, rfl⟩
  rw [← hA] at Y
  have hvm : s'.vm = s.vm := by rw [hA]; rfl
  have hhp : s'.heap = H := by rw [hA]; exact hT
  have hW0 : s.WarmedH s'.vm := by rw [hvm]; exact State.WarmedH.refl s
  have hat' : ∀ w ∈ vx_atS own ic cls names, w.before args s' = true := fun w hw => vx_ot_at hW0 hvm.symm (hgood w (List.mem_cons_of_mem _ (List.mem_cons_of_mem _ hw))) (hat w hw)
  have hk' : (Cond.classLink own ik cls).before args s' = true := vx_ot_at hW0 hvm.symm (hgood _ List.mem_cons_self) hk
  have hini' : (Cond.initialized cls).before args s' = true := vx_ot_at hW0 hvm.symm (hgood _ (List.mem_cons_of_mem _ List.mem_cons_self)) hini
  have hU' : vx_Zq Bundle.tN "UNASSIGNED_STACK" Bundle.steD A s' s'.heap := by rw [hhp]; exact vx_Zq.moved hW0.alike (hU.kept hS.2.1)
  have hN' : vx_Zq Bundle.tN "SUPPRESSED_SENTINEL" Bundle.listD A s' s'.heap := by rw [hhp]; exact vx_Zq.moved hW0.alike (hN.kept hS.2.1)
  have h : ∀ w ∈ Bundle.ownAtoms own ic cls names, w.before args s' = true := vx_own hat' (vx_isRefq hU'.1) (vx_isRefq hN'.1) hU'.2.word hN'.2.word
  have hown' : s'.vm.findClass own = some m.cls := by rw [hvm]; exact hown
  have hins : (Cond.instantiable cls 6).before args s' = true := h _ (by simp [Bundle.ownAtoms])
  obtain ⟨vm₁, cX, kX, hfX, hkX, -, -, X₁, st1⟩ := Y.newCold hexec (own := own) (C := cls) (index := ik) (n := 6) hown' hk' hins hini'
    (g := F0 m pc ls rest) rfl (by rw [hb]; exact d0) (Nat.le_refl _) (Nat.le_refl _)
  generalize hT1 : (T.setVm vm₁).pushCell { cls := cX, slots := kX.instanceTypes.map defaultValue, vm := .none } = T1 at X₁ st1
  have hcat : (Value.ref T.heap.size).category = 1 := rfl
  have hcellA : T1.heap[T.heap.size]? = some (freshCell cX kX) := by rw [← hT1]; exact State.heap_pushCell_size _ _
  have d3' : decode c.code (pc + 3) = .ok (.dup, 1) := by rw [hb]; exact d3
  have d4' : decode c.code (pc + 4) = .ok (.ldc is, 2) := by rw [hb]; exact d4
  have hstr' : vk_R own is text sa s' := vk_R.warm hW0 hstr
  obtain ⟨U, hsteps, hrun, hend, hW, hsame, ce, hce, hO⟩ := X₁.ctorThrowS hexec htr (own := own) (cls := cls) (names := names) (ic := ic) hown' hcls hnames h (fun x hx => nomatch hx) hfX hkX hcellA (by rw [hhp, hT]; exact Nat.le_refl _) (msg := .ref sa) rfl
    (g := { method := m, pc := pc + 6, locals := ls, stack := .ref sa :: .ref T.heap.size :: .ref T.heap.size :: rest, locked := none }) rfl hsize rfl rfl (rest := rest) rfl
    (by rw [hb]; exact d6) (by rw [hb]; exact d9) hout hRframes (by simp only [List.map_cons, List.sum_cons, hcat]; omega) hlocks
  obtain ⟨f1, f2⟩ := vx_frame hsame
  rw [hhp] at f1 f2
  have hWs : s.WarmedH U.vm := State.WarmedH.trans hW0 hW
  have hcl : s.vm.findClass cls = some ce.cls := by
    have h9 := hO.cls
    rw [hvm] at h9
    exact h9
  have hall : s.sameButNew ({ U with vm := s.vm } : State) locs mc ms := by
    subst hA
    obtain ⟨e1, e2⟩ := hsame
    rw [State.setFrames_setFrames] at e1
    have h2 : (T.setVm s.vm).sameButNew ({ U with vm := s.vm } : State) [] (0 + 1) (0 + 6) := ⟨e1, e2⟩
    have h3 := X.same.trans h2
    rw [List.append_nil] at h3
    exact h3.mono hc hs
  refine ⟨U, ?_, .threw T.heap.size, hrun, hend, Or.inr ⟨T.heap.size, rfl, cls, ce, locs, hx U hWs.alike f1 (fun q hq => f2 q hq (fun z hz => nomatch hz)), hce, hO.vm, hcl, hWs, hall, hf⟩⟩
  refine st1 _ ?_
  show Steps p.tables e below (T1.setTop { method := m, pc := pc + 3, locals := ls, stack := .ref T.heap.size :: rest, locked := none }) _
  jvm_step X₁.here [X₁.here.top, hexec, d3', Value.category]
  exact X₁.ldcString hexec (own := own) (text := text) (index := is) (a := sa) hown' hstr'.1 hstr'.2
    (g := { method := m, pc := pc + 4, locals := ls, stack := .ref T.heap.size :: .ref T.heap.size :: rest, locked := none }) rfl d4' _ hsteps
/-- 'throw new E("text")', the text by a wide index -/
theorem vx_throwSW {cc : ByteArray} {pc : Nat} (hexec : p.tables.exec = Jvm.exec) (hb : c.code = cc) (hl : l.stackTraces = false) {own cls text : String} {names : List String} {ik is ic mc ms sa : Nat} {A : Nat → Prop}
    (hown : s.vm.findClass own = some m.cls) (hcls : Bundle.fit cls = true) (hnames : ∀ n ∈ names, Bundle.fit n = true)
    (hk : (Cond.classLink own ik cls).before args s = true) (hini : (Cond.initialized cls).before args s = true) (hstr : vk_R own is text sa s) (hat : ∀ w ∈ vx_atS own ic cls names, w.before args s = true)
    (hgood : ∀ w ∈ Cond.classLink own ik cls :: Cond.initialized cls :: vx_atS own ic cls names, vx_ot w = true)
    (hU : vx_Zq Bundle.tN "UNASSIGNED_STACK" Bundle.steD A s s.heap) (hN : vx_Zq Bundle.tN "SUPPRESSED_SENTINEL" Bundle.listD A s s.heap) (hS : va_S A s.heap H locs) (hsize : ls.size = c.maxLocals)
    (d0 : decode cc pc = .ok (.new ik, 3)) (d3 : decode cc (pc + 3) = .ok (.dup, 1)) (d4 : decode cc (pc + 4) = .ok (.ldc_w is, 3)) (d7 : decode cc (pc + 7) = .ok (.invokespecial ic, 3)) (d10 : decode cc (pc + 10) = .ok (.athrow, 1))
    (hout : ∀ x ∈ c.exceptionTable.toList, covers x (pc + 10) = false)
    (hRframes : names.length + 3 < R.frames) (hRlocals : (rest.map fun v => v.category).sum + (13 * (names.length + 1) + 43) ≤ R.locals) (hRcells : cells + 1 ≤ R.cells) (hRslots : slots + 6 ≤ R.slots) (hlocks : meth.locks = false)
    (hx : ∀ t : State, s.vm.Alike t.vm → H.size ≤ t.heap.size → (∀ q : Nat, q < H.size → t.heap[q]? = H[q]?) → XC cls s t)
    (hf : ∀ z ∈ locs, free z.base) (hc : cells + 1 ≤ mc) (hs : slots + 6 ≤ ms) :
    W p l e R s m args below meth c H locs cells slots (vx_MQ below Qc XC args s mc ms free) (F0 m pc ls rest) := by
  intro T hT X
  have htr : e.platform.stackTraces = false := (show e.platform.stackTraces = l.stackTraces by rw [X.admits.platform]).trans hl
  have Y := vx_rebase X (R' := { frames := R.frames, locals := R.locals, cells := 1, slots := 6 }) (Nat.le_refl _) (Nat.le_refl _) hRcells hRslots
  obtain ⟨s', hA⟩ : ∃ z, z = (T.setVm s.vm).setFrames (.invoking m args :: below) := ⟨_, rfl⟩
  rw [← hA] at Y
  have hvm : s'.vm = s.vm := by rw [hA]; rfl
  have hhp : s'.heap = H := by rw [hA]; exact hT
  have hW0 : s.WarmedH s'.vm := by rw [hvm]; exact State.WarmedH.refl s
  have hat' : ∀ w ∈ vx_atS own ic cls names, w.before args s' = true := fun w hw => vx_ot_at hW0 hvm.symm (hgood w (List.mem_cons_of_mem _ (List.mem_cons_of_mem _ hw))) (hat w hw)
  have hk' : (Cond.classLink own ik cls).before args s' = true := vx_ot_at hW0 hvm.symm (hgood _ List.mem_cons_self) hk
  have hini' : (Cond.initialized cls).before args s' = true := vx_ot_at hW0 hvm.symm (hgood _ (List.mem_cons_of_mem _ List.mem_cons_self)) hini
  have hU' : vx_Zq Bundle.tN "UNASSIGNED_STACK" Bundle.steD A s' s'.heap := by rw [hhp]; exact vx_Zq.moved hW0.alike (hU.kept hS.2.1)
  have hN' : vx_Zq Bundle.tN "SUPPRESSED_SENTINEL" Bundle.listD A s' s'.heap := by rw [hhp]; exact vx_Zq.moved hW0.alike (hN.kept hS.2.1)
  have h : ∀ w ∈ Bundle.ownAtoms own ic cls names, w.before args s' = true := vx_own hat' (vx_isRefq hU'.1) (vx_isRefq hN'.1) hU'.2.word hN'.2.word
  have hown' : s'.vm.findClass own = some m.cls := by rw [hvm]; exact hown
  have hins : (Cond.instantiable cls 6).before args s' = true := h _ (by simp [Bundle.ownAtoms])
  obtain ⟨vm₁, cX, kX, hfX, hkX, -, -, X₁, st1⟩ := Y.newCold hexec (own := own) (C := cls) (index := ik) (n := 6) hown' hk' hins hini'
    (g := F0 m pc ls rest) rfl (by rw [hb]; exact d0) (Nat.le_refl _) (Nat.le_refl _)
  generalize hT1 : (T.setVm vm₁).pushCell { cls := cX, slots := kX.instanceTypes.map defaultValue, vm := .none } = T1 at X₁ st1
  have hcat : (Value.ref T.heap.size).category = 1 := rfl
  have hcellA : T1.heap[T.heap.size]? = some (freshCell cX kX) := by rw [← hT1]; exact State.heap_pushCell_size _ _
  have d3' : decode c.code (pc + 3) = .ok (.dup, 1) := by rw [hb]; exact d3
  have d4' : decode c.code (pc + 4) = .ok (.ldc_w is, 3) := by rw [hb]; exact d4
  have hstr' : vk_R own is text sa s' := vk_R.warm hW0 hstr
  obtain ⟨U, hsteps, hrun, hend, hW, hsame, ce, hce, hO⟩ := X₁.ctorThrowS hexec htr (own := own) (cls := cls) (names := names) (ic := ic) hown' hcls hnames h (fun x hx => nomatch hx) hfX hkX hcellA (by rw [hhp, hT]; exact Nat.le_refl _) (msg := .ref sa) rfl
    (g := { method := m, pc := pc + 7, locals := ls, stack := .ref sa :: .ref T.heap.size :: .ref T.heap.size :: rest, locked := none }) rfl hsize rfl rfl (rest := rest) rfl
    (by rw [hb]; exact d7) (by rw [hb]; exact d10) hout hRframes (by simp only [List.map_cons, List.sum_cons, hcat]; omega) hlocks
  obtain ⟨f1, f2⟩ := vx_frame hsame
  rw [hhp] at f1 f2
  have hWs : s.WarmedH U.vm := State.WarmedH.trans hW0 hW
  have hcl : s.vm.findClass cls = some ce.cls := by
    have h9 := hO.cls
    rw [hvm] at h9
    exact h9
  have hall : s.sameButNew ({ U with vm := s.vm } : State) locs mc ms := by
    subst hA
    obtain ⟨e1, e2⟩ := hsame
    rw [State.setFrames_setFrames] at e1
    have h2 : (T.setVm s.vm).sameButNew ({ U with vm := s.vm } : State) [] (0 + 1) (0 + 6) := ⟨e1, e2⟩
    have h3 := X.same.trans h2
    rw [List.append_nil] at h3
    exact h3.mono hc hs
  refine ⟨U, ?_, .threw T.heap.size, hrun, hend, Or.inr ⟨T.heap.size, rfl, cls, ce, locs, hx U hWs.alike f1 (fun q hq => f2 q hq (fun z hz => nomatch hz)), hce, hO.vm, hcl, hWs, hall, hf⟩⟩
  refine st1 _ ?_
  show Steps p.tables e below (T1.setTop { method := m, pc := pc + 3, locals := ls, stack := .ref T.heap.size :: rest, locked := none }) _
  jvm_step X₁.here [X₁.here.top, hexec, d3', Value.category]
  exact X₁.ldcStringW hexec (own := own) (text := text) (index := is) (a := sa) hown' hstr'.1 hstr'.2
    (g := { method := m, pc := pc + 4, locals := ls, stack := .ref T.heap.size :: .ref T.heap.size :: rest, locked := none }) rfl d4' _ hsteps
end Ends
section Bodies
variable {l : Launch}
theorem vx_ofW {y : MethodName} {ws ws' : List Cond} {rm : Room} {Pc : Array Value → State → Prop} {Qc : Array Value → State → Outcome → State → Prop} {XC : String → State → State → Prop} {mc ms : Nat} {free : Addr → Prop} {cc : ByteArray} {maxL : Nat} {ret : Option FieldType}
    (hy : plainName y.cls = true) (hw : ws = Cond.code y cc maxL ret :: ws')
    (body : ∀ p e s m args below meth c s₁, BodyLoose p l y (headSpec ws rm) cc maxL ret e s m args below meth c s₁ → c.maxLocals = maxL → (∀ x ∈ c.exceptionTable.toList, False) → Pc args s →
      W p l e (headSpec ws rm).room s m args below meth c s.heap [] 0 0 (vx_MQ below Qc XC args s mc ms free) (entryFrame m args maxL)) : vx_Met l y ws rm Pc Qc XC mc ms free := by
  refine MetFree.of_bodyS (code := cc) (maxLocals := maxL) (ret := ret) hy ?_ ?_
  · intro args s m h hn
    obtain ⟨meth, c, h1, h2, h3, h4, h5, h6, -, -⟩ := Cond.code_spec hn (atoms_spec (ws := ws) h _ (by rw [hw]; exact List.mem_cons_self))
    exact ⟨meth, c, h1, h2, h3, h4, h5, h6⟩
  · intro p e s m args below meth c s₁ B hml hP _
    have hh0 : s₁.heap = s.heap := by rw [B.state]; rfl
    have ht : ∀ x ∈ c.exceptionTable.toList, False := by
      obtain ⟨meth9, c9, h1, h2, -, -, -, -, h7, -⟩ := Cond.code_spec B.named (atoms_spec (ws := ws) B.pre _ (by rw [hw]; exact List.mem_cons_self))
      cases Option.some.inj (h1.symm.trans B.method)
      cases Option.some.inj (h2.symm.trans (Stand.of_body B).code)
      intro x hx
      rw [Array.isEmpty_iff.mp h7] at hx
      cases hx
    obtain ⟨t, a1, o, b1, b2, b3⟩ := body p e s m args below meth c s₁ B hml ht hP s₁ hh0 (Stand.of_body B)
    exact ⟨t, o, a1, b1, b2, b3⟩
/-- the table of a body with handlers -/
theorem vx_table {p : Program} {x y : MethodName} {S : Spec} {cc bytes : ByteArray} {maxL maxL' : Nat} {ret ret' : Option FieldType} {e : Env} {s s₁ : State} {m : MethodId} {args : Array Value} {below : List Frame} {meth : Method} {c : Code} {hh : List (Nat × Nat × Nat × Nat)}
    (B : BodyLoose p l y S cc maxL ret e s m args below meth c s₁) (h : (Cond.codeWith y bytes maxL' ret' hh).before args s = true) : c.exceptionTable.toList = tableOf hh := by
  obtain ⟨m9, meth9, c9, hn9, h1, h2, -, -, h6, -⟩ := Cond.codeWith_spec h
  cases Option.some.inj (hn9.symm.trans B.named)
  cases Option.some.inj (h1.symm.trans B.method)
  cases Option.some.inj (h2.symm.trans (Stand.of_body B).code)
  rw [← h6, table_eq]
end Bodies
end VXA
/-! ===== END ===== -/
/-! ===== BEGIN a static call of a method with an exception table ===== -/
section VXS
variable {p : Program} {l : Launch} {e : Env} {R : Room} {s : State} {m : MethodId} {args : Array Value} {below : List Frame} {meth : Method} {c : Code} {T : State} {H : Heap} {locs : List Loc} {cells slots : Nat}
abbrev vx_CSW (R : Room) (s : State) (args : Array Value) (own : String) (index : Nat) (y : MethodName) (bytes : ByteArray) (maxL : Nat) (ret : Option FieldType) (hh : List (Nat × Nat × Nat × Nat)) (ws : List Cond) (rm : Room) (mc ms n : Nat) : Prop :=
  (rm.cells = mc ∧ rm.slots = ms ∧ rm.frames + 1 ≤ R.frames ∧ 8 + (maxL + 11) + rm.locals ≤ R.locals ∧ (∀ w ∈ ws, ∀ (a' : Array Value) (U : State), s.WarmedH U.vm → w.before a' U = true) ∧ Cond.codeWith y bytes maxL ret hh ∈ ws) ∧
  (Cond.codeWith y bytes maxL ret hh).before args s = true ∧ (Cond.initialized y.cls).before args s = true ∧ (y.cls ≠ "java/lang/invoke/MethodHandle" ∧ y.cls ≠ "java/lang/invoke/VarHandle") ∧
  (∀ sig, parseMethodDescriptor y.desc = some sig → n = sig.parameters.length) ∧ (Cond.methodLink own index y).before args s = true ∧ (Cond.static y).before args s = true
theorem vx_cwSW {own : String} {index maxL mc ms : Nat} {y : MethodName} {bytes : ByteArray} {ret : Option FieldType} {hh : List (Nat × Nat × Nat × Nat)} {Ts ws ws' : List Cond} {rm : Room} (n : Nat) (ht : ∀ w ∈ Ts, w.before args s = true) (hT : GoodIn Ts (va_wsS own index y ws)) (hw : ws = Cond.codeWith y bytes maxL ret hh :: ws') (hrc : rm.cells = mc) (hrs : rm.slots = ms)
    (hd : y.cls ≠ "java/lang/invoke/MethodHandle" ∧ y.cls ≠ "java/lang/invoke/VarHandle" ∧ (parseMethodDescriptor y.desc).map (fun d => d.parameters.length) = some n) (hR : rm.frames + 1 ≤ R.frames ∧ 8 + (maxL + 11) + rm.locals ≤ R.locals) :
    vx_CSW R s args own index y bytes maxL ret hh ws rm mc ms n := by
  have ok : ∀ w ∈ va_wsS own index y ws, w.before args s = true := fun w h => ht w (hT w h).1
  have hG : GoodIn Ts ws := fun w h => hT w (by unfold va_wsS; exact List.mem_append_right _ h)
  have hc : Cond.codeWith y bytes maxL ret hh ∈ ws := by rw [hw]; exact List.mem_cons_self
  refine ⟨⟨hrc, hrs, hR.1, hR.2, pay_in ht hG, hc⟩, ht _ (hG _ hc).1, ok _ (by simp [va_wsS]), ⟨hd.1, hd.2.1⟩, fun sig h => ?_, ok _ (by simp [va_wsS]), ok _ (by simp [va_wsS])⟩
  have h2 := hd.2.2
  rw [h] at h2
  exact (Option.some.inj h2).symm
theorem vx_callSW (X : Stand p l e R s m args below meth c T locs cells slots) (hexec : p.tables.exec = Jvm.exec) {own : String} {index : Nat} {y : MethodName} {bytes : ByteArray} {maxL : Nat} {ret : Option FieldType} {hh : List (Nat × Nat × Nat × Nat)}
    (hown : s.vm.findClass own = some m.cls) (hlink : (Cond.methodLink own index y).before args s = true) (hstat : (Cond.static y).before args s = true) (hinit : (Cond.initialized y.cls).before args s = true)
    (hcode : (Cond.codeWith y bytes maxL ret hh).before args s = true) (hy : y.cls ≠ "java/lang/invoke/MethodHandle" ∧ y.cls ≠ "java/lang/invoke/VarHandle")
    {W9 : Nat} {Pre : Pt → Array Value → Prop} {Post : Pt → Array Value → Option Value → Pt → Prop} (hK : Back l R p e below s args y 3 W9 Pre Post)
    {g : JFrame} (hg : g.method = m) (hsize : g.locals.size = c.maxLocals) {argsL rest : List Value} (hlen : ∀ sig, parseMethodDescriptor y.desc = some sig → argsL.length = sig.parameters.length)
    (hstack : g.stack = argsL.reverse ++ rest) (hW : 2 * g.monitorRoom + (rest.map fun v => v.category).sum ≤ W9) (hdg : decode c.code g.pc = .ok (.invokestatic index, 3))
    (hpre : ∀ vm₁, s.WarmedH vm₁ → Pre ⟨T.setVm vm₁, locs, cells, slots⟩ argsL.toArray) :
    ∃ (v : Option Value) (vm₁ : Vm) (B : Pt), s.WarmedH vm₁ ∧ Stand p l e R s m args below meth c B.U B.locs B.cells B.slots ∧ Post ⟨T.setVm vm₁, locs, cells, slots⟩ argsL.toArray v B ∧
      ∀ target, Steps p.tables e below (B.U.setTop { g with pc := g.pc + 3, stack := v.toList ++ rest }) target → Steps p.tables e below (T.setTop g) target := by
  obtain ⟨mk, methM, cM, hnamed, hmethM, -, -, -, -, -, -, hsigM⟩ := Cond.codeWith_spec hcode
  have hstatic : methM.isStatic = true := Cond.static_spec hnamed hmethM hstat
  obtain ⟨kP, hkP, -⟩ := className_of_methodNamed hnamed
  have hinitP : kP.init = .initialized := Cond.initialized_spec (findClass_of_methodNamed hnamed) hkP hinit
  obtain ⟨vm₁, X₁, hstep₁⟩ := X.invokestatic hexec hown hlink hnamed hmethM hstatic hkP hinitP hy (g := g) hg (argsL := argsL) (rest := rest) (hlen _ hsigM) hstack hdg
  obtain ⟨v, B, X', hpost, hsteps⟩ := hK m meth c ⟨T.setVm vm₁, locs, cells, slots⟩ { g with stack := rest } (.invokestatic index) mk argsL.toArray X₁ hg hsize hdg hW (X₁.named hnamed) (hpre vm₁ X₁.warmed)
  exact ⟨v, vm₁, B, X₁.warmed, X', hpost, fun target h => hstep₁ _ fun acts => by rw [doInvoke_state]; exact hsteps.trans h⟩
theorem vx_runSW {y : MethodName} {bytes cc : ByteArray} {maxL nL mc ms n index : Nat} {ret : Option FieldType} {hh : List (Nat × Nat × Nat × Nat)} {ws : List Cond} {rm : Room} {Pc : Array Value → State → Prop} {Qc : Array Value → State → Outcome → State → Prop} {free : Addr → Prop} {Ts : List Cond} {own : String} {As rest : List Value} {g : JFrame}
    (S : CallFix p m c cc nL s args Ts own) (hM : Met l y ws rm Pc Qc mc ms free) (cw : vx_CSW R s args own index y bytes maxL ret hh ws rm mc ms n) (hp : PreS s H Pc As)
    (hg : g.method = m) (hn : As.length = n) (hsize : g.locals.size = nL) (hstack : g.stack = As.reverse ++ rest) (hW : 2 * g.monitorRoom + (rest.map fun v => v.category).sum ≤ 8) (hdg : decode cc g.pc = .ok (.invokestatic index, 3)) (hf : cells + mc ≤ R.cells ∧ slots + ms ≤ R.slots) :
    va_Run p l e R s m args below meth c H locs cells slots mc ms g rest (Qc As.toArray) (free) := by
  obtain ⟨⟨hrc, hrs, hfr, hlo, hws, hcw⟩, hcode, hini, hy, hlen, hl, hstt⟩ := cw
  have hK : Back l R p e below s args y 3 8 (PreOf R mc ms Pc) (PostOf Qc mc ms free) := va_backW (hh := hh) (bytes := bytes) (maxL := maxL) (ret := ret) hM hp.1 hrc hrs hfr hlo hws hcw (fun a' U hW => word_at hW (Or.inl (by first | rfl | simp [Cond.onTables, Cond.keeps, Cond.steady])) hini)
  obtain ⟨hx, hb, hml, ho, -⟩ := S
  intro T hT X
  obtain ⟨v, vm₁, ⟨U', l2, c2, s2⟩, hW₁, X', ⟨g', mk, t, L, e1, e2, hq, h1, hL, h2, h3⟩, st⟩ := vx_callSW X hx (hh := hh) (bytes := bytes) (maxL := maxL) (ret := ret) ho hl hstt hini hcode hy hK hg (hsize.trans hml.symm) (argsL := As) (rest := rest) (fun sig h => hn.trans (hlen sig h)) hstack hW (by rw [hb]; exact hdg)
    (fun vm₁ hW₁ => ⟨hf.1, hf.2, hp.2 (T.setVm vm₁) hT hW₁⟩)
  dsimp only [Pt.U, Pt.locs, Pt.cells, Pt.slots] at X' e1 e2 h1 h2 h3 st
  subst h1; subst h2; subst h3
  exact ⟨v, (T.setVm vm₁).calling g' mk As.toArray, t, U', L, hT, X', hL, e1, e2, hq, st⟩
/-- not caught here, past rows that name other classes: it goes on to the caller -/
theorem vx_outP {p : Program} {l : Launch} {e : Env} {R : Room} {s : State} {m : MethodId} {args : Array Value} {below : List Frame} {meth : Method} {c : Code} {H : Heap} {locs : List Loc} {cells slots : Nat} {free : Addr → Prop} {ls : Array Slot} {rest : List Value} {Qc : Array Value → State → Outcome → State → Prop} {XC : String → State → State → Prop}
    {pc : Nat} {own E : String} {ce : Cell} {q : Addr} {mc ms : Nat} (hown : s.vm.findClass own = some m.cls) (hlocks : meth.locks = false)
    (hpass : ∀ z ∈ c.exceptionTable.toList, covers z pc = false ∨ (z.catchType ≠ 0 ∧ ∃ nm : String, (Cond.classLink own z.catchType nm).before args s = true ∧ va_Nc E nm s)) (hcell : H[q]? = some ce) (hv : ce.vm = .none) (hcl : s.vm.findClass E = some ce.cls)
    (hx : ∀ t : State, t.heap = H → s.vm.Alike t.vm → XC E s t) (hf : ∀ z ∈ locs, free z.base) (hc : cells ≤ mc) (hs : slots ≤ ms) :
    vx_W p l e R s m args below meth c H locs cells slots (vx_MQ below Qc XC args s mc ms free) (F0 m pc ls rest) q := by
  intro T hT X
  have hpl : e.platform.magicAccessors = ({} : Platform).magicAccessors := by rw [X.admits.platform]
  obtain ⟨vm', hW', X', st⟩ := X.outThrough hlocks q (g := F0 m pc ls rest) rfl rfl rfl (cell := ce) (by rw [hT]; exact hcell) (by rw [hv]; rfl)
    (by obtain ⟨k9, h9, -⟩ := Vm.findClass_spec hcl; exact ⟨k9, h9⟩) (fun z hz => by
      rcases hpass z hz with h | ⟨hz0, nm, hl1, hn1⟩
      · exact Or.inl h
      · obtain ⟨c6, hc6, hcl6⟩ := Cond.classLink_spec hown hl1 e.platform hpl
        obtain ⟨a8, b8, h1, h2, h3⟩ := hn1
        cases Option.some.inj (h1.symm.trans hcl)
        cases Option.some.inj (h2.symm.trans hc6)
        exact Or.inr ⟨hz0, _, hcl6, h3⟩)
  obtain ⟨g₀, hfr⟩ := X'.frames_eq
  have hcell9 : ((T.setVm vm').setFrames (.throwing q :: below)).heap[q]? = some ce := by
    show T.heap[q]? = some ce
    rw [hT]; exact hcell
  have hend : Ended ((T.setVm vm').setFrames (.throwing q :: below)) below (.threw q) := State.frames_setFrames _ (State.cur_lt_of_frames hfr)
  refine ⟨(T.setVm vm').setFrames (.throwing q :: below), ?_, .threw q, X'.here.running, hend, Or.inr ⟨q, rfl, E, ce, locs, hx _ hT (X'.ends _).1.alike, hcell9, hv, hcl, (X'.ends _).1, (X'.ends _).2.mono hc hs, hf⟩⟩
  rw [X.pushThrowing_eq]
  exact st
/-- a thing of a world lies in the heap -/
theorem vx_lt {D : va_G} {cl : List vw_C} {ws : va_W} {H1 : Heap} (h : va_P D cl ws H1) {k : Nat} {q : Nat × va_E} (hk : ws[k]? = some q) : q.1 < H1.size := (h k q hk).lt
end VXS
/-! ===== END ===== -/
/-! names, by program -/
def RX0 : String := "Cocite$Grouping"
def TX0 : u_T := fun k => match k with
  | 0 => ("Cocite$Grouping", "groups", "LCocite$Row;", true)
  | 1 => ("Cocite$Grouping", "splits", "LCocite$Row;", true)
  | 2 => ("Cocite$Grouping", "paperStrengths", "LCocite$Row;", true)
  | 3 => ("Cocite$Grouping", "groupStrengths", "LCocite$Row;", true)
  | 4 => ("Cocite$Grouping", "paperWeights", "LCocite$Table;", true)
  | 5 => ("Cocite$Grouping", "groupWeights", "LCocite$Table;", true)
  | 6 => ("Cocite$Grouping", "allLowest", "I", false)
  | _ => ("Cocite$Grouping", "weightOfAll", "I", false)
def tyX0 : Nat → FieldType := fun k => match k with
  | 0 => .object "Cocite$Row"
  | 1 => .object "Cocite$Row"
  | 2 => .object "Cocite$Row"
  | 3 => .object "Cocite$Row"
  | 4 => .object "Cocite$Table"
  | 5 => .object "Cocite$Table"
  | 6 => .int
  | _ => .int
abbrev wsX00 : List Cond := u_ws RX0 TX0 8
theorem nmX0 : ∀ a, a < 8 → ∀ b, b < 8 → a ≠ b → (TX0 a).2.1 ≠ (TX0 b).2.1 := by decide +kernel
theorem tyX0_ok : ∀ k, k < 8 → parseFieldDescriptor (TX0 k).2.2.1 = some (tyX0 k) := by decide +kernel
abbrev cX0_init : ByteArray := prog_2_method_1_code
def yX0_init : MethodName := ⟨RX0, "<init>", "()V"⟩
abbrev cX0_groupOf : ByteArray := prog_2_method_2_code
def yX0_groupOf : MethodName := ⟨RX0, "groupOf", "(I)I"⟩
abbrev cX0_allGroups : ByteArray := prog_2_method_3_code
def yX0_allGroups : MethodName := ⟨RX0, "allGroups", "()I"⟩
abbrev cX0_isGroup : ByteArray := prog_2_method_4_code
def yX0_isGroup : MethodName := ⟨RX0, "isGroup", "(I)Z"⟩
abbrev cX0_splitOf : ByteArray := prog_2_method_5_code
def yX0_splitOf : MethodName := ⟨RX0, "splitOf", "(I)I"⟩
abbrev cX0_gainOfJoining : ByteArray := prog_2_method_6_code
def yX0_gainOfJoining : MethodName := ⟨RX0, "gainOfJoining", "(II)I"⟩
abbrev cX0_findAnew : ByteArray := prog_2_method_7_code
def yX0_findAnew : MethodName := ⟨RX0, "findAnew", "(LCocite$Shelf;)V"⟩
abbrev cX0_gainFrom : ByteArray := prog_2_method_8_code
def yX0_gainFrom : MethodName := ⟨RX0, "gainFrom", "(III)I"⟩
abbrev cX0_partAll : ByteArray := prog_2_method_9_code
def yX0_partAll : MethodName := ⟨RX0, "partAll", "(LCocite$Shelf;)V"⟩
abbrev cX0_joinGreatest : ByteArray := prog_2_method_10_code
def yX0_joinGreatest : MethodName := ⟨RX0, "joinGreatest", "()Z"⟩
abbrev cX0_join : ByteArray := prog_2_method_11_code
def yX0_join : MethodName := ⟨RX0, "join", "(II)V"⟩
abbrev cX0_bestSplit : ByteArray := prog_2_method_12_code
def yX0_bestSplit : MethodName := ⟨RX0, "bestSplit", "(I)I"⟩
abbrev cX0_membersOf : ByteArray := prog_2_method_13_code
def yX0_membersOf : MethodName := ⟨RX0, "membersOf", "(I)I"⟩
abbrev cX0_gainOfParts : ByteArray := prog_2_method_14_code
def yX0_gainOfParts : MethodName := ⟨RX0, "gainOfParts", "(II)I"⟩
abbrev cX0_weightWithAll : ByteArray := prog_2_method_15_code
def yX0_weightWithAll : MethodName := ⟨RX0, "weightWithAll", "(II)I"⟩
abbrev cX0_strengthOf : ByteArray := prog_2_method_16_code
def yX0_strengthOf : MethodName := ⟨RX0, "strengthOf", "(I)I"⟩
def RX1 : String := "Cocite$Routes"
def TX1 : u_T := fun k => match k with
  | 0 => ("Cocite$Routes", "waysBefore", "LCocite$Row;", true)
  | 1 => ("Cocite$Routes", "waysAfter", "LCocite$Row;", true)
  | 2 => ("Cocite$Routes", "sumsAfter", "LCocite$Row;", true)
  | 3 => ("Cocite$Routes", "nexts", "LCocite$Row;", true)
  | 4 => ("Cocite$Routes", "mainPapers", "LCocite$Row;", true)
  | 5 => ("Cocite$Routes", "waysInAll", "I", false)
  | 6 => ("Cocite$Routes", "mainPlaces", "I", false)
  | _ => ("Cocite$Routes", "greatestSum", "I", false)
def tyX1 : Nat → FieldType := fun k => match k with
  | 0 => .object "Cocite$Row"
  | 1 => .object "Cocite$Row"
  | 2 => .object "Cocite$Row"
  | 3 => .object "Cocite$Row"
  | 4 => .object "Cocite$Row"
  | 5 => .int
  | 6 => .int
  | _ => .int
abbrev wsX10 : List Cond := u_ws RX1 TX1 8
theorem nmX1 : ∀ a, a < 8 → ∀ b, b < 8 → a ≠ b → (TX1 a).2.1 ≠ (TX1 b).2.1 := by decide +kernel
theorem tyX1_ok : ∀ k, k < 8 → parseFieldDescriptor (TX1 k).2.2.1 = some (tyX1 k) := by decide +kernel
abbrev cX1_init : ByteArray := prog_3_method_1_code
def yX1_init : MethodName := ⟨RX1, "<init>", "()V"⟩
abbrev cX1_countOf : ByteArray := prog_3_method_2_code
def yX1_countOf : MethodName := ⟨RX1, "countOf", "(II)I"⟩
abbrev cX1_wholeWays : ByteArray := prog_3_method_3_code
def yX1_wholeWays : MethodName := ⟨RX1, "wholeWays", "()I"⟩
abbrev cX1_lengthOfMain : ByteArray := prog_3_method_4_code
def yX1_lengthOfMain : MethodName := ⟨RX1, "lengthOfMain", "()I"⟩
abbrev cX1_paperOfMain : ByteArray := prog_3_method_5_code
def yX1_paperOfMain : MethodName := ⟨RX1, "paperOfMain", "(I)I"⟩
abbrev cX1_sumOfMain : ByteArray := prog_3_method_6_code
def yX1_sumOfMain : MethodName := ⟨RX1, "sumOfMain", "()I"⟩
abbrev cX1_findAnew : ByteArray := prog_3_method_7_code
def yX1_findAnew : MethodName := ⟨RX1, "findAnew", "(LCocite$Shelf;)V"⟩
abbrev cX1_sumOver : ByteArray := prog_3_method_8_code
def yX1_sumOver : MethodName := ⟨RX1, "sumOver", "(LCocite$Row;I)I"⟩
abbrev cX1_findNext : ByteArray := prog_3_method_9_code
def yX1_findNext : MethodName := ⟨RX1, "findNext", "(LCocite$Shelf;I)V"⟩
abbrev cX1_findMain : ByteArray := prog_3_method_10_code
def yX1_findMain : MethodName := ⟨RX1, "findMain", "(LCocite$Shelf;)V"⟩
abbrev cX1_follow : ByteArray := prog_3_method_11_code
def yX1_follow : MethodName := ⟨RX1, "follow", "(I)V"⟩
def RX2 : String := "Cocite$Row"
def TX2 : u_T := fun k => match k with
  | _ => ("Cocite$Row", "cells", "[I", true)
def tyX2 : Nat → FieldType := fun k => match k with
  | _ => .array .int
abbrev wsX20 : List Cond := u_ws RX2 TX2 1
theorem nmX2 : ∀ a, a < 1 → ∀ b, b < 1 → a ≠ b → (TX2 a).2.1 ≠ (TX2 b).2.1 := by decide +kernel
theorem tyX2_ok : ∀ k, k < 1 → parseFieldDescriptor (TX2 k).2.2.1 = some (tyX2 k) := by decide +kernel
abbrev cX2_init : ByteArray := prog_4_method_1_code
def yX2_init : MethodName := ⟨RX2, "<init>", "()V"⟩
abbrev cX2_at : ByteArray := prog_4_method_2_code
def yX2_at : MethodName := ⟨RX2, "at", "(I)I"⟩
abbrev cX2_set : ByteArray := prog_4_method_3_code
def yX2_set : MethodName := ⟨RX2, "set", "(II)V"⟩
abbrev cX2_add : ByteArray := prog_4_method_4_code
def yX2_add : MethodName := ⟨RX2, "add", "(II)V"⟩
def RX3 : String := "Cocite$Shelf"
def TX3 : u_T := fun k => match k with
  | 0 => ("Cocite$Shelf", "years", "LCocite$Row;", true)
  | 1 => ("Cocite$Shelf", "referred", "LCocite$Row;", true)
  | 2 => ("Cocite$Shelf", "citers", "LCocite$Row;", true)
  | 3 => ("Cocite$Shelf", "sharedCounts", "LCocite$Table;", true)
  | 4 => ("Cocite$Shelf", "jointCounts", "LCocite$Table;", true)
  | 5 => ("Cocite$Shelf", "comeSoFar", "I", false)
  | 6 => ("Cocite$Shelf", "latestYear", "I", false)
  | _ => ("Cocite$Shelf", "there", "I", false)
def tyX3 : Nat → FieldType := fun k => match k with
  | 0 => .object "Cocite$Row"
  | 1 => .object "Cocite$Row"
  | 2 => .object "Cocite$Row"
  | 3 => .object "Cocite$Table"
  | 4 => .object "Cocite$Table"
  | 5 => .int
  | 6 => .int
  | _ => .int
abbrev wsX30 : List Cond := u_ws RX3 TX3 8
theorem nmX3 : ∀ a, a < 8 → ∀ b, b < 8 → a ≠ b → (TX3 a).2.1 ≠ (TX3 b).2.1 := by decide +kernel
theorem tyX3_ok : ∀ k, k < 8 → parseFieldDescriptor (TX3 k).2.2.1 = some (tyX3 k) := by decide +kernel
abbrev cX3_init : ByteArray := prog_5_method_1_code
def yX3_init : MethodName := ⟨RX3, "<init>", "()V"⟩
abbrev cX3_has : ByteArray := prog_5_method_2_code
def yX3_has : MethodName := ⟨RX3, "has", "(I)Z"⟩
abbrev cX3_hasAll : ByteArray := prog_5_method_3_code
def yX3_hasAll : MethodName := ⟨RX3, "hasAll", "(I)Z"⟩
abbrev cX3_allThere : ByteArray := prog_5_method_4_code
def yX3_allThere : MethodName := ⟨RX3, "allThere", "()I"⟩
abbrev cX3_isFull : ByteArray := prog_5_method_5_code
def yX3_isFull : MethodName := ⟨RX3, "isFull", "()Z"⟩
abbrev cX3_takesYear : ByteArray := prog_5_method_6_code
def yX3_takesYear : MethodName := ⟨RX3, "takesYear", "(I)Z"⟩
abbrev cX3_referredBy : ByteArray := prog_5_method_7_code
def yX3_referredBy : MethodName := ⟨RX3, "referredBy", "(I)I"⟩
abbrev cX3_citersOf : ByteArray := prog_5_method_8_code
def yX3_citersOf : MethodName := ⟨RX3, "citersOf", "(I)I"⟩
abbrev cX3_cites : ByteArray := prog_5_method_9_code
def yX3_cites : MethodName := ⟨RX3, "cites", "(II)Z"⟩
abbrev cX3_put : ByteArray := prog_5_method_10_code
def yX3_put : MethodName := ⟨RX3, "put", "(II)I"⟩
abbrev cX3_take : ByteArray := prog_5_method_11_code
def yX3_take : MethodName := ⟨RX3, "take", "(I)V"⟩
abbrev cX3_addCiting : ByteArray := prog_5_method_12_code
def yX3_addCiting : MethodName := ⟨RX3, "addCiting", "(II)V"⟩
abbrev cX3_dropCiting : ByteArray := prog_5_method_13_code
def yX3_dropCiting : MethodName := ⟨RX3, "dropCiting", "(II)V"⟩
abbrev cX3_countCiting : ByteArray := prog_5_method_14_code
def yX3_countCiting : MethodName := ⟨RX3, "countCiting", "(III)V"⟩
abbrev cX3_sharedOf : ByteArray := prog_5_method_15_code
def yX3_sharedOf : MethodName := ⟨RX3, "sharedOf", "(II)I"⟩
abbrev cX3_jointOf : ByteArray := prog_5_method_16_code
def yX3_jointOf : MethodName := ⟨RX3, "jointOf", "(II)I"⟩
abbrev cX3_weightOf : ByteArray := prog_5_method_17_code
def yX3_weightOf : MethodName := ⟨RX3, "weightOf", "(II)I"⟩
abbrev cX3_weightsKept : ByteArray := prog_5_method_18_code
def yX3_weightsKept : MethodName := ⟨RX3, "weightsKept", "()I"⟩
abbrev cX3_weightsFromReferences : ByteArray := prog_5_method_19_code
def yX3_weightsFromReferences : MethodName := ⟨RX3, "weightsFromReferences", "()I"⟩
abbrev cX3_referringToBoth : ByteArray := prog_5_method_20_code
def yX3_referringToBoth : MethodName := ⟨RX3, "referringToBoth", "(II)I"⟩
abbrev cX3_riseOf : ByteArray := prog_5_method_21_code
def yX3_riseOf : MethodName := ⟨RX3, "riseOf", "(II)I"⟩
abbrev cX3_citersOfYear : ByteArray := prog_5_method_22_code
def yX3_citersOfYear : MethodName := ⟨RX3, "citersOfYear", "(II)I"⟩
def RX4 : String := "Cocite$Table"
def TX4 : u_T := fun k => match k with
  | _ => ("Cocite$Table", "cells", "[I", true)
def tyX4 : Nat → FieldType := fun k => match k with
  | _ => .array .int
abbrev wsX40 : List Cond := u_ws RX4 TX4 1
theorem nmX4 : ∀ a, a < 1 → ∀ b, b < 1 → a ≠ b → (TX4 a).2.1 ≠ (TX4 b).2.1 := by decide +kernel
theorem tyX4_ok : ∀ k, k < 1 → parseFieldDescriptor (TX4 k).2.2.1 = some (tyX4 k) := by decide +kernel
abbrev cX4_init : ByteArray := prog_6_method_1_code
def yX4_init : MethodName := ⟨RX4, "<init>", "()V"⟩
abbrev cX4_at : ByteArray := prog_6_method_2_code
def yX4_at : MethodName := ⟨RX4, "at", "(II)I"⟩
abbrev cX4_set : ByteArray := prog_6_method_3_code
def yX4_set : MethodName := ⟨RX4, "set", "(III)V"⟩
abbrev cX4_add : ByteArray := prog_6_method_4_code
def yX4_add : MethodName := ⟨RX4, "add", "(III)V"⟩
abbrev cX4_setOneWay : ByteArray := prog_6_method_5_code
def yX4_setOneWay : MethodName := ⟨RX4, "setOneWay", "(III)V"⟩
def RX5 : String := "Cocite"
def TX5 : u_T := fun k => match k with
  | 0 => ("Cocite", "shelf", "LCocite$Shelf;", true)
  | 1 => ("Cocite", "grouping", "LCocite$Grouping;", true)
  | _ => ("Cocite", "routes", "LCocite$Routes;", true)
def tyX5 : Nat → FieldType := fun k => match k with
  | 0 => .object "Cocite$Shelf"
  | 1 => .object "Cocite$Grouping"
  | _ => .object "Cocite$Routes"
abbrev wsX50 : List Cond := u_ws RX5 TX5 3
theorem nmX5 : ∀ a, a < 3 → ∀ b, b < 3 → a ≠ b → (TX5 a).2.1 ≠ (TX5 b).2.1 := by decide +kernel
theorem tyX5_ok : ∀ k, k < 3 → parseFieldDescriptor (TX5 k).2.2.1 = some (tyX5 k) := by decide +kernel
abbrev cX5_init : ByteArray := prog_1_method_1_code
def yX5_init : MethodName := ⟨RX5, "<init>", "()V"⟩
abbrev cX5_come : ByteArray := prog_1_method_2_code
def yX5_come : MethodName := ⟨RX5, "come", "(II)I"⟩
abbrev cX5_withdraw : ByteArray := prog_1_method_3_code
def yX5_withdraw : MethodName := ⟨RX5, "withdraw", "(I)I"⟩
abbrev cX5_papers : ByteArray := prog_1_method_4_code
def yX5_papers : MethodName := ⟨RX5, "papers", "()I"⟩
abbrev cX5_references : ByteArray := prog_1_method_5_code
def yX5_references : MethodName := ⟨RX5, "references", "(I)I"⟩
abbrev cX5_citing : ByteArray := prog_1_method_6_code
def yX5_citing : MethodName := ⟨RX5, "citing", "(I)I"⟩
abbrev cX5_shared : ByteArray := prog_1_method_7_code
def yX5_shared : MethodName := ⟨RX5, "shared", "(II)I"⟩
abbrev cX5_joint : ByteArray := prog_1_method_8_code
def yX5_joint : MethodName := ⟨RX5, "joint", "(II)I"⟩
abbrev cX5_totalAnew : ByteArray := prog_1_method_9_code
def yX5_totalAnew : MethodName := ⟨RX5, "totalAnew", "()I"⟩
abbrev cX5_total : ByteArray := prog_1_method_10_code
def yX5_total : MethodName := ⟨RX5, "total", "()I"⟩
abbrev cX5_likenessNumerator : ByteArray := prog_1_method_11_code
def yX5_likenessNumerator : MethodName := ⟨RX5, "likenessNumerator", "(II)I"⟩
abbrev cX5_likenessDenominator : ByteArray := prog_1_method_12_code
def yX5_likenessDenominator : MethodName := ⟨RX5, "likenessDenominator", "(II)I"⟩
abbrev cX5_fieldOf : ByteArray := prog_1_method_13_code
def yX5_fieldOf : MethodName := ⟨RX5, "fieldOf", "(I)I"⟩
abbrev cX5_fields : ByteArray := prog_1_method_14_code
def yX5_fields : MethodName := ⟨RX5, "fields", "()I"⟩
abbrev cX5_gain : ByteArray := prog_1_method_15_code
def yX5_gain : MethodName := ⟨RX5, "gain", "(II)I"⟩
abbrev cX5_split : ByteArray := prog_1_method_16_code
def yX5_split : MethodName := ⟨RX5, "split", "(I)I"⟩
abbrev cX5_count : ByteArray := prog_1_method_17_code
def yX5_count : MethodName := ⟨RX5, "count", "(II)I"⟩
abbrev cX5_ways : ByteArray := prog_1_method_18_code
def yX5_ways : MethodName := ⟨RX5, "ways", "()I"⟩
abbrev cX5_mainLength : ByteArray := prog_1_method_19_code
def yX5_mainLength : MethodName := ⟨RX5, "mainLength", "()I"⟩
abbrev cX5_mainAt : ByteArray := prog_1_method_20_code
def yX5_mainAt : MethodName := ⟨RX5, "mainAt", "(I)I"⟩
abbrev cX5_mainSum : ByteArray := prog_1_method_21_code
def yX5_mainSum : MethodName := ⟨RX5, "mainSum", "()J"⟩
abbrev cX5_rise : ByteArray := prog_1_method_22_code
def yX5_rise : MethodName := ⟨RX5, "rise", "(II)I"⟩
abbrev cX5_riser : ByteArray := prog_1_method_23_code
def yX5_riser : MethodName := ⟨RX5, "riser", "(I)I"⟩
abbrev cX5_heir : ByteArray := prog_1_method_24_code
def yX5_heir : MethodName := ⟨RX5, "heir", "(I)I"⟩
abbrev cX5_mapAnew : ByteArray := prog_1_method_25_code
def yX5_mapAnew : MethodName := ⟨RX5, "mapAnew", "()V"⟩
abbrev cX5_requirePaper : ByteArray := prog_1_method_26_code
def yX5_requirePaper : MethodName := ⟨RX5, "requirePaper", "(I)V"⟩
abbrev cX5_requireField : ByteArray := prog_1_method_27_code
def yX5_requireField : MethodName := ⟨RX5, "requireField", "(I)V"⟩
abbrev cX5_requireYear : ByteArray := prog_1_method_28_code
def yX5_requireYear : MethodName := ⟨RX5, "requireYear", "(I)V"⟩
abbrev cX5_referencePairs : ByteArray := prog_1_method_29_code
def yX5_referencePairs : MethodName := ⟨RX5, "referencePairs", "(II)I"⟩
abbrev cX5_lowestTerm : ByteArray := prog_1_method_30_code
def yX5_lowestTerm : MethodName := ⟨RX5, "lowestTerm", "(III)I"⟩
abbrev cX5_holds : ByteArray := prog_1_method_31_code
def yX5_holds : MethodName := ⟨RX5, "holds", "(II)Z"⟩
abbrev cX5_setOf : ByteArray := prog_1_method_32_code
def yX5_setOf : MethodName := ⟨RX5, "setOf", "(I)I"⟩
def RX6 : String := "CociteModel"
def TX6 : u_T := fun k => match k with
  | 0 => ("CociteModel", "come", "I", false)
  | 1 => ("CociteModel", "isThere", "[Z", true)
  | 2 => ("CociteModel", "years", "[I", true)
  | 3 => ("CociteModel", "references", "[I", true)
  | 4 => ("CociteModel", "weights", "[I", true)
  | 5 => ("CociteModel", "fields", "[I", true)
  | 6 => ("CociteModel", "ahead", "[I", true)
  | 7 => ("CociteModel", "behind", "[I", true)
  | 8 => ("CociteModel", "sums", "[J", true)
  | _ => ("CociteModel", "thrown", "I", false)
def tyX6 : Nat → FieldType := fun k => match k with
  | 0 => .int
  | 1 => .array .boolean
  | 2 => .array .int
  | 3 => .array .int
  | 4 => .array .int
  | 5 => .array .int
  | 6 => .array .int
  | 7 => .array .int
  | 8 => .array .long
  | _ => .int
abbrev wsX60 : List Cond := u_ws RX6 TX6 10
theorem nmX6 : ∀ a, a < 10 → ∀ b, b < 10 → a ≠ b → (TX6 a).2.1 ≠ (TX6 b).2.1 := by decide +kernel
theorem tyX6_ok : ∀ k, k < 10 → parseFieldDescriptor (TX6 k).2.2.1 = some (tyX6 k) := by decide +kernel
abbrev cX6_init : ByteArray := prog_8_method_1_code
def yX6_init : MethodName := ⟨RX6, "<init>", "()V"⟩
abbrev cX6_thrown : ByteArray := prog_8_method_2_code
def yX6_thrown : MethodName := ⟨RX6, "thrown", "()I"⟩
abbrev cX6_goes : ByteArray := prog_8_method_3_code
def yX6_goes : MethodName := ⟨RX6, "goes", "(I)Z"⟩
abbrev cX6_isIn : ByteArray := prog_8_method_4_code
def yX6_isIn : MethodName := ⟨RX6, "isIn", "(III)Z"⟩
abbrev cX6_isPaper : ByteArray := prog_8_method_5_code
def yX6_isPaper : MethodName := ⟨RX6, "isPaper", "(I)Z"⟩
abbrev cX6_asks : ByteArray := prog_8_method_6_code
def yX6_asks : MethodName := ⟨RX6, "asks", "(I)Z"⟩
abbrev cX6_asksTwo : ByteArray := prog_8_method_7_code
def yX6_asksTwo : MethodName := ⟨RX6, "asksTwo", "(II)Z"⟩
abbrev cX6_count : ByteArray := prog_8_method_8_code
def yX6_count : MethodName := ⟨RX6, "count", "(I)I"⟩
abbrev cX6_all : ByteArray := prog_8_method_9_code
def yX6_all : MethodName := ⟨RX6, "all", "()I"⟩
abbrev cX6_come : ByteArray := prog_8_method_10_code
def yX6_come : MethodName := ⟨RX6, "come", "(II)I"⟩
abbrev cX6_citers : ByteArray := prog_8_method_11_code
def yX6_citers : MethodName := ⟨RX6, "citers", "(I)I"⟩
abbrev cX6_withdraw : ByteArray := prog_8_method_12_code
def yX6_withdraw : MethodName := ⟨RX6, "withdraw", "(I)I"⟩
abbrev cX6_papers : ByteArray := prog_8_method_13_code
def yX6_papers : MethodName := ⟨RX6, "papers", "()I"⟩
abbrev cX6_references : ByteArray := prog_8_method_14_code
def yX6_references : MethodName := ⟨RX6, "references", "(I)I"⟩
abbrev cX6_citing : ByteArray := prog_8_method_15_code
def yX6_citing : MethodName := ⟨RX6, "citing", "(I)I"⟩
abbrev cX6_shared : ByteArray := prog_8_method_16_code
def yX6_shared : MethodName := ⟨RX6, "shared", "(II)I"⟩
abbrev cX6_joint : ByteArray := prog_8_method_17_code
def yX6_joint : MethodName := ⟨RX6, "joint", "(II)I"⟩
abbrev cX6_laysWeights : ByteArray := prog_8_method_18_code
def yX6_laysWeights : MethodName := ⟨RX6, "laysWeights", "()V"⟩
abbrev cX6_weights : ByteArray := prog_8_method_19_code
def yX6_weights : MethodName := ⟨RX6, "weights", "(II)I"⟩
abbrev cX6_totalNow : ByteArray := prog_8_method_20_code
def yX6_totalNow : MethodName := ⟨RX6, "totalNow", "()I"⟩
abbrev cX6_totalAnew : ByteArray := prog_8_method_21_code
def yX6_totalAnew : MethodName := ⟨RX6, "totalAnew", "()I"⟩
abbrev cX6_total : ByteArray := prog_8_method_22_code
def yX6_total : MethodName := ⟨RX6, "total", "()I"⟩
abbrev cX6_divisor : ByteArray := prog_8_method_23_code
def yX6_divisor : MethodName := ⟨RX6, "divisor", "(II)I"⟩
abbrev cX6_likeness : ByteArray := prog_8_method_24_code
def yX6_likeness : MethodName := ⟨RX6, "likeness", "(IIZ)I"⟩
abbrev cX6_likenessNumerator : ByteArray := prog_8_method_25_code
def yX6_likenessNumerator : MethodName := ⟨RX6, "likenessNumerator", "(II)I"⟩
abbrev cX6_likenessDenominator : ByteArray := prog_8_method_26_code
def yX6_likenessDenominator : MethodName := ⟨RX6, "likenessDenominator", "(II)I"⟩
abbrev cX6_gains : ByteArray := prog_8_method_27_code
def yX6_gains : MethodName := ⟨RX6, "gains", "(III)I"⟩
abbrev cX6_laysFields : ByteArray := prog_8_method_28_code
def yX6_laysFields : MethodName := ⟨RX6, "laysFields", "()V"⟩
abbrev cX6_fieldOf : ByteArray := prog_8_method_29_code
def yX6_fieldOf : MethodName := ⟨RX6, "fieldOf", "(I)I"⟩
abbrev cX6_fields : ByteArray := prog_8_method_30_code
def yX6_fields : MethodName := ⟨RX6, "fields", "()I"⟩
abbrev cX6_isField : ByteArray := prog_8_method_31_code
def yX6_isField : MethodName := ⟨RX6, "isField", "(I)Z"⟩
abbrev cX6_gain : ByteArray := prog_8_method_32_code
def yX6_gain : MethodName := ⟨RX6, "gain", "(II)I"⟩
abbrev cX6_split : ByteArray := prog_8_method_33_code
def yX6_split : MethodName := ⟨RX6, "split", "(I)I"⟩
abbrev cX6_laysWays : ByteArray := prog_8_method_34_code
def yX6_laysWays : MethodName := ⟨RX6, "laysWays", "()V"⟩
abbrev cX6_count_ : ByteArray := prog_8_method_35_code
def yX6_count_ : MethodName := ⟨RX6, "count", "(II)I"⟩
abbrev cX6_ways : ByteArray := prog_8_method_36_code
def yX6_ways : MethodName := ⟨RX6, "ways", "()I"⟩
abbrev cX6_first : ByteArray := prog_8_method_37_code
def yX6_first : MethodName := ⟨RX6, "first", "()I"⟩
abbrev cX6_next : ByteArray := prog_8_method_38_code
def yX6_next : MethodName := ⟨RX6, "next", "(I)I"⟩
abbrev cX6_length : ByteArray := prog_8_method_39_code
def yX6_length : MethodName := ⟨RX6, "length", "()I"⟩
abbrev cX6_mainLength : ByteArray := prog_8_method_40_code
def yX6_mainLength : MethodName := ⟨RX6, "mainLength", "()I"⟩
abbrev cX6_mainAt : ByteArray := prog_8_method_41_code
def yX6_mainAt : MethodName := ⟨RX6, "mainAt", "(I)I"⟩
abbrev cX6_mainSum : ByteArray := prog_8_method_42_code
def yX6_mainSum : MethodName := ⟨RX6, "mainSum", "()J"⟩
abbrev cX6_rises : ByteArray := prog_8_method_43_code
def yX6_rises : MethodName := ⟨RX6, "rises", "(II)I"⟩
abbrev cX6_rise : ByteArray := prog_8_method_44_code
def yX6_rise : MethodName := ⟨RX6, "rise", "(II)I"⟩
abbrev cX6_riser : ByteArray := prog_8_method_45_code
def yX6_riser : MethodName := ⟨RX6, "riser", "(I)I"⟩
abbrev cX6_heir : ByteArray := prog_8_method_46_code
def yX6_heir : MethodName := ⟨RX6, "heir", "(I)I"⟩
def RJ6 : String := "java/lang/Integer"
abbrev cJ6_bitCount_0f7a4 : ByteArray := prog_14_method_49_code
def yJ6_bitCount_0f7a4 : MethodName := ⟨RJ6, "bitCount", "(I)I"⟩
def RL : String := "CociteLaw"
abbrev cL_come : ByteArray := method_3_code
def yL_come : MethodName := ⟨RL, "come", "(LCocite;II[J)I"⟩
abbrev cL_withdraw : ByteArray := method_4_code
def yL_withdraw : MethodName := ⟨RL, "withdraw", "(LCocite;I[J)I"⟩
abbrev cL_references : ByteArray := method_5_code
def yL_references : MethodName := ⟨RL, "references", "(LCocite;I[J)I"⟩
abbrev cL_citing : ByteArray := method_6_code
def yL_citing : MethodName := ⟨RL, "citing", "(LCocite;I[J)I"⟩
abbrev cL_shared : ByteArray := method_7_code
def yL_shared : MethodName := ⟨RL, "shared", "(LCocite;II[J)I"⟩
abbrev cL_joint : ByteArray := method_8_code
def yL_joint : MethodName := ⟨RL, "joint", "(LCocite;II[J)I"⟩
abbrev cL_likenessNumerator : ByteArray := method_9_code
def yL_likenessNumerator : MethodName := ⟨RL, "likenessNumerator", "(LCocite;II[J)I"⟩
abbrev cL_likenessDenominator : ByteArray := method_10_code
def yL_likenessDenominator : MethodName := ⟨RL, "likenessDenominator", "(LCocite;II[J)I"⟩
abbrev cL_fieldOf : ByteArray := method_11_code
def yL_fieldOf : MethodName := ⟨RL, "fieldOf", "(LCocite;I[J)I"⟩
abbrev cL_gain : ByteArray := method_12_code
def yL_gain : MethodName := ⟨RL, "gain", "(LCocite;II[J)I"⟩
abbrev cL_split : ByteArray := method_13_code
def yL_split : MethodName := ⟨RL, "split", "(LCocite;I[J)I"⟩
abbrev cL_count : ByteArray := method_14_code
def yL_count : MethodName := ⟨RL, "count", "(LCocite;II[J)I"⟩
abbrev cL_mainAt : ByteArray := method_15_code
def yL_mainAt : MethodName := ⟨RL, "mainAt", "(LCocite;I[J)I"⟩
abbrev cL_rise : ByteArray := method_16_code
def yL_rise : MethodName := ⟨RL, "rise", "(LCocite;II[J)I"⟩
abbrev cL_riser : ByteArray := method_17_code
def yL_riser : MethodName := ⟨RL, "riser", "(LCocite;I[J)I"⟩
abbrev cL_heir : ByteArray := method_18_code
def yL_heir : MethodName := ⟨RL, "heir", "(LCocite;I[J)I"⟩
abbrev cL_law : ByteArray := code
def yL_law : MethodName := ⟨RL, "law", "([I)Z"⟩
abbrev vwCl : List vw_C := [(RX0, TX0, 8), (RX1, TX1, 8), (RX2, TX2, 1), (RX3, TX3, 8), (RX4, TX4, 1), (RX5, TX5, 3), (RX6, TX6, 10)]
end
section
/-! THE ABSTRACT MACHINE: heaps as lists of cells, a reference is a place in the list; straight code is run by a function (az_run), its soundness is proved once -/
section AZ1
abbrev az_E : Type := (Nat × vp_A) ⊕ (Nat × List Value)
abbrev az_H : Type := List az_E
def az_v (ad : Nat → Nat) : Value → Value
  | .ref k => .ref (ad k)
  | v => v
theorem az_v_cat (ad : Nat → Nat) (v : Value) : (az_v ad v).category = v.category := by cases v <;> rfl
def az_e (cA : Nat → ClassId) (ad : Nat → Nat) : az_E → va_E
  | .inl q => .inl (cA q.1, q.2)
  | .inr q => .inr (q.1, q.2.map (az_v ad))
def az_w (cA : Nat → ClassId) (ad : Nat → Nat) (hp : az_H) : va_W := hp.mapIdx (fun i e => (ad i, az_e cA ad e))
theorem az_w_at {cA : Nat → ClassId} {ad : Nat → Nat} {hp : az_H} {k : Nat} {e : az_E} (h : hp[k]? = some e) : (az_w cA ad hp)[k]? = some (ad k, az_e cA ad e) := by
  unfold az_w
  rw [List.getElem?_mapIdx, h]
  rfl
theorem az_w_set (cA : Nat → ClassId) (ad : Nat → Nat) (hp : az_H) (k : Nat) (e : az_E) : az_w cA ad (hp.set k e) = (az_w cA ad hp).set k (ad k, az_e cA ad e) := by
  apply List.ext_getElem?
  intro j
  unfold az_w
  rw [List.getElem?_mapIdx, List.getElem?_set, List.getElem?_set, List.length_mapIdx, List.getElem?_mapIdx]
  by_cases h : k = j
  · subst h
    by_cases h2 : k < hp.length
    · simp [h2]
    · simp [h2]
  · simp [h]
/-- the locals, by place: none is unknown -/
def az_lv (ad : Nat → Nat) : Nat → List (Option Value) → List (Nat × Value)
  | _, [] => []
  | i, none :: t => az_lv ad (i + 1) t
  | i, some v :: t => (i, az_v ad v) :: az_lv ad (i + 1) t
theorem az_lv_mem (ad : Nat → Nat) : ∀ (lo : List (Option Value)) (k : Nat) (q : Nat × Value), q ∈ az_lv ad k lo ↔ ∃ (i : Nat) (v : Value), lo[i]? = some (some v) ∧ q = (k + i, az_v ad v)
  | [], k, q => by simp [az_lv]
  | none :: t, k, q => by
    unfold az_lv
    rw [az_lv_mem ad t (k + 1) q]
    constructor
    · rintro ⟨i, v, h1, h2⟩
      exact ⟨i + 1, v, by simpa using h1, by rw [h2]; congr 1; omega⟩
    · rintro ⟨i, v, h1, h2⟩
      cases i with
      | zero => simp at h1
      | succ i => exact ⟨i, v, by simpa using h1, by rw [h2]; congr 1; omega⟩
  | some w :: t, k, q => by
    unfold az_lv
    rw [List.mem_cons, az_lv_mem ad t (k + 1) q]
    constructor
    · rintro (h | ⟨i, v, h1, h2⟩)
      · exact ⟨0, w, by simp, by rw [h]; rfl⟩
      · exact ⟨i + 1, v, by simpa using h1, by rw [h2]; congr 1; omega⟩
    · rintro ⟨i, v, h1, h2⟩
      cases i with
      | zero =>
        simp at h1
        subst h1
        exact Or.inl h2
      | succ i => exact Or.inr ⟨i, v, by simpa using h1, by rw [h2]; congr 1; omega⟩
def az_ls (ad : Nat → Nat) (ls : Array Slot) (nL : Nat) (lo : List (Option Value)) : Prop := lv_has ls nL (az_lv ad 0 lo) ∧ lo.length = nL
theorem az_ls_at {ad : Nat → Nat} {ls : Array Slot} {nL : Nat} {lo : List (Option Value)} (h : az_ls ad ls nL lo) {i : Nat} {v : Value} (hi : lo[i]? = some (some v)) : ls[i]? = some (.val (az_v ad v)) :=
  h.1.2.2 (i, az_v ad v) ((az_lv_mem ad lo 0 _).mpr ⟨i, v, hi, by rw [Nat.zero_add]⟩)
def az_no2 : Option (Option Value) → Bool
  | some (some v) => Nat.beq v.category 1
  | _ => true
/-- a store of a value of one word -/
def az_pre (lo : List (Option Value)) : Nat → Bool
  | 0 => true
  | j + 1 => az_no2 lo[j]?
def az_s1 (i : Nat) (v : Value) (lo : List (Option Value)) : Option (List (Option Value)) :=
  match Nat.ble (i + 1) lo.length && az_pre lo i with
  | true => some (lo.set i (some v))
  | false => none
def az_s2 (i : Nat) (v : Value) (lo : List (Option Value)) : Option (List (Option Value)) :=
  match Nat.ble (i + 2) lo.length && az_pre lo i with
  | true => some ((lo.set i (some v)).set (i + 1) none)
  | false => none
theorem az_set_at {α : Type} (l : List α) (i : Nat) (x : α) : (l.set i x)[i]? = if i < l.length then some x else none := by
  rw [List.getElem?_set]
  simp
theorem az_pre_of {lo : List (Option Value)} {i : Nat} (h : az_pre lo i = true) : ∀ (j : Nat) (w : Value), j + 1 = i → lo[j]? = some (some w) → w.category = 1 := by
  intro j w hj hw
  subst hj
  have h : az_no2 lo[j]? = true := h
  rw [hw] at h
  exact Nat.eq_of_beq_eq_true h
theorem az_s1_of {i : Nat} {v : Value} {lo lo' : List (Option Value)} (h : az_s1 i v lo = some lo') : lo' = lo.set i (some v) ∧ i < lo.length ∧ ∀ (j : Nat) (w : Value), j + 1 = i → lo[j]? = some (some w) → w.category = 1 := by
  unfold az_s1 at h
  split at h
  · rename_i hn
    rw [Bool.and_eq_true] at hn
    exact ⟨(Option.some.inj h).symm, Nat.le_of_ble_eq_true hn.1, az_pre_of hn.2⟩
  · cases h
theorem az_s2_of {i : Nat} {v : Value} {lo lo' : List (Option Value)} (h : az_s2 i v lo = some lo') : lo' = (lo.set i (some v)).set (i + 1) none ∧ i + 1 < lo.length ∧ ∀ (j : Nat) (w : Value), j + 1 = i → lo[j]? = some (some w) → w.category = 1 := by
  unfold az_s2 at h
  split at h
  · rename_i hn
    rw [Bool.and_eq_true] at hn
    exact ⟨(Option.some.inj h).symm, Nat.le_of_ble_eq_true hn.1, az_pre_of hn.2⟩
  · cases h
theorem az_ls_s1 {ad : Nat → Nat} {ls' : Array Slot} {nL i : Nat} {v : Value} {lo lo' : List (Option Value)} (hlen : lo.length = nL) (h : az_s1 i v lo = some lo')
    (hl : lv_has ls' nL ((i, az_v ad v) :: (az_lv ad 0 lo).filter (fun q => !(q.1 == i) && !(q.1 + 1 == i && q.2.category == 2)))) : az_ls ad ls' nL lo' := by
  obtain ⟨rfl, -, hc⟩ := az_s1_of h
  refine ⟨⟨hl.1, hl.2.1, fun q hq => hl.2.2 q ?_⟩, by rw [List.length_set]; exact hlen⟩
  obtain ⟨j, w, hj, rfl⟩ := (az_lv_mem ad _ 0 q).mp hq
  rw [Nat.zero_add]
  by_cases hij : i = j
  · subst hij
    rw [az_set_at] at hj
    split at hj
    · cases hj
      exact List.mem_cons_self
    · cases hj
  · rw [List.getElem?_set_ne hij] at hj
    refine List.mem_cons_of_mem _ (List.mem_filter.mpr ⟨(az_lv_mem ad lo 0 _).mpr ⟨j, w, hj, by rw [Nat.zero_add]⟩, ?_⟩)
    have h1 : (j == i) = false := by simp; omega
    by_cases h2 : j + 1 = i
    · have hw := hc j w h2 hj
      have h3 : ((az_v ad w).category == 2) = false := by rw [az_v_cat, hw]; rfl
      simp only [h1, h3, Bool.and_false, Bool.not_false, Bool.and_self]
    · have h3 : (j + 1 == i) = false := by simp; omega
      simp only [h1, h3, Bool.false_and, Bool.not_false, Bool.and_self]
theorem az_ls_s2 {ad : Nat → Nat} {ls' : Array Slot} {nL i : Nat} {v : Value} {lo lo' : List (Option Value)} (hlen : lo.length = nL) (h : az_s2 i v lo = some lo')
    (hl : lv_has ls' nL ((i, az_v ad v) :: (az_lv ad 0 lo).filter (fun q => !(q.1 == i) && (!(q.1 == i + 1) && !(q.1 + 1 == i && q.2.category == 2))))) : az_ls ad ls' nL lo' := by
  obtain ⟨rfl, -, hc⟩ := az_s2_of h
  refine ⟨⟨hl.1, hl.2.1, fun q hq => hl.2.2 q ?_⟩, by rw [List.length_set, List.length_set]; exact hlen⟩
  obtain ⟨j, w, hj, rfl⟩ := (az_lv_mem ad _ 0 q).mp hq
  rw [Nat.zero_add]
  by_cases hi1 : i + 1 = j
  · subst hi1
    rw [az_set_at] at hj
    split at hj <;> cases hj
  · rw [List.getElem?_set_ne hi1] at hj
    by_cases hij : i = j
    · subst hij
      rw [az_set_at] at hj
      split at hj
      · cases hj
        exact List.mem_cons_self
      · cases hj
    · rw [List.getElem?_set_ne hij] at hj
      refine List.mem_cons_of_mem _ (List.mem_filter.mpr ⟨(az_lv_mem ad lo 0 _).mpr ⟨j, w, hj, by rw [Nat.zero_add]⟩, ?_⟩)
      have h1 : (j == i) = false := by simp; omega
      have h4 : (j == i + 1) = false := by simp; omega
      by_cases h2 : j + 1 = i
      · have hw := hc j w h2 hj
        have h3 : ((az_v ad w).category == 2) = false := by rw [az_v_cat, hw]; rfl
        simp only [h1, h3, h4, Bool.and_false, Bool.not_false, Bool.and_self]
      · have h3 : (j + 1 == i) = false := by simp; omega
        simp only [h1, h3, h4, Bool.false_and, Bool.not_false, Bool.and_self]
/-- fewer locals known -/
theorem az_ls_sub {ad : Nat → Nat} {ls : Array Slot} {nL : Nat} {lo lo' : List (Option Value)} (h : az_ls ad ls nL lo) (hlen : lo'.length = lo.length) (hs : ∀ (i : Nat) (v : Value), lo'[i]? = some (some v) → lo[i]? = some (some v)) : az_ls ad ls nL lo' := by
  refine ⟨⟨h.1.1, h.1.2.1, fun q hq => h.1.2.2 q ?_⟩, hlen.trans h.2⟩
  obtain ⟨i, v, hi, rfl⟩ := (az_lv_mem ad _ 0 q).mp hq
  exact (az_lv_mem ad lo 0 _).mpr ⟨i, v, hs i v hi, rfl⟩
/-- one straight instruction -/
def az_gf (ci : Nat) (flt : List (Nat × Nat × Nat)) (hp : az_H) (idx k : Nat) : Option Value :=
  match flt.lookup idx, hp[k]? with
  | some f, some (.inr q) => match Nat.beq q.1 ci with
    | true => q.2[f.1]?
    | false => none
  | _, _ => none
def az_tyok : FieldType → Value → Bool
  | .int, .int _ => true
  | .object _, .ref _ => true
  | .array _, .ref _ => true
  | _, _ => false
def az_pf (ci N : Nat) (T : u_T) (ty : Nat → FieldType) (ctor : Bool) (flt : List (Nat × Nat × Nat)) (hp : az_H) (idx k : Nat) (v : Value) : Option az_H :=
  match flt.lookup idx, hp[k]? with
  | some f, some (.inr q) => match Nat.beq q.1 ci && (Nat.beq q.2.length N && ((!(T f.1).2.2.2 || ctor) && az_tyok (ty f.1) v)) with
    | true => some (hp.set k (.inr (q.1, q.2.set f.1 v)))
    | false => none
  | _, _ => none
def az_lg (lo : List (Option Value)) (i : Nat) : Option Value := match lo[i]? with
  | some (some v) => some v
  | _ => none
def az_al (hp : az_H) (k : Nat) : Option Nat := match hp[k]? with
  | some (.inl (t, n, _)) => match Nat.ble t 2 with
    | true => some n
    | false => none
  | _ => none
def az_ps (lo : List (Option Value)) (st : List Value) (hp : az_H) : Option Value → Option (List (Option Value) × List Value × az_H)
  | some v => some (lo, v :: st, hp)
  | none => none
def az_pl (st : List Value) (hp : az_H) : Option (List (Option Value)) → Option (List (Option Value) × List Value × az_H)
  | some lo => some (lo, st, hp)
  | none => none
def az_ph (lo : List (Option Value)) (st : List Value) : Option az_H → Option (List (Option Value) × List Value × az_H)
  | some hp => some (lo, st, hp)
  | none => none
def az_isI : Value → Bool
  | .int _ => true
  | _ => false
def az_isR : Value → Bool
  | .ref _ => true
  | _ => false
def az_x (ci N : Nat) (T : u_T) (ty : Nat → FieldType) (ctor : Bool) (flt : List (Nat × Nat × Nat)) (i : Instr) (lo : List (Option Value)) (st : List Value) (hp : az_H) : Option (List (Option Value) × List Value × az_H) :=
  match i with
  | .iconst n => some (lo, .int (Int32.ofInt n) :: st, hp)
  | .bipush n => some (lo, .int (Int8.ofInt n).toInt32 :: st, hp)
  | .sipush n => some (lo, .int (Int16.ofInt n).toInt32 :: st, hp)
  | .lconst n => some (lo, .long (Int64.ofNat (n : Nat)) :: st, hp)
  | .iload_n k => match az_lg lo k with
    | some (.int x) => some (lo, .int x :: st, hp)
    | _ => none
  | .iload k => match az_lg lo k with
    | some (.int x) => some (lo, .int x :: st, hp)
    | _ => none
  | .lload_n k => match az_lg lo k with
    | some (.long x) => some (lo, .long x :: st, hp)
    | _ => none
  | .aload_n k => match az_lg lo k with
    | some (.ref x) => some (lo, .ref x :: st, hp)
    | _ => none
  | .aload k => match az_lg lo k with
    | some (.ref x) => some (lo, .ref x :: st, hp)
    | _ => none
  | .istore_n k => match st with
    | .int x :: t => az_pl t hp (az_s1 k (.int x) lo)
    | _ => none
  | .istore k => match st with
    | .int x :: t => az_pl t hp (az_s1 k (.int x) lo)
    | _ => none
  | .lstore_n k => match st with
    | .long x :: t => az_pl t hp (az_s2 k (.long x) lo)
    | _ => none
  | .astore_n k => match st with
    | .ref x :: t => az_pl t hp (az_s1 k (.ref x) lo)
    | _ => none
  | .astore k => match st with
    | .ref x :: t => az_pl t hp (az_s1 k (.ref x) lo)
    | _ => none
  | .iinc k n => match az_lg lo k with
    | some (.int x) => az_pl st hp (az_s1 k (.int (x + Int32.ofInt n)) lo)
    | _ => none
  | .iadd => match st with
    | .int y :: .int x :: t => some (lo, .int (x + y) :: t, hp)
    | _ => none
  | .isub => match st with
    | .int y :: .int x :: t => some (lo, .int (x - y) :: t, hp)
    | _ => none
  | .imul => match st with
    | .int y :: .int x :: t => some (lo, .int (x * y) :: t, hp)
    | _ => none
  | .iand => match st with
    | .int y :: .int x :: t => some (lo, .int (x &&& y) :: t, hp)
    | _ => none
  | .ior => match st with
    | .int y :: .int x :: t => some (lo, .int (x ||| y) :: t, hp)
    | _ => none
  | .ixor => match st with
    | .int y :: .int x :: t => some (lo, .int (x ^^^ y) :: t, hp)
    | _ => none
  | .ishl => match st with
    | .int y :: .int x :: t => some (lo, .int (x <<< (y &&& 31)) :: t, hp)
    | _ => none
  | .ishr => match st with
    | .int y :: .int x :: t => some (lo, .int (x >>> (y &&& 31)) :: t, hp)
    | _ => none
  | .iushr => match st with
    | .int y :: .int x :: t => some (lo, .int (x.toUInt32 >>> (y.toUInt32 &&& Int32.toUInt32 31)).toInt32 :: t, hp)
    | _ => none
  | .i2l => match st with
    | .int x :: t => some (lo, .long x.toInt64 :: t, hp)
    | _ => none
  | .ladd => match st with
    | .long y :: .long x :: t => some (lo, .long (x + y) :: t, hp)
    | _ => none
  | .lmul => match st with
    | .long y :: .long x :: t => some (lo, .long (x * y) :: t, hp)
    | _ => none
  | .lcmp => match st with
    | .long y :: .long x :: t => some (lo, .int (lg_cmp x y) :: t, hp)
    | _ => none
  | .dup => match st with
    | v :: t => match Nat.beq v.category 1 with
      | true => some (lo, v :: v :: t, hp)
      | false => none
    | _ => none
  | .dup2 => match st with
    | w :: v :: t => match Nat.beq w.category 1 && Nat.beq v.category 1 with
      | true => some (lo, w :: v :: w :: v :: t, hp)
      | false => none
    | _ => none
  | .arraylength => match st with
    | .ref k :: t => match az_al hp k with
      | some n => some (lo, .int (Int32.ofNat n) :: t, hp)
      | none => none
    | _ => none
  | .getfield idx => match st with
    | .ref k :: t => az_ps lo t hp (az_gf ci flt hp idx k)
    | _ => none
  | .putfield idx => match st with
    | v :: .ref k :: t => az_ph lo t (az_pf ci N T ty ctor flt hp idx k v)
    | _ => none
  | _ => none
def az_len : Instr → Nat
  | .bipush _ => 2
  | .sipush _ => 3
  | .iload _ => 2
  | .aload _ => 2
  | .istore _ => 2
  | .astore _ => 2
  | .iinc _ _ => 3
  | .getfield _ => 3
  | .putfield _ => 3
  | .invokevirtual _ => 3
  | .invokestatic _ => 3
  | .invokespecial _ => 3
  | .new _ => 3
  | .newarray _ => 2
  | .ldc _ => 2
  | .ldc_w _ => 3
  | .goto _ => 3
  | .ifCond _ _ => 3
  | .if_icmp _ _ => 3
  | .tableswitch _ _ _ _ => 105
  | _ => 1
def az_run (ci N : Nat) (T : u_T) (ty : Nat → FieldType) (ctor : Bool) (flt : List (Nat × Nat × Nat)) : List (Nat × Instr) → Nat → List (Option Value) → List Value → az_H → Option (Nat × List (Option Value) × List Value × az_H)
  | [], pc, lo, st, hp => some (pc, lo, st, hp)
  | x :: t, pc, lo, st, hp => match Nat.beq x.1 pc with
    | true => match az_x ci N T ty ctor flt x.2 lo st hp with
      | some q => az_run ci N T ty ctor flt t (pc + az_len x.2) q.1 q.2.1 q.2.2
      | none => none
    | false => none
end AZ1
end
section
/-! what every method may take as given of the machine: the tables' words, moved along; and how a method's contract looks in abstract terms -/
section AZ2
/-- a word that stays true as the run goes on -/
def az_kp : Cond → Bool
  | .castable _ _ => true
  | .declares _ => true
  | .methodLinkNest _ _ _ _ => true
  | w => goodWord w
theorem az_kp_warm {a a' : Array Value} {s U : State} {w : Cond} (hk : az_kp w = true) (hW : s.WarmedH U.vm) (h : w.before a s = true) : w.before a' U = true := by
  unfold az_kp at hk
  split at hk
  · exact va_Nw.use rfl (va_Nw.warmC hW (va_Nw.of rfl h))
  · exact va_Nw.use rfl (va_Nw.warmD hW (va_Nw.of rfl h))
  · exact va_Nw.use rfl (va_Nw.warmM hW (va_Nw.of rfl h))
  · exact word_at hW (good_of_word hk) h
/-- the texts of the exceptions -/
def az_txt : List (String × Nat × String) := [("Cocite", 36, "the year is out of range"), ("Cocite", 44, "a paper that is referred to is not there"), ("Cocite", 52, "all papers have come"), ("Cocite", 164, "the paper is not there"), ("Cocite", 169, "there is no such field"), ("Cocite", 113, "both fields are the same"), ("Cocite", 127, "the paper does not refer to the other one"), ("Cocite", 141, "the main way has no such place")]
def az_wd (s : State) : Prop := ∀ w ∈ lw_tbl, az_kp w = true → w.before #[] s = true
theorem az_wd.warm {s U : State} (hW : s.WarmedH U.vm) (h : az_wd s) : az_wd U := fun w hw hk => az_kp_warm hk hW (h w hw hk)
theorem az_wd.use {s : State} (h : az_wd s) {w : Cond} (hw : w ∈ lw_tbl) (hk : az_kp w = true) (a : Array Value) : w.before a s = true := az_kp_warm hk (State.WarmedH.refl s) (h w hw hk)
theorem az_wd.call {U : State} (h : az_wd U) (g : JFrame) (mk : MethodId) (a : Array Value) : az_wd (U.calling g mk a) := fun w hw hk => az_kp_warm (U := U.calling g mk a) hk (State.WarmedH.refl U) (h w hw hk)
def az_ev (A : Nat → Prop) (U : State) : Prop := az_wd U ∧ vx_Zq Bundle.tN "UNASSIGNED_STACK" Bundle.steD A U U.heap ∧ vx_Zq Bundle.tN "SUPPRESSED_SENTINEL" Bundle.listD A U U.heap ∧ ∀ q ∈ az_txt, ∃ a : Nat, vk_R q.1 q.2.1 q.2.2 a U
theorem az_ev.to {A B : Nat → Prop} {s U : State} {H : Heap} {locs : List Loc} (h : az_ev A s) (hW : s.WarmedH U.vm) (hS : va_S A s.heap H locs) (hU : U.heap = H) (hB : ∀ q, B q → A q) : az_ev B U := by
  obtain ⟨h1, h2, h3, h4⟩ := h
  have z : ∀ {C n d : String}, vx_Zq C n d A s s.heap → vx_Zq C n d B U U.heap := by
    intro C n d k
    rw [hU]
    exact vx_Zq.moved hW.alike ((k.kept hS.2.1).narrow hB)
  exact ⟨h1.warm hW, z h2, z h3, fun q hq => by obtain ⟨a, ha⟩ := h4 q hq; exact ⟨a, vk_R.warm hW ha⟩⟩
theorem az_ev.call {A : Nat → Prop} {U : State} (h : az_ev A U) (g : JFrame) (mk : MethodId) (a : Array Value) : az_ev A (U.calling g mk a) := by
  obtain ⟨h1, h2, h3, h4⟩ := h
  exact ⟨h1.call g mk a, vx_Zq.moved (u := U) (U := U.calling g mk a) (Vm.Alike.refl U.vm) h2, vx_Zq.moved (u := U) (U := U.calling g mk a) (Vm.Alike.refl U.vm) h3, fun q hq => by obtain ⟨a9, ha⟩ := h4 q hq; exact ⟨a9, vk_R.same (u := U) (U := U.calling g mk a) rfl ha⟩⟩
def az_tys (cA : Nat → ClassId) : List (ClassId × FieldType) := [(cA 0, .int), (cA 1, .long), (cA 2, .boolean)]
/-- the state of the machine that a method's start needs, beside its heap -/
def az_U (D : va_G) (cA : Nat → ClassId) (ad : Nat → Nat) (hp : az_H) (sz : Nat) : State → Prop := fun U =>
  U.heap.size = sz ∧ va_P D vwCl (az_w cA ad hp) U.heap ∧ va_K D vwCl (az_tys cA) U ∧ va_D (fun _ => True) (az_w cA ad hp) ∧ az_ev (va_A (az_w cA ad hp) sz) U
/-- a method's end: the answer and the heap behind it, by Ψ; with gr the heap may have grown -/
def az_Q (D : va_G) (cA : Nat → ClassId) (ad : Nat → Nat) (hp : az_H) (sz : Nat) (gr : Bool) (Ψ : Option Value → az_H → Prop) : Array Value → State → Outcome → State → Prop := fun _ st oc t =>
  (∃ (r : Option Value) (hp' : az_H) (ad' : Nat → Nat), oc = .returned (r.map (az_v ad')) ∧ Ψ r hp' ∧ (gr = false → ad' = ad) ∧ (∀ i, i < hp.length → ad' i = ad i) ∧ va_P D vwCl (az_w cA ad' hp') t.heap ∧ va_D (va_A (az_w cA ad hp) sz) (az_w cA ad' hp')) ∧ va_F (va_A (az_w cA ad hp) sz) st t
/-- the contract of a method that returns -/
def AMet (l : Launch) (y : MethodName) (cc : ByteArray) (maxL : Nat) (ret : Option FieldType) (rm : Room) (gr : Bool) (as : List Value) (hp : az_H) (Ψ : Option Value → az_H → Prop) : Prop :=
  ∀ (D : va_G) (cA : Nat → ClassId) (ad : Nat → Nat) (sz : Nat),
    Met l y [.code y cc maxL ret] rm (va_Pc (as.map (az_v ad)) (az_U D cA ad hp sz)) (az_Q D cA ad hp sz gr Ψ) rm.cells rm.slots (va_A (az_w cA ad hp) sz)
/-- what stays the same while a method runs -/
abbrev az_K : Type := Program × Launch × Env × Room × State × MethodId × Array Value × List Frame × Method × Code × va_G × (Nat → ClassId) × (Nat → Prop) × ((Nat → Nat) → Prop) × (State → Prop) × Nat
def AW (K : az_K) (cells slots pc : Nat) (lo : List (Option Value)) (st : List Value) (hp : az_H) : Prop :=
  match K with
  | (p, l, e, R, s, m, args, below, meth, c, D, cA, A, Ag, Q, nL) =>
    ∀ (ad : Nat → Nat) (H : Heap) (locs : List Loc) (ls : Array Slot), Ag ad → va_P D vwCl (az_w cA ad hp) H → va_D A (az_w cA ad hp) → va_S A s.heap H locs → az_ls ad ls nL lo →
      W p l e R s m args below meth c H locs cells slots Q (F0 m pc ls (st.map (az_v ad)))
def az_OK (K : az_K) (own : String) (cc : ByteArray) (R0 : Room) (l0 : Launch) : Prop :=
  match K with
  | (p, l, e, R, s, m, args, below, meth, c, D, cA, A, Ag, Q, nL) =>
    p.tables.exec = Jvm.exec ∧ c.code = cc ∧ c.maxLocals = nL ∧ meth.locks = false ∧ s.vm.findClass own = some m.cls ∧ az_ev A s ∧ va_K D vwCl (az_tys cA) s ∧ (∀ q, s.heap.size ≤ q → A q) ∧ R = R0 ∧ l = l0
/-- the class whose method it is: its number, its fields -/
def az_Cl (own : String) (ci N : Nat) (T : u_T) (ty : Nat → FieldType) (flt : List (Nat × Nat × Nat)) : Prop :=
  vwCl[ci]? = some (own, T, N) ∧ (∀ w ∈ u_ws own T N, w ∈ lw_tbl ∧ az_kp w = true) ∧ (∀ k, k < N → parseFieldDescriptor (T k).2.2.1 = some (ty k)) ∧ (∀ a, a < N → ∀ b, b < N → a ≠ b → (T a).2.1 ≠ (T b).2.1) ∧
  (∀ k, k < N → (T k).1 = own) ∧ ∀ q ∈ flt, q.2.1 < N ∧ Cond.fieldLink own q.1 own (T q.2.1).2.1 (T q.2.1).2.2.1 ∈ lw_tbl
theorem az_look {flt : List (Nat × Nat × Nat)} {idx : Nat} {f : Nat × Nat} (h : flt.lookup idx = some f) : (idx, f) ∈ flt := by
  induction flt with
  | nil => simp at h
  | cons q t ih =>
    obtain ⟨a, b⟩ := q
    rw [List.lookup_cons] at h
    split at h
    · rename_i hb
      have : idx = a := by simpa using hb
      subst this
      cases h
      exact List.mem_cons_self
    · exact List.mem_cons_of_mem _ (ih h)
end AZ2
end
section
/-! one straight instruction, and straight code, are what az_x and az_run say -/
section AZ3
theorem az_tyok_fit (ad : Nat → Nat) {ty : FieldType} {v : Value} (h : az_tyok ty v = true) : narrow ty (az_v ad v) = az_v ad v ∧ fits ty (az_v ad v) = true := by
  unfold az_tyok at h
  split at h
  · exact ⟨rfl, rfl⟩
  · exact ⟨rfl, rfl⟩
  · exact ⟨rfl, rfl⟩
  · cases h
theorem AW_x {K : az_K} {own : String} {cc : ByteArray} {R0 : Room} {l0 : Launch} {ci N : Nat} {T : u_T} {ty : Nat → FieldType} {ctor : Bool} {flt : List (Nat × Nat × Nat)} (hK : az_OK K own cc R0 l0) (hC : az_Cl own ci N T ty flt)
    (hct : ctor = true → K.2.2.2.2.2.2.2.2.1.name = "<init>") {cells slots pc : Nat} {i : Instr} {lo : List (Option Value)} {st : List Value} {hp : az_H} {q : List (Option Value) × List Value × az_H} (hd : decode cc pc = .ok (i, az_len i)) (hx : az_x ci N T ty ctor flt i lo st hp = some q)
    (k : AW K cells slots (pc + az_len i) q.1 q.2.1 q.2.2) : AW K cells slots pc lo st hp := by
  obtain ⟨p, l, e, R, s, m, args, below, meth, c, D, cA, A, Ag, Q, nL⟩ := K
  obtain ⟨hexec, hb, hml, hlk, hown, hev, hKn, hA, -, -⟩ := hK
  intro ad H locs ls hag hP hD hS hl
  have lg : ∀ {i : Nat} {v : Value}, az_lg lo i = some v → ls[i]? = some (.val (az_v ad v)) := by
    intro i v h
    unfold az_lg at h
    split at h
    · rename_i w hw
      cases h
      exact az_ls_at hl hw
    · cases h
  unfold az_x at hx
  split at hx
  · cases hx; exact lv_iconst hexec hb hd rfl (k ad H locs ls hag hP hD hS hl)
  · cases hx; exact lv_bipush hexec hb hd rfl (k ad H locs ls hag hP hD hS hl)
  · cases hx; exact lv_sipush hexec hb hd rfl (k ad H locs ls hag hP hD hS hl)
  · cases hx; exact lv_lconst hexec hb hd rfl (k ad H locs ls hag hP hD hS hl)
  · split at hx
    · rename_i hg; cases hx; exact lv_iload_n hexec hb hd rfl (lg hg) (k ad H locs ls hag hP hD hS hl)
    · cases hx
  · split at hx
    · rename_i hg; cases hx; exact lv_iload hexec hb hd (lg hg) (k ad H locs ls hag hP hD hS hl)
    · cases hx
  · split at hx
    · rename_i hg; cases hx; exact lv_lload_n hexec hb hd rfl (lg hg) (k ad H locs ls hag hP hD hS hl)
    · cases hx
  · split at hx
    · rename_i hg; cases hx; exact lv_aload_n hexec hb hd rfl (lg hg) (k ad H locs ls hag hP hD hS hl)
    · cases hx
  · split at hx
    · rename_i hg; cases hx; exact lv_aload hexec hb hd (lg hg) (k ad H locs ls hag hP hD hS hl)
    · cases hx
  · split at hx
    · unfold az_pl at hx
      split at hx
      · rename_i hs
        cases hx
        exact lv_istore_n (x := _) hexec hb hd rfl hl.1 (by rw [← hl.2]; exact (az_s1_of hs).2.1) rfl (fun ls' hl' => k ad H locs ls' hag hP hD hS (az_ls_s1 hl.2 hs hl'))
      · cases hx
    · cases hx
  · split at hx
    · unfold az_pl at hx
      split at hx
      · rename_i hs
        cases hx
        exact lv_istore hexec hb hd hl.1 (by rw [← hl.2]; exact (az_s1_of hs).2.1) rfl (fun ls' hl' => k ad H locs ls' hag hP hD hS (az_ls_s1 hl.2 hs hl'))
      · cases hx
    · cases hx
  · split at hx
    · unfold az_pl at hx
      split at hx
      · rename_i hs
        cases hx
        exact lv_lstore_n hexec hb hd rfl hl.1 (by rw [← hl.2]; exact (az_s2_of hs).2.1) rfl (fun ls' hl' => k ad H locs ls' hag hP hD hS (az_ls_s2 hl.2 hs hl'))
      · cases hx
    · cases hx
  · split at hx
    · unfold az_pl at hx
      split at hx
      · rename_i hs
        cases hx
        exact lv_astore_n hexec hb hd rfl hl.1 (by rw [← hl.2]; exact (az_s1_of hs).2.1) rfl (fun ls' hl' => k ad H locs ls' hag hP hD hS (az_ls_s1 hl.2 hs hl'))
      · cases hx
    · cases hx
  · split at hx
    · unfold az_pl at hx
      split at hx
      · rename_i hs
        cases hx
        exact lv_astore hexec hb hd hl.1 (by rw [← hl.2]; exact (az_s1_of hs).2.1) rfl (fun ls' hl' => k ad H locs ls' hag hP hD hS (az_ls_s1 hl.2 hs hl'))
      · cases hx
    · cases hx
  · rename_i kk n
    split at hx
    · rename_i x hg
      unfold az_pl at hx
      split at hx
      · rename_i hs
        cases hx
        have hm : (kk, Value.int x) ∈ az_lv ad 0 lo := by
          unfold az_lg at hg
          split at hg
          · rename_i w hw
            cases hg
            exact (az_lv_mem ad lo 0 _).mpr ⟨kk, _, hw, by rw [Nat.zero_add]; rfl⟩
          · cases hg
        obtain ⟨j, hj⟩ := List.getElem?_of_mem hm
        exact lv_iinc hexec hb hd hl.1 hj rfl (by rw [← hl.2]; exact (az_s1_of hs).2.1) rfl (fun ls' hl' => k ad H locs ls' hag hP hD hS (az_ls_s1 hl.2 hs hl'))
      · cases hx
    · cases hx
  · split at hx
    · cases hx; exact lv_iadd hexec hb hd (k ad H locs ls hag hP hD hS hl)
    · cases hx
  · split at hx
    · cases hx; exact lv_isub hexec hb hd (k ad H locs ls hag hP hD hS hl)
    · cases hx
  · split at hx
    · cases hx; exact lv_imul hexec hb hd (k ad H locs ls hag hP hD hS hl)
    · cases hx
  · split at hx
    · cases hx; exact lv_iand hexec hb hd (k ad H locs ls hag hP hD hS hl)
    · cases hx
  · split at hx
    · cases hx; exact lv_ior hexec hb hd (k ad H locs ls hag hP hD hS hl)
    · cases hx
  · split at hx
    · cases hx; exact lv_ixor hexec hb hd (k ad H locs ls hag hP hD hS hl)
    · cases hx
  · split at hx
    · cases hx; exact lv_ishl hexec hb hd (k ad H locs ls hag hP hD hS hl)
    · cases hx
  · split at hx
    · cases hx; exact lv_ishr hexec hb hd (k ad H locs ls hag hP hD hS hl)
    · cases hx
  · split at hx
    · cases hx; exact lv_iushr hexec hb hd rfl (k ad H locs ls hag hP hD hS hl)
    · cases hx
  · split at hx
    · cases hx; exact lv_i2l hexec hb hd rfl (k ad H locs ls hag hP hD hS hl)
    · cases hx
  · split at hx
    · cases hx; exact lv_ladd hexec hb hd (k ad H locs ls hag hP hD hS hl)
    · cases hx
  · split at hx
    · cases hx; exact lv_lmul hexec hb hd (k ad H locs ls hag hP hD hS hl)
    · cases hx
  · split at hx
    · cases hx; exact W.lcmp hexec hb hd (k ad H locs ls hag hP hD hS hl)
    · cases hx
  · split at hx
    · split at hx
      · rename_i hcat
        cases hx
        exact lv_dup hexec hb hd (by rw [az_v_cat]; exact Nat.eq_of_beq_eq_true hcat) (k ad H locs ls hag hP hD hS hl)
      · cases hx
    · cases hx
  · split at hx
    · split at hx
      · rename_i hcat
        rw [Bool.and_eq_true] at hcat
        cases hx
        exact lv_dup2_11 hexec hb hd (by rw [az_v_cat]; exact Nat.eq_of_beq_eq_true hcat.1) (by rw [az_v_cat]; exact Nat.eq_of_beq_eq_true hcat.2) (k ad H locs ls hag hP hD hS hl)
      · cases hx
    · cases hx
  · split at hx
    · split at hx
      · rename_i hn
        cases hx
        unfold az_al at hn
        split at hn
        · rename_i t n0 f0 hk0
          split at hn
          · rename_i hb2
            cases hn
            have ht2 : t ≤ 2 := Nat.le_of_ble_eq_true hb2
            have he := az_w_at (cA := cA) (ad := ad) hk0
            obtain ⟨ty9, hty9⟩ : ∃ ty9, (az_tys cA)[t]? = some (cA t, ty9) := by
              rcases (show t = 0 ∨ t = 1 ∨ t = 2 by omega) with rfl | rfl | rfl <;> exact ⟨_, rfl⟩
            exact va_alen hexec hb hKn hP _ t he hty9 rfl hd (k ad H locs ls hag hP hD hS hl)
          · cases hn
        · cases hn
      · cases hx
    · cases hx
  · split at hx
    · unfold az_ps at hx
      split at hx
      · rename_i hg
        cases hx
        unfold az_gf at hg
        split at hg
        · rename_i f0 q0 hf hk0
          split at hg
          · rename_i hci
            have hci : q0.1 = ci := Nat.eq_of_beq_eq_true hci
            obtain ⟨cj, fs⟩ := q0
            dsimp only at hci hg
            subst hci
            obtain ⟨c1, c2, c3, c4, c5, c6⟩ := hC
            obtain ⟨hfN, hfl⟩ := c6 _ (az_look hf)
            exact va_get (D := D) (C := own) (T := T) (N := N) (Ts := u_ws own T N) hexec hb (fun w hw => hev.1.use (c2 w hw).1 (c2 w hw).2 args) (fun _ h => h) hown hKn hP _ (az_w_at hk0) c1 f0.1 hfN (hev.1.use hfl rfl args) (fun x hx9 => by rw [c5 _ hfN] at hx9; exact hx9) (by show (fs.map (az_v ad))[f0.1]? = _; rw [List.getElem?_map, hg]; rfl) hd (k ad H locs ls hag hP hD hS hl)
          · cases hg
        · cases hg
      · cases hx
    · cases hx
  · split at hx
    · unfold az_ph at hx
      split at hx
      · rename_i hp' hg
        cases hx
        unfold az_pf at hg
        split at hg
        · rename_i f0 q0 hf hk0
          split at hg
          · rename_i hci
            obtain ⟨cj, fs⟩ := q0
            cases hg
            simp only [Bool.and_eq_true, Bool.or_eq_true, Bool.not_eq_true'] at hci
            obtain ⟨hci, hlen, hfin, htyo⟩ := hci
            have hci : cj = ci := Nat.eq_of_beq_eq_true hci
            have hlen : fs.length = N := Nat.eq_of_beq_eq_true hlen
            subst hci
            obtain ⟨c1, c2, c3, c4, c5, c6⟩ := hC
            obtain ⟨hfN, hfl⟩ := c6 _ (az_look hf)
            have e9 : (fs.map (az_v ad)).length = N := by rw [List.length_map]; exact hlen
            have h9 := az_tyok_fit ad htyo
            have hkk : ∀ (H1 : Heap) (locs1 : List Loc), va_P D vwCl ((az_w cA ad hp).set _ (ad _, .inr (cj, (fs.map (az_v ad)).set f0.1 (az_v ad _)))) H1 → va_D A ((az_w cA ad hp).set _ (ad _, .inr (cj, (fs.map (az_v ad)).set f0.1 (az_v ad _)))) → va_S A s.heap H1 locs1 → _ :=
              fun H1 locs1 hP1 hD1 hS1 => k ad H1 locs1 ls hag (by rw [az_w_set]; show va_P D vwCl ((az_w cA ad hp).set _ (_, .inr (cj, (fs.set f0.1 _).map (az_v ad)))) H1; rw [List.map_set]; exact hP1) (by rw [az_w_set]; show va_D A ((az_w cA ad hp).set _ (_, .inr (cj, (fs.set f0.1 _).map (az_v ad)))); rw [List.map_set]; exact hD1) hS1 hl
            cases hf9 : (T f0.1).2.2.2 with
            | false => exact va_put (D := D) (C := own) (T := T) (N := N) (Ts := u_ws own T N) hexec hb (fun w hw => hev.1.use (c2 w hw).1 (c2 w hw).2 args) (fun _ h => h) ty c3 c4 hown hKn hP hD hS _ (az_w_at hk0) c1 f0.1 hfN (hev.1.use hfl rfl args) (fun x hx9 => by rw [c5 _ hfN] at hx9; exact hx9) hf9 (c3 _ hfN) h9.1 h9.2 (by rw [e9]; exact hfN) hd hkk
            | true =>
              have hct9 := hct (hfin.elim (fun h => by rw [hf9] at h; cases h) id)
              exact va_putF (D := D) (C := own) (T := T) (N := N) (Ts := u_ws own T N) hexec hb (fun w hw => hev.1.use (c2 w hw).1 (c2 w hw).2 args) (fun _ h => h) ty c3 c4 hown hKn hP hD hS _ (az_w_at hk0) c1 f0.1 hfN (hev.1.use hfl rfl args) (fun x hx9 => by rw [c5 _ hfN] at hx9; exact hx9) hf9 hct9 (c5 _ hfN) (c3 _ hfN) h9.1 h9.2 (by rw [e9]; exact hfN) hd hkk
          · cases hg
        · cases hg
      · cases hx
    · cases hx
  · cases hx
/-- straight code -/
theorem AW_run {K : az_K} {own : String} {cc : ByteArray} {R0 : Room} {l0 : Launch} {ci N : Nat} {T : u_T} {ty : Nat → FieldType} {ctor : Bool} {flt : List (Nat × Nat × Nat)} (hK : az_OK K own cc R0 l0) (hC : az_Cl own ci N T ty flt)
    (hct : ctor = true → K.2.2.2.2.2.2.2.2.1.name = "<init>") {cells slots : Nat} : ∀ (bl : List (Nat × Instr)) (_ : ∀ x ∈ bl, decode cc x.1 = .ok (x.2, az_len x.2)) {pc : Nat} {lo : List (Option Value)} {st : List Value} {hp : az_H} {pc' : Nat} {lo' : List (Option Value)} {st' : List Value} {hp' : az_H}
      (_ : az_run ci N T ty ctor flt bl pc lo st hp = some (pc', lo', st', hp')) (_ : AW K cells slots pc' lo' st' hp'), AW K cells slots pc lo st hp
  | [], _, pc, lo, st, hp, pc', lo', st', hp', hx, k => by
    cases hx
    exact k
  | x :: t, hd, pc, lo, st, hp, pc', lo', st', hp', hx, k => by
    unfold az_run at hx
    split at hx
    · rename_i hpc
      have hpc : x.1 = pc := Nat.eq_of_beq_eq_true hpc
      subst hpc
      split at hx
      · rename_i q hq
        exact AW_x hK hC hct (hd x List.mem_cons_self) hq (AW_run hK hC hct t (fun y hy => hd y (List.mem_cons_of_mem _ hy)) hx k)
      · cases hx
    · cases hx
/-- a method's table of instructions is right -/
def az_Tb (cc : ByteArray) (tb : List (Nat × Instr)) : Prop := ∀ x ∈ tb, decode cc x.1 = .ok (x.2, az_len x.2)
theorem az_Tb.of {cc : ByteArray} {tb : List (Nat × Instr)} (h : (tb.all fun x => decide (decode cc x.1 = .ok (x.2, az_len x.2))) = true) : az_Tb cc tb := fun x hx => of_decide_eq_true (List.all_eq_true.mp h x hx)
theorem az_Tb.at {cc : ByteArray} {tb : List (Nat × Instr)} (h : az_Tb cc tb) {i pc : Nat} {ins : Instr} (hi : tb[i]? = some (pc, ins)) : decode cc pc = .ok (ins, az_len ins) := h (pc, ins) (List.mem_of_getElem? hi)
/-- n straight instructions from the i-th on -/
theorem AW_go {K : az_K} {own : String} {cc : ByteArray} {R0 : Room} {l0 : Launch} {ci N : Nat} {T : u_T} {ty : Nat → FieldType} {ctor : Bool} {flt : List (Nat × Nat × Nat)} {tb : List (Nat × Instr)} (hT : az_Tb cc tb) (hC : az_Cl own ci N T ty flt) (hK : az_OK K own cc R0 l0)
    (hct : ctor = true → K.2.2.2.2.2.2.2.2.1.name = "<init>") {cells slots : Nat} (i n : Nat) {pc : Nat} {lo : List (Option Value)} {st : List Value} {hp : az_H} {pc' : Nat} {lo' : List (Option Value)} {st' : List Value} {hp' : az_H}
    (hx : az_run ci N T ty ctor flt ((tb.drop i).take n) pc lo st hp = some (pc', lo', st', hp')) (k : AW K cells slots pc' lo' st' hp') : AW K cells slots pc lo st hp :=
  AW_run hK hC hct _ (fun x h => hT x (List.mem_of_mem_drop (List.mem_of_mem_take h))) hx k
end AZ3
end
section
/-! branches, arrays, returns, calls; a method's contract out of a walk in abstract terms -/
section AZ4
variable {K : az_K} {own : String} {cc : ByteArray} {R0 : Room} {l0 : Launch} {tb : List (Nat × Instr)} {cells slots pc : Nat} {lo : List (Option Value)} {st rest : List Value} {hp : az_H}
theorem AW_goto (hT : az_Tb cc tb) (hK : az_OK K own cc R0 l0) (i : Nat) {off : Int} {tgt : Nat} (hi : tb[i]? = some (pc, .goto off)) (ht : (pc : Int) + off = (tgt : Int)) (k : AW K cells slots tgt lo st hp) : AW K cells slots pc lo st hp := by
  obtain ⟨p, l, e, R, s, m, args, below, meth, c, D, cA, A, Ag, Q, nL⟩ := K
  obtain ⟨hexec, hb, -⟩ := hK
  intro ad H locs ls hag hP hD hS hl
  exact lv_goto hexec hb (hT.at hi) ht (k ad H locs ls hag hP hD hS hl)
theorem AW_if_eq (hT : az_Tb cc tb) (hK : az_OK K own cc R0 l0) (i : Nat) {off : Int} {tgt : Nat} {x : Int32} (hi : tb[i]? = some (pc, .ifCond .eq off)) (ht : (pc : Int) + off = (tgt : Int)) (kt : x = 0 → AW K cells slots tgt lo rest hp) (kf : ¬ x = 0 → AW K cells slots (pc + 3) lo rest hp) : AW K cells slots pc lo (.int x :: rest) hp := by
  obtain ⟨p, l, e, R, s, m, args, below, meth, c, D, cA, A, Ag, Q, nL⟩ := K
  obtain ⟨hexec, hb, -⟩ := hK
  intro ad H locs ls hag hP hD hS hl
  exact lv_if_eq hexec hb (hT.at hi) ht (fun z => kt z ad H locs ls hag hP hD hS hl) (fun z => kf z ad H locs ls hag hP hD hS hl)
theorem AW_icmp_eq (hT : az_Tb cc tb) (hK : az_OK K own cc R0 l0) (i : Nat) {off : Int} {tgt : Nat} {x y : Int32} (hi : tb[i]? = some (pc, .if_icmp .eq off)) (ht : (pc : Int) + off = (tgt : Int)) (kt : x = y → AW K cells slots tgt lo rest hp) (kf : ¬ x = y → AW K cells slots (pc + 3) lo rest hp) : AW K cells slots pc lo (.int y :: .int x :: rest) hp := by
  obtain ⟨p, l, e, R, s, m, args, below, meth, c, D, cA, A, Ag, Q, nL⟩ := K
  obtain ⟨hexec, hb, -⟩ := hK
  intro ad H locs ls hag hP hD hS hl
  exact lv_icmp_eq hexec hb (hT.at hi) ht (fun z => kt z ad H locs ls hag hP hD hS hl) (fun z => kf z ad H locs ls hag hP hD hS hl)
theorem AW_if_ne (hT : az_Tb cc tb) (hK : az_OK K own cc R0 l0) (i : Nat) {off : Int} {tgt : Nat} {x : Int32} (hi : tb[i]? = some (pc, .ifCond .ne off)) (ht : (pc : Int) + off = (tgt : Int)) (kt : ¬ x = 0 → AW K cells slots tgt lo rest hp) (kf : x = 0 → AW K cells slots (pc + 3) lo rest hp) : AW K cells slots pc lo (.int x :: rest) hp := by
  obtain ⟨p, l, e, R, s, m, args, below, meth, c, D, cA, A, Ag, Q, nL⟩ := K
  obtain ⟨hexec, hb, -⟩ := hK
  intro ad H locs ls hag hP hD hS hl
  exact lv_if_ne hexec hb (hT.at hi) ht (fun z => kt z ad H locs ls hag hP hD hS hl) (fun z => kf z ad H locs ls hag hP hD hS hl)
theorem AW_icmp_ne (hT : az_Tb cc tb) (hK : az_OK K own cc R0 l0) (i : Nat) {off : Int} {tgt : Nat} {x y : Int32} (hi : tb[i]? = some (pc, .if_icmp .ne off)) (ht : (pc : Int) + off = (tgt : Int)) (kt : ¬ x = y → AW K cells slots tgt lo rest hp) (kf : x = y → AW K cells slots (pc + 3) lo rest hp) : AW K cells slots pc lo (.int y :: .int x :: rest) hp := by
  obtain ⟨p, l, e, R, s, m, args, below, meth, c, D, cA, A, Ag, Q, nL⟩ := K
  obtain ⟨hexec, hb, -⟩ := hK
  intro ad H locs ls hag hP hD hS hl
  exact lv_icmp_ne hexec hb (hT.at hi) ht (fun z => kt z ad H locs ls hag hP hD hS hl) (fun z => kf z ad H locs ls hag hP hD hS hl)
theorem AW_if_lt (hT : az_Tb cc tb) (hK : az_OK K own cc R0 l0) (i : Nat) {off : Int} {tgt : Nat} {x : Int32} (hi : tb[i]? = some (pc, .ifCond .lt off)) (ht : (pc : Int) + off = (tgt : Int)) (kt : x < 0 → AW K cells slots tgt lo rest hp) (kf : ¬ x < 0 → AW K cells slots (pc + 3) lo rest hp) : AW K cells slots pc lo (.int x :: rest) hp := by
  obtain ⟨p, l, e, R, s, m, args, below, meth, c, D, cA, A, Ag, Q, nL⟩ := K
  obtain ⟨hexec, hb, -⟩ := hK
  intro ad H locs ls hag hP hD hS hl
  exact lv_if_lt hexec hb (hT.at hi) ht (fun z => kt z ad H locs ls hag hP hD hS hl) (fun z => kf z ad H locs ls hag hP hD hS hl)
theorem AW_icmp_lt (hT : az_Tb cc tb) (hK : az_OK K own cc R0 l0) (i : Nat) {off : Int} {tgt : Nat} {x y : Int32} (hi : tb[i]? = some (pc, .if_icmp .lt off)) (ht : (pc : Int) + off = (tgt : Int)) (kt : x < y → AW K cells slots tgt lo rest hp) (kf : ¬ x < y → AW K cells slots (pc + 3) lo rest hp) : AW K cells slots pc lo (.int y :: .int x :: rest) hp := by
  obtain ⟨p, l, e, R, s, m, args, below, meth, c, D, cA, A, Ag, Q, nL⟩ := K
  obtain ⟨hexec, hb, -⟩ := hK
  intro ad H locs ls hag hP hD hS hl
  exact lv_icmp_lt hexec hb (hT.at hi) ht (fun z => kt z ad H locs ls hag hP hD hS hl) (fun z => kf z ad H locs ls hag hP hD hS hl)
theorem AW_if_ge (hT : az_Tb cc tb) (hK : az_OK K own cc R0 l0) (i : Nat) {off : Int} {tgt : Nat} {x : Int32} (hi : tb[i]? = some (pc, .ifCond .ge off)) (ht : (pc : Int) + off = (tgt : Int)) (kt : 0 ≤ x → AW K cells slots tgt lo rest hp) (kf : ¬ 0 ≤ x → AW K cells slots (pc + 3) lo rest hp) : AW K cells slots pc lo (.int x :: rest) hp := by
  obtain ⟨p, l, e, R, s, m, args, below, meth, c, D, cA, A, Ag, Q, nL⟩ := K
  obtain ⟨hexec, hb, -⟩ := hK
  intro ad H locs ls hag hP hD hS hl
  exact lv_if_ge hexec hb (hT.at hi) ht (fun z => kt z ad H locs ls hag hP hD hS hl) (fun z => kf z ad H locs ls hag hP hD hS hl)
theorem AW_icmp_ge (hT : az_Tb cc tb) (hK : az_OK K own cc R0 l0) (i : Nat) {off : Int} {tgt : Nat} {x y : Int32} (hi : tb[i]? = some (pc, .if_icmp .ge off)) (ht : (pc : Int) + off = (tgt : Int)) (kt : y ≤ x → AW K cells slots tgt lo rest hp) (kf : ¬ y ≤ x → AW K cells slots (pc + 3) lo rest hp) : AW K cells slots pc lo (.int y :: .int x :: rest) hp := by
  obtain ⟨p, l, e, R, s, m, args, below, meth, c, D, cA, A, Ag, Q, nL⟩ := K
  obtain ⟨hexec, hb, -⟩ := hK
  intro ad H locs ls hag hP hD hS hl
  exact lv_icmp_ge hexec hb (hT.at hi) ht (fun z => kt z ad H locs ls hag hP hD hS hl) (fun z => kf z ad H locs ls hag hP hD hS hl)
theorem AW_if_gt (hT : az_Tb cc tb) (hK : az_OK K own cc R0 l0) (i : Nat) {off : Int} {tgt : Nat} {x : Int32} (hi : tb[i]? = some (pc, .ifCond .gt off)) (ht : (pc : Int) + off = (tgt : Int)) (kt : 0 < x → AW K cells slots tgt lo rest hp) (kf : ¬ 0 < x → AW K cells slots (pc + 3) lo rest hp) : AW K cells slots pc lo (.int x :: rest) hp := by
  obtain ⟨p, l, e, R, s, m, args, below, meth, c, D, cA, A, Ag, Q, nL⟩ := K
  obtain ⟨hexec, hb, -⟩ := hK
  intro ad H locs ls hag hP hD hS hl
  exact lv_if_gt hexec hb (hT.at hi) ht (fun z => kt z ad H locs ls hag hP hD hS hl) (fun z => kf z ad H locs ls hag hP hD hS hl)
theorem AW_icmp_gt (hT : az_Tb cc tb) (hK : az_OK K own cc R0 l0) (i : Nat) {off : Int} {tgt : Nat} {x y : Int32} (hi : tb[i]? = some (pc, .if_icmp .gt off)) (ht : (pc : Int) + off = (tgt : Int)) (kt : y < x → AW K cells slots tgt lo rest hp) (kf : ¬ y < x → AW K cells slots (pc + 3) lo rest hp) : AW K cells slots pc lo (.int y :: .int x :: rest) hp := by
  obtain ⟨p, l, e, R, s, m, args, below, meth, c, D, cA, A, Ag, Q, nL⟩ := K
  obtain ⟨hexec, hb, -⟩ := hK
  intro ad H locs ls hag hP hD hS hl
  exact lv_icmp_gt hexec hb (hT.at hi) ht (fun z => kt z ad H locs ls hag hP hD hS hl) (fun z => kf z ad H locs ls hag hP hD hS hl)
theorem AW_if_le (hT : az_Tb cc tb) (hK : az_OK K own cc R0 l0) (i : Nat) {off : Int} {tgt : Nat} {x : Int32} (hi : tb[i]? = some (pc, .ifCond .le off)) (ht : (pc : Int) + off = (tgt : Int)) (kt : x ≤ 0 → AW K cells slots tgt lo rest hp) (kf : ¬ x ≤ 0 → AW K cells slots (pc + 3) lo rest hp) : AW K cells slots pc lo (.int x :: rest) hp := by
  obtain ⟨p, l, e, R, s, m, args, below, meth, c, D, cA, A, Ag, Q, nL⟩ := K
  obtain ⟨hexec, hb, -⟩ := hK
  intro ad H locs ls hag hP hD hS hl
  exact lv_if_le hexec hb (hT.at hi) ht (fun z => kt z ad H locs ls hag hP hD hS hl) (fun z => kf z ad H locs ls hag hP hD hS hl)
theorem AW_icmp_le (hT : az_Tb cc tb) (hK : az_OK K own cc R0 l0) (i : Nat) {off : Int} {tgt : Nat} {x y : Int32} (hi : tb[i]? = some (pc, .if_icmp .le off)) (ht : (pc : Int) + off = (tgt : Int)) (kt : x ≤ y → AW K cells slots tgt lo rest hp) (kf : ¬ x ≤ y → AW K cells slots (pc + 3) lo rest hp) : AW K cells slots pc lo (.int y :: .int x :: rest) hp := by
  obtain ⟨p, l, e, R, s, m, args, below, meth, c, D, cA, A, Ag, Q, nL⟩ := K
  obtain ⟨hexec, hb, -⟩ := hK
  intro ad H locs ls hag hP hD hS hl
  exact lv_icmp_le hexec hb (hT.at hi) ht (fun z => kt z ad H locs ls hag hP hD hS hl) (fun z => kf z ad H locs ls hag hP hD hS hl)
theorem AW_iald (hT : az_Tb cc tb) (hK : az_OK K own cc R0 l0) (i j : Nat) {k n : Nat} {x : Int32} {f : Nat → Int32} (hi : tb[i]? = some (pc, .iaload)) (hk : hp[k]? = some (.inl (0, n, .inl f))) (hx : x = nI j) (hj : j < n) (hn : n < 2 ^ 31) (kk : AW K cells slots (pc + 1) lo (.int (f j) :: rest) hp) : AW K cells slots pc lo (.int x :: .ref k :: rest) hp := by
  obtain ⟨p, l, e, R, s, m, args, below, meth, c, D, cA, A, Ag, Q, nL⟩ := K
  obtain ⟨hexec, hb, -, -, -, -, hKn, -⟩ := hK
  intro ad H locs ls hag hP hD hS hl
  subst hx
  exact va_iald hexec hb hKn hP _ 0 (az_w_at hk) rfl (vp_in_nI hj hn) (hT.at hi) (by rw [nI_clamp (Nat.lt_trans hj hn)]; exact kk ad H locs ls hag hP hD hS hl)
theorem AW_zald (hT : az_Tb cc tb) (hK : az_OK K own cc R0 l0) (i j : Nat) {k n : Nat} {x : Int32} {f : Nat → Int32} (hi : tb[i]? = some (pc, .baload)) (hk : hp[k]? = some (.inl (2, n, .inl f))) (hx : x = nI j) (hj : j < n) (hn : n < 2 ^ 31) (kk : AW K cells slots (pc + 1) lo (.int (f j) :: rest) hp) : AW K cells slots pc lo (.int x :: .ref k :: rest) hp := by
  obtain ⟨p, l, e, R, s, m, args, below, meth, c, D, cA, A, Ag, Q, nL⟩ := K
  obtain ⟨hexec, hb, -, -, -, -, hKn, -⟩ := hK
  intro ad H locs ls hag hP hD hS hl
  subst hx
  exact va_zald hexec hb hKn hP _ 2 (az_w_at hk) rfl (vp_in_nI hj hn) (hT.at hi) (by rw [nI_clamp (Nat.lt_trans hj hn)]; exact kk ad H locs ls hag hP hD hS hl)
theorem AW_lald (hT : az_Tb cc tb) (hK : az_OK K own cc R0 l0) (i j : Nat) {k n : Nat} {x : Int32} {f : Nat → Int64} (hi : tb[i]? = some (pc, .laload)) (hk : hp[k]? = some (.inl (1, n, .inr (.inl f)))) (hx : x = nI j) (hj : j < n) (hn : n < 2 ^ 31) (kk : AW K cells slots (pc + 1) lo (.long (f j) :: rest) hp) : AW K cells slots pc lo (.int x :: .ref k :: rest) hp := by
  obtain ⟨p, l, e, R, s, m, args, below, meth, c, D, cA, A, Ag, Q, nL⟩ := K
  obtain ⟨hexec, hb, -, -, -, -, hKn, -⟩ := hK
  intro ad H locs ls hag hP hD hS hl
  subst hx
  exact va_lald hexec hb hKn hP _ 1 (az_w_at hk) rfl (vp_in_nI hj hn) (hT.at hi) (by rw [nI_clamp (Nat.lt_trans hj hn)]; exact kk ad H locs ls hag hP hD hS hl)
theorem AW_iast (hT : az_Tb cc tb) (hK : az_OK K own cc R0 l0) (i j : Nat) {k n : Nat} {x : Int32} {v : Int32} {f : Nat → Int32} (hi : tb[i]? = some (pc, .iastore)) (hk : hp[k]? = some (.inl (0, n, .inl f))) (hx : x = nI j) (hj : j < n) (hn : n < 2 ^ 31) (kk : AW K cells slots (pc + 1) lo rest (hp.set k (.inl (0, n, .inl (upd f j v))))) : AW K cells slots pc lo (.int v :: .int x :: .ref k :: rest) hp := by
  obtain ⟨p, l, e, R, s, m, args, below, meth, c, D, cA, A, Ag, Q, nL⟩ := K
  obtain ⟨hexec, hb, -, -, -, -, hKn, -⟩ := hK
  intro ad H locs ls hag hP hD hS hl
  subst hx
  refine va_iast hexec hb hKn hP hD hS _ 0 (az_w_at hk) rfl (vp_in_nI hj hn) (hT.at hi) (fun H1 locs1 hP1 hD1 hS1 => ?_)
  rw [nI_clamp (Nat.lt_trans hj hn)] at hP1 hD1
  exact kk ad H1 locs1 ls hag (by rw [az_w_set]; exact hP1) (by rw [az_w_set]; exact hD1) hS1 hl
theorem AW_zast (hT : az_Tb cc tb) (hK : az_OK K own cc R0 l0) (i j : Nat) {k n : Nat} {x : Int32} {v : Int32} {f : Nat → Int32} (hi : tb[i]? = some (pc, .bastore)) (hk : hp[k]? = some (.inl (2, n, .inl f))) (hx : x = nI j) (hj : j < n) (hn : n < 2 ^ 31) (kk : AW K cells slots (pc + 1) lo rest (hp.set k (.inl (2, n, .inl (upd f j (vp_nar .boolean v)))))) : AW K cells slots pc lo (.int v :: .int x :: .ref k :: rest) hp := by
  obtain ⟨p, l, e, R, s, m, args, below, meth, c, D, cA, A, Ag, Q, nL⟩ := K
  obtain ⟨hexec, hb, -, -, -, -, hKn, -⟩ := hK
  intro ad H locs ls hag hP hD hS hl
  subst hx
  refine va_zast hexec hb hKn hP hD hS _ 2 (az_w_at hk) rfl (vp_in_nI hj hn) (hT.at hi) (fun H1 locs1 hP1 hD1 hS1 => ?_)
  rw [nI_clamp (Nat.lt_trans hj hn)] at hP1 hD1
  exact kk ad H1 locs1 ls hag (by rw [az_w_set]; exact hP1) (by rw [az_w_set]; exact hD1) hS1 hl
theorem AW_last (hT : az_Tb cc tb) (hK : az_OK K own cc R0 l0) (i j : Nat) {k n : Nat} {x : Int32} {v : Int64} {f : Nat → Int64} (hi : tb[i]? = some (pc, .lastore)) (hk : hp[k]? = some (.inl (1, n, .inr (.inl f)))) (hx : x = nI j) (hj : j < n) (hn : n < 2 ^ 31) (kk : AW K cells slots (pc + 1) lo rest (hp.set k (.inl (1, n, .inr (.inl (vp_updL f j v)))))) : AW K cells slots pc lo (.long v :: .int x :: .ref k :: rest) hp := by
  obtain ⟨p, l, e, R, s, m, args, below, meth, c, D, cA, A, Ag, Q, nL⟩ := K
  obtain ⟨hexec, hb, -, -, -, -, hKn, -⟩ := hK
  intro ad H locs ls hag hP hD hS hl
  subst hx
  refine va_last hexec hb hKn hP hD hS _ 1 (az_w_at hk) rfl (vp_in_nI hj hn) (hT.at hi) (fun H1 locs1 hP1 hD1 hS1 => ?_)
  rw [nI_clamp (Nat.lt_trans hj hn)] at hP1 hD1
  exact kk ad H1 locs1 ls hag (by rw [az_w_set]; exact hP1) (by rw [az_w_set]; exact hD1) hS1 hl
/-- the same, written otherwise -/
theorem AW_to {lo' : List (Option Value)} {st' : List Value} {hp' : az_H} (h1 : lo = lo') (h2 : st = st') (h3 : hp = hp') (k : AW K cells slots pc lo' st' hp') : AW K cells slots pc lo st hp := by
  subst h1 h2 h3
  exact k
theorem AW_widen {a b : Nat} (h1 : cells ≤ a) (h2 : slots ≤ b) (k : AW K a b pc lo st hp) : AW K cells slots pc lo st hp := by
  obtain ⟨p, l, e, R, s, m, args, below, meth, c, D, cA, A, Ag, Q, nL⟩ := K
  intro ad H locs ls hag hP hD hS hl
  exact W.widen h1 h2 (k ad H locs ls hag hP hD hS hl)
/-- locals forgotten -/
theorem AW_lo {lo' : List (Option Value)} (hlen : lo'.length = lo.length) (hs : ∀ (i : Nat) (v : Value), lo'[i]? = some (some v) → lo[i]? = some (some v)) (k : AW K cells slots pc lo' st hp) : AW K cells slots pc lo st hp := by
  obtain ⟨p, l, e, R, s, m, args, below, meth, c, D, cA, A, Ag, Q, nL⟩ := K
  intro ad H locs ls hag hP hD hS hl
  exact k ad H locs ls hag hP hD hS (az_ls_sub hl hlen hs)
/-- what a return owes -/
def az_End (K : az_K) (cc : ByteArray) (ret : Option FieldType) (R0 : Room) (Ψ : Option Value → az_H → Prop) : Prop :=
  ∀ (cells slots pc : Nat) (lo : List (Option Value)) (hp : az_H), cells ≤ R0.cells → slots ≤ R0.slots →
    (∀ (v : Int32) (ty : FieldType), ret = some ty → narrow ty (.int v) = .int v → decode cc pc = .ok (.ireturn, 1) → Ψ (some (.int v)) hp → AW K cells slots pc lo [.int v] hp) ∧
    (∀ v : Int64, ret = some .long → decode cc pc = .ok (.lreturn, 1) → Ψ (some (.long v)) hp → AW K cells slots pc lo [.long v] hp) ∧
    (ret = none → decode cc pc = .ok (.return_, 1) → Ψ none hp → AW K cells slots pc lo [] hp)
theorem AW_iret {ret : Option FieldType} {Ψ : Option Value → az_H → Prop} (hT : az_Tb cc tb) (hE : az_End K cc ret R0 Ψ) (i : Nat) {v : Int32} {ty : FieldType} (hi : tb[i]? = some (pc, .ireturn)) (hr : ret = some ty) (hn : narrow ty (.int v) = .int v) (hc : cells ≤ R0.cells) (hs : slots ≤ R0.slots) (h : Ψ (some (.int v)) hp) : AW K cells slots pc lo [.int v] hp :=
  (hE cells slots pc lo hp hc hs).1 v ty hr hn (hT.at hi) h
theorem AW_lret {Ψ : Option Value → az_H → Prop} (hT : az_Tb cc tb) (hE : az_End K cc (some .long) R0 Ψ) (i : Nat) {v : Int64} (hi : tb[i]? = some (pc, .lreturn)) (hc : cells ≤ R0.cells) (hs : slots ≤ R0.slots) (h : Ψ (some (.long v)) hp) : AW K cells slots pc lo [.long v] hp :=
  (hE cells slots pc lo hp hc hs).2.1 v rfl (hT.at hi) h
theorem AW_vret {Ψ : Option Value → az_H → Prop} (hT : az_Tb cc tb) (hE : az_End K cc none R0 Ψ) (i : Nat) (hi : tb[i]? = some (pc, .return_)) (hc : cells ≤ R0.cells) (hs : slots ≤ R0.slots) (h : Ψ none hp) : AW K cells slots pc lo [] hp :=
  (hE cells slots pc lo hp hc hs).2.2 rfl (hT.at hi) h
/-- may the heap grow -/
def az_Gr (K : az_K) (gr : Bool) (n0 : Nat) : Prop :=
  match K with
  | (_, _, _, _, _, _, _, _, _, _, _, _, _, Ag, _, _) => gr = true → ∀ (ad : Nat → Nat) (n a : Nat), n0 ≤ n → Ag ad → Ag (va_up ad n a)
theorem az_entry (ad : Nat → Nat) (as : List Value) (n : Nat) (hcat : ∀ v ∈ as, v.category = 1) : ∀ (k : Nat) (q : Nat × Value), q ∈ az_lv ad k (as.map some ++ List.replicate n none) → q ∈ lv_args k (as.map (az_v ad)) := by
  induction as with
  | nil =>
    intro k q hq
    exfalso
    obtain ⟨i, v, h1, -⟩ := (az_lv_mem ad _ k q).mp hq
    simp [List.getElem?_replicate] at h1
  | cons v t ih =>
    intro k q hq
    have hc : (az_v ad v).category = 1 := by rw [az_v_cat]; exact hcat v List.mem_cons_self
    rw [List.map_cons, List.cons_append] at hq
    unfold az_lv at hq
    rw [List.map_cons]
    unfold lv_args
    rw [if_neg (by rw [hc]; decide)]
    rcases List.mem_cons.mp hq with h | h
    · exact List.mem_cons.mpr (Or.inl h)
    · exact List.mem_cons_of_mem _ (ih (fun w hw => hcat w (List.mem_cons_of_mem _ hw)) (k + 1) q h)
theorem az_sl_len (ad : Nat → Nat) (as : List Value) (hcat : ∀ v ∈ as, v.category = 1) : (lg_sl (as.map (az_v ad))).length = as.length := by
  induction as with
  | nil => rfl
  | cons v t ih =>
    have hc : (az_v ad v).category = 1 := by rw [az_v_cat]; exact hcat v List.mem_cons_self
    have h := ih (fun w hw => hcat w (List.mem_cons_of_mem _ hw))
    unfold lg_sl at h ⊢
    rw [List.map_cons, List.flatMap_cons, if_neg (by rw [hc]; decide), List.length_append, h, List.length_cons]
    simp only [List.length_cons, List.length_nil]
    omega
/-- a method's contract, out of a walk in abstract terms -/
theorem AMet_of {y : MethodName} {maxL : Nat} {ret : Option FieldType} {rm : Room} {gr : Bool} {as : List Value} {hp0 : az_H} {Ψ : Option Value → az_H → Prop} (hy : plainName y.cls = true) (hcat : ∀ v ∈ as, v.category = 1) (hlen : as.length ≤ maxL)
    (body : ∀ K : az_K, az_OK K y.cls cc rm l0 → (y.name = "<init>" → K.2.2.2.2.2.2.2.2.1.name = "<init>") → az_Gr K gr hp0.length → az_End K cc ret rm Ψ → AW K 0 0 0 (as.map some ++ List.replicate (maxL - as.length) none) [] hp0) : AMet l0 y cc maxL ret rm gr as hp0 Ψ := by
  intro D cA ad0 sz
  refine Met.ofW (cc := cc) (maxL := maxL) (ret := ret) hy rfl ?_
  intro p e s m args below meth c s₁ B hml hv
  obtain ⟨rfl, hsz, hP, hKn, hD0, hev⟩ := hv
  subst hsz
  have hD := hD0.self (sz := s.heap.size)
  have hA : ∀ q : Nat, s.heap.size ≤ q → va_A (az_w cA ad0 hp0) s.heap.size q := fun q h => Or.inr h
  have hl := lv_entry (as.map (az_v ad0)) (n := maxL) (by rw [az_sl_len ad0 as hcat]; exact hlen)
  rw [lg_entry_eq]
  have hl2 : az_ls ad0 ((lg_sl (as.map (az_v ad0)) ++ List.replicate (maxL - (lg_sl (as.map (az_v ad0))).length) Slot.unset).toArray) maxL (as.map some ++ List.replicate (maxL - as.length) none) :=
    ⟨⟨hl.1, hl.2.1, fun q hq => hl.2.2 q (az_entry ad0 as _ hcat 0 q hq)⟩, by simp; omega⟩
  refine body (p, l0, e, rm, s, m, (as.map (az_v ad0)).toArray, below, meth, c, D, cA, va_A (az_w cA ad0 hp0) s.heap.size, fun ad' => (gr = false → ad' = ad0) ∧ ∀ i, i < hp0.length → ad' i = ad0 i, _, maxL)
    ⟨B.exec, B.bytes, hml, B.notSynchronized, findClass_of_methodNamed B.named, hev, hKn, hA, rfl, rfl⟩ ?_ ?_ ?_ ad0 s.heap [] _ ⟨fun _ => rfl, fun _ _ => rfl⟩ hP hD va_S.rf hl2
  · intro hy2
    exact (name_of_methodNamed B.named B.method).1.trans hy2
  · intro hg ad n a hn h
    refine ⟨fun hg2 => (by rw [hg] at hg2; cases hg2), fun i hi => ?_⟩
    unfold va_up
    rw [if_neg (by omega)]
    exact h.2 i hi
  · intro cells slots pc lo hp hc hs
    refine ⟨fun v ty hr hn hd h => ?_, fun v hr hd h => ?_, fun hr hd h => ?_⟩
    · intro ad H locs ls hag hP1 hD1 hS1 hl1
      refine W.widen hc hs ?_
      exact W.zret (v := v) B.exec B.bytes (B.returns.trans hr) hn (fun t ht hW => ⟨⟨some (.int v), hp, ad, rfl, h, hag.1, hag.2, by rw [ht]; exact hP1, hD1⟩, hS1.F ht⟩) hS1.2.2 hd B.notSynchronized
    · intro ad H locs ls hag hP1 hD1 hS1 hl1
      refine W.widen hc hs ?_
      exact W.lret (v := v) B.exec B.bytes (B.returns.trans hr) (fun t ht hW => ⟨⟨some (.long v), hp, ad, rfl, h, hag.1, hag.2, by rw [ht]; exact hP1, hD1⟩, hS1.F ht⟩) hS1.2.2 hd B.notSynchronized
    · intro ad H locs ls hag hP1 hD1 hS1 hl1
      refine W.widen hc hs ?_
      exact W.vret B.exec B.bytes (B.returns.trans hr) (fun t ht hW => ⟨⟨none, hp, ad, rfl, h, hag.1, hag.2, by rw [ht]; exact hP1, hD1⟩, hS1.F ht⟩) hS1.2.2 hd B.notSynchronized
end AZ4
end
section
/-! calls -/
section AZ5
/-- behind a call -/
theorem az_after {p : Program} {l : Launch} {e : Env} {R : Room} {s : State} {m : MethodId} {args : Array Value} {below : List Frame} {meth : Method} {c : Code} {D : va_G} {cA : Nat → ClassId} {A : Nat → Prop} {Q : State → Prop} {ad : Nat → Nat} {H : Heap} {locs : List Loc} {cells slots mc ms pc : Nat} {ls : Array Slot} {st0 rest : List Value} {hp : az_H} {gr : Bool} {Ψ : Option Value → az_H → Prop} {a : Array Value}
    (hr : va_Run p l e R s m args below meth c H locs cells slots mc ms (F0 m pc ls st0) rest (az_Q D cA ad hp H.size gr Ψ a) (va_A (az_w cA ad hp) H.size)) (hS : va_S A s.heap H locs) (hD : va_D A (az_w cA ad hp)) (hA : ∀ q, s.heap.size ≤ q → A q)
    (kk : ∀ (r : Option Value) (hp' : az_H) (ad' : Nat → Nat) (H1 : Heap) (locs1 : List Loc), Ψ r hp' → (gr = false → ad' = ad) → (∀ i, i < hp.length → ad' i = ad i) → va_P D vwCl (az_w cA ad' hp') H1 → va_D A (az_w cA ad' hp') → va_S A s.heap H1 locs1 →
      W p l e R s m args below meth c H1 locs1 (cells + mc) (slots + ms) Q (F0 m (pc + 3) ls ((r.map (az_v ad')).toList ++ rest))) : W p l e R s m args below meth c H locs cells slots Q (F0 m pc ls st0) := by
  have hB : ∀ q, va_A (az_w cA ad hp) H.size q → A q := fun q h => by
    rcases h with ⟨k, e9, h⟩ | h
    · exact hD.2 k _ h
    · exact hA q (Nat.le_trans hS.1 h)
  intro T hT X
  obtain ⟨v, st₀, t, T', L, h0, X', hL, e1, e2, ⟨⟨r, hp', ad', hv, hΨ, hg, hag, hP1, hD1⟩, hz, hk⟩, st⟩ := hr T hT X
  cases hv
  rw [h0] at hz hk
  obtain ⟨t2, a1, b1⟩ := kk r hp' ad' T'.heap (locs ++ L) hΨ hg hag (by rw [e1]; exact hP1) (hD1.weaken (fun _ q _ h => hB q.1 h))
    ⟨Nat.le_trans hS.1 (by rw [e1]; exact hz), fun q h1 h2 => by rw [e1, hk q (Nat.lt_of_lt_of_le h1 hS.1) (fun z => h2 (hB q z))]; exact hS.2.1 q h1 h2, fun q hq => by
      rcases List.mem_append.mp hq with h | h
      · exact hS.2.2 q h
      · exact hB _ (hL q h)⟩ T' rfl X'
  exact ⟨t2, st t2 a1, b1⟩
/-- what the tables say of a call -/
def az_Cw (y : MethodName) (cb : ByteArray) (mL : Nat) (ret : Option FieldType) (n : Nat) : Prop :=
  (Cond.initialized y.cls ∈ lw_tbl ∧ Cond.code y cb mL ret ∈ lw_tbl) ∧ y.cls ≠ "java/lang/invoke/MethodHandle" ∧ y.cls ≠ "java/lang/invoke/VarHandle" ∧ (parseMethodDescriptor y.desc).map (fun d => d.parameters.length) = some n
theorem az_cb {R : Room} {s : State} {args : Array Value} {own : String} {idx : Nat} {y : MethodName} {cb : ByteArray} {mL : Nat} {ret : Option FieldType} {n : Nat} {rm : Room} (hw : az_wd s) (h : az_Cw y cb mL ret n) (hl : Cond.methodLink own idx y ∈ lw_tbl) (hR : rm.frames + 1 ≤ R.frames ∧ 8 + (mL + 11) + rm.locals ≤ R.locals) :
    CallB R s args own idx y cb mL ret [.code y cb mL ret] rm rm.cells rm.slots n :=
  callB_of (Ts := [.code y cb mL ret]) n (fun w h9 => by rw [List.mem_singleton.mp h9]; exact hw.use h.1.2 rfl args) (fun w h9 => ⟨h9, by rw [List.mem_singleton.mp h9]; exact Or.inl rfl⟩) rfl rfl rfl (hw.use h.1.1 rfl args) (hw.use hl rfl args) h.2 hR
def az_rm (rm R0 : Room) (mL : Nat) (rest : List Value) : Bool := Nat.ble (rm.frames + 1) R0.frames && (Nat.ble (8 + (mL + 11) + rm.locals) R0.locals && Nat.ble (rest.map fun v => v.category).sum 8)
theorem az_rm.of {rm R0 : Room} {mL : Nat} {rest : List Value} (h : az_rm rm R0 mL rest = true) : (rm.frames + 1 ≤ R0.frames ∧ 8 + (mL + 11) + rm.locals ≤ R0.locals) ∧ (rest.map fun v => v.category).sum ≤ 8 := by
  unfold az_rm at h
  rw [Bool.and_eq_true, Bool.and_eq_true] at h
  exact ⟨⟨Nat.le_of_ble_eq_true h.1, Nat.le_of_ble_eq_true h.2.1⟩, Nat.le_of_ble_eq_true h.2.2⟩
theorem az_cats (ad : Nat → Nat) (l : List Value) : ((l.map (az_v ad)).map fun v => v.category).sum = (l.map fun v => v.category).sum := by
  rw [List.map_map]
  congr 1
  exact List.map_congr_left (fun v _ => az_v_cat ad v)
theorem az_ret_map (ad : Nat → Nat) (r : Option Value) (rest : List Value) : (r.map (az_v ad)).toList ++ rest.map (az_v ad) = (r.toList ++ rest).map (az_v ad) := by
  cases r <;> rfl
theorem az_blind (D : va_G) (cA : Nat → ClassId) (ad : Nat → Nat) (hp : az_H) (sz : Nat) (as : List Value) : FrameBlind (va_Pc as (az_U D cA ad hp sz)) := by
  intro a U g mk h
  obtain ⟨h0, h1, h2, h3, h4, h5⟩ := h
  exact ⟨h0, h1, h2, va_K.moved (u := U) (U := U.calling g mk a) (Vm.Alike.refl U.vm) h3, h4, h5.call g mk a⟩
theorem az_start {D : va_G} {cA : Nat → ClassId} {ad : Nat → Nat} {hp : az_H} {s : State} {A : Nat → Prop} {H : Heap} {locs : List Loc} (hev : az_ev A s) (hKn : va_K D vwCl (az_tys cA) s) (hA : ∀ q, s.heap.size ≤ q → A q) (hP : va_P D vwCl (az_w cA ad hp) H) (hD : va_D A (az_w cA ad hp)) (hS : va_S A s.heap H locs) (as : List Value) :
    ∀ U : State, U.heap = H → s.WarmedH U.vm → va_Pc as (az_U D cA ad hp H.size) as.toArray U := by
  intro U hU hW
  refine ⟨rfl, by rw [hU], by rw [hU]; exact hP, va_K.moved hW.alike hKn, hD.weaken (fun _ _ _ _ => trivial), hev.to hW hS hU (fun q h => ?_)⟩
  rcases h with ⟨k, e9, h⟩ | h
  · exact hD.2 k _ h
  · exact hA q (Nat.le_trans hS.1 h)
variable {K : az_K} {own : String} {cc : ByteArray} {R0 : Room} {l0 : Launch} {tb : List (Nat × Instr)} {cells slots pc : Nat} {lo : List (Option Value)} {st : List Value} {hp : az_H}
variable {y : MethodName} {cb : ByteArray} {mL n idx : Nat} {ret : Option FieldType} {rm : Room} {Ψ : Option Value → az_H → Prop}
theorem AW_callV (hT : az_Tb cc tb) (hK : az_OK K own cc R0 l0) (i : Nat) (as rest : List Value) {k cj N9 : Nat} {fs : List Value} {T9 : u_T} (hM : AMet l0 y cb mL ret rm false (.ref k :: as) hp Ψ) (cv : az_Cw y cb mL ret n) (hl : Cond.methodLink own idx y ∈ lw_tbl) (hv : Cond.instanceMethod y ∈ lw_tbl ∧ Cond.selects y.cls y y ∈ lw_tbl)
    (hi : tb[i]? = some (pc, .invokevirtual idx)) (hobj : hp[k]? = some (.inr (cj, fs))) (hcj : vwCl[cj]? = some (y.cls, T9, N9)) (hn : as.length = n) (hst : st = as.reverse ++ .ref k :: rest) (hrm : az_rm rm R0 mL rest = true) (hc : cells + rm.cells ≤ R0.cells) (hs : slots + rm.slots ≤ R0.slots)
    (kk : ∀ (r : Option Value) (hp' : az_H), Ψ r hp' → AW K (cells + rm.cells) (slots + rm.slots) (pc + 3) lo (r.toList ++ rest) hp') : AW K cells slots pc lo st hp := by
  obtain ⟨p, l, e, R, s, m, args, below, meth, c, D, cA, A, Ag, Q, nL⟩ := K
  obtain ⟨hexec, hb, hml, hlk, hown, hev, hKn, hA, rfl, rfl⟩ := hK
  obtain ⟨hR, hcat⟩ := az_rm.of hrm
  subst hst
  intro ad H locs ls hag hP hD hS hl1
  refine az_after (gr := false) (va_runV (As := as.map (az_v ad)) (rest := rest.map (az_v ad)) (b := ad k) (C := y.cls) (Ts := []) (own := own) (nL := nL) ⟨hexec, hb, hml, hown, fun _ h => by cases h⟩ (hM D cA ad H.size) ⟨az_cb hev.1 cv hl hR, hev.1.use hv.1 rfl args, hev.1.use hv.2 rfl args⟩
    ⟨az_blind D cA ad hp H.size _, va_recv hKn hP hcj (az_w_at hobj), az_start hev hKn hA hP hD hS (.ref (ad k) :: as.map (az_v ad))⟩ rfl (by rw [List.length_map]; exact hn) hl1.1.1 (by rw [List.map_append, List.map_reverse]; rfl) (lv_room (by rw [az_cats]; exact hcat)) (hT.at hi) ⟨hc, hs⟩) hS hD hA (fun r hp' ad' H1 locs1 hΨ hg hag' hP1 hD1 hS1 => ?_)
  have := hg rfl
  subst this
  rw [az_ret_map]
  exact kk r hp' hΨ ad' H1 locs1 ls hag hP1 hD1 hS1 hl1
theorem AW_callS (hT : az_Tb cc tb) (hK : az_OK K own cc R0 l0) (i : Nat) (as rest : List Value) (hM : AMet l0 y cb mL ret rm false as hp Ψ) (cv : az_Cw y cb mL ret n) (hl : Cond.methodLink own idx y ∈ lw_tbl) (hv : Cond.static y ∈ lw_tbl)
    (hi : tb[i]? = some (pc, .invokestatic idx)) (hn : as.length = n) (hst : st = as.reverse ++ rest) (hrm : az_rm rm R0 mL rest = true) (hc : cells + rm.cells ≤ R0.cells) (hs : slots + rm.slots ≤ R0.slots)
    (kk : ∀ (r : Option Value) (hp' : az_H), Ψ r hp' → AW K (cells + rm.cells) (slots + rm.slots) (pc + 3) lo (r.toList ++ rest) hp') : AW K cells slots pc lo st hp := by
  obtain ⟨p, l, e, R, s, m, args, below, meth, c, D, cA, A, Ag, Q, nL⟩ := K
  obtain ⟨hexec, hb, hml, hlk, hown, hev, hKn, hA, rfl, rfl⟩ := hK
  obtain ⟨hR, hcat⟩ := az_rm.of hrm
  subst hst
  intro ad H locs ls hag hP hD hS hl1
  refine az_after (gr := false) (va_runS (As := as.map (az_v ad)) (rest := rest.map (az_v ad)) (Ts := []) (own := own) (nL := nL) ⟨hexec, hb, hml, hown, fun _ h => by cases h⟩ (hM D cA ad H.size) ⟨az_cb hev.1 cv hl hR, hev.1.use hv rfl args⟩
    ⟨az_blind D cA ad hp H.size _, az_start hev hKn hA hP hD hS (as.map (az_v ad))⟩ rfl (by rw [List.length_map]; exact hn) hl1.1.1 (by rw [List.map_append, List.map_reverse]) (lv_room (by rw [az_cats]; exact hcat)) (hT.at hi) ⟨hc, hs⟩) hS hD hA (fun r hp' ad' H1 locs1 hΨ hg hag' hP1 hD1 hS1 => ?_)
  have := hg rfl
  subst this
  rw [az_ret_map]
  exact kk r hp' hΨ ad' H1 locs1 ls hag hP1 hD1 hS1 hl1
/-- a private static method of a nest mate -/
theorem AW_callSN (hT : az_Tb cc tb) (hK : az_OK K own cc R0 l0) (i : Nat) (as rest : List Value) {host : String} (hM : AMet l0 y cb mL ret rm false as hp Ψ) (cv : az_Cw y cb mL ret n) (hl : Cond.methodLinkNest own idx y host ∈ lw_tbl) (hv : Cond.static y ∈ lw_tbl)
    (hi : tb[i]? = some (pc, .invokestatic idx)) (hn : as.length = n) (hst : st = as.reverse ++ rest) (hrm : az_rm rm R0 mL rest = true) (hc : cells + rm.cells ≤ R0.cells) (hs : slots + rm.slots ≤ R0.slots)
    (kk : ∀ (r : Option Value) (hp' : az_H), Ψ r hp' → AW K (cells + rm.cells) (slots + rm.slots) (pc + 3) lo (r.toList ++ rest) hp') : AW K cells slots pc lo st hp := by
  obtain ⟨p, l, e, R, s, m, args, below, meth, c, D, cA, A, Ag, Q, nL⟩ := K
  obtain ⟨hexec, hb, hml, hlk, hown, hev, hKn, hA, rfl, rfl⟩ := hK
  obtain ⟨hR, hcat⟩ := az_rm.of hrm
  subst hst
  intro ad H locs ls hag hP hD hS hl1
  have cw : va_CN R s args own idx y host cb mL ret [.code y cb mL ret] rm rm.cells rm.slots n :=
    va_cnB (Ts := [.code y cb mL ret]) n (fun w h9 => by rw [List.mem_singleton.mp h9]; exact hev.1.use cv.1.2 rfl args) (fun w h9 => ⟨h9, by rw [List.mem_singleton.mp h9]; exact Or.inl rfl⟩) rfl rfl rfl (hev.1 _ hl rfl) (hev.1.use cv.1.1 rfl args) cv.2 hR
  refine az_after (gr := false) (va_runSN (As := as.map (az_v ad)) (rest := rest.map (az_v ad)) (Ts := []) (own := own) (host := host) (nL := nL) ⟨hexec, hb, hml, hown, fun _ h => by cases h⟩ (hM D cA ad H.size) ⟨cw, hev.1.use hv rfl args, trivial⟩
    ⟨az_blind D cA ad hp H.size _, az_start hev hKn hA hP hD hS (as.map (az_v ad))⟩ rfl (by rw [List.length_map]; exact hn) hl1.1.1 (by rw [List.map_append, List.map_reverse]) (lv_room (by rw [az_cats]; exact hcat)) (hT.at hi) ⟨hc, hs⟩) hS hD hA (fun r hp' ad' H1 locs1 hΨ hg hag' hP1 hD1 hS1 => ?_)
  have := hg rfl
  subst this
  rw [az_ret_map]
  exact kk r hp' hΨ ad' H1 locs1 ls hag hP1 hD1 hS1 hl1
end AZ5
end
