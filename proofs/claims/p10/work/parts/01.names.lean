-- ===== PART A: goes FIRST, ahead of the names: the tables' words, and 'selects' of the private methods out of them =====
/-- a private method of a class that the tables say can be made, by its rows of tables_1 -/
def lw_okq (q : MethodName × Nat) : Prop := (q.1.cls ≠ "java/lang/invoke/MethodHandle" ∧ q.1.cls ≠ "java/lang/invoke/VarHandle") ∧ Cond.instantiable q.1.cls q.2 ∈ tables_1 ∧ Cond.privateMethod q.1 ∈ tables_1 ∧ Cond.instanceMethod q.1 ∈ tables_1
theorem lw_p0 : lw_okq (⟨"PatternBench$Reader", "openLevel", "(II)V"⟩, 11) := ⟨⟨by decide +kernel, by decide +kernel⟩, List.mem_of_getElem? (i := 25) (by decide +kernel), List.mem_of_getElem? (i := 424) (by decide +kernel), List.mem_of_getElem? (i := 425) (by decide +kernel)⟩
theorem lw_p1 : lw_okq (⟨"PatternBench$Reader", "readPart", "()I"⟩, 11) := ⟨⟨by decide +kernel, by decide +kernel⟩, List.mem_of_getElem? (i := 25) (by decide +kernel), List.mem_of_getElem? (i := 432) (by decide +kernel), List.mem_of_getElem? (i := 433) (by decide +kernel)⟩
theorem lw_p2 : lw_okq (⟨"PatternBench$Reader", "ahead", "(I)I"⟩, 11) := ⟨⟨by decide +kernel, by decide +kernel⟩, List.mem_of_getElem? (i := 25) (by decide +kernel), List.mem_of_getElem? (i := 436) (by decide +kernel), List.mem_of_getElem? (i := 437) (by decide +kernel)⟩
theorem lw_p3 : lw_okq (⟨"PatternBench$Reader", "openNextRow", "()I"⟩, 11) := ⟨⟨by decide +kernel, by decide +kernel⟩, List.mem_of_getElem? (i := 25) (by decide +kernel), List.mem_of_getElem? (i := 444) (by decide +kernel), List.mem_of_getElem? (i := 445) (by decide +kernel)⟩
theorem lw_p4 : lw_okq (⟨"PatternBench$Reader", "closeChoice", "()I"⟩, 11) := ⟨⟨by decide +kernel, by decide +kernel⟩, List.mem_of_getElem? (i := 25) (by decide +kernel), List.mem_of_getElem? (i := 448) (by decide +kernel), List.mem_of_getElem? (i := 449) (by decide +kernel)⟩
theorem lw_p5 : lw_okq (⟨"PatternBench$Reader", "refuse", "()I"⟩, 11) := ⟨⟨by decide +kernel, by decide +kernel⟩, List.mem_of_getElem? (i := 25) (by decide +kernel), List.mem_of_getElem? (i := 452) (by decide +kernel), List.mem_of_getElem? (i := 453) (by decide +kernel)⟩
theorem lw_p6 : lw_okq (⟨"PatternBench$Reader", "readCall", "()I"⟩, 11) := ⟨⟨by decide +kernel, by decide +kernel⟩, List.mem_of_getElem? (i := 25) (by decide +kernel), List.mem_of_getElem? (i := 457) (by decide +kernel), List.mem_of_getElem? (i := 458) (by decide +kernel)⟩
theorem lw_p7 : lw_okq (⟨"PatternBench$Reader", "appendItem", "(II)I"⟩, 11) := ⟨⟨by decide +kernel, by decide +kernel⟩, List.mem_of_getElem? (i := 25) (by decide +kernel), List.mem_of_getElem? (i := 462) (by decide +kernel), List.mem_of_getElem? (i := 463) (by decide +kernel)⟩
theorem lw_p8 : lw_okq (⟨"PatternBench$Reader", "openChoice", "()I"⟩, 11) := ⟨⟨by decide +kernel, by decide +kernel⟩, List.mem_of_getElem? (i := 25) (by decide +kernel), List.mem_of_getElem? (i := 470) (by decide +kernel), List.mem_of_getElem? (i := 471) (by decide +kernel)⟩
theorem lw_p9 : lw_okq (⟨"PatternBench$Reader", "kindOfChoice", "()I"⟩, 11) := ⟨⟨by decide +kernel, by decide +kernel⟩, List.mem_of_getElem? (i := 25) (by decide +kernel), List.mem_of_getElem? (i := 474) (by decide +kernel), List.mem_of_getElem? (i := 475) (by decide +kernel)⟩
theorem lw_p10 : lw_okq (⟨"PatternBench$Reader", "readClass", "()I"⟩, 11) := ⟨⟨by decide +kernel, by decide +kernel⟩, List.mem_of_getElem? (i := 25) (by decide +kernel), List.mem_of_getElem? (i := 478) (by decide +kernel), List.mem_of_getElem? (i := 479) (by decide +kernel)⟩
theorem lw_p11 : lw_okq (⟨"PatternBench$Reader", "readClassPart", "()I"⟩, 11) := ⟨⟨by decide +kernel, by decide +kernel⟩, List.mem_of_getElem? (i := 25) (by decide +kernel), List.mem_of_getElem? (i := 483) (by decide +kernel), List.mem_of_getElem? (i := 484) (by decide +kernel)⟩
theorem lw_p12 : lw_okq (⟨"PatternBench$Reader", "readReference", "()I"⟩, 11) := ⟨⟨by decide +kernel, by decide +kernel⟩, List.mem_of_getElem? (i := 25) (by decide +kernel), List.mem_of_getElem? (i := 491) (by decide +kernel), List.mem_of_getElem? (i := 492) (by decide +kernel)⟩
theorem lw_p13 : lw_okq (⟨"PatternBench$Reader", "readSign", "()I"⟩, 11) := ⟨⟨by decide +kernel, by decide +kernel⟩, List.mem_of_getElem? (i := 25) (by decide +kernel), List.mem_of_getElem? (i := 495) (by decide +kernel), List.mem_of_getElem? (i := 496) (by decide +kernel)⟩
theorem lw_p14 : lw_okq (⟨"PatternBench$Reader", "readRepeat", "(I)V"⟩, 11) := ⟨⟨by decide +kernel, by decide +kernel⟩, List.mem_of_getElem? (i := 25) (by decide +kernel), List.mem_of_getElem? (i := 499) (by decide +kernel), List.mem_of_getElem? (i := 500) (by decide +kernel)⟩
theorem lw_p15 : lw_okq (⟨"PatternBench$Reader", "setRepeat", "(IIII)V"⟩, 11) := ⟨⟨by decide +kernel, by decide +kernel⟩, List.mem_of_getElem? (i := 25) (by decide +kernel), List.mem_of_getElem? (i := 503) (by decide +kernel), List.mem_of_getElem? (i := 504) (by decide +kernel)⟩
def lw_privs_1 : List (MethodName × Nat) := [(⟨"PatternBench$Reader", "openLevel", "(II)V"⟩, 11), (⟨"PatternBench$Reader", "readPart", "()I"⟩, 11), (⟨"PatternBench$Reader", "ahead", "(I)I"⟩, 11), (⟨"PatternBench$Reader", "openNextRow", "()I"⟩, 11), (⟨"PatternBench$Reader", "closeChoice", "()I"⟩, 11), (⟨"PatternBench$Reader", "refuse", "()I"⟩, 11), (⟨"PatternBench$Reader", "readCall", "()I"⟩, 11), (⟨"PatternBench$Reader", "appendItem", "(II)I"⟩, 11), (⟨"PatternBench$Reader", "openChoice", "()I"⟩, 11), (⟨"PatternBench$Reader", "kindOfChoice", "()I"⟩, 11), (⟨"PatternBench$Reader", "readClass", "()I"⟩, 11), (⟨"PatternBench$Reader", "readClassPart", "()I"⟩, 11), (⟨"PatternBench$Reader", "readReference", "()I"⟩, 11), (⟨"PatternBench$Reader", "readSign", "()I"⟩, 11), (⟨"PatternBench$Reader", "readRepeat", "(I)V"⟩, 11), (⟨"PatternBench$Reader", "setRepeat", "(IIII)V"⟩, 11)]
theorem lw_r1 : ∀ q ∈ lw_privs_1, lw_okq q := List.forall_mem_cons.mpr ⟨lw_p0, List.forall_mem_cons.mpr ⟨lw_p1, List.forall_mem_cons.mpr ⟨lw_p2, List.forall_mem_cons.mpr ⟨lw_p3, List.forall_mem_cons.mpr ⟨lw_p4, List.forall_mem_cons.mpr ⟨lw_p5, List.forall_mem_cons.mpr ⟨lw_p6, List.forall_mem_cons.mpr ⟨lw_p7, List.forall_mem_cons.mpr ⟨lw_p8, List.forall_mem_cons.mpr ⟨lw_p9, List.forall_mem_cons.mpr ⟨lw_p10, List.forall_mem_cons.mpr ⟨lw_p11, List.forall_mem_cons.mpr ⟨lw_p12, List.forall_mem_cons.mpr ⟨lw_p13, List.forall_mem_cons.mpr ⟨lw_p14, List.forall_mem_cons.mpr ⟨lw_p15, fun _ h => absurd h List.not_mem_nil⟩⟩⟩⟩⟩⟩⟩⟩⟩⟩⟩⟩⟩⟩⟩⟩
theorem lw_p16 : lw_okq (⟨"PatternBench$Reader", "readTimes", "(I)V"⟩, 11) := ⟨⟨by decide +kernel, by decide +kernel⟩, List.mem_of_getElem? (i := 25) (by decide +kernel), List.mem_of_getElem? (i := 507) (by decide +kernel), List.mem_of_getElem? (i := 508) (by decide +kernel)⟩
theorem lw_p17 : lw_okq (⟨"PatternBench", "searchFrom", "(I)I"⟩, 8) := ⟨⟨by decide +kernel, by decide +kernel⟩, List.mem_of_getElem? (i := 17) (by decide +kernel), List.mem_of_getElem? (i := 523) (by decide +kernel), List.mem_of_getElem? (i := 524) (by decide +kernel)⟩
theorem lw_p18 : lw_okq (⟨"PatternBench$Matcher", "beginAt", "(I)V"⟩, 11) := ⟨⟨by decide +kernel, by decide +kernel⟩, List.mem_of_getElem? (i := 156) (by decide +kernel), List.mem_of_getElem? (i := 531) (by decide +kernel), List.mem_of_getElem? (i := 532) (by decide +kernel)⟩
theorem lw_p19 : lw_okq (⟨"PatternBench$Matcher", "go", "(II)V"⟩, 11) := ⟨⟨by decide +kernel, by decide +kernel⟩, List.mem_of_getElem? (i := 156) (by decide +kernel), List.mem_of_getElem? (i := 543) (by decide +kernel), List.mem_of_getElem? (i := 544) (by decide +kernel)⟩
theorem lw_p20 : lw_okq (⟨"PatternBench$Matcher", "goesOn", "()Z"⟩, 11) := ⟨⟨by decide +kernel, by decide +kernel⟩, List.mem_of_getElem? (i := 156) (by decide +kernel), List.mem_of_getElem? (i := 548) (by decide +kernel), List.mem_of_getElem? (i := 549) (by decide +kernel)⟩
theorem lw_p21 : lw_okq (⟨"PatternBench$Matcher", "takeTurn", "()V"⟩, 11) := ⟨⟨by decide +kernel, by decide +kernel⟩, List.mem_of_getElem? (i := 156) (by decide +kernel), List.mem_of_getElem? (i := 560) (by decide +kernel), List.mem_of_getElem? (i := 561) (by decide +kernel)⟩
theorem lw_p22 : lw_okq (⟨"PatternBench$Matcher", "enterRow", "(I)V"⟩, 11) := ⟨⟨by decide +kernel, by decide +kernel⟩, List.mem_of_getElem? (i := 156) (by decide +kernel), List.mem_of_getElem? (i := 564) (by decide +kernel), List.mem_of_getElem? (i := 565) (by decide +kernel)⟩
theorem lw_p23 : lw_okq (⟨"PatternBench$Matcher", "enterItem", "(I)V"⟩, 11) := ⟨⟨by decide +kernel, by decide +kernel⟩, List.mem_of_getElem? (i := 156) (by decide +kernel), List.mem_of_getElem? (i := 572) (by decide +kernel), List.mem_of_getElem? (i := 573) (by decide +kernel)⟩
theorem lw_p24 : lw_okq (⟨"PatternBench$Matcher", "fork", "(I)V"⟩, 11) := ⟨⟨by decide +kernel, by decide +kernel⟩, List.mem_of_getElem? (i := 156) (by decide +kernel), List.mem_of_getElem? (i := 580) (by decide +kernel), List.mem_of_getElem? (i := 581) (by decide +kernel)⟩
theorem lw_p25 : lw_okq (⟨"PatternBench$Matcher", "tryAtom", "(I)V"⟩, 11) := ⟨⟨by decide +kernel, by decide +kernel⟩, List.mem_of_getElem? (i := 156) (by decide +kernel), List.mem_of_getElem? (i := 584) (by decide +kernel), List.mem_of_getElem? (i := 585) (by decide +kernel)⟩
theorem lw_p26 : lw_okq (⟨"PatternBench$Matcher", "ask", "(I)V"⟩, 11) := ⟨⟨by decide +kernel, by decide +kernel⟩, List.mem_of_getElem? (i := 156) (by decide +kernel), List.mem_of_getElem? (i := 588) (by decide +kernel), List.mem_of_getElem? (i := 589) (by decide +kernel)⟩
theorem lw_p27 : lw_okq (⟨"PatternBench$Matcher", "askLetter", "(I)V"⟩, 11) := ⟨⟨by decide +kernel, by decide +kernel⟩, List.mem_of_getElem? (i := 156) (by decide +kernel), List.mem_of_getElem? (i := 592) (by decide +kernel), List.mem_of_getElem? (i := 593) (by decide +kernel)⟩
theorem lw_p28 : lw_okq (⟨"PatternBench$Matcher", "askSame", "(I)V"⟩, 11) := ⟨⟨by decide +kernel, by decide +kernel⟩, List.mem_of_getElem? (i := 156) (by decide +kernel), List.mem_of_getElem? (i := 596) (by decide +kernel), List.mem_of_getElem? (i := 597) (by decide +kernel)⟩
theorem lw_p29 : lw_okq (⟨"PatternBench$Matcher", "standsHere", "(II)Z"⟩, 11) := ⟨⟨by decide +kernel, by decide +kernel⟩, List.mem_of_getElem? (i := 156) (by decide +kernel), List.mem_of_getElem? (i := 606) (by decide +kernel), List.mem_of_getElem? (i := 607) (by decide +kernel)⟩
theorem lw_p30 : lw_okq (⟨"PatternBench$Matcher", "askCall", "(I)V"⟩, 11) := ⟨⟨by decide +kernel, by decide +kernel⟩, List.mem_of_getElem? (i := 156) (by decide +kernel), List.mem_of_getElem? (i := 610) (by decide +kernel), List.mem_of_getElem? (i := 611) (by decide +kernel)⟩
theorem lw_p31 : lw_okq (⟨"PatternBench$Matcher", "askBody", "(I)V"⟩, 11) := ⟨⟨by decide +kernel, by decide +kernel⟩, List.mem_of_getElem? (i := 156) (by decide +kernel), List.mem_of_getElem? (i := 614) (by decide +kernel), List.mem_of_getElem? (i := 615) (by decide +kernel)⟩
def lw_privs_2 : List (MethodName × Nat) := [(⟨"PatternBench$Reader", "readTimes", "(I)V"⟩, 11), (⟨"PatternBench", "searchFrom", "(I)I"⟩, 8), (⟨"PatternBench$Matcher", "beginAt", "(I)V"⟩, 11), (⟨"PatternBench$Matcher", "go", "(II)V"⟩, 11), (⟨"PatternBench$Matcher", "goesOn", "()Z"⟩, 11), (⟨"PatternBench$Matcher", "takeTurn", "()V"⟩, 11), (⟨"PatternBench$Matcher", "enterRow", "(I)V"⟩, 11), (⟨"PatternBench$Matcher", "enterItem", "(I)V"⟩, 11), (⟨"PatternBench$Matcher", "fork", "(I)V"⟩, 11), (⟨"PatternBench$Matcher", "tryAtom", "(I)V"⟩, 11), (⟨"PatternBench$Matcher", "ask", "(I)V"⟩, 11), (⟨"PatternBench$Matcher", "askLetter", "(I)V"⟩, 11), (⟨"PatternBench$Matcher", "askSame", "(I)V"⟩, 11), (⟨"PatternBench$Matcher", "standsHere", "(II)Z"⟩, 11), (⟨"PatternBench$Matcher", "askCall", "(I)V"⟩, 11), (⟨"PatternBench$Matcher", "askBody", "(I)V"⟩, 11)]
theorem lw_r2 : ∀ q ∈ lw_privs_2, lw_okq q := List.forall_mem_cons.mpr ⟨lw_p16, List.forall_mem_cons.mpr ⟨lw_p17, List.forall_mem_cons.mpr ⟨lw_p18, List.forall_mem_cons.mpr ⟨lw_p19, List.forall_mem_cons.mpr ⟨lw_p20, List.forall_mem_cons.mpr ⟨lw_p21, List.forall_mem_cons.mpr ⟨lw_p22, List.forall_mem_cons.mpr ⟨lw_p23, List.forall_mem_cons.mpr ⟨lw_p24, List.forall_mem_cons.mpr ⟨lw_p25, List.forall_mem_cons.mpr ⟨lw_p26, List.forall_mem_cons.mpr ⟨lw_p27, List.forall_mem_cons.mpr ⟨lw_p28, List.forall_mem_cons.mpr ⟨lw_p29, List.forall_mem_cons.mpr ⟨lw_p30, List.forall_mem_cons.mpr ⟨lw_p31, fun _ h => absurd h List.not_mem_nil⟩⟩⟩⟩⟩⟩⟩⟩⟩⟩⟩⟩⟩⟩⟩⟩
theorem lw_p32 : lw_okq (⟨"PatternBench$Matcher", "goAfterAtom", "(I)V"⟩, 11) := ⟨⟨by decide +kernel, by decide +kernel⟩, List.mem_of_getElem? (i := 156) (by decide +kernel), List.mem_of_getElem? (i := 618) (by decide +kernel), List.mem_of_getElem? (i := 619) (by decide +kernel)⟩
theorem lw_p33 : lw_okq (⟨"PatternBench$Matcher", "goAfterItem", "(I)V"⟩, 11) := ⟨⟨by decide +kernel, by decide +kernel⟩, List.mem_of_getElem? (i := 156) (by decide +kernel), List.mem_of_getElem? (i := 622) (by decide +kernel), List.mem_of_getElem? (i := 623) (by decide +kernel)⟩
theorem lw_p34 : lw_okq (⟨"PatternBench$Matcher", "resume", "(I)V"⟩, 11) := ⟨⟨by decide +kernel, by decide +kernel⟩, List.mem_of_getElem? (i := 156) (by decide +kernel), List.mem_of_getElem? (i := 626) (by decide +kernel), List.mem_of_getElem? (i := 627) (by decide +kernel)⟩
theorem lw_p35 : lw_okq (⟨"PatternBench$Matcher", "leaveBody", "(II)V"⟩, 11) := ⟨⟨by decide +kernel, by decide +kernel⟩, List.mem_of_getElem? (i := 156) (by decide +kernel), List.mem_of_getElem? (i := 630) (by decide +kernel), List.mem_of_getElem? (i := 631) (by decide +kernel)⟩
theorem lw_p36 : lw_okq (⟨"PatternBench$Matcher", "leaveTimesTurn", "(II)V"⟩, 11) := ⟨⟨by decide +kernel, by decide +kernel⟩, List.mem_of_getElem? (i := 156) (by decide +kernel), List.mem_of_getElem? (i := 639) (by decide +kernel), List.mem_of_getElem? (i := 640) (by decide +kernel)⟩
theorem lw_p37 : lw_okq (⟨"PatternBench$Matcher", "takeChoice", "()V"⟩, 11) := ⟨⟨by decide +kernel, by decide +kernel⟩, List.mem_of_getElem? (i := 156) (by decide +kernel), List.mem_of_getElem? (i := 643) (by decide +kernel), List.mem_of_getElem? (i := 644) (by decide +kernel)⟩
theorem lw_p38 : lw_okq (⟨"PatternBench", "placeBehindMatch", "()I"⟩, 8) := ⟨⟨by decide +kernel, by decide +kernel⟩, List.mem_of_getElem? (i := 17) (by decide +kernel), List.mem_of_getElem? (i := 651) (by decide +kernel), List.mem_of_getElem? (i := 652) (by decide +kernel)⟩
theorem lw_p39 : lw_okq (⟨"PatternBenchModel", "measure", "()I"⟩, 27) := ⟨⟨by decide +kernel, by decide +kernel⟩, List.mem_of_getElem? (i := 680) (by decide +kernel), List.mem_of_getElem? (i := 785) (by decide +kernel), List.mem_of_getElem? (i := 786) (by decide +kernel)⟩
theorem lw_p40 : lw_okq (⟨"PatternBenchModel", "opener", "(I)I"⟩, 27) := ⟨⟨by decide +kernel, by decide +kernel⟩, List.mem_of_getElem? (i := 680) (by decide +kernel), List.mem_of_getElem? (i := 789) (by decide +kernel), List.mem_of_getElem? (i := 790) (by decide +kernel)⟩
theorem lw_p41 : lw_okq (⟨"PatternBenchModel", "c", "(I)I"⟩, 27) := ⟨⟨by decide +kernel, by decide +kernel⟩, List.mem_of_getElem? (i := 680) (by decide +kernel), List.mem_of_getElem? (i := 793) (by decide +kernel), List.mem_of_getElem? (i := 794) (by decide +kernel)⟩
theorem lw_p42 : lw_okq (⟨"PatternBenchModel", "behindPlain", "(I)I"⟩, 27) := ⟨⟨by decide +kernel, by decide +kernel⟩, List.mem_of_getElem? (i := 680) (by decide +kernel), List.mem_of_getElem? (i := 797) (by decide +kernel), List.mem_of_getElem? (i := 798) (by decide +kernel)⟩
theorem lw_p43 : lw_okq (⟨"PatternBenchModel", "behindClass", "(I)I"⟩, 27) := ⟨⟨by decide +kernel, by decide +kernel⟩, List.mem_of_getElem? (i := 680) (by decide +kernel), List.mem_of_getElem? (i := 801) (by decide +kernel), List.mem_of_getElem? (i := 802) (by decide +kernel)⟩
theorem lw_p44 : lw_okq (⟨"PatternBenchModel", "behindRepeat", "(I)I"⟩, 27) := ⟨⟨by decide +kernel, by decide +kernel⟩, List.mem_of_getElem? (i := 680) (by decide +kernel), List.mem_of_getElem? (i := 805) (by decide +kernel), List.mem_of_getElem? (i := 806) (by decide +kernel)⟩
theorem lw_p45 : lw_okq (⟨"PatternBenchModel", "sized", "(II)I"⟩, 27) := ⟨⟨by decide +kernel, by decide +kernel⟩, List.mem_of_getElem? (i := 680) (by decide +kernel), List.mem_of_getElem? (i := 809) (by decide +kernel), List.mem_of_getElem? (i := 810) (by decide +kernel)⟩
theorem lw_p46 : lw_okq (⟨"PatternBenchModel", "groupsOf", "()I"⟩, 27) := ⟨⟨by decide +kernel, by decide +kernel⟩, List.mem_of_getElem? (i := 680) (by decide +kernel), List.mem_of_getElem? (i := 813) (by decide +kernel), List.mem_of_getElem? (i := 814) (by decide +kernel)⟩
theorem lw_p47 : lw_okq (⟨"PatternBenchModel", "namesGood", "(I)Z"⟩, 27) := ⟨⟨by decide +kernel, by decide +kernel⟩, List.mem_of_getElem? (i := 680) (by decide +kernel), List.mem_of_getElem? (i := 817) (by decide +kernel), List.mem_of_getElem? (i := 818) (by decide +kernel)⟩
def lw_privs_3 : List (MethodName × Nat) := [(⟨"PatternBench$Matcher", "goAfterAtom", "(I)V"⟩, 11), (⟨"PatternBench$Matcher", "goAfterItem", "(I)V"⟩, 11), (⟨"PatternBench$Matcher", "resume", "(I)V"⟩, 11), (⟨"PatternBench$Matcher", "leaveBody", "(II)V"⟩, 11), (⟨"PatternBench$Matcher", "leaveTimesTurn", "(II)V"⟩, 11), (⟨"PatternBench$Matcher", "takeChoice", "()V"⟩, 11), (⟨"PatternBench", "placeBehindMatch", "()I"⟩, 8), (⟨"PatternBenchModel", "measure", "()I"⟩, 27), (⟨"PatternBenchModel", "opener", "(I)I"⟩, 27), (⟨"PatternBenchModel", "c", "(I)I"⟩, 27), (⟨"PatternBenchModel", "behindPlain", "(I)I"⟩, 27), (⟨"PatternBenchModel", "behindClass", "(I)I"⟩, 27), (⟨"PatternBenchModel", "behindRepeat", "(I)I"⟩, 27), (⟨"PatternBenchModel", "sized", "(II)I"⟩, 27), (⟨"PatternBenchModel", "groupsOf", "()I"⟩, 27), (⟨"PatternBenchModel", "namesGood", "(I)Z"⟩, 27)]
theorem lw_r3 : ∀ q ∈ lw_privs_3, lw_okq q := List.forall_mem_cons.mpr ⟨lw_p32, List.forall_mem_cons.mpr ⟨lw_p33, List.forall_mem_cons.mpr ⟨lw_p34, List.forall_mem_cons.mpr ⟨lw_p35, List.forall_mem_cons.mpr ⟨lw_p36, List.forall_mem_cons.mpr ⟨lw_p37, List.forall_mem_cons.mpr ⟨lw_p38, List.forall_mem_cons.mpr ⟨lw_p39, List.forall_mem_cons.mpr ⟨lw_p40, List.forall_mem_cons.mpr ⟨lw_p41, List.forall_mem_cons.mpr ⟨lw_p42, List.forall_mem_cons.mpr ⟨lw_p43, List.forall_mem_cons.mpr ⟨lw_p44, List.forall_mem_cons.mpr ⟨lw_p45, List.forall_mem_cons.mpr ⟨lw_p46, List.forall_mem_cons.mpr ⟨lw_p47, fun _ h => absurd h List.not_mem_nil⟩⟩⟩⟩⟩⟩⟩⟩⟩⟩⟩⟩⟩⟩⟩⟩
theorem lw_p48 : lw_okq (⟨"PatternBenchModel", "seek", "(I)I"⟩, 27) := ⟨⟨by decide +kernel, by decide +kernel⟩, List.mem_of_getElem? (i := 680) (by decide +kernel), List.mem_of_getElem? (i := 833) (by decide +kernel), List.mem_of_getElem? (i := 834) (by decide +kernel)⟩
theorem lw_p49 : lw_okq (⟨"PatternBenchModel", "walk", "(I)I"⟩, 27) := ⟨⟨by decide +kernel, by decide +kernel⟩, List.mem_of_getElem? (i := 680) (by decide +kernel), List.mem_of_getElem? (i := 837) (by decide +kernel), List.mem_of_getElem? (i := 838) (by decide +kernel)⟩
theorem lw_p50 : lw_okq (⟨"PatternBenchModel", "go", "(III)V"⟩, 27) := ⟨⟨by decide +kernel, by decide +kernel⟩, List.mem_of_getElem? (i := 680) (by decide +kernel), List.mem_of_getElem? (i := 841) (by decide +kernel), List.mem_of_getElem? (i := 842) (by decide +kernel)⟩
theorem lw_p51 : lw_okq (⟨"PatternBenchModel", "retreat", "()Z"⟩, 27) := ⟨⟨by decide +kernel, by decide +kernel⟩, List.mem_of_getElem? (i := 680) (by decide +kernel), List.mem_of_getElem? (i := 846) (by decide +kernel), List.mem_of_getElem? (i := 847) (by decide +kernel)⟩
theorem lw_p52 : lw_okq (⟨"PatternBenchModel", "rowEnds", "(I)Z"⟩, 27) := ⟨⟨by decide +kernel, by decide +kernel⟩, List.mem_of_getElem? (i := 680) (by decide +kernel), List.mem_of_getElem? (i := 850) (by decide +kernel), List.mem_of_getElem? (i := 851) (by decide +kernel)⟩
theorem lw_p53 : lw_okq (⟨"PatternBenchModel", "t", "(I)I"⟩, 27) := ⟨⟨by decide +kernel, by decide +kernel⟩, List.mem_of_getElem? (i := 680) (by decide +kernel), List.mem_of_getElem? (i := 854) (by decide +kernel), List.mem_of_getElem? (i := 855) (by decide +kernel)⟩
theorem lw_p54 : lw_okq (⟨"PatternBenchModel", "item", "(I)V"⟩, 27) := ⟨⟨by decide +kernel, by decide +kernel⟩, List.mem_of_getElem? (i := 680) (by decide +kernel), List.mem_of_getElem? (i := 858) (by decide +kernel), List.mem_of_getElem? (i := 859) (by decide +kernel)⟩
theorem lw_p55 : lw_okq (⟨"PatternBenchModel", "behindAtom", "(I)I"⟩, 27) := ⟨⟨by decide +kernel, by decide +kernel⟩, List.mem_of_getElem? (i := 680) (by decide +kernel), List.mem_of_getElem? (i := 862) (by decide +kernel), List.mem_of_getElem? (i := 863) (by decide +kernel)⟩
theorem lw_p56 : lw_okq (⟨"PatternBenchModel", "closing", "(I)I"⟩, 27) := ⟨⟨by decide +kernel, by decide +kernel⟩, List.mem_of_getElem? (i := 680) (by decide +kernel), List.mem_of_getElem? (i := 866) (by decide +kernel), List.mem_of_getElem? (i := 867) (by decide +kernel)⟩
theorem lw_p57 : lw_okq (⟨"PatternBenchModel", "push", "(IIII)I"⟩, 27) := ⟨⟨by decide +kernel, by decide +kernel⟩, List.mem_of_getElem? (i := 680) (by decide +kernel), List.mem_of_getElem? (i := 870) (by decide +kernel), List.mem_of_getElem? (i := 871) (by decide +kernel)⟩
theorem lw_p58 : lw_okq (⟨"PatternBenchModel", "pushBack", "(III)V"⟩, 27) := ⟨⟨by decide +kernel, by decide +kernel⟩, List.mem_of_getElem? (i := 680) (by decide +kernel), List.mem_of_getElem? (i := 874) (by decide +kernel), List.mem_of_getElem? (i := 875) (by decide +kernel)⟩
theorem lw_p59 : lw_okq (⟨"PatternBenchModel", "nextRow", "(I)I"⟩, 27) := ⟨⟨by decide +kernel, by decide +kernel⟩, List.mem_of_getElem? (i := 680) (by decide +kernel), List.mem_of_getElem? (i := 878) (by decide +kernel), List.mem_of_getElem? (i := 879) (by decide +kernel)⟩
theorem lw_p60 : lw_okq (⟨"PatternBenchModel", "atom", "()V"⟩, 27) := ⟨⟨by decide +kernel, by decide +kernel⟩, List.mem_of_getElem? (i := 680) (by decide +kernel), List.mem_of_getElem? (i := 882) (by decide +kernel), List.mem_of_getElem? (i := 883) (by decide +kernel)⟩
theorem lw_p61 : lw_okq (⟨"PatternBenchModel", "openChoice", "(I)V"⟩, 27) := ⟨⟨by decide +kernel, by decide +kernel⟩, List.mem_of_getElem? (i := 680) (by decide +kernel), List.mem_of_getElem? (i := 886) (by decide +kernel), List.mem_of_getElem? (i := 887) (by decide +kernel)⟩
theorem lw_p62 : lw_okq (⟨"PatternBenchModel", "groupAt", "(I)I"⟩, 27) := ⟨⟨by decide +kernel, by decide +kernel⟩, List.mem_of_getElem? (i := 680) (by decide +kernel), List.mem_of_getElem? (i := 890) (by decide +kernel), List.mem_of_getElem? (i := 891) (by decide +kernel)⟩
theorem lw_p63 : lw_okq (⟨"PatternBenchModel", "calls", "()I"⟩, 27) := ⟨⟨by decide +kernel, by decide +kernel⟩, List.mem_of_getElem? (i := 680) (by decide +kernel), List.mem_of_getElem? (i := 894) (by decide +kernel), List.mem_of_getElem? (i := 895) (by decide +kernel)⟩
def lw_privs_4 : List (MethodName × Nat) := [(⟨"PatternBenchModel", "seek", "(I)I"⟩, 27), (⟨"PatternBenchModel", "walk", "(I)I"⟩, 27), (⟨"PatternBenchModel", "go", "(III)V"⟩, 27), (⟨"PatternBenchModel", "retreat", "()Z"⟩, 27), (⟨"PatternBenchModel", "rowEnds", "(I)Z"⟩, 27), (⟨"PatternBenchModel", "t", "(I)I"⟩, 27), (⟨"PatternBenchModel", "item", "(I)V"⟩, 27), (⟨"PatternBenchModel", "behindAtom", "(I)I"⟩, 27), (⟨"PatternBenchModel", "closing", "(I)I"⟩, 27), (⟨"PatternBenchModel", "push", "(IIII)I"⟩, 27), (⟨"PatternBenchModel", "pushBack", "(III)V"⟩, 27), (⟨"PatternBenchModel", "nextRow", "(I)I"⟩, 27), (⟨"PatternBenchModel", "atom", "()V"⟩, 27), (⟨"PatternBenchModel", "openChoice", "(I)V"⟩, 27), (⟨"PatternBenchModel", "groupAt", "(I)I"⟩, 27), (⟨"PatternBenchModel", "calls", "()I"⟩, 27)]
theorem lw_r4 : ∀ q ∈ lw_privs_4, lw_okq q := List.forall_mem_cons.mpr ⟨lw_p48, List.forall_mem_cons.mpr ⟨lw_p49, List.forall_mem_cons.mpr ⟨lw_p50, List.forall_mem_cons.mpr ⟨lw_p51, List.forall_mem_cons.mpr ⟨lw_p52, List.forall_mem_cons.mpr ⟨lw_p53, List.forall_mem_cons.mpr ⟨lw_p54, List.forall_mem_cons.mpr ⟨lw_p55, List.forall_mem_cons.mpr ⟨lw_p56, List.forall_mem_cons.mpr ⟨lw_p57, List.forall_mem_cons.mpr ⟨lw_p58, List.forall_mem_cons.mpr ⟨lw_p59, List.forall_mem_cons.mpr ⟨lw_p60, List.forall_mem_cons.mpr ⟨lw_p61, List.forall_mem_cons.mpr ⟨lw_p62, List.forall_mem_cons.mpr ⟨lw_p63, fun _ h => absurd h List.not_mem_nil⟩⟩⟩⟩⟩⟩⟩⟩⟩⟩⟩⟩⟩⟩⟩⟩
theorem lw_p64 : lw_okq (⟨"PatternBenchModel", "kindOf", "(I)I"⟩, 27) := ⟨⟨by decide +kernel, by decide +kernel⟩, List.mem_of_getElem? (i := 680) (by decide +kernel), List.mem_of_getElem? (i := 898) (by decide +kernel), List.mem_of_getElem? (i := 899) (by decide +kernel)⟩
theorem lw_p65 : lw_okq (⟨"PatternBenchModel", "parentOf", "(I)I"⟩, 27) := ⟨⟨by decide +kernel, by decide +kernel⟩, List.mem_of_getElem? (i := 680) (by decide +kernel), List.mem_of_getElem? (i := 902) (by decide +kernel), List.mem_of_getElem? (i := 903) (by decide +kernel)⟩
theorem lw_p66 : lw_okq (⟨"PatternBenchModel", "choiceOf", "(I)I"⟩, 27) := ⟨⟨by decide +kernel, by decide +kernel⟩, List.mem_of_getElem? (i := 680) (by decide +kernel), List.mem_of_getElem? (i := 906) (by decide +kernel), List.mem_of_getElem? (i := 907) (by decide +kernel)⟩
theorem lw_p67 : lw_okq (⟨"PatternBenchModel", "plain", "(I)Z"⟩, 27) := ⟨⟨by decide +kernel, by decide +kernel⟩, List.mem_of_getElem? (i := 680) (by decide +kernel), List.mem_of_getElem? (i := 910) (by decide +kernel), List.mem_of_getElem? (i := 911) (by decide +kernel)⟩
theorem lw_p68 : lw_okq (⟨"PatternBenchModel", "repeats", "(I)Z"⟩, 27) := ⟨⟨by decide +kernel, by decide +kernel⟩, List.mem_of_getElem? (i := 680) (by decide +kernel), List.mem_of_getElem? (i := 914) (by decide +kernel), List.mem_of_getElem? (i := 915) (by decide +kernel)⟩
theorem lw_p69 : lw_okq (⟨"PatternBenchModel", "capture", "(JIZ)I"⟩, 27) := ⟨⟨by decide +kernel, by decide +kernel⟩, List.mem_of_getElem? (i := 680) (by decide +kernel), List.mem_of_getElem? (i := 918) (by decide +kernel), List.mem_of_getElem? (i := 919) (by decide +kernel)⟩
theorem lw_p70 : lw_okq (⟨"PatternBenchModel", "takesLetter", "(I)Z"⟩, 27) := ⟨⟨by decide +kernel, by decide +kernel⟩, List.mem_of_getElem? (i := 680) (by decide +kernel), List.mem_of_getElem? (i := 922) (by decide +kernel), List.mem_of_getElem? (i := 923) (by decide +kernel)⟩
theorem lw_p71 : lw_okq (⟨"PatternBenchModel", "inClass", "(II)Z"⟩, 27) := ⟨⟨by decide +kernel, by decide +kernel⟩, List.mem_of_getElem? (i := 680) (by decide +kernel), List.mem_of_getElem? (i := 926) (by decide +kernel), List.mem_of_getElem? (i := 927) (by decide +kernel)⟩
theorem lw_p72 : lw_okq (⟨"PatternBenchModel", "star", "(Z)V"⟩, 27) := ⟨⟨by decide +kernel, by decide +kernel⟩, List.mem_of_getElem? (i := 680) (by decide +kernel), List.mem_of_getElem? (i := 930) (by decide +kernel), List.mem_of_getElem? (i := 931) (by decide +kernel)⟩
theorem lw_p73 : lw_okq (⟨"PatternBenchModel", "carryOn", "()V"⟩, 27) := ⟨⟨by decide +kernel, by decide +kernel⟩, List.mem_of_getElem? (i := 680) (by decide +kernel), List.mem_of_getElem? (i := 934) (by decide +kernel), List.mem_of_getElem? (i := 935) (by decide +kernel)⟩
theorem lw_p74 : lw_okq (⟨"PatternBenchModel", "placeOf", "(I)I"⟩, 27) := ⟨⟨by decide +kernel, by decide +kernel⟩, List.mem_of_getElem? (i := 680) (by decide +kernel), List.mem_of_getElem? (i := 938) (by decide +kernel), List.mem_of_getElem? (i := 939) (by decide +kernel)⟩
theorem lw_p75 : lw_okq (⟨"PatternBenchModel", "numberOf", "(I)I"⟩, 27) := ⟨⟨by decide +kernel, by decide +kernel⟩, List.mem_of_getElem? (i := 680) (by decide +kernel), List.mem_of_getElem? (i := 942) (by decide +kernel), List.mem_of_getElem? (i := 943) (by decide +kernel)⟩
theorem lw_p76 : lw_okq (⟨"PatternBenchModel", "bound", "(IZ)I"⟩, 27) := ⟨⟨by decide +kernel, by decide +kernel⟩, List.mem_of_getElem? (i := 680) (by decide +kernel), List.mem_of_getElem? (i := 956) (by decide +kernel), List.mem_of_getElem? (i := 957) (by decide +kernel)⟩
def lw_privs_5 : List (MethodName × Nat) := [(⟨"PatternBenchModel", "kindOf", "(I)I"⟩, 27), (⟨"PatternBenchModel", "parentOf", "(I)I"⟩, 27), (⟨"PatternBenchModel", "choiceOf", "(I)I"⟩, 27), (⟨"PatternBenchModel", "plain", "(I)Z"⟩, 27), (⟨"PatternBenchModel", "repeats", "(I)Z"⟩, 27), (⟨"PatternBenchModel", "capture", "(JIZ)I"⟩, 27), (⟨"PatternBenchModel", "takesLetter", "(I)Z"⟩, 27), (⟨"PatternBenchModel", "inClass", "(II)Z"⟩, 27), (⟨"PatternBenchModel", "star", "(Z)V"⟩, 27), (⟨"PatternBenchModel", "carryOn", "()V"⟩, 27), (⟨"PatternBenchModel", "placeOf", "(I)I"⟩, 27), (⟨"PatternBenchModel", "numberOf", "(I)I"⟩, 27), (⟨"PatternBenchModel", "bound", "(IZ)I"⟩, 27)]
theorem lw_r5 : ∀ q ∈ lw_privs_5, lw_okq q := List.forall_mem_cons.mpr ⟨lw_p64, List.forall_mem_cons.mpr ⟨lw_p65, List.forall_mem_cons.mpr ⟨lw_p66, List.forall_mem_cons.mpr ⟨lw_p67, List.forall_mem_cons.mpr ⟨lw_p68, List.forall_mem_cons.mpr ⟨lw_p69, List.forall_mem_cons.mpr ⟨lw_p70, List.forall_mem_cons.mpr ⟨lw_p71, List.forall_mem_cons.mpr ⟨lw_p72, List.forall_mem_cons.mpr ⟨lw_p73, List.forall_mem_cons.mpr ⟨lw_p74, List.forall_mem_cons.mpr ⟨lw_p75, List.forall_mem_cons.mpr ⟨lw_p76, fun _ h => absurd h List.not_mem_nil⟩⟩⟩⟩⟩⟩⟩⟩⟩⟩⟩⟩⟩
def lw_privs : List (MethodName × Nat) := lw_privs_1 ++ (lw_privs_2 ++ (lw_privs_3 ++ (lw_privs_4 ++ (lw_privs_5))))
def lw_tbl : List Cond := k2_sels lw_privs ++ tables_1
theorem lw_privs_ok : ∀ q ∈ lw_privs, lw_okq q := by
  show ∀ q ∈ lw_privs_1 ++ (lw_privs_2 ++ (lw_privs_3 ++ (lw_privs_4 ++ (lw_privs_5)))), lw_okq q
  exact List.forall_mem_append.mpr ⟨lw_r1, List.forall_mem_append.mpr ⟨lw_r2, List.forall_mem_append.mpr ⟨lw_r3, List.forall_mem_append.mpr ⟨lw_r4, lw_r5⟩⟩⟩⟩

def r_Text : String := "PatternBench$Text"
def t_Text : u_T := fun k => match k with
  | 0 => ("PatternBench$Text", "codes", "[I", true)
  | _ => ("PatternBench$Text", "length", "I", false)
def r_Program : String := "PatternBench$Program"
def t_Program : u_T := fun k => match k with
  | 0 => ("PatternBench$Program", "kind", "[I", true)
  | 1 => ("PatternBench$Program", "value", "[I", true)
  | 2 => ("PatternBench$Program", "repeat", "[I", true)
  | 3 => ("PatternBench$Program", "times", "[I", true)
  | 4 => ("PatternBench$Program", "manner", "[I", true)
  | 5 => ("PatternBench$Program", "body", "[I", true)
  | 6 => ("PatternBench$Program", "nextItem", "[I", true)
  | 7 => ("PatternBench$Program", "firstItem", "[I", true)
  | 8 => ("PatternBench$Program", "nextRow", "[I", true)
  | 9 => ("PatternBench$Program", "groupBody", "[I", true)
  | 10 => ("PatternBench$Program", "items", "I", false)
  | 11 => ("PatternBench$Program", "rows", "I", false)
  | 12 => ("PatternBench$Program", "groups", "I", false)
  | _ => ("PatternBench$Program", "size", "I", false)
def r_Reader : String := "PatternBench$Reader"
def t_Reader : u_T := fun k => match k with
  | 0 => ("PatternBench$Reader", "text", "LPatternBench$Text;", true)
  | 1 => ("PatternBench$Reader", "program", "LPatternBench$Program;", false)
  | 2 => ("PatternBench$Reader", "levelItem", "[I", true)
  | 3 => ("PatternBench$Reader", "levelRow", "[I", true)
  | 4 => ("PatternBench$Reader", "levelLast", "[I", true)
  | 5 => ("PatternBench$Reader", "levelSize", "[I", true)
  | 6 => ("PatternBench$Reader", "level", "I", false)
  | 7 => ("PatternBench$Reader", "at", "I", false)
  | 8 => ("PatternBench$Reader", "atomSize", "I", false)
  | 9 => ("PatternBench$Reader", "highestNamed", "I", false)
  | _ => ("PatternBench$Reader", "isGood", "Z", false)
def r_Frames : String := "PatternBench$Frames"
def t_Frames : u_T := fun k => match k with
  | 0 => ("PatternBench$Frames", "kind", "[I", true)
  | 1 => ("PatternBench$Frames", "item", "[I", true)
  | 2 => ("PatternBench$Frames", "mark", "[I", true)
  | 3 => ("PatternBench$Frames", "place", "[I", true)
  | 4 => ("PatternBench$Frames", "captures", "[J", true)
  | 5 => ("PatternBench$Frames", "outer", "[I", true)
  | 6 => ("PatternBench$Frames", "calls", "[I", true)
  | _ => ("PatternBench$Frames", "used", "I", false)
def r_Choices : String := "PatternBench$Choices"
def t_Choices : u_T := fun k => match k with
  | 0 => ("PatternBench$Choices", "task", "[I", true)
  | 1 => ("PatternBench$Choices", "number", "[I", true)
  | 2 => ("PatternBench$Choices", "place", "[I", true)
  | 3 => ("PatternBench$Choices", "captures", "[J", true)
  | 4 => ("PatternBench$Choices", "frame", "[I", true)
  | _ => ("PatternBench$Choices", "used", "I", false)
def r_Matcher : String := "PatternBench$Matcher"
def t_Matcher : u_T := fun k => match k with
  | 0 => ("PatternBench$Matcher", "subject", "LPatternBench$Text;", true)
  | 1 => ("PatternBench$Matcher", "program", "LPatternBench$Program;", false)
  | 2 => ("PatternBench$Matcher", "limit", "I", true)
  | 3 => ("PatternBench$Matcher", "frames", "LPatternBench$Frames;", true)
  | 4 => ("PatternBench$Matcher", "choices", "LPatternBench$Choices;", true)
  | 5 => ("PatternBench$Matcher", "task", "I", false)
  | 6 => ("PatternBench$Matcher", "number", "I", false)
  | 7 => ("PatternBench$Matcher", "frame", "I", false)
  | 8 => ("PatternBench$Matcher", "place", "I", false)
  | 9 => ("PatternBench$Matcher", "captures", "J", false)
  | _ => ("PatternBench$Matcher", "taken", "I", false)
def r_Bench : String := "PatternBench"
def t_Bench : u_T := fun k => match k with
  | 0 => ("PatternBench", "reader", "LPatternBench$Reader;", true)
  | 1 => ("PatternBench", "matcher", "LPatternBench$Matcher;", true)
  | 2 => ("PatternBench", "isReady", "Z", false)
  | 3 => ("PatternBench", "isMatched", "Z", false)
  | 4 => ("PatternBench", "matchStart", "I", false)
  | 5 => ("PatternBench", "matchEnd", "I", false)
  | 6 => ("PatternBench", "matchCaptures", "J", false)
  | _ => ("PatternBench", "lastSteps", "I", false)
def r_Model : String := "PatternBenchModel"
def t_Model : u_T := fun k => match k with
  | 0 => ("PatternBenchModel", "limit", "I", true)
  | 1 => ("PatternBenchModel", "drafted", "I", false)
  | 2 => ("PatternBenchModel", "draft", "[I", true)
  | 3 => ("PatternBenchModel", "ready", "Z", false)
  | 4 => ("PatternBenchModel", "length", "I", false)
  | 5 => ("PatternBenchModel", "groups", "I", false)
  | 6 => ("PatternBenchModel", "size", "I", false)
  | 7 => ("PatternBenchModel", "text", "[I", true)
  | 8 => ("PatternBenchModel", "letters", "I", false)
  | 9 => ("PatternBenchModel", "subject", "[I", true)
  | 10 => ("PatternBenchModel", "steps", "I", false)
  | 11 => ("PatternBenchModel", "matched", "Z", false)
  | 12 => ("PatternBenchModel", "first", "I", false)
  | 13 => ("PatternBenchModel", "last", "I", false)
  | 14 => ("PatternBenchModel", "found", "J", false)
  | 15 => ("PatternBenchModel", "sums", "[I", true)
  | 16 => ("PatternBenchModel", "frames", "I", false)
  | 17 => ("PatternBenchModel", "frame", "[J", true)
  | 18 => ("PatternBenchModel", "kept", "[J", true)
  | 19 => ("PatternBenchModel", "backs", "I", false)
  | 20 => ("PatternBenchModel", "back", "[J", true)
  | 21 => ("PatternBenchModel", "bKept", "[J", true)
  | 22 => ("PatternBenchModel", "mode", "I", false)
  | 23 => ("PatternBenchModel", "at", "I", false)
  | 24 => ("PatternBenchModel", "p", "I", false)
  | 25 => ("PatternBenchModel", "k", "I", false)
  | _ => ("PatternBenchModel", "caps", "J", false)
def r_Captures : String := "PatternBench$Captures"
abbrev mmCl : List vw_C := [(r_Text, t_Text, 2), (r_Program, t_Program, 14), (r_Reader, t_Reader, 11), (r_Frames, t_Frames, 8), (r_Choices, t_Choices, 6), (r_Matcher, t_Matcher, 11), (r_Bench, t_Bench, 8), (r_Model, t_Model, 27)]
abbrev c_Bench_init : ByteArray := prog_1_method_1_code
def y_Bench_init : MethodName := ⟨r_Bench, "<init>", "(I)V"⟩
abbrev c_Reader_init : ByteArray := prog_7_method_1_code
def y_Reader_init : MethodName := ⟨r_Reader, "<init>", "()V"⟩
abbrev c_Text_init : ByteArray := prog_8_method_1_code
def y_Text_init : MethodName := ⟨r_Text, "<init>", "(I)V"⟩
abbrev c_Program_init : ByteArray := prog_6_method_1_code
def y_Program_init : MethodName := ⟨r_Program, "<init>", "()V"⟩
abbrev c_Matcher_init : ByteArray := prog_5_method_1_code
def y_Matcher_init : MethodName := ⟨r_Matcher, "<init>", "(I)V"⟩
abbrev c_Frames_init : ByteArray := prog_4_method_1_code
def y_Frames_init : MethodName := ⟨r_Frames, "<init>", "(I)V"⟩
abbrev c_Choices_init : ByteArray := prog_3_method_1_code
def y_Choices_init : MethodName := ⟨r_Choices, "<init>", "(I)V"⟩
abbrev c_Bench_write : ByteArray := prog_1_method_2_code
def y_Bench_write : MethodName := ⟨r_Bench, "write", "(I)I"⟩
abbrev c_Bench_mayStandInPattern : ByteArray := prog_1_method_17_code
def y_Bench_mayStandInPattern : MethodName := ⟨r_Bench, "mayStandInPattern", "(I)Z"⟩
abbrev c_Bench_isLetter : ByteArray := prog_1_method_15_code
def y_Bench_isLetter : MethodName := ⟨r_Bench, "isLetter", "(I)Z"⟩
abbrev c_Bench_isDigit : ByteArray := prog_1_method_16_code
def y_Bench_isDigit : MethodName := ⟨r_Bench, "isDigit", "(I)Z"⟩
abbrev c_Text_isFull : ByteArray := prog_8_method_2_code
def y_Text_isFull : MethodName := ⟨r_Text, "isFull", "()Z"⟩
abbrev c_Text_add : ByteArray := prog_8_method_3_code
def y_Text_add : MethodName := ⟨r_Text, "add", "(I)I"⟩
abbrev c_Bench_compile : ByteArray := prog_1_method_3_code
def y_Bench_compile : MethodName := ⟨r_Bench, "compile", "()I"⟩
abbrev c_Reader_read : ByteArray := prog_7_method_2_code
def y_Reader_read : MethodName := ⟨r_Reader, "read", "()Z"⟩
abbrev c_Program_empty : ByteArray := prog_6_method_2_code
def y_Program_empty : MethodName := ⟨r_Program, "empty", "()V"⟩
abbrev c_Reader_openLevel : ByteArray := prog_7_method_6_code
def y_Reader_openLevel : MethodName := ⟨r_Reader, "openLevel", "(II)V"⟩
abbrev c_Program_addRow : ByteArray := prog_6_method_3_code
def y_Program_addRow : MethodName := ⟨r_Program, "addRow", "()I"⟩
abbrev c_Reader_readPart : ByteArray := prog_7_method_3_code
def y_Reader_readPart : MethodName := ⟨r_Reader, "readPart", "()I"⟩
abbrev c_Reader_ahead : ByteArray := prog_7_method_4_code
def y_Reader_ahead : MethodName := ⟨r_Reader, "ahead", "(I)I"⟩
abbrev c_Text_codeAt : ByteArray := prog_8_method_4_code
def y_Text_codeAt : MethodName := ⟨r_Text, "codeAt", "(I)I"⟩
abbrev c_Reader_openNextRow : ByteArray := prog_7_method_7_code
def y_Reader_openNextRow : MethodName := ⟨r_Reader, "openNextRow", "()I"⟩
abbrev c_Reader_closeChoice : ByteArray := prog_7_method_10_code
def y_Reader_closeChoice : MethodName := ⟨r_Reader, "closeChoice", "()I"⟩
abbrev c_Reader_refuse : ByteArray := prog_7_method_5_code
def y_Reader_refuse : MethodName := ⟨r_Reader, "refuse", "()I"⟩
abbrev c_Reader_readCall : ByteArray := prog_7_method_11_code
def y_Reader_readCall : MethodName := ⟨r_Reader, "readCall", "()I"⟩
abbrev c_Reader_appendItem : ByteArray := prog_7_method_17_code
def y_Reader_appendItem : MethodName := ⟨r_Reader, "appendItem", "(II)I"⟩
abbrev c_Program_addItem : ByteArray := prog_6_method_4_code
def y_Program_addItem : MethodName := ⟨r_Program, "addItem", "(II)I"⟩
abbrev c_Reader_openChoice : ByteArray := prog_7_method_8_code
def y_Reader_openChoice : MethodName := ⟨r_Reader, "openChoice", "()I"⟩
abbrev c_Reader_kindOfChoice : ByteArray := prog_7_method_9_code
def y_Reader_kindOfChoice : MethodName := ⟨r_Reader, "kindOfChoice", "()I"⟩
abbrev c_Reader_readClass : ByteArray := prog_7_method_14_code
def y_Reader_readClass : MethodName := ⟨r_Reader, "readClass", "()I"⟩
abbrev c_Reader_readClassPart : ByteArray := prog_7_method_15_code
def y_Reader_readClassPart : MethodName := ⟨r_Reader, "readClassPart", "()I"⟩
abbrev c_Reader_lettersBetween : ByteArray := prog_7_method_16_code
def y_Reader_lettersBetween : MethodName := ⟨r_Reader, "lettersBetween", "(II)I"⟩
abbrev c_Reader_readReference : ByteArray := prog_7_method_12_code
def y_Reader_readReference : MethodName := ⟨r_Reader, "readReference", "()I"⟩
abbrev c_Reader_readSign : ByteArray := prog_7_method_13_code
def y_Reader_readSign : MethodName := ⟨r_Reader, "readSign", "()I"⟩
abbrev c_Reader_readRepeat : ByteArray := prog_7_method_18_code
def y_Reader_readRepeat : MethodName := ⟨r_Reader, "readRepeat", "(I)V"⟩
abbrev c_Reader_setRepeat : ByteArray := prog_7_method_20_code
def y_Reader_setRepeat : MethodName := ⟨r_Reader, "setRepeat", "(IIII)V"⟩
abbrev c_Reader_readTimes : ByteArray := prog_7_method_19_code
def y_Reader_readTimes : MethodName := ⟨r_Reader, "readTimes", "(I)V"⟩
abbrev c_Bench_feed : ByteArray := prog_1_method_4_code
def y_Bench_feed : MethodName := ⟨r_Bench, "feed", "(I)I"⟩
abbrev c_Bench_clear : ByteArray := prog_1_method_5_code
def y_Bench_clear : MethodName := ⟨r_Bench, "clear", "()I"⟩
abbrev c_Bench_search : ByteArray := prog_1_method_6_code
def y_Bench_search : MethodName := ⟨r_Bench, "search", "(I)I"⟩
abbrev c_Bench_searchFrom : ByteArray := prog_1_method_13_code
def y_Bench_searchFrom : MethodName := ⟨r_Bench, "searchFrom", "(I)I"⟩
abbrev c_Matcher_find : ByteArray := prog_5_method_2_code
def y_Matcher_find : MethodName := ⟨r_Matcher, "find", "(I)I"⟩
abbrev c_Matcher_beginAt : ByteArray := prog_5_method_3_code
def y_Matcher_beginAt : MethodName := ⟨r_Matcher, "beginAt", "(I)V"⟩
abbrev c_Frames_empty : ByteArray := prog_4_method_2_code
def y_Frames_empty : MethodName := ⟨r_Frames, "empty", "()V"⟩
abbrev c_Choices_cutTo : ByteArray := prog_3_method_4_code
def y_Choices_cutTo : MethodName := ⟨r_Choices, "cutTo", "(I)V"⟩
abbrev c_Matcher_go : ByteArray := prog_5_method_5_code
def y_Matcher_go : MethodName := ⟨r_Matcher, "go", "(II)V"⟩
abbrev c_Matcher_goesOn : ByteArray := prog_5_method_4_code
def y_Matcher_goesOn : MethodName := ⟨r_Matcher, "goesOn", "()Z"⟩
abbrev c_Frames_hasRoom : ByteArray := prog_4_method_3_code
def y_Frames_hasRoom : MethodName := ⟨r_Frames, "hasRoom", "(I)Z"⟩
abbrev c_Choices_hasRoom : ByteArray := prog_3_method_2_code
def y_Choices_hasRoom : MethodName := ⟨r_Choices, "hasRoom", "(I)Z"⟩
abbrev c_Matcher_takeTurn : ByteArray := prog_5_method_6_code
def y_Matcher_takeTurn : MethodName := ⟨r_Matcher, "takeTurn", "()V"⟩
abbrev c_Matcher_enterRow : ByteArray := prog_5_method_7_code
def y_Matcher_enterRow : MethodName := ⟨r_Matcher, "enterRow", "(I)V"⟩
abbrev c_Choices_add : ByteArray := prog_3_method_3_code
def y_Choices_add : MethodName := ⟨r_Choices, "add", "(IIIJI)V"⟩
abbrev c_Matcher_enterItem : ByteArray := prog_5_method_8_code
def y_Matcher_enterItem : MethodName := ⟨r_Matcher, "enterItem", "(I)V"⟩
abbrev c_Frames_add : ByteArray := prog_4_method_4_code
def y_Frames_add : MethodName := ⟨r_Frames, "add", "(IIIIJI)I"⟩
abbrev c_Matcher_fork : ByteArray := prog_5_method_9_code
def y_Matcher_fork : MethodName := ⟨r_Matcher, "fork", "(I)V"⟩
abbrev c_Matcher_tryAtom : ByteArray := prog_5_method_10_code
def y_Matcher_tryAtom : MethodName := ⟨r_Matcher, "tryAtom", "(I)V"⟩
abbrev c_Matcher_ask : ByteArray := prog_5_method_14_code
def y_Matcher_ask : MethodName := ⟨r_Matcher, "ask", "(I)V"⟩
abbrev c_Matcher_askLetter : ByteArray := prog_5_method_15_code
def y_Matcher_askLetter : MethodName := ⟨r_Matcher, "askLetter", "(I)V"⟩
abbrev c_Matcher_askSame : ByteArray := prog_5_method_16_code
def y_Matcher_askSame : MethodName := ⟨r_Matcher, "askSame", "(I)V"⟩
abbrev c_Captures_from : ByteArray := prog_2_method_3_code
def y_Captures_from : MethodName := ⟨r_Captures, "from", "(JI)I"⟩
abbrev c_Captures_to : ByteArray := prog_2_method_4_code
def y_Captures_to : MethodName := ⟨r_Captures, "to", "(JI)I"⟩
abbrev c_Matcher_standsHere : ByteArray := prog_5_method_17_code
def y_Matcher_standsHere : MethodName := ⟨r_Matcher, "standsHere", "(II)Z"⟩
abbrev c_Matcher_askCall : ByteArray := prog_5_method_18_code
def y_Matcher_askCall : MethodName := ⟨r_Matcher, "askCall", "(I)V"⟩
abbrev c_Matcher_askBody : ByteArray := prog_5_method_19_code
def y_Matcher_askBody : MethodName := ⟨r_Matcher, "askBody", "(I)V"⟩
abbrev c_Matcher_goAfterAtom : ByteArray := prog_5_method_11_code
def y_Matcher_goAfterAtom : MethodName := ⟨r_Matcher, "goAfterAtom", "(I)V"⟩
abbrev c_Matcher_goAfterItem : ByteArray := prog_5_method_12_code
def y_Matcher_goAfterItem : MethodName := ⟨r_Matcher, "goAfterItem", "(I)V"⟩
abbrev c_Matcher_resume : ByteArray := prog_5_method_20_code
def y_Matcher_resume : MethodName := ⟨r_Matcher, "resume", "(I)V"⟩
abbrev c_Matcher_leaveBody : ByteArray := prog_5_method_22_code
def y_Matcher_leaveBody : MethodName := ⟨r_Matcher, "leaveBody", "(II)V"⟩
abbrev c_Captures_with : ByteArray := prog_2_method_2_code
def y_Captures_with : MethodName := ⟨r_Captures, "with", "(JIII)J"⟩
abbrev c_Matcher_leaveTimesTurn : ByteArray := prog_5_method_21_code
def y_Matcher_leaveTimesTurn : MethodName := ⟨r_Matcher, "leaveTimesTurn", "(II)V"⟩
abbrev c_Matcher_takeChoice : ByteArray := prog_5_method_13_code
def y_Matcher_takeChoice : MethodName := ⟨r_Matcher, "takeChoice", "()V"⟩
abbrev c_Bench_again : ByteArray := prog_1_method_7_code
def y_Bench_again : MethodName := ⟨r_Bench, "again", "()I"⟩
abbrev c_Bench_placeBehindMatch : ByteArray := prog_1_method_14_code
def y_Bench_placeBehindMatch : MethodName := ⟨r_Bench, "placeBehindMatch", "()I"⟩
abbrev c_Bench_start : ByteArray := prog_1_method_8_code
def y_Bench_start : MethodName := ⟨r_Bench, "start", "(I)I"⟩
abbrev c_Bench_end : ByteArray := prog_1_method_9_code
def y_Bench_end : MethodName := ⟨r_Bench, "end", "(I)I"⟩
abbrev c_Bench_steps : ByteArray := prog_1_method_10_code
def y_Bench_steps : MethodName := ⟨r_Bench, "steps", "()I"⟩
abbrev c_Bench_matches : ByteArray := prog_1_method_11_code
def y_Bench_matches : MethodName := ⟨r_Bench, "matches", "()I"⟩
abbrev c_Bench_count : ByteArray := prog_1_method_12_code
def y_Bench_count : MethodName := ⟨r_Bench, "count", "(I)I"⟩
abbrev c_Model_init : ByteArray := prog_10_method_1_code
def y_Model_init : MethodName := ⟨r_Model, "<init>", "(I)V"⟩
abbrev c_Model_write : ByteArray := prog_10_method_5_code
def y_Model_write : MethodName := ⟨r_Model, "write", "(I)I"⟩
abbrev c_Model_letter : ByteArray := prog_10_method_3_code
def y_Model_letter : MethodName := ⟨r_Model, "letter", "(I)Z"⟩
abbrev c_Model_in : ByteArray := prog_10_method_2_code
def y_Model_in : MethodName := ⟨r_Model, "in", "(III)Z"⟩
abbrev c_Model_sign : ByteArray := prog_10_method_4_code
def y_Model_sign : MethodName := ⟨r_Model, "sign", "(I)Z"⟩
abbrev c_Model_compile : ByteArray := prog_10_method_15_code
def y_Model_compile : MethodName := ⟨r_Model, "compile", "()I"⟩
abbrev c_Model_measure : ByteArray := prog_10_method_14_code
def y_Model_measure : MethodName := ⟨r_Model, "measure", "()I"⟩
abbrev c_Model_opener : ByteArray := prog_10_method_8_code
def y_Model_opener : MethodName := ⟨r_Model, "opener", "(I)I"⟩
abbrev c_Model_c : ByteArray := prog_10_method_6_code
def y_Model_c : MethodName := ⟨r_Model, "c", "(I)I"⟩
abbrev c_Model_behindPlain : ByteArray := prog_10_method_9_code
def y_Model_behindPlain : MethodName := ⟨r_Model, "behindPlain", "(I)I"⟩
abbrev c_Model_behindClass : ByteArray := prog_10_method_7_code
def y_Model_behindClass : MethodName := ⟨r_Model, "behindClass", "(I)I"⟩
abbrev c_Model_behindRepeat : ByteArray := prog_10_method_10_code
def y_Model_behindRepeat : MethodName := ⟨r_Model, "behindRepeat", "(I)I"⟩
abbrev c_Model_sized : ByteArray := prog_10_method_11_code
def y_Model_sized : MethodName := ⟨r_Model, "sized", "(II)I"⟩
abbrev c_Model_groupsOf : ByteArray := prog_10_method_12_code
def y_Model_groupsOf : MethodName := ⟨r_Model, "groupsOf", "()I"⟩
abbrev c_Model_namesGood : ByteArray := prog_10_method_13_code
def y_Model_namesGood : MethodName := ⟨r_Model, "namesGood", "(I)Z"⟩
abbrev c_Model_feed : ByteArray := prog_10_method_16_code
def y_Model_feed : MethodName := ⟨r_Model, "feed", "(I)I"⟩
abbrev c_Model_clear : ByteArray := prog_10_method_17_code
def y_Model_clear : MethodName := ⟨r_Model, "clear", "()I"⟩
abbrev c_Model_search : ByteArray := prog_10_method_46_code
def y_Model_search : MethodName := ⟨r_Model, "search", "(I)I"⟩
abbrev c_Model_seek : ByteArray := prog_10_method_45_code
def y_Model_seek : MethodName := ⟨r_Model, "seek", "(I)I"⟩
abbrev c_Model_walk : ByteArray := prog_10_method_44_code
def y_Model_walk : MethodName := ⟨r_Model, "walk", "(I)I"⟩
abbrev c_Model_go : ByteArray := prog_10_method_31_code
def y_Model_go : MethodName := ⟨r_Model, "go", "(III)V"⟩
abbrev c_Model_retreat : ByteArray := prog_10_method_43_code
def y_Model_retreat : MethodName := ⟨r_Model, "retreat", "()Z"⟩
abbrev c_Model_rowEnds : ByteArray := prog_10_method_21_code
def y_Model_rowEnds : MethodName := ⟨r_Model, "rowEnds", "(I)Z"⟩
abbrev c_Model_t : ByteArray := prog_10_method_18_code
def y_Model_t : MethodName := ⟨r_Model, "t", "(I)I"⟩
abbrev c_Model_item : ByteArray := prog_10_method_39_code
def y_Model_item : MethodName := ⟨r_Model, "item", "(I)V"⟩
abbrev c_Model_behindAtom : ByteArray := prog_10_method_20_code
def y_Model_behindAtom : MethodName := ⟨r_Model, "behindAtom", "(I)I"⟩
abbrev c_Model_closing : ByteArray := prog_10_method_19_code
def y_Model_closing : MethodName := ⟨r_Model, "closing", "(I)I"⟩
abbrev c_Model_push : ByteArray := prog_10_method_25_code
def y_Model_push : MethodName := ⟨r_Model, "push", "(IIII)I"⟩
abbrev c_Model_pushBack : ByteArray := prog_10_method_30_code
def y_Model_pushBack : MethodName := ⟨r_Model, "pushBack", "(III)V"⟩
abbrev c_Model_nextRow : ByteArray := prog_10_method_22_code
def y_Model_nextRow : MethodName := ⟨r_Model, "nextRow", "(I)I"⟩
abbrev c_Model_atom : ByteArray := prog_10_method_41_code
def y_Model_atom : MethodName := ⟨r_Model, "atom", "()V"⟩
abbrev c_Model_openChoice : ByteArray := prog_10_method_38_code
def y_Model_openChoice : MethodName := ⟨r_Model, "openChoice", "(I)V"⟩
abbrev c_Model_groupAt : ByteArray := prog_10_method_24_code
def y_Model_groupAt : MethodName := ⟨r_Model, "groupAt", "(I)I"⟩
abbrev c_Model_calls : ByteArray := prog_10_method_32_code
def y_Model_calls : MethodName := ⟨r_Model, "calls", "()I"⟩
abbrev c_Model_kindOf : ByteArray := prog_10_method_26_code
def y_Model_kindOf : MethodName := ⟨r_Model, "kindOf", "(I)I"⟩
abbrev c_Model_parentOf : ByteArray := prog_10_method_29_code
def y_Model_parentOf : MethodName := ⟨r_Model, "parentOf", "(I)I"⟩
abbrev c_Model_choiceOf : ByteArray := prog_10_method_23_code
def y_Model_choiceOf : MethodName := ⟨r_Model, "choiceOf", "(I)I"⟩
abbrev c_Model_plain : ByteArray := prog_10_method_37_code
def y_Model_plain : MethodName := ⟨r_Model, "plain", "(I)Z"⟩
abbrev c_Model_repeats : ByteArray := prog_10_method_35_code
def y_Model_repeats : MethodName := ⟨r_Model, "repeats", "(I)Z"⟩
abbrev c_Model_capture : ByteArray := prog_10_method_33_code
def y_Model_capture : MethodName := ⟨r_Model, "capture", "(JIZ)I"⟩
abbrev c_Model_takesLetter : ByteArray := prog_10_method_36_code
def y_Model_takesLetter : MethodName := ⟨r_Model, "takesLetter", "(I)Z"⟩
abbrev c_Model_inClass : ByteArray := prog_10_method_34_code
def y_Model_inClass : MethodName := ⟨r_Model, "inClass", "(II)Z"⟩
abbrev c_Model_star : ByteArray := prog_10_method_40_code
def y_Model_star : MethodName := ⟨r_Model, "star", "(Z)V"⟩
abbrev c_Model_carryOn : ByteArray := prog_10_method_42_code
def y_Model_carryOn : MethodName := ⟨r_Model, "carryOn", "()V"⟩
abbrev c_Model_placeOf : ByteArray := prog_10_method_27_code
def y_Model_placeOf : MethodName := ⟨r_Model, "placeOf", "(I)I"⟩
abbrev c_Model_numberOf : ByteArray := prog_10_method_28_code
def y_Model_numberOf : MethodName := ⟨r_Model, "numberOf", "(I)I"⟩
abbrev c_Model_again : ByteArray := prog_10_method_47_code
def y_Model_again : MethodName := ⟨r_Model, "again", "()I"⟩
abbrev c_Model_start : ByteArray := prog_10_method_49_code
def y_Model_start : MethodName := ⟨r_Model, "start", "(I)I"⟩
abbrev c_Model_bound : ByteArray := prog_10_method_48_code
def y_Model_bound : MethodName := ⟨r_Model, "bound", "(IZ)I"⟩
abbrev c_Model_end : ByteArray := prog_10_method_50_code
def y_Model_end : MethodName := ⟨r_Model, "end", "(I)I"⟩
abbrev c_Model_steps : ByteArray := prog_10_method_51_code
def y_Model_steps : MethodName := ⟨r_Model, "steps", "()I"⟩
abbrev c_Model_matches : ByteArray := prog_10_method_52_code
def y_Model_matches : MethodName := ⟨r_Model, "matches", "()I"⟩
abbrev c_Model_count : ByteArray := prog_10_method_53_code
def y_Model_count : MethodName := ⟨r_Model, "count", "(I)I"⟩
