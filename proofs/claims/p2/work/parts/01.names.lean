-- ===== PART A: goes FIRST, ahead of the names: the tables' words, and 'selects' of the private methods out of them =====
/-- a private method of a class that the tables say can be made, by its rows of tables_1 -/
def lw_okq (q : MethodName × Nat) : Prop := (q.1.cls ≠ "java/lang/invoke/MethodHandle" ∧ q.1.cls ≠ "java/lang/invoke/VarHandle") ∧ Cond.instantiable q.1.cls q.2 ∈ tables_1 ∧ Cond.privateMethod q.1 ∈ tables_1 ∧ Cond.instanceMethod q.1 ∈ tables_1
theorem lw_p0 : lw_okq (⟨"PatternBench$Reader", "openLevel", "(II)V"⟩, 11) := ⟨⟨by decide +kernel, by decide +kernel⟩, List.mem_of_getElem? (i := 25) (by decide +kernel), List.mem_of_getElem? (i := 424) (by decide +kernel), List.mem_of_getElem? (i := 425) (by decide +kernel)⟩
theorem lw_p1 : lw_okq (⟨"PatternBench$Reader", "readPart", "()I"⟩, 11) := ⟨⟨by decide +kernel, by decide +kernel⟩, List.mem_of_getElem? (i := 25) (by decide +kernel), List.mem_of_getElem? (i := 432) (by decide +kernel), List.mem_of_getElem? (i := 433) (by decide +kernel)⟩
theorem lw_p2 : lw_okq (⟨"PatternBench$Reader", "ahead", "(I)I"⟩, 11) := ⟨⟨by decide +kernel, by decide +kernel⟩, List.mem_of_getElem? (i := 25) (by decide +kernel), List.mem_of_getElem? (i := 436) (by decide +kernel), List.mem_of_getElem? (i := 437) (by decide +kernel)⟩
theorem lw_p3 : lw_okq (⟨"PatternBench$Reader", "openNextRow", "()I"⟩, 11) := ⟨⟨by decide +kernel, by decide +kernel⟩, List.mem_of_getElem? (i := 25) (by decide +kernel), List.mem_of_getElem? (i := 444) (by decide +kernel), List.mem_of_getElem? (i := 445) (by decide +kernel)⟩
theorem lw_p4 : lw_okq (⟨"PatternBench$Reader", "closeChoice", "()I"⟩, 11) := ⟨⟨by decide +kernel, by decide +kernel⟩, List.mem_of_getElem? (i := 25) (by decide +kernel), List.mem_of_getElem? (i := 448) (by decide +kernel), List.mem_of_getElem? (i := 449) (by decide +kernel)⟩
theorem lw_p5 : lw_okq (⟨"PatternBench$Reader", "refuse", "()I"⟩, 11) := ⟨⟨by decide +kernel, by decide +kernel⟩, List.mem_of_getElem? (i := 25) (by decide +kernel), List.mem_of_getElem? (i := 452) (by decide +kernel), List.mem_of_getElem? (i := 453) (by decide +kernel)⟩
theorem lw_p6 : lw_okq (⟨"PatternBench$Reader", "readCall", "()I"⟩, 11) := ⟨⟨by decide +kernel, by decide +kernel⟩, List.mem_of_getElem? (i := 25) (by decide +kernel), List.mem_of_getElem? (i := 457) (by decide +kernel), List.mem_of_getElem? (i := 458) (by decide +kernel)⟩
theorem lw_p7 : lw_okq (⟨"PatternBench$Reader", "appendItem", "(II)I"⟩, 11) := ⟨⟨by decide +kernel, by decide +kernel⟩, List.mem_of_getElem? (i := 25) (by decide +kernel), List.mem_of_getElem? (i := 462) (by decide +kernel), List.mem_of_getElem? (i := 463) (by decide +kernel)⟩
theorem lw_p8 : lw_okq (⟨"PatternBench$Reader", "openChoice", "()I"⟩, 11) := ⟨⟨by decide +kernel, by decide +kernel⟩, List.mem_of_getElem? (i := 25) (by decide +kernel), List.mem_of_getElem? (i := 470) (by decide +kernel), List.mem_of_getElem? (i := 471) (by decide +kernel)⟩
theorem lw_p9 : lw_okq (⟨"PatternBench$Reader", "kindOfChoice", "()I"⟩, 11) := ⟨⟨by decide +kernel, by decide +kernel⟩, List.mem_of_getElem? (i := 25) (by decide +kernel), List.mem_of_getElem? (i := 474) (by decide +kernel), List.mem_of_getElem? (i := 475) (by decide +kernel)⟩
theorem lw_p10 : lw_okq (⟨"PatternBench$Reader", "readClass", "()I"⟩, 11) := ⟨⟨by decide +kernel, by decide +kernel⟩, List.mem_of_getElem? (i := 25) (by decide +kernel), List.mem_of_getElem? (i := 478) (by decide +kernel), List.mem_of_getElem? (i := 479) (by decide +kernel)⟩
theorem lw_p11 : lw_okq (⟨"PatternBench$Reader", "readClassPart", "()I"⟩, 11) := ⟨⟨by decide +kernel, by decide +kernel⟩, List.mem_of_getElem? (i := 25) (by decide +kernel), List.mem_of_getElem? (i := 483) (by decide +kernel), List.mem_of_getElem? (i := 484) (by decide +kernel)⟩
theorem lw_p12 : lw_okq (⟨"PatternBench$Reader", "readReference", "()I"⟩, 11) := ⟨⟨by decide +kernel, by decide +kernel⟩, List.mem_of_getElem? (i := 25) (by decide +kernel), List.mem_of_getElem? (i := 491) (by decide +kernel), List.mem_of_getElem? (i := 492) (by decide +kernel)⟩
theorem lw_p13 : lw_okq (⟨"PatternBench$Reader", "readSign", "()I"⟩, 11) := ⟨⟨by decide +kernel, by decide +kernel⟩, List.mem_of_getElem? (i := 25) (by decide +kernel), List.mem_of_getElem? (i := 495) (by decide +kernel), List.mem_of_getElem? (i := 496) (by decide +kernel)⟩
theorem lw_p14 : lw_okq (⟨"PatternBench$Reader", "readRepeat", "(I)V"⟩, 11) := ⟨⟨by decide +kernel, by decide +kernel⟩, List.mem_of_getElem? (i := 25) (by decide +kernel), List.mem_of_getElem? (i := 499) (by decide +kernel), List.mem_of_getElem? (i := 500) (by decide +kernel)⟩
theorem lw_p15 : lw_okq (⟨"PatternBench$Reader", "setRepeat", "(IIII)V"⟩, 11) := ⟨⟨by decide +kernel, by decide +kernel⟩, List.mem_of_getElem? (i := 25) (by decide +kernel), List.mem_of_getElem? (i := 503) (by decide +kernel), List.mem_of_getElem? (i := 504) (by decide +kernel)⟩
def lw_privs_1 : List (MethodName × Nat) := [(⟨"PatternBench$Reader", "openLevel", "(II)V"⟩, 11), (⟨"PatternBench$Reader", "readPart", "()I"⟩, 11), (⟨"PatternBench$Reader", "ahead", "(I)I"⟩, 11), (⟨"PatternBench$Reader", "openNextRow", "()I"⟩, 11), (⟨"PatternBench$Reader", "closeChoice", "()I"⟩, 11), (⟨"PatternBench$Reader", "refuse", "()I"⟩, 11), (⟨"PatternBench$Reader", "readCall", "()I"⟩, 11), (⟨"PatternBench$Reader", "appendItem", "(II)I"⟩, 11), (⟨"PatternBench$Reader", "openChoice", "()I"⟩, 11), (⟨"PatternBench$Reader", "kindOfChoice", "()I"⟩, 11), (⟨"PatternBench$Reader", "readClass", "()I"⟩, 11), (⟨"PatternBench$Reader", "readClassPart", "()I"⟩, 11), (⟨"PatternBench$Reader", "readReference", "()I"⟩, 11), (⟨"PatternBench$Reader", "readSign", "()I"⟩, 11), (⟨"PatternBench$Reader", "readRepeat", "(I)V"⟩, 11), (⟨"PatternBench$Reader", "setRepeat", "(IIII)V"⟩, 11)]
theorem lw_r1 : ∀ q ∈ lw_privs_1, lw_okq q := List.forall_mem_cons.mpr ⟨lw_p0, List.forall_mem_cons.mpr ⟨lw_p1, List.forall_mem_cons.mpr ⟨lw_p2, List.forall_mem_cons.mpr ⟨lw_p3, List.forall_mem_cons.mpr ⟨lw_p4, List.forall_mem_cons.mpr ⟨lw_p5, List.forall_mem_cons.mpr ⟨lw_p6, List.forall_mem_cons.mpr ⟨lw_p7, List.forall_mem_cons.mpr ⟨lw_p8, List.forall_mem_cons.mpr ⟨lw_p9, List.forall_mem_cons.mpr ⟨lw_p10, List.forall_mem_cons.mpr ⟨lw_p11, List.forall_mem_cons.mpr ⟨lw_p12, List.forall_mem_cons.mpr ⟨lw_p13, List.forall_mem_cons.mpr ⟨lw_p14, List.forall_mem_cons.mpr ⟨lw_p15, fun _ h => absurd h List.not_mem_nil⟩⟩⟩⟩⟩⟩⟩⟩⟩⟩⟩⟩⟩⟩⟩⟩
theorem lw_p16 : lw_okq (⟨"PatternBench$Reader", "readTimes", "(I)V"⟩, 11) := ⟨⟨by decide +kernel, by decide +kernel⟩, List.mem_of_getElem? (i := 25) (by decide +kernel), List.mem_of_getElem? (i := 507) (by decide +kernel), List.mem_of_getElem? (i := 508) (by decide +kernel)⟩
theorem lw_p17 : lw_okq (⟨"PatternBench", "searchFrom", "(I)I"⟩, 8) := ⟨⟨by decide +kernel, by decide +kernel⟩, List.mem_of_getElem? (i := 17) (by decide +kernel), List.mem_of_getElem? (i := 523) (by decide +kernel), List.mem_of_getElem? (i := 524) (by decide +kernel)⟩
theorem lw_p18 : lw_okq (⟨"PatternBench$Matcher", "beginAt", "(I)V"⟩, 11) := ⟨⟨by decide +kernel, by decide +kernel⟩, List.mem_of_getElem? (i := 156) (by decide +kernel), List.mem_of_getElem? (i := 531) (by decide +kernel), List.mem_of_getElem? (i := 532) (by decide +kernel)⟩
theorem lw_p19 : lw_okq (⟨"PatternBench$Matcher", "go", "(II)V"⟩, 11) := ⟨⟨by decide +kernel, by decide +kernel⟩, List.mem_of_getElem? (i := 156) (by decide +kernel), List.mem_of_getElem? (i := 543) (by decide +kernel), List.mem_of_getElem? (i := 544) (by decide +kernel)⟩
theorem lw_p20 : lw_okq (⟨"PatternBench$Matcher", "goesOn", "()Z"⟩, 11) := ⟨⟨by decide +kernel, by decide +kernel⟩, List.mem_of_getElem? (i := 156) (by decide +kernel), List.mem_of_getElem? (i := 548) (by decide +kernel), List.mem_of_getElem? (i := 549) (by decide +kernel)⟩
theorem lw_p21 : lw_okq (⟨"PatternBench$Matcher", "takeTurn", "()V"⟩, 11) := ⟨⟨by decide +kernel, by decide +kernel⟩, List.mem_of_getElem? (i := 156) (by decide +kernel), List.mem_of_getElem? (i := 560) (by decide +kernel), List.mem_of_getElem? (i := 561) (by decide +kernel)⟩
theorem lw_p22 : lw_okq (⟨"PatternBench$Matcher", "enterRow", "(I)V"⟩, 11) := ⟨⟨by decide +kernel, by decide +kernel⟩, List.mem_of_getElem? (i := 156) (by decide +kernel), List.mem_of_getElem? (i := 564) (by decide +kernel), List.mem_of_getElem? (i := 565) (by decide +kernel)⟩
theorem lw_p23 : lw_okq (⟨"PatternBench$Matcher", "enterItem", "(I)V"⟩, 11) := ⟨⟨by decide +kernel, by decide +kernel⟩, List.mem_of_getElem? (i := 156) (by decide +kernel), List.mem_of_getElem? (i := 572) (by decide +kernel), List.mem_of_getElem? (i := 573) (by decide +kernel)⟩
theorem lw_p24 : lw_okq (⟨"PatternBench$Matcher", "fork", "(I)V"⟩, 11) := ⟨⟨by decide +kernel, by decide +kernel⟩, List.mem_of_getElem? (i := 156) (by decide +kernel), List.mem_of_getElem? (i := 580) (by decide +kernel), List.mem_of_getElem? (i := 581) (by decide +kernel)⟩
theorem lw_p25 : lw_okq (⟨"PatternBench$Matcher", "tryAtom", "(I)V"⟩, 11) := ⟨⟨by decide +kernel, by decide +kernel⟩, List.mem_of_getElem? (i := 156) (by decide +kernel), List.mem_of_getElem? (i := 584) (by decide +kernel), List.mem_of_getElem? (i := 585) (by decide +kernel)⟩
theorem lw_p26 : lw_okq (⟨"PatternBench$Matcher", "ask", "(I)V"⟩, 11) := ⟨⟨by decide +kernel, by decide +kernel⟩, List.mem_of_getElem? (i := 156) (by decide +kernel), List.mem_of_getElem? (i := 588) (by decide +kernel), List.mem_of_getElem? (i := 589) (by decide +kernel)⟩
theorem lw_p27 : lw_okq (⟨"PatternBench$Matcher", "askLetter", "(I)V"⟩, 11) := ⟨⟨by decide +kernel, by decide +kernel⟩, List.mem_of_getElem? (i := 156) (by decide +kernel), List.mem_of_getElem? (i := 592) (by decide +kernel), List.mem_of_getElem? (i := 593) (by decide +kernel)⟩
theorem lw_p28 : lw_okq (⟨"PatternBench$Matcher", "askSame", "(I)V"⟩, 11) := ⟨⟨by decide +kernel, by decide +kernel⟩, List.mem_of_getElem? (i := 156) (by decide +kernel), List.mem_of_getElem? (i := 596) (by decide +kernel), List.mem_of_getElem? (i := 597) (by decide +kernel)⟩
theorem lw_p29 : lw_okq (⟨"PatternBench$Matcher", "standsHere", "(II)Z"⟩, 11) := ⟨⟨by decide +kernel, by decide +kernel⟩, List.mem_of_getElem? (i := 156) (by decide +kernel), List.mem_of_getElem? (i := 606) (by decide +kernel), List.mem_of_getElem? (i := 607) (by decide +kernel)⟩
theorem lw_p30 : lw_okq (⟨"PatternBench$Matcher", "askCall", "(I)V"⟩, 11) := ⟨⟨by decide +kernel, by decide +kernel⟩, List.mem_of_getElem? (i := 156) (by decide +kernel), List.mem_of_getElem? (i := 610) (by decide +kernel), List.mem_of_getElem? (i := 611) (by decide +kernel)⟩
theorem lw_p31 : lw_okq (⟨"PatternBench$Matcher", "askBody", "(I)V"⟩, 11) := ⟨⟨by decide +kernel, by decide +kernel⟩, List.mem_of_getElem? (i := 156) (by decide +kernel), List.mem_of_getElem? (i := 614) (by decide +kernel), List.mem_of_getElem? (i := 615) (by decide +kernel)⟩
def lw_privs_2 : List (MethodName × Nat) := [(⟨"PatternBench$Reader", "readTimes", "(I)V"⟩, 11), (⟨"PatternBench", "searchFrom", "(I)I"⟩, 8), (⟨"PatternBench$Matcher", "beginAt", "(I)V"⟩, 11), (⟨"PatternBench$Matcher", "go", "(II)V"⟩, 11), (⟨"PatternBench$Matcher", "goesOn", "()Z"⟩, 11), (⟨"PatternBench$Matcher", "takeTurn", "()V"⟩, 11), (⟨"PatternBench$Matcher", "enterRow", "(I)V"⟩, 11), (⟨"PatternBench$Matcher", "enterItem", "(I)V"⟩, 11), (⟨"PatternBench$Matcher", "fork", "(I)V"⟩, 11), (⟨"PatternBench$Matcher", "tryAtom", "(I)V"⟩, 11), (⟨"PatternBench$Matcher", "ask", "(I)V"⟩, 11), (⟨"PatternBench$Matcher", "askLetter", "(I)V"⟩, 11), (⟨"PatternBench$Matcher", "askSame", "(I)V"⟩, 11), (⟨"PatternBench$Matcher", "standsHere", "(II)Z"⟩, 11), (⟨"PatternBench$Matcher", "askCall", "(I)V"⟩, 11), (⟨"PatternBench$Matcher", "askBody", "(I)V"⟩, 11)]
theorem lw_r2 : ∀ q ∈ lw_privs_2, lw_okq q := List.forall_mem_cons.mpr ⟨lw_p16, List.forall_mem_cons.mpr ⟨lw_p17, List.forall_mem_cons.mpr ⟨lw_p18, List.forall_mem_cons.mpr ⟨lw_p19, List.forall_mem_cons.mpr ⟨lw_p20, List.forall_mem_cons.mpr ⟨lw_p21, List.forall_mem_cons.mpr ⟨lw_p22, List.forall_mem_cons.mpr ⟨lw_p23, List.forall_mem_cons.mpr ⟨lw_p24, List.forall_mem_cons.mpr ⟨lw_p25, List.forall_mem_cons.mpr ⟨lw_p26, List.forall_mem_cons.mpr ⟨lw_p27, List.forall_mem_cons.mpr ⟨lw_p28, List.forall_mem_cons.mpr ⟨lw_p29, List.forall_mem_cons.mpr ⟨lw_p30, List.forall_mem_cons.mpr ⟨lw_p31, fun _ h => absurd h List.not_mem_nil⟩⟩⟩⟩⟩⟩⟩⟩⟩⟩⟩⟩⟩⟩⟩⟩
theorem lw_p32 : lw_okq (⟨"PatternBench$Matcher", "goAfterAtom", "(I)V"⟩, 11) := ⟨⟨by decide +kernel, by decide +kernel⟩, List.mem_of_getElem? (i := 156) (by decide +kernel), List.mem_of_getElem? (i := 618) (by decide +kernel), List.mem_of_getElem? (i := 619) (by decide +kernel)⟩
theorem lw_p33 : lw_okq (⟨"PatternBench$Matcher", "goAfterItem", "(I)V"⟩, 11) := ⟨⟨by decide +kernel, by decide +kernel⟩, List.mem_of_getElem? (i := 156) (by decide +kernel), List.mem_of_getElem? (i := 622) (by decide +kernel), List.mem_of_getElem? (i := 623) (by decide +kernel)⟩
theorem lw_p34 : lw_okq (⟨"PatternBench$Matcher", "resume", "(I)V"⟩, 11) := ⟨⟨by decide +kernel, by decide +kernel⟩, List.mem_of_getElem? (i := 156) (by decide +kernel), List.mem_of_getElem? (i := 626) (by decide +kernel), List.mem_of_getElem? (i := 627) (by decide +kernel)⟩
theorem lw_p35 : lw_okq (⟨"PatternBench$Matcher", "leaveBody", "(II)V"⟩, 11) := ⟨⟨by decide +kernel, by decide +kernel⟩, List.mem_of_getElem? (i := 156) (by decide +kernel), List.mem_of_getElem? (i := 630) (by decide +kernel), List.mem_of_getElem? (i := 631) (by decide +kernel)⟩
theorem lw_p36 : lw_okq (⟨"PatternBench$Matcher", "leaveTimesTurn", "(II)V"⟩, 11) := ⟨⟨by decide +kernel, by decide +kernel⟩, List.mem_of_getElem? (i := 156) (by decide +kernel), List.mem_of_getElem? (i := 639) (by decide +kernel), List.mem_of_getElem? (i := 640) (by decide +kernel)⟩
theorem lw_p37 : lw_okq (⟨"PatternBench$Matcher", "takeChoice", "()V"⟩, 11) := ⟨⟨by decide +kernel, by decide +kernel⟩, List.mem_of_getElem? (i := 156) (by decide +kernel), List.mem_of_getElem? (i := 643) (by decide +kernel), List.mem_of_getElem? (i := 644) (by decide +kernel)⟩
theorem lw_p38 : lw_okq (⟨"PatternBench", "placeBehindMatch", "()I"⟩, 8) := ⟨⟨by decide +kernel, by decide +kernel⟩, List.mem_of_getElem? (i := 17) (by decide +kernel), List.mem_of_getElem? (i := 651) (by decide +kernel), List.mem_of_getElem? (i := 652) (by decide +kernel)⟩
theorem lw_p39 : lw_okq (⟨"PatternBenchModel", "measure", "()I"⟩, 27) := ⟨⟨by decide +kernel, by decide +kernel⟩, List.mem_of_getElem? (i := 680) (by decide +kernel), List.mem_of_getElem? (i := 785) (by decide +kernel), List.mem_of_getElem? (i := 786) (by decide +kernel)⟩
theorem lw_p40 : lw_okq (⟨"PatternBenchModel", "opener", "(I)I"⟩, 27) := ⟨⟨by decide +kernel, by decide +kernel⟩, List.mem_of_getElem? (i := 680) (by decide +kernel), List.mem_of_getElem? (i := 789) (by decide +kernel), List.mem_of_getElem? (i := 790) (by decide +kernel)⟩
theorem lw_p41 : lw_okq (⟨"PatternBenchModel", "c", "(I)I"⟩, 27) := ⟨⟨by decide +kernel, by decide +kernel⟩, List.mem_of_getElem? (i := 680) (by decide +kernel), List.mem_of_getElem? (i := 793) (by decide +kernel), List.mem_of_getElem? (i := 794) (by decide +kernel)⟩
theorem lw_p42 : lw_okq (⟨"PatternBenchModel", "behindPlain", "(I)I"⟩, 27) := ⟨⟨by decide +kernel, by decide +kernel⟩, List.mem_of_getElem? (i := 680) (by decide +kernel), List.mem_of_getElem? (i := 797) (by decide +kernel), List.mem_of_getElem? (i := 798) (by decide +kernel)⟩
theorem lw_p43 : lw_okq (⟨"PatternBenchModel", "behindClass", "(I)I"⟩, 27) := ⟨⟨by decide +kernel, by decide +kernel⟩, List.mem_of_getElem? (i := 680) (by decide +kernel), List.mem_of_getElem? (i := 801) (by decide +kernel), List.mem_of_getElem? (i := 802) (by decide +kernel)⟩
theorem lw_p44 : lw_okq (⟨"PatternBenchModel", "behindRepeat", "(I)I"⟩, 27) := ⟨⟨by decide +kernel, by decide +kernel⟩, List.mem_of_getElem? (i := 680) (by decide +kernel), List.mem_of_getElem? (i := 805) (by decide +kernel), List.mem_of_getElem? (i := 806) (by decide +kernel)⟩
theorem lw_p45 : lw_okq (⟨"PatternBenchModel", "sized", "(II)I"⟩, 27) := ⟨⟨by decide +kernel, by decide +kernel⟩, List.mem_of_getElem? (i := 680) (by decide +kernel), List.mem_of_getElem? (i := 809) (by decide +kernel), List.mem_of_getElem? (i := 810) (by decide +kernel)⟩
theorem lw_p46 : lw_okq (⟨"PatternBenchModel", "groupsOf", "()I"⟩, 27) := ⟨⟨by decide +kernel, by decide +kernel⟩, List.mem_of_getElem? (i := 680) (by decide +kernel), List.mem_of_getElem? (i := 813) (by decide +kernel), List.mem_of_getElem? (i := 814) (by decide +kernel)⟩
theorem lw_p47 : lw_okq (⟨"PatternBenchModel", "namesGood", "(I)Z"⟩, 27) := ⟨⟨by decide +kernel, by decide +kernel⟩, List.mem_of_getElem? (i := 680) (by decide +kernel), List.mem_of_getElem? (i := 817) (by decide +kernel), List.mem_of_getElem? (i := 818) (by decide +kernel)⟩
def lw_privs_3 : List (MethodName × Nat) := [(⟨"PatternBench$Matcher", "goAfterAtom", "(I)V"⟩, 11), (⟨"PatternBench$Matcher", "goAfterItem", "(I)V"⟩, 11), (⟨"PatternBench$Matcher", "resume", "(I)V"⟩, 11), (⟨"PatternBench$Matcher", "leaveBody", "(II)V"⟩, 11), (⟨"PatternBench$Matcher", "leaveTimesTurn", "(II)V"⟩, 11), (⟨"PatternBench$Matcher", "takeChoice", "()V"⟩, 11), (⟨"PatternBench", "placeBehindMatch", "()I"⟩, 8), (⟨"PatternBenchModel", "measure", "()I"⟩, 27), (⟨"PatternBenchModel", "opener", "(I)I"⟩, 27), (⟨"PatternBenchModel", "c", "(I)I"⟩, 27), (⟨"PatternBenchModel", "behindPlain", "(I)I"⟩, 27), (⟨"PatternBenchModel", "behindClass", "(I)I"⟩, 27), (⟨"PatternBenchModel", "behindRepeat", "(I)I"⟩, 27), (⟨"PatternBenchModel", "sized", "(II)I"⟩, 27), (⟨"PatternBenchModel", "groupsOf", "()I"⟩, 27), (⟨"PatternBenchModel", "namesGood", "(I)Z"⟩, 27)]
theorem lw_r3 : ∀ q ∈ lw_privs_3, lw_okq q := List.forall_mem_cons.mpr ⟨lw_p32, List.forall_mem_cons.mpr ⟨lw_p33, List.forall_mem_cons.mpr ⟨lw_p34, List.forall_mem_cons.mpr ⟨lw_p35, List.forall_mem_cons.mpr ⟨lw_p36, List.forall_mem_cons.mpr ⟨lw_p37, List.forall_mem_cons.mpr ⟨lw_p38, List.forall_mem_cons.mpr ⟨lw_p39, List.forall_mem_cons.mpr ⟨lw_p40, List.forall_mem_cons.mpr ⟨lw_p41, List.forall_mem_cons.mpr ⟨lw_p42, List.forall_mem_cons.mpr ⟨lw_p43, List.forall_mem_cons.mpr ⟨lw_p44, List.forall_mem_cons.mpr ⟨lw_p45, List.forall_mem_cons.mpr ⟨lw_p46, List.forall_mem_cons.mpr ⟨lw_p47, fun _ h => absurd h List.not_mem_nil⟩⟩⟩⟩⟩⟩⟩⟩⟩⟩⟩⟩⟩⟩⟩⟩
theorem lw_p48 : lw_okq (⟨"PatternBenchModel", "seek", "(I)I"⟩, 27) := ⟨⟨by decide +kernel, by decide +kernel⟩, List.mem_of_getElem? (i := 680) (by decide +kernel), List.mem_of_getElem? (i := 833) (by decide +kernel), List.mem_of_getElem? (i := 834) (by decide +kernel)⟩
theorem lw_p49 : lw_okq (⟨"PatternBenchModel", "walk", "(I)I"⟩, 27) := ⟨⟨by decide +kernel, by decide +kernel⟩, List.mem_of_getElem? (i := 680) (by decide +kernel), List.mem_of_getElem? (i := 837) (by decide +kernel), List.mem_of_getElem? (i := 838) (by decide +kernel)⟩
theorem lw_p50 : lw_okq (⟨"PatternBenchModel", "go", "(III)V"⟩, 27) := ⟨⟨by decide +kernel, by decide +kernel⟩, List.mem_of_getElem? (i := 680) (by decide +kernel), List.mem_of_getElem? (i := 841) (by decide +kernel), List.mem_of_getElem? (i := 842) (by decide +kernel)⟩
theorem lw_p51 : lw_okq (⟨"PatternBenchModel", "retreat", "()Z"⟩, 27) := ⟨⟨by decide +kernel, by decide +kernel⟩, List.mem_of_getElem? (i := 680) (by decide +kernel), List.mem_of_getElem? (i := 846) (by decide +kernel), List.mem_of_getElem? (i := 847) (by decide +kernel)⟩
theorem lw_p52 : lw_okq (⟨"PatternBenchModel", "rowEnds", "(I)Z"⟩, 27) := ⟨⟨by decide +kernel, by decide +kernel⟩, List.mem_of_getElem? (i := 680) (by decide +kernel), List.mem_of_getElem? (i := 850) (by decide +kernel), List.mem_of_getElem? (i := 851) (by decide +kernel)⟩
theorem lw_p53 : lw_okq (⟨"PatternBenchModel", "t", "(I)I"⟩, 27) := ⟨⟨by decide +kernel, by decide +kernel⟩, List.mem_of_getElem? (i := 680) (by decide +kernel), List.mem_of_getElem? (i := 854) (by decide +kernel), List.mem_of_getElem? (i := 855) (by decide +kernel)⟩
theorem lw_p54 : lw_okq (⟨"PatternBenchModel", "item", "(I)V"⟩, 27) := ⟨⟨by decide +kernel, by decide +kernel⟩, List.mem_of_getElem? (i := 680) (by decide +kernel), List.mem_of_getElem? (i := 858) (by decide +kernel), List.mem_of_getElem? (i := 859) (by decide +kernel)⟩
theorem lw_p55 : lw_okq (⟨"PatternBenchModel", "behindAtom", "(I)I"⟩, 27) := ⟨⟨by decide +kernel, by decide +kernel⟩, List.mem_of_getElem? (i := 680) (by decide +kernel), List.mem_of_getElem? (i := 862) (by decide +kernel), List.mem_of_getElem? (i := 863) (by decide +kernel)⟩
theorem lw_p56 : lw_okq (⟨"PatternBenchModel", "closing", "(I)I"⟩, 27) := ⟨⟨by decide +kernel, by decide +kernel⟩, List.mem_of_getElem? (i := 680) (by decide +kernel), List.mem_of_getElem? (i := 866) (by decide +kernel), List.mem_of_getElem? (i := 867) (by decide +kernel)⟩
theorem lw_p57 : lw_okq (⟨"PatternBenchModel", "push", "(IIII)I"⟩, 27) := ⟨⟨by decide +kernel, by decide +kernel⟩, List.mem_of_getElem? (i := 680) (by decide +kernel), List.mem_of_getElem? (i := 870) (by decide +kernel), List.mem_of_getElem? (i := 871) (by decide +kernel)⟩
theorem lw_p58 : lw_okq (⟨"PatternBenchModel", "pushBack", "(III)V"⟩, 27) := ⟨⟨by decide +kernel, by decide +kernel⟩, List.mem_of_getElem? (i := 680) (by decide +kernel), List.mem_of_getElem? (i := 874) (by decide +kernel), List.mem_of_getElem? (i := 875) (by decide +kernel)⟩
theorem lw_p59 : lw_okq (⟨"PatternBenchModel", "nextRow", "(I)I"⟩, 27) := ⟨⟨by decide +kernel, by decide +kernel⟩, List.mem_of_getElem? (i := 680) (by decide +kernel), List.mem_of_getElem? (i := 878) (by decide +kernel), List.mem_of_getElem? (i := 879) (by decide +kernel)⟩
theorem lw_p60 : lw_okq (⟨"PatternBenchModel", "atom", "()V"⟩, 27) := ⟨⟨by decide +kernel, by decide +kernel⟩, List.mem_of_getElem? (i := 680) (by decide +kernel), List.mem_of_getElem? (i := 882) (by decide +kernel), List.mem_of_getElem? (i := 883) (by decide +kernel)⟩
theorem lw_p61 : lw_okq (⟨"PatternBenchModel", "openChoice", "(I)V"⟩, 27) := ⟨⟨by decide +kernel, by decide +kernel⟩, List.mem_of_getElem? (i := 680) (by decide +kernel), List.mem_of_getElem? (i := 886) (by decide +kernel), List.mem_of_getElem? (i := 887) (by decide +kernel)⟩
theorem lw_p62 : lw_okq (⟨"PatternBenchModel", "groupAt", "(I)I"⟩, 27) := ⟨⟨by decide +kernel, by decide +kernel⟩, List.mem_of_getElem? (i := 680) (by decide +kernel), List.mem_of_getElem? (i := 890) (by decide +kernel), List.mem_of_getElem? (i := 891) (by decide +kernel)⟩
theorem lw_p63 : lw_okq (⟨"PatternBenchModel", "calls", "()I"⟩, 27) := ⟨⟨by decide +kernel, by decide +kernel⟩, List.mem_of_getElem? (i := 680) (by decide +kernel), List.mem_of_getElem? (i := 894) (by decide +kernel), List.mem_of_getElem? (i := 895) (by decide +kernel)⟩
def lw_privs_4 : List (MethodName × Nat) := [(⟨"PatternBenchModel", "seek", "(I)I"⟩, 27), (⟨"PatternBenchModel", "walk", "(I)I"⟩, 27), (⟨"PatternBenchModel", "go", "(III)V"⟩, 27), (⟨"PatternBenchModel", "retreat", "()Z"⟩, 27), (⟨"PatternBenchModel", "rowEnds", "(I)Z"⟩, 27), (⟨"PatternBenchModel", "t", "(I)I"⟩, 27), (⟨"PatternBenchModel", "item", "(I)V"⟩, 27), (⟨"PatternBenchModel", "behindAtom", "(I)I"⟩, 27), (⟨"PatternBenchModel", "closing", "(I)I"⟩, 27), (⟨"PatternBenchModel", "push", "(IIII)I"⟩, 27), (⟨"PatternBenchModel", "pushBack", "(III)V"⟩, 27), (⟨"PatternBenchModel", "nextRow", "(I)I"⟩, 27), (⟨"PatternBenchModel", "atom", "()V"⟩, 27), (⟨"PatternBenchModel", "openChoice", "(I)V"⟩, 27), (⟨"PatternBenchModel", "groupAt", "(I)I"⟩, 27), (⟨"PatternBenchModel", "calls", "()I"⟩, 27)]
theorem lw_r4 : ∀ q ∈ lw_privs_4, lw_okq q := List.forall_mem_cons.mpr ⟨lw_p48, List.forall_mem_cons.mpr ⟨lw_p49, List.forall_mem_cons.mpr ⟨lw_p50, List.forall_mem_cons.mpr ⟨lw_p51, List.forall_mem_cons.mpr ⟨lw_p52, List.forall_mem_cons.mpr ⟨lw_p53, List.forall_mem_cons.mpr ⟨lw_p54, List.forall_mem_cons.mpr ⟨lw_p55, List.forall_mem_cons.mpr ⟨lw_p56, List.forall_mem_cons.mpr ⟨lw_p57, List.forall_mem_cons.mpr ⟨lw_p58, List.forall_mem_cons.mpr ⟨lw_p59, List.forall_mem_cons.mpr ⟨lw_p60, List.forall_mem_cons.mpr ⟨lw_p61, List.forall_mem_cons.mpr ⟨lw_p62, List.forall_mem_cons.mpr ⟨lw_p63, fun _ h => absurd h List.not_mem_nil⟩⟩⟩⟩⟩⟩⟩⟩⟩⟩⟩⟩⟩⟩⟩⟩
theorem lw_p64 : lw_okq (⟨"PatternBenchModel", "kindOf", "(I)I"⟩, 27) := ⟨⟨by decide +kernel, by decide +kernel⟩, List.mem_of_getElem? (i := 680) (by decide +kernel), List.mem_of_getElem? (i := 898) (by decide +kernel), List.mem_of_getElem? (i := 899) (by decide +kernel)⟩
theorem lw_p65 : lw_okq (⟨"PatternBenchModel", "parentOf", "(I)I"⟩, 27) := ⟨⟨by decide +kernel, by decide +kernel⟩, List.mem_of_getElem? (i := 680) (by decide +kernel), List.mem_of_getElem? (i := 902) (by decide +kernel), List.mem_of_getElem? (i := 903) (by decide +kernel)⟩
theorem lw_p66 : lw_okq (⟨"PatternBenchModel", "choiceOf", "(I)I"⟩, 27) := ⟨⟨by decide +kernel, by decide +kernel⟩, List.mem_of_getElem? (i := 680) (by decide +kernel), List.mem_of_getElem? (i := 906) (by decide +kernel), List.mem_of_getElem? (i := 907) (by decide +kernel)⟩
theorem lw_p67 : lw_okq (⟨"PatternBenchModel", "plain", "(I)Z"⟩, 27) := ⟨⟨by decide +kernel, by decide +kernel⟩, List.mem_of_getElem? (i := 680) (by decide +kernel), List.mem_of_getElem? (i := 910) (by decide +kernel), List.mem_of_getElem? (i := 911) (by decide +kernel)⟩
theorem lw_p68 : lw_okq (⟨"PatternBenchModel", "repeats", "(I)Z"⟩, 27) := ⟨⟨by decide +kernel, by decide +kernel⟩, List.mem_of_getElem? (i := 680) (by decide +kernel), List.mem_of_getElem? (i := 914) (by decide +kernel), List.mem_of_getElem? (i := 915) (by decide +kernel)⟩
theorem lw_p69 : lw_okq (⟨"PatternBenchModel", "capture", "(JIZ)I"⟩, 27) := ⟨⟨by decide +kernel, by decide +kernel⟩, List.mem_of_getElem? (i := 680) (by decide +kernel), List.mem_of_getElem? (i := 918) (by decide +kernel), List.mem_of_getElem? (i := 919) (by decide +kernel)⟩
theorem lw_p70 : lw_okq (⟨"PatternBenchModel", "takesLetter", "(I)Z"⟩, 27) := ⟨⟨by decide +kernel, by decide +kernel⟩, List.mem_of_getElem? (i := 680) (by decide +kernel), List.mem_of_getElem? (i := 922) (by decide +kernel), List.mem_of_getElem? (i := 923) (by decide +kernel)⟩
theorem lw_p71 : lw_okq (⟨"PatternBenchModel", "inClass", "(II)Z"⟩, 27) := ⟨⟨by decide +kernel, by decide +kernel⟩, List.mem_of_getElem? (i := 680) (by decide +kernel), List.mem_of_getElem? (i := 926) (by decide +kernel), List.mem_of_getElem? (i := 927) (by decide +kernel)⟩
theorem lw_p72 : lw_okq (⟨"PatternBenchModel", "star", "(Z)V"⟩, 27) := ⟨⟨by decide +kernel, by decide +kernel⟩, List.mem_of_getElem? (i := 680) (by decide +kernel), List.mem_of_getElem? (i := 930) (by decide +kernel), List.mem_of_getElem? (i := 931) (by decide +kernel)⟩
theorem lw_p73 : lw_okq (⟨"PatternBenchModel", "carryOn", "()V"⟩, 27) := ⟨⟨by decide +kernel, by decide +kernel⟩, List.mem_of_getElem? (i := 680) (by decide +kernel), List.mem_of_getElem? (i := 934) (by decide +kernel), List.mem_of_getElem? (i := 935) (by decide +kernel)⟩
theorem lw_p74 : lw_okq (⟨"PatternBenchModel", "placeOf", "(I)I"⟩, 27) := ⟨⟨by decide +kernel, by decide +kernel⟩, List.mem_of_getElem? (i := 680) (by decide +kernel), List.mem_of_getElem? (i := 938) (by decide +kernel), List.mem_of_getElem? (i := 939) (by decide +kernel)⟩
theorem lw_p75 : lw_okq (⟨"PatternBenchModel", "numberOf", "(I)I"⟩, 27) := ⟨⟨by decide +kernel, by decide +kernel⟩, List.mem_of_getElem? (i := 680) (by decide +kernel), List.mem_of_getElem? (i := 942) (by decide +kernel), List.mem_of_getElem? (i := 943) (by decide +kernel)⟩
theorem lw_p76 : lw_okq (⟨"PatternBenchModel", "bound", "(IZ)I"⟩, 27) := ⟨⟨by decide +kernel, by decide +kernel⟩, List.mem_of_getElem? (i := 680) (by decide +kernel), List.mem_of_getElem? (i := 956) (by decide +kernel), List.mem_of_getElem? (i := 957) (by decide +kernel)⟩
def lw_privs_5 : List (MethodName × Nat) := [(⟨"PatternBenchModel", "kindOf", "(I)I"⟩, 27), (⟨"PatternBenchModel", "parentOf", "(I)I"⟩, 27), (⟨"PatternBenchModel", "choiceOf", "(I)I"⟩, 27), (⟨"PatternBenchModel", "plain", "(I)Z"⟩, 27), (⟨"PatternBenchModel", "repeats", "(I)Z"⟩, 27), (⟨"PatternBenchModel", "capture", "(JIZ)I"⟩, 27), (⟨"PatternBenchModel", "takesLetter", "(I)Z"⟩, 27), (⟨"PatternBenchModel", "inClass", "(II)Z"⟩, 27), (⟨"PatternBenchModel", "star", "(Z)V"⟩, 27), (⟨"PatternBenchModel", "carryOn", "()V"⟩, 27), (⟨"PatternBenchModel", "placeOf", "(I)I"⟩, 27), (⟨"PatternBenchModel", "numberOf", "(I)I"⟩, 27), (⟨"PatternBenchModel", "bound", "(IZ)I"⟩, 27)]
theorem lw_r5 : ∀ q ∈ lw_privs_5, lw_okq q := List.forall_mem_cons.mpr ⟨lw_p64, List.forall_mem_cons.mpr ⟨lw_p65, List.forall_mem_cons.mpr ⟨lw_p66, List.forall_mem_cons.mpr ⟨lw_p67, List.forall_mem_cons.mpr ⟨lw_p68, List.forall_mem_cons.mpr ⟨lw_p69, List.forall_mem_cons.mpr ⟨lw_p70, List.forall_mem_cons.mpr ⟨lw_p71, List.forall_mem_cons.mpr ⟨lw_p72, List.forall_mem_cons.mpr ⟨lw_p73, List.forall_mem_cons.mpr ⟨lw_p74, List.forall_mem_cons.mpr ⟨lw_p75, List.forall_mem_cons.mpr ⟨lw_p76, fun _ h => absurd h List.not_mem_nil⟩⟩⟩⟩⟩⟩⟩⟩⟩⟩⟩⟩⟩
def lw_privs : List (MethodName × Nat) := lw_privs_1 ++ (lw_privs_2 ++ (lw_privs_3 ++ (lw_privs_4 ++ (lw_privs_5))))
def lw_tbl : List Cond := k2_sels lw_privs ++ tables_1
theorem lw_privs_ok : ∀ q ∈ lw_privs, lw_okq q := by
  show ∀ q ∈ lw_privs_1 ++ (lw_privs_2 ++ (lw_privs_3 ++ (lw_privs_4 ++ (lw_privs_5)))), lw_okq q
  exact List.forall_mem_append.mpr ⟨lw_r1, List.forall_mem_append.mpr ⟨lw_r2, List.forall_mem_append.mpr ⟨lw_r3, List.forall_mem_append.mpr ⟨lw_r4, lw_r5⟩⟩⟩⟩

def r_Text : String := "PatternBench$Text"
def t_Text : u_T := fun k => match k with
  | 0 => ("PatternBench$Text", "codes", "[I", true)
  | _ => ("PatternBench$Text", "length", "I", false)
def r_Program : String := "PatternBench$Program"
def t_Program : u_T := fun k => match k with
  | 0 => ("PatternBench$Program", "kind", "[I", true)
  | 1 => ("PatternBench$Program", "value", "[I", true)
  | 2 => ("PatternBench$Program", "repeat", "[I", true)
  | 3 => ("PatternBench$Program", "times", "[I", true)
  | 4 => ("PatternBench$Program", "manner", "[I", true)
  | 5 => ("PatternBench$Program", "body", "[I", true)
  | 6 => ("PatternBench$Program", "nextItem", "[I", true)
  | 7 => ("PatternBench$Program", "firstItem", "[I", true)
  | 8 => ("PatternBench$Program", "nextRow", "[I", true)
  | 9 => ("PatternBench$Program", "groupBody", "[I", true)
  | 10 => ("PatternBench$Program", "items", "I", false)
  | 11 => ("PatternBench$Program", "rows", "I", false)
  | 12 => ("PatternBench$Program", "groups", "I", false)
  | _ => ("PatternBench$Program", "size", "I", false)
def r_Reader : String := "PatternBench$Reader"
def t_Reader : u_T := fun k => match k with
  | 0 => ("PatternBench$Reader", "text", "LPatternBench$Text;", true)
  | 1 => ("PatternBench$Reader", "program", "LPatternBench$Program;", false)
  | 2 => ("PatternBench$Reader", "levelItem", "[I", true)
  | 3 => ("PatternBench$Reader", "levelRow", "[I", true)
  | 4 => ("PatternBench$Reader", "levelLast", "[I", true)
  | 5 => ("PatternBench$Reader", "levelSize", "[I", true)
  | 6 => ("PatternBench$Reader", "level", "I", false)
  | 7 => ("PatternBench$Reader", "at", "I", false)
  | 8 => ("PatternBench$Reader", "atomSize", "I", false)
  | 9 => ("PatternBench$Reader", "highestNamed", "I", false)
  | _ => ("PatternBench$Reader", "isGood", "Z", false)
def r_Frames : String := "PatternBench$Frames"
def t_Frames : u_T := fun k => match k with
  | 0 => ("PatternBench$Frames", "kind", "[I", true)
  | 1 => ("PatternBench$Frames", "item", "[I", true)
  | 2 => ("PatternBench$Frames", "mark", "[I", true)
  | 3 => ("PatternBench$Frames", "place", "[I", true)
  | 4 => ("PatternBench$Frames", "captures", "[J", true)
  | 5 => ("PatternBench$Frames", "outer", "[I", true)
  | 6 => ("PatternBench$Frames", "calls", "[I", true)
  | _ => ("PatternBench$Frames", "used", "I", false)
def r_Choices : String := "PatternBench$Choices"
def t_Choices : u_T := fun k => match k with
  | 0 => ("PatternBench$Choices", "task", "[I", true)
  | 1 => ("PatternBench$Choices", "number", "[I", true)
  | 2 => ("PatternBench$Choices", "place", "[I", true)
  | 3 => ("PatternBench$Choices", "captures", "[J", true)
  | 4 => ("PatternBench$Choices", "frame", "[I", true)
  | _ => ("PatternBench$Choices", "used", "I", false)
def r_Matcher : String := "PatternBench$Matcher"
def t_Matcher : u_T := fun k => match k with
  | 0 => ("PatternBench$Matcher", "subject", "LPatternBench$Text;", true)
  | 1 => ("PatternBench$Matcher", "program", "LPatternBench$Program;", false)
  | 2 => ("PatternBench$Matcher", "limit", "I", true)
  | 3 => ("PatternBench$Matcher", "frames", "LPatternBench$Frames;", true)
  | 4 => ("PatternBench$Matcher", "choices", "LPatternBench$Choices;", true)
  | 5 => ("PatternBench$Matcher", "task", "I", false)
  | 6 => ("PatternBench$Matcher", "number", "I", false)
  | 7 => ("PatternBench$Matcher", "frame", "I", false)
  | 8 => ("PatternBench$Matcher", "place", "I", false)
  | 9 => ("PatternBench$Matcher", "captures", "J", false)
  | _ => ("PatternBench$Matcher", "taken", "I", false)
def r_Bench : String := "PatternBench"
def t_Bench : u_T := fun k => match k with
  | 0 => ("PatternBench", "reader", "LPatternBench$Reader;", true)
  | 1 => ("PatternBench", "matcher", "LPatternBench$Matcher;", true)
  | 2 => ("PatternBench", "isReady", "Z", false)
  | 3 => ("PatternBench", "isMatched", "Z", false)
  | 4 => ("PatternBench", "matchStart", "I", false)
  | 5 => ("PatternBench", "matchEnd", "I", false)
  | 6 => ("PatternBench", "matchCaptures", "J", false)
  | _ => ("PatternBench", "lastSteps", "I", false)
def r_Captures : String := "PatternBench$Captures"
abbrev mmCl : List vw_C := [(r_Text, t_Text, 2), (r_Program, t_Program, 14), (r_Reader, t_Reader, 11), (r_Frames, t_Frames, 8), (r_Choices, t_Choices, 6), (r_Matcher, t_Matcher, 11), (r_Bench, t_Bench, 8)]
abbrev c_Bench_init : ByteArray := prog_1_method_1_code
def y_Bench_init : MethodName := ⟨r_Bench, "<init>", "(I)V"⟩
abbrev c_Reader_init : ByteArray := prog_7_method_1_code
def y_Reader_init : MethodName := ⟨r_Reader, "<init>", "()V"⟩
abbrev c_Text_init : ByteArray := prog_8_method_1_code
def y_Text_init : MethodName := ⟨r_Text, "<init>", "(I)V"⟩
abbrev c_Program_init : ByteArray := prog_6_method_1_code
def y_Program_init : MethodName := ⟨r_Program, "<init>", "()V"⟩
abbrev c_Matcher_init : ByteArray := prog_5_method_1_code
def y_Matcher_init : MethodName := ⟨r_Matcher, "<init>", "(I)V"⟩
abbrev c_Frames_init : ByteArray := prog_4_method_1_code
def y_Frames_init : MethodName := ⟨r_Frames, "<init>", "(I)V"⟩
abbrev c_Choices_init : ByteArray := prog_3_method_1_code
def y_Choices_init : MethodName := ⟨r_Choices, "<init>", "(I)V"⟩
abbrev c_Bench_write : ByteArray := prog_1_method_2_code
def y_Bench_write : MethodName := ⟨r_Bench, "write", "(I)I"⟩
abbrev c_Bench_mayStandInPattern : ByteArray := prog_1_method_17_code
def y_Bench_mayStandInPattern : MethodName := ⟨r_Bench, "mayStandInPattern", "(I)Z"⟩
abbrev c_Bench_isLetter : ByteArray := prog_1_method_15_code
def y_Bench_isLetter : MethodName := ⟨r_Bench, "isLetter", "(I)Z"⟩
abbrev c_Bench_isDigit : ByteArray := prog_1_method_16_code
def y_Bench_isDigit : MethodName := ⟨r_Bench, "isDigit", "(I)Z"⟩
abbrev c_Text_isFull : ByteArray := prog_8_method_2_code
def y_Text_isFull : MethodName := ⟨r_Text, "isFull", "()Z"⟩
abbrev c_Text_add : ByteArray := prog_8_method_3_code
def y_Text_add : MethodName := ⟨r_Text, "add", "(I)I"⟩
abbrev c_Bench_compile : ByteArray := prog_1_method_3_code
def y_Bench_compile : MethodName := ⟨r_Bench, "compile", "()I"⟩
abbrev c_Reader_read : ByteArray := prog_7_method_2_code
def y_Reader_read : MethodName := ⟨r_Reader, "read", "()Z"⟩
abbrev c_Program_empty : ByteArray := prog_6_method_2_code
def y_Program_empty : MethodName := ⟨r_Program, "empty", "()V"⟩
abbrev c_Reader_openLevel : ByteArray := prog_7_method_6_code
def y_Reader_openLevel : MethodName := ⟨r_Reader, "openLevel", "(II)V"⟩
abbrev c_Program_addRow : ByteArray := prog_6_method_3_code
def y_Program_addRow : MethodName := ⟨r_Program, "addRow", "()I"⟩
abbrev c_Reader_readPart : ByteArray := prog_7_method_3_code
def y_Reader_readPart : MethodName := ⟨r_Reader, "readPart", "()I"⟩
abbrev c_Reader_ahead : ByteArray := prog_7_method_4_code
def y_Reader_ahead : MethodName := ⟨r_Reader, "ahead", "(I)I"⟩
abbrev c_Text_codeAt : ByteArray := prog_8_method_4_code
def y_Text_codeAt : MethodName := ⟨r_Text, "codeAt", "(I)I"⟩
abbrev c_Reader_openNextRow : ByteArray := prog_7_method_7_code
def y_Reader_openNextRow : MethodName := ⟨r_Reader, "openNextRow", "()I"⟩
abbrev c_Reader_closeChoice : ByteArray := prog_7_method_10_code
def y_Reader_closeChoice : MethodName := ⟨r_Reader, "closeChoice", "()I"⟩
abbrev c_Reader_refuse : ByteArray := prog_7_method_5_code
def y_Reader_refuse : MethodName := ⟨r_Reader, "refuse", "()I"⟩
abbrev c_Reader_readCall : ByteArray := prog_7_method_11_code
def y_Reader_readCall : MethodName := ⟨r_Reader, "readCall", "()I"⟩
abbrev c_Reader_appendItem : ByteArray := prog_7_method_17_code
def y_Reader_appendItem : MethodName := ⟨r_Reader, "appendItem", "(II)I"⟩
abbrev c_Program_addItem : ByteArray := prog_6_method_4_code
def y_Program_addItem : MethodName := ⟨r_Program, "addItem", "(II)I"⟩
abbrev c_Reader_openChoice : ByteArray := prog_7_method_8_code
def y_Reader_openChoice : MethodName := ⟨r_Reader, "openChoice", "()I"⟩
abbrev c_Reader_kindOfChoice : ByteArray := prog_7_method_9_code
def y_Reader_kindOfChoice : MethodName := ⟨r_Reader, "kindOfChoice", "()I"⟩
abbrev c_Reader_readClass : ByteArray := prog_7_method_14_code
def y_Reader_readClass : MethodName := ⟨r_Reader, "readClass", "()I"⟩
abbrev c_Reader_readClassPart : ByteArray := prog_7_method_15_code
def y_Reader_readClassPart : MethodName := ⟨r_Reader, "readClassPart", "()I"⟩
abbrev c_Reader_lettersBetween : ByteArray := prog_7_method_16_code
def y_Reader_lettersBetween : MethodName := ⟨r_Reader, "lettersBetween", "(II)I"⟩
abbrev c_Reader_readReference : ByteArray := prog_7_method_12_code
def y_Reader_readReference : MethodName := ⟨r_Reader, "readReference", "()I"⟩
abbrev c_Reader_readSign : ByteArray := prog_7_method_13_code
def y_Reader_readSign : MethodName := ⟨r_Reader, "readSign", "()I"⟩
abbrev c_Reader_readRepeat : ByteArray := prog_7_method_18_code
def y_Reader_readRepeat : MethodName := ⟨r_Reader, "readRepeat", "(I)V"⟩
abbrev c_Reader_setRepeat : ByteArray := prog_7_method_20_code
def y_Reader_setRepeat : MethodName := ⟨r_Reader, "setRepeat", "(IIII)V"⟩
abbrev c_Reader_readTimes : ByteArray := prog_7_method_19_code
def y_Reader_readTimes : MethodName := ⟨r_Reader, "readTimes", "(I)V"⟩
abbrev c_Bench_feed : ByteArray := prog_1_method_4_code
def y_Bench_feed : MethodName := ⟨r_Bench, "feed", "(I)I"⟩
abbrev c_Bench_clear : ByteArray := prog_1_method_5_code
def y_Bench_clear : MethodName := ⟨r_Bench, "clear", "()I"⟩
abbrev c_Bench_search : ByteArray := prog_1_method_6_code
def y_Bench_search : MethodName := ⟨r_Bench, "search", "(I)I"⟩
abbrev c_Bench_searchFrom : ByteArray := prog_1_method_13_code
def y_Bench_searchFrom : MethodName := ⟨r_Bench, "searchFrom", "(I)I"⟩
abbrev c_Matcher_find : ByteArray := prog_5_method_2_code
def y_Matcher_find : MethodName := ⟨r_Matcher, "find", "(I)I"⟩
abbrev c_Matcher_beginAt : ByteArray := prog_5_method_3_code
def y_Matcher_beginAt : MethodName := ⟨r_Matcher, "beginAt", "(I)V"⟩
abbrev c_Frames_empty : ByteArray := prog_4_method_2_code
def y_Frames_empty : MethodName := ⟨r_Frames, "empty", "()V"⟩
abbrev c_Choices_cutTo : ByteArray := prog_3_method_4_code
def y_Choices_cutTo : MethodName := ⟨r_Choices, "cutTo", "(I)V"⟩
abbrev c_Matcher_go : ByteArray := prog_5_method_5_code
def y_Matcher_go : MethodName := ⟨r_Matcher, "go", "(II)V"⟩
abbrev c_Matcher_goesOn : ByteArray := prog_5_method_4_code
def y_Matcher_goesOn : MethodName := ⟨r_Matcher, "goesOn", "()Z"⟩
abbrev c_Frames_hasRoom : ByteArray := prog_4_method_3_code
def y_Frames_hasRoom : MethodName := ⟨r_Frames, "hasRoom", "(I)Z"⟩
abbrev c_Choices_hasRoom : ByteArray := prog_3_method_2_code
def y_Choices_hasRoom : MethodName := ⟨r_Choices, "hasRoom", "(I)Z"⟩
abbrev c_Matcher_takeTurn : ByteArray := prog_5_method_6_code
def y_Matcher_takeTurn : MethodName := ⟨r_Matcher, "takeTurn", "()V"⟩
abbrev c_Matcher_enterRow : ByteArray := prog_5_method_7_code
def y_Matcher_enterRow : MethodName := ⟨r_Matcher, "enterRow", "(I)V"⟩
abbrev c_Choices_add : ByteArray := prog_3_method_3_code
def y_Choices_add : MethodName := ⟨r_Choices, "add", "(IIIJI)V"⟩
abbrev c_Matcher_enterItem : ByteArray := prog_5_method_8_code
def y_Matcher_enterItem : MethodName := ⟨r_Matcher, "enterItem", "(I)V"⟩
abbrev c_Frames_add : ByteArray := prog_4_method_4_code
def y_Frames_add : MethodName := ⟨r_Frames, "add", "(IIIIJI)I"⟩
abbrev c_Matcher_fork : ByteArray := prog_5_method_9_code
def y_Matcher_fork : MethodName := ⟨r_Matcher, "fork", "(I)V"⟩
abbrev c_Matcher_tryAtom : ByteArray := prog_5_method_10_code
def y_Matcher_tryAtom : MethodName := ⟨r_Matcher, "tryAtom", "(I)V"⟩
abbrev c_Matcher_ask : ByteArray := prog_5_method_14_code
def y_Matcher_ask : MethodName := ⟨r_Matcher, "ask", "(I)V"⟩
abbrev c_Matcher_askLetter : ByteArray := prog_5_method_15_code
def y_Matcher_askLetter : MethodName := ⟨r_Matcher, "askLetter", "(I)V"⟩
abbrev c_Matcher_askSame : ByteArray := prog_5_method_16_code
def y_Matcher_askSame : MethodName := ⟨r_Matcher, "askSame", "(I)V"⟩
abbrev c_Captures_from : ByteArray := prog_2_method_3_code
def y_Captures_from : MethodName := ⟨r_Captures, "from", "(JI)I"⟩
abbrev c_Captures_to : ByteArray := prog_2_method_4_code
def y_Captures_to : MethodName := ⟨r_Captures, "to", "(JI)I"⟩
abbrev c_Matcher_standsHere : ByteArray := prog_5_method_17_code
def y_Matcher_standsHere : MethodName := ⟨r_Matcher, "standsHere", "(II)Z"⟩
abbrev c_Matcher_askCall : ByteArray := prog_5_method_18_code
def y_Matcher_askCall : MethodName := ⟨r_Matcher, "askCall", "(I)V"⟩
abbrev c_Matcher_askBody : ByteArray := prog_5_method_19_code
def y_Matcher_askBody : MethodName := ⟨r_Matcher, "askBody", "(I)V"⟩
abbrev c_Matcher_goAfterAtom : ByteArray := prog_5_method_11_code
def y_Matcher_goAfterAtom : MethodName := ⟨r_Matcher, "goAfterAtom", "(I)V"⟩
abbrev c_Matcher_goAfterItem : ByteArray := prog_5_method_12_code
def y_Matcher_goAfterItem : MethodName := ⟨r_Matcher, "goAfterItem", "(I)V"⟩
abbrev c_Matcher_resume : ByteArray := prog_5_method_20_code
def y_Matcher_resume : MethodName := ⟨r_Matcher, "resume", "(I)V"⟩
abbrev c_Matcher_leaveBody : ByteArray := prog_5_method_22_code
def y_Matcher_leaveBody : MethodName := ⟨r_Matcher, "leaveBody", "(II)V"⟩
abbrev c_Captures_with : ByteArray := prog_2_method_2_code
def y_Captures_with : MethodName := ⟨r_Captures, "with", "(JIII)J"⟩
abbrev c_Matcher_leaveTimesTurn : ByteArray := prog_5_method_21_code
def y_Matcher_leaveTimesTurn : MethodName := ⟨r_Matcher, "leaveTimesTurn", "(II)V"⟩
abbrev c_Matcher_takeChoice : ByteArray := prog_5_method_13_code
def y_Matcher_takeChoice : MethodName := ⟨r_Matcher, "takeChoice", "()V"⟩
abbrev c_Bench_again : ByteArray := prog_1_method_7_code
def y_Bench_again : MethodName := ⟨r_Bench, "again", "()I"⟩
abbrev c_Bench_placeBehindMatch : ByteArray := prog_1_method_14_code
def y_Bench_placeBehindMatch : MethodName := ⟨r_Bench, "placeBehindMatch", "()I"⟩
abbrev c_Bench_start : ByteArray := prog_1_method_8_code
def y_Bench_start : MethodName := ⟨r_Bench, "start", "(I)I"⟩
abbrev c_Bench_end : ByteArray := prog_1_method_9_code
def y_Bench_end : MethodName := ⟨r_Bench, "end", "(I)I"⟩
abbrev c_Bench_steps : ByteArray := prog_1_method_10_code
def y_Bench_steps : MethodName := ⟨r_Bench, "steps", "()I"⟩
abbrev c_Bench_matches : ByteArray := prog_1_method_11_code
def y_Bench_matches : MethodName := ⟨r_Bench, "matches", "()I"⟩
abbrev c_Bench_count : ByteArray := prog_1_method_12_code
def y_Bench_count : MethodName := ⟨r_Bench, "count", "(I)I"⟩
