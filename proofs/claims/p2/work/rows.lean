section
-- ===== PART A: goes FIRST, ahead of the names: the tables' words, and 'selects' of the private methods out of them =====
/-- a private method of a class that the tables say can be made, by its rows of tables_1 -/
def lw_okq (q : MethodName × Nat) : Prop := (q.1.cls ≠ "java/lang/invoke/MethodHandle" ∧ q.1.cls ≠ "java/lang/invoke/VarHandle") ∧ Cond.instantiable q.1.cls q.2 ∈ tables_1 ∧ Cond.privateMethod q.1 ∈ tables_1 ∧ Cond.instanceMethod q.1 ∈ tables_1
theorem lw_p0 : lw_okq (⟨"PatternBench$Reader", "openLevel", "(II)V"⟩, 11) := ⟨⟨by decide +kernel, by decide +kernel⟩, List.mem_of_getElem? (i := 25) (by decide +kernel), List.mem_of_getElem? (i := 424) (by decide +kernel), List.mem_of_getElem? (i := 425) (by decide +kernel)⟩
theorem lw_p1 : lw_okq (⟨"PatternBench$Reader", "readPart", "()I"⟩, 11) := ⟨⟨by decide +kernel, by decide +kernel⟩, List.mem_of_getElem? (i := 25) (by decide +kernel), List.mem_of_getElem? (i := 432) (by decide +kernel), List.mem_of_getElem? (i := 433) (by decide +kernel)⟩
theorem lw_p2 : lw_okq (⟨"PatternBench$Reader", "ahead", "(I)I"⟩, 11) := ⟨⟨by decide +kernel, by decide +kernel⟩, List.mem_of_getElem? (i := 25) (by decide +kernel), List.mem_of_getElem? (i := 436) (by decide +kernel), List.mem_of_getElem? (i := 437) (by decide +kernel)⟩
theorem lw_p3 : lw_okq (⟨"PatternBench$Reader", "openNextRow", "()I"⟩, 11) := ⟨⟨by decide +kernel, by decide +kernel⟩, List.mem_of_getElem? (i := 25) (by decide +kernel), List.mem_of_getElem? (i := 444) (by decide +kernel), List.mem_of_getElem? (i := 445) (by decide +kernel)⟩
theorem lw_p4 : lw_okq (⟨"PatternBench$Reader", "closeChoice", "()I"⟩, 11) := ⟨⟨by decide +kernel, by decide +kernel⟩, List.mem_of_getElem? (i := 25) (by decide +kernel), List.mem_of_getElem? (i := 448) (by decide +kernel), List.mem_of_getElem? (i := 449) (by decide +kernel)⟩
theorem lw_p5 : lw_okq (⟨"PatternBench$Reader", "refuse", "()I"⟩, 11) := ⟨⟨by decide +kernel, by decide +kernel⟩, List.mem_of_getElem? (i := 25) (by decide +kernel), List.mem_of_getElem? (i := 452) (by decide +kernel), List.mem_of_getElem? (i := 453) (by decide +kernel)⟩
theorem lw_p6 : lw_okq (⟨"PatternBench$Reader", "readCall", "()I"⟩, 11) := ⟨⟨by decide +kernel, by decide +kernel⟩, List.mem_of_getElem? (i := 25) (by decide +kernel), List.mem_of_getElem? (i := 457) (by decide +kernel), List.mem_of_getElem? (i := 458) (by decide +kernel)⟩
theorem lw_p7 : lw_okq (⟨"PatternBench$Reader", "appendItem", "(II)I"⟩, 11) := ⟨⟨by decide +kernel, by decide +kernel⟩, List.mem_of_getElem? (i := 25) (by decide +kernel), List.mem_of_getElem? (i := 462) (by decide +kernel), List.mem_of_getElem? (i := 463) (by decide +kernel)⟩
theorem lw_p8 : lw_okq (⟨"PatternBench$Reader", "openChoice", "()I"⟩, 11) := ⟨⟨by decide +kernel, by decide +kernel⟩, List.mem_of_getElem? (i := 25) (by decide +kernel), List.mem_of_getElem? (i := 470) (by decide +kernel), List.mem_of_getElem? (i := 471) (by decide +kernel)⟩
theorem lw_p9 : lw_okq (⟨"PatternBench$Reader", "kindOfChoice", "()I"⟩, 11) := ⟨⟨by decide +kernel, by decide +kernel⟩, List.mem_of_getElem? (i := 25) (by decide +kernel), List.mem_of_getElem? (i := 474) (by decide +kernel), List.mem_of_getElem? (i := 475) (by decide +kernel)⟩
theorem lw_p10 : lw_okq (⟨"PatternBench$Reader", "readClass", "()I"⟩, 11) := ⟨⟨by decide +kernel, by decide +kernel⟩, List.mem_of_getElem? (i := 25) (by decide +kernel), List.mem_of_getElem? (i := 478) (by decide +kernel), List.mem_of_getElem? (i := 479) (by decide +kernel)⟩
theorem lw_p11 : lw_okq (⟨"PatternBench$Reader", "readClassPart", "()I"⟩, 11) := ⟨⟨by decide +kernel, by decide +kernel⟩, List.mem_of_getElem? (i := 25) (by decide +kernel), List.mem_of_getElem? (i := 483) (by decide +kernel), List.mem_of_getElem? (i := 484) (by decide +kernel)⟩
theorem lw_p12 : lw_okq (⟨"PatternBench$Reader", "readReference", "()I"⟩, 11) := ⟨⟨by decide +kernel, by decide +kernel⟩, List.mem_of_getElem? (i := 25) (by decide +kernel), List.mem_of_getElem? (i := 491) (by decide +kernel), List.mem_of_getElem? (i := 492) (by decide +kernel)⟩
theorem lw_p13 : lw_okq (⟨"PatternBench$Reader", "readSign", "()I"⟩, 11) := ⟨⟨by decide +kernel, by decide +kernel⟩, List.mem_of_getElem? (i := 25) (by decide +kernel), List.mem_of_getElem? (i := 495) (by decide +kernel), List.mem_of_getElem? (i := 496) (by decide +kernel)⟩
theorem lw_p14 : lw_okq (⟨"PatternBench$Reader", "readRepeat", "(I)V"⟩, 11) := ⟨⟨by decide +kernel, by decide +kernel⟩, List.mem_of_getElem? (i := 25) (by decide +kernel), List.mem_of_getElem? (i := 499) (by decide +kernel), List.mem_of_getElem? (i := 500) (by decide +kernel)⟩
theorem lw_p15 : lw_okq (⟨"PatternBench$Reader", "setRepeat", "(IIII)V"⟩, 11) := ⟨⟨by decide +kernel, by decide +kernel⟩, List.mem_of_getElem? (i := 25) (by decide +kernel), List.mem_of_getElem? (i := 503) (by decide +kernel), List.mem_of_getElem? (i := 504) (by decide +kernel)⟩
def lw_privs_1 : List (MethodName × Nat) := [(⟨"PatternBench$Reader", "openLevel", "(II)V"⟩, 11), (⟨"PatternBench$Reader", "readPart", "()I"⟩, 11), (⟨"PatternBench$Reader", "ahead", "(I)I"⟩, 11), (⟨"PatternBench$Reader", "openNextRow", "()I"⟩, 11), (⟨"PatternBench$Reader", "closeChoice", "()I"⟩, 11), (⟨"PatternBench$Reader", "refuse", "()I"⟩, 11), (⟨"PatternBench$Reader", "readCall", "()I"⟩, 11), (⟨"PatternBench$Reader", "appendItem", "(II)I"⟩, 11), (⟨"PatternBench$Reader", "openChoice", "()I"⟩, 11), (⟨"PatternBench$Reader", "kindOfChoice", "()I"⟩, 11), (⟨"PatternBench$Reader", "readClass", "()I"⟩, 11), (⟨"PatternBench$Reader", "readClassPart", "()I"⟩, 11), (⟨"PatternBench$Reader", "readReference", "()I"⟩, 11), (⟨"PatternBench$Reader", "readSign", "()I"⟩, 11), (⟨"PatternBench$Reader", "readRepeat", "(I)V"⟩, 11), (⟨"PatternBench$Reader", "setRepeat", "(IIII)V"⟩, 11)]
theorem lw_r1 : ∀ q ∈ lw_privs_1, lw_okq q := List.forall_mem_cons.mpr ⟨lw_p0, List.forall_mem_cons.mpr ⟨lw_p1, List.forall_mem_cons.mpr ⟨lw_p2, List.forall_mem_cons.mpr ⟨lw_p3, List.forall_mem_cons.mpr ⟨lw_p4, List.forall_mem_cons.mpr ⟨lw_p5, List.forall_mem_cons.mpr ⟨lw_p6, List.forall_mem_cons.mpr ⟨lw_p7, List.forall_mem_cons.mpr ⟨lw_p8, List.forall_mem_cons.mpr ⟨lw_p9, List.forall_mem_cons.mpr ⟨lw_p10, List.forall_mem_cons.mpr ⟨lw_p11, List.forall_mem_cons.mpr ⟨lw_p12, List.forall_mem_cons.mpr ⟨lw_p13, List.forall_mem_cons.mpr ⟨lw_p14, List.forall_mem_cons.mpr ⟨lw_p15, fun _ h => absurd h List.not_mem_nil⟩⟩⟩⟩⟩⟩⟩⟩⟩⟩⟩⟩⟩⟩⟩⟩
theorem lw_p16 : lw_okq (⟨"PatternBench$Reader", "readTimes", "(I)V"⟩, 11) := ⟨⟨by decide +kernel, by decide +kernel⟩, List.mem_of_getElem? (i := 25) (by decide +kernel), List.mem_of_getElem? (i := 507) (by decide +kernel), List.mem_of_getElem? (i := 508) (by decide +kernel)⟩
theorem lw_p17 : lw_okq (⟨"PatternBench", "searchFrom", "(I)I"⟩, 8) := ⟨⟨by decide +kernel, by decide +kernel⟩, List.mem_of_getElem? (i := 17) (by decide +kernel), List.mem_of_getElem? (i := 523) (by decide +kernel), List.mem_of_getElem? (i := 524) (by decide +kernel)⟩
theorem lw_p18 : lw_okq (⟨"PatternBench$Matcher", "beginAt", "(I)V"⟩, 11) := ⟨⟨by decide +kernel, by decide +kernel⟩, List.mem_of_getElem? (i := 156) (by decide +kernel), List.mem_of_getElem? (i := 531) (by decide +kernel), List.mem_of_getElem? (i := 532) (by decide +kernel)⟩
theorem lw_p19 : lw_okq (⟨"PatternBench$Matcher", "go", "(II)V"⟩, 11) := ⟨⟨by decide +kernel, by decide +kernel⟩, List.mem_of_getElem? (i := 156) (by decide +kernel), List.mem_of_getElem? (i := 543) (by decide +kernel), List.mem_of_getElem? (i := 544) (by decide +kernel)⟩
theorem lw_p20 : lw_okq (⟨"PatternBench$Matcher", "goesOn", "()Z"⟩, 11) := ⟨⟨by decide +kernel, by decide +kernel⟩, List.mem_of_getElem? (i := 156) (by decide +kernel), List.mem_of_getElem? (i := 548) (by decide +kernel), List.mem_of_getElem? (i := 549) (by decide +kernel)⟩
theorem lw_p21 : lw_okq (⟨"PatternBench$Matcher", "takeTurn", "()V"⟩, 11) := ⟨⟨by decide +kernel, by decide +kernel⟩, List.mem_of_getElem? (i := 156) (by decide +kernel), List.mem_of_getElem? (i := 560) (by decide +kernel), List.mem_of_getElem? (i := 561) (by decide +kernel)⟩
theorem lw_p22 : lw_okq (⟨"PatternBench$Matcher", "enterRow", "(I)V"⟩, 11) := ⟨⟨by decide +kernel, by decide +kernel⟩, List.mem_of_getElem? (i := 156) (by decide +kernel), List.mem_of_getElem? (i := 564) (by decide +kernel), List.mem_of_getElem? (i := 565) (by decide +kernel)⟩
theorem lw_p23 : lw_okq (⟨"PatternBench$Matcher", "enterItem", "(I)V"⟩, 11) := ⟨⟨by decide +kernel, by decide +kernel⟩, List.mem_of_getElem? (i := 156) (by decide +kernel), List.mem_of_getElem? (i := 572) (by decide +kernel), List.mem_of_getElem? (i := 573) (by decide +kernel)⟩
theorem lw_p24 : lw_okq (⟨"PatternBench$Matcher", "fork", "(I)V"⟩, 11) := ⟨⟨by decide +kernel, by decide +kernel⟩, List.mem_of_getElem? (i := 156) (by decide +kernel), List.mem_of_getElem? (i := 580) (by decide +kernel), List.mem_of_getElem? (i := 581) (by decide +kernel)⟩
theorem lw_p25 : lw_okq (⟨"PatternBench$Matcher", "tryAtom", "(I)V"⟩, 11) := ⟨⟨by decide +kernel, by decide +kernel⟩, List.mem_of_getElem? (i := 156) (by decide +kernel), List.mem_of_getElem? (i := 584) (by decide +kernel), List.mem_of_getElem? (i := 585) (by decide +kernel)⟩
theorem lw_p26 : lw_okq (⟨"PatternBench$Matcher", "ask", "(I)V"⟩, 11) := ⟨⟨by decide +kernel, by decide +kernel⟩, List.mem_of_getElem? (i := 156) (by decide +kernel), List.mem_of_getElem? (i := 588) (by decide +kernel), List.mem_of_getElem? (i := 589) (by decide +kernel)⟩
theorem lw_p27 : lw_okq (⟨"PatternBench$Matcher", "askLetter", "(I)V"⟩, 11) := ⟨⟨by decide +kernel, by decide +kernel⟩, List.mem_of_getElem? (i := 156) (by decide +kernel), List.mem_of_getElem? (i := 592) (by decide +kernel), List.mem_of_getElem? (i := 593) (by decide +kernel)⟩
theorem lw_p28 : lw_okq (⟨"PatternBench$Matcher", "askSame", "(I)V"⟩, 11) := ⟨⟨by decide +kernel, by decide +kernel⟩, List.mem_of_getElem? (i := 156) (by decide +kernel), List.mem_of_getElem? (i := 596) (by decide +kernel), List.mem_of_getElem? (i := 597) (by decide +kernel)⟩
theorem lw_p29 : lw_okq (⟨"PatternBench$Matcher", "standsHere", "(II)Z"⟩, 11) := ⟨⟨by decide +kernel, by decide +kernel⟩, List.mem_of_getElem? (i := 156) (by decide +kernel), List.mem_of_getElem? (i := 606) (by decide +kernel), List.mem_of_getElem? (i := 607) (by decide +kernel)⟩
theorem lw_p30 : lw_okq (⟨"PatternBench$Matcher", "askCall", "(I)V"⟩, 11) := ⟨⟨by decide +kernel, by decide +kernel⟩, List.mem_of_getElem? (i := 156) (by decide +kernel), List.mem_of_getElem? (i := 610) (by decide +kernel), List.mem_of_getElem? (i := 611) (by decide +kernel)⟩
theorem lw_p31 : lw_okq (⟨"PatternBench$Matcher", "askBody", "(I)V"⟩, 11) := ⟨⟨by decide +kernel, by decide +kernel⟩, List.mem_of_getElem? (i := 156) (by decide +kernel), List.mem_of_getElem? (i := 614) (by decide +kernel), List.mem_of_getElem? (i := 615) (by decide +kernel)⟩
def lw_privs_2 : List (MethodName × Nat) := [(⟨"PatternBench$Reader", "readTimes", "(I)V"⟩, 11), (⟨"PatternBench", "searchFrom", "(I)I"⟩, 8), (⟨"PatternBench$Matcher", "beginAt", "(I)V"⟩, 11), (⟨"PatternBench$Matcher", "go", "(II)V"⟩, 11), (⟨"PatternBench$Matcher", "goesOn", "()Z"⟩, 11), (⟨"PatternBench$Matcher", "takeTurn", "()V"⟩, 11), (⟨"PatternBench$Matcher", "enterRow", "(I)V"⟩, 11), (⟨"PatternBench$Matcher", "enterItem", "(I)V"⟩, 11), (⟨"PatternBench$Matcher", "fork", "(I)V"⟩, 11), (⟨"PatternBench$Matcher", "tryAtom", "(I)V"⟩, 11), (⟨"PatternBench$Matcher", "ask", "(I)V"⟩, 11), (⟨"PatternBench$Matcher", "askLetter", "(I)V"⟩, 11), (⟨"PatternBench$Matcher", "askSame", "(I)V"⟩, 11), (⟨"PatternBench$Matcher", "standsHere", "(II)Z"⟩, 11), (⟨"PatternBench$Matcher", "askCall", "(I)V"⟩, 11), (⟨"PatternBench$Matcher", "askBody", "(I)V"⟩, 11)]
theorem lw_r2 : ∀ q ∈ lw_privs_2, lw_okq q := List.forall_mem_cons.mpr ⟨lw_p16, List.forall_mem_cons.mpr ⟨lw_p17, List.forall_mem_cons.mpr ⟨lw_p18, List.forall_mem_cons.mpr ⟨lw_p19, List.forall_mem_cons.mpr ⟨lw_p20, List.forall_mem_cons.mpr ⟨lw_p21, List.forall_mem_cons.mpr ⟨lw_p22, List.forall_mem_cons.mpr ⟨lw_p23, List.forall_mem_cons.mpr ⟨lw_p24, List.forall_mem_cons.mpr ⟨lw_p25, List.forall_mem_cons.mpr ⟨lw_p26, List.forall_mem_cons.mpr ⟨lw_p27, List.forall_mem_cons.mpr ⟨lw_p28, List.forall_mem_cons.mpr ⟨lw_p29, List.forall_mem_cons.mpr ⟨lw_p30, List.forall_mem_cons.mpr ⟨lw_p31, fun _ h => absurd h List.not_mem_nil⟩⟩⟩⟩⟩⟩⟩⟩⟩⟩⟩⟩⟩⟩⟩⟩
theorem lw_p32 : lw_okq (⟨"PatternBench$Matcher", "goAfterAtom", "(I)V"⟩, 11) := ⟨⟨by decide +kernel, by decide +kernel⟩, List.mem_of_getElem? (i := 156) (by decide +kernel), List.mem_of_getElem? (i := 618) (by decide +kernel), List.mem_of_getElem? (i := 619) (by decide +kernel)⟩
theorem lw_p33 : lw_okq (⟨"PatternBench$Matcher", "goAfterItem", "(I)V"⟩, 11) := ⟨⟨by decide +kernel, by decide +kernel⟩, List.mem_of_getElem? (i := 156) (by decide +kernel), List.mem_of_getElem? (i := 622) (by decide +kernel), List.mem_of_getElem? (i := 623) (by decide +kernel)⟩
theorem lw_p34 : lw_okq (⟨"PatternBench$Matcher", "resume", "(I)V"⟩, 11) := ⟨⟨by decide +kernel, by decide +kernel⟩, List.mem_of_getElem? (i := 156) (by decide +kernel), List.mem_of_getElem? (i := 626) (by decide +kernel), List.mem_of_getElem? (i := 627) (by decide +kernel)⟩
theorem lw_p35 : lw_okq (⟨"PatternBench$Matcher", "leaveBody", "(II)V"⟩, 11) := ⟨⟨by decide +kernel, by decide +kernel⟩, List.mem_of_getElem? (i := 156) (by decide +kernel), List.mem_of_getElem? (i := 630) (by decide +kernel), List.mem_of_getElem? (i := 631) (by decide +kernel)⟩
theorem lw_p36 : lw_okq (⟨"PatternBench$Matcher", "leaveTimesTurn", "(II)V"⟩, 11) := ⟨⟨by decide +kernel, by decide +kernel⟩, List.mem_of_getElem? (i := 156) (by decide +kernel), List.mem_of_getElem? (i := 639) (by decide +kernel), List.mem_of_getElem? (i := 640) (by decide +kernel)⟩
theorem lw_p37 : lw_okq (⟨"PatternBench$Matcher", "takeChoice", "()V"⟩, 11) := ⟨⟨by decide +kernel, by decide +kernel⟩, List.mem_of_getElem? (i := 156) (by decide +kernel), List.mem_of_getElem? (i := 643) (by decide +kernel), List.mem_of_getElem? (i := 644) (by decide +kernel)⟩
theorem lw_p38 : lw_okq (⟨"PatternBench", "placeBehindMatch", "()I"⟩, 8) := ⟨⟨by decide +kernel, by decide +kernel⟩, List.mem_of_getElem? (i := 17) (by decide +kernel), List.mem_of_getElem? (i := 651) (by decide +kernel), List.mem_of_getElem? (i := 652) (by decide +kernel)⟩
theorem lw_p39 : lw_okq (⟨"PatternBenchModel", "measure", "()I"⟩, 27) := ⟨⟨by decide +kernel, by decide +kernel⟩, List.mem_of_getElem? (i := 680) (by decide +kernel), List.mem_of_getElem? (i := 785) (by decide +kernel), List.mem_of_getElem? (i := 786) (by decide +kernel)⟩
theorem lw_p40 : lw_okq (⟨"PatternBenchModel", "opener", "(I)I"⟩, 27) := ⟨⟨by decide +kernel, by decide +kernel⟩, List.mem_of_getElem? (i := 680) (by decide +kernel), List.mem_of_getElem? (i := 789) (by decide +kernel), List.mem_of_getElem? (i := 790) (by decide +kernel)⟩
theorem lw_p41 : lw_okq (⟨"PatternBenchModel", "c", "(I)I"⟩, 27) := ⟨⟨by decide +kernel, by decide +kernel⟩, List.mem_of_getElem? (i := 680) (by decide +kernel), List.mem_of_getElem? (i := 793) (by decide +kernel), List.mem_of_getElem? (i := 794) (by decide +kernel)⟩
theorem lw_p42 : lw_okq (⟨"PatternBenchModel", "behindPlain", "(I)I"⟩, 27) := ⟨⟨by decide +kernel, by decide +kernel⟩, List.mem_of_getElem? (i := 680) (by decide +kernel), List.mem_of_getElem? (i := 797) (by decide +kernel), List.mem_of_getElem? (i := 798) (by decide +kernel)⟩
theorem lw_p43 : lw_okq (⟨"PatternBenchModel", "behindClass", "(I)I"⟩, 27) := ⟨⟨by decide +kernel, by decide +kernel⟩, List.mem_of_getElem? (i := 680) (by decide +kernel), List.mem_of_getElem? (i := 801) (by decide +kernel), List.mem_of_getElem? (i := 802) (by decide +kernel)⟩
theorem lw_p44 : lw_okq (⟨"PatternBenchModel", "behindRepeat", "(I)I"⟩, 27) := ⟨⟨by decide +kernel, by decide +kernel⟩, List.mem_of_getElem? (i := 680) (by decide +kernel), List.mem_of_getElem? (i := 805) (by decide +kernel), List.mem_of_getElem? (i := 806) (by decide +kernel)⟩
theorem lw_p45 : lw_okq (⟨"PatternBenchModel", "sized", "(II)I"⟩, 27) := ⟨⟨by decide +kernel, by decide +kernel⟩, List.mem_of_getElem? (i := 680) (by decide +kernel), List.mem_of_getElem? (i := 809) (by decide +kernel), List.mem_of_getElem? (i := 810) (by decide +kernel)⟩
theorem lw_p46 : lw_okq (⟨"PatternBenchModel", "groupsOf", "()I"⟩, 27) := ⟨⟨by decide +kernel, by decide +kernel⟩, List.mem_of_getElem? (i := 680) (by decide +kernel), List.mem_of_getElem? (i := 813) (by decide +kernel), List.mem_of_getElem? (i := 814) (by decide +kernel)⟩
theorem lw_p47 : lw_okq (⟨"PatternBenchModel", "namesGood", "(I)Z"⟩, 27) := ⟨⟨by decide +kernel, by decide +kernel⟩, List.mem_of_getElem? (i := 680) (by decide +kernel), List.mem_of_getElem? (i := 817) (by decide +kernel), List.mem_of_getElem? (i := 818) (by decide +kernel)⟩
def lw_privs_3 : List (MethodName × Nat) := [(⟨"PatternBench$Matcher", "goAfterAtom", "(I)V"⟩, 11), (⟨"PatternBench$Matcher", "goAfterItem", "(I)V"⟩, 11), (⟨"PatternBench$Matcher", "resume", "(I)V"⟩, 11), (⟨"PatternBench$Matcher", "leaveBody", "(II)V"⟩, 11), (⟨"PatternBench$Matcher", "leaveTimesTurn", "(II)V"⟩, 11), (⟨"PatternBench$Matcher", "takeChoice", "()V"⟩, 11), (⟨"PatternBench", "placeBehindMatch", "()I"⟩, 8), (⟨"PatternBenchModel", "measure", "()I"⟩, 27), (⟨"PatternBenchModel", "opener", "(I)I"⟩, 27), (⟨"PatternBenchModel", "c", "(I)I"⟩, 27), (⟨"PatternBenchModel", "behindPlain", "(I)I"⟩, 27), (⟨"PatternBenchModel", "behindClass", "(I)I"⟩, 27), (⟨"PatternBenchModel", "behindRepeat", "(I)I"⟩, 27), (⟨"PatternBenchModel", "sized", "(II)I"⟩, 27), (⟨"PatternBenchModel", "groupsOf", "()I"⟩, 27), (⟨"PatternBenchModel", "namesGood", "(I)Z"⟩, 27)]
theorem lw_r3 : ∀ q ∈ lw_privs_3, lw_okq q := List.forall_mem_cons.mpr ⟨lw_p32, List.forall_mem_cons.mpr ⟨lw_p33, List.forall_mem_cons.mpr ⟨lw_p34, List.forall_mem_cons.mpr ⟨lw_p35, List.forall_mem_cons.mpr ⟨lw_p36, List.forall_mem_cons.mpr ⟨lw_p37, List.forall_mem_cons.mpr ⟨lw_p38, List.forall_mem_cons.mpr ⟨lw_p39, List.forall_mem_cons.mpr ⟨lw_p40, List.forall_mem_cons.mpr ⟨lw_p41, List.forall_mem_cons.mpr ⟨lw_p42, List.forall_mem_cons.mpr ⟨lw_p43, List.forall_mem_cons.mpr ⟨lw_p44, List.forall_mem_cons.mpr ⟨lw_p45, List.forall_mem_cons.mpr ⟨lw_p46, List.forall_mem_cons.mpr ⟨lw_p47, fun _ h => absurd h List.not_mem_nil⟩⟩⟩⟩⟩⟩⟩⟩⟩⟩⟩⟩⟩⟩⟩⟩
theorem lw_p48 : lw_okq (⟨"PatternBenchModel", "seek", "(I)I"⟩, 27) := ⟨⟨by decide +kernel, by decide +kernel⟩, List.mem_of_getElem? (i := 680) (by decide +kernel), List.mem_of_getElem? (i := 833) (by decide +kernel), List.mem_of_getElem? (i := 834) (by decide +kernel)⟩
theorem lw_p49 : lw_okq (⟨"PatternBenchModel", "walk", "(I)I"⟩, 27) := ⟨⟨by decide +kernel, by decide +kernel⟩, List.mem_of_getElem? (i := 680) (by decide +kernel), List.mem_of_getElem? (i := 837) (by decide +kernel), List.mem_of_getElem? (i := 838) (by decide +kernel)⟩
theorem lw_p50 : lw_okq (⟨"PatternBenchModel", "go", "(III)V"⟩, 27) := ⟨⟨by decide +kernel, by decide +kernel⟩, List.mem_of_getElem? (i := 680) (by decide +kernel), List.mem_of_getElem? (i := 841) (by decide +kernel), List.mem_of_getElem? (i := 842) (by decide +kernel)⟩
theorem lw_p51 : lw_okq (⟨"PatternBenchModel", "retreat", "()Z"⟩, 27) := ⟨⟨by decide +kernel, by decide +kernel⟩, List.mem_of_getElem? (i := 680) (by decide +kernel), List.mem_of_getElem? (i := 846) (by decide +kernel), List.mem_of_getElem? (i := 847) (by decide +kernel)⟩
theorem lw_p52 : lw_okq (⟨"PatternBenchModel", "rowEnds", "(I)Z"⟩, 27) := ⟨⟨by decide +kernel, by decide +kernel⟩, List.mem_of_getElem? (i := 680) (by decide +kernel), List.mem_of_getElem? (i := 850) (by decide +kernel), List.mem_of_getElem? (i := 851) (by decide +kernel)⟩
theorem lw_p53 : lw_okq (⟨"PatternBenchModel", "t", "(I)I"⟩, 27) := ⟨⟨by decide +kernel, by decide +kernel⟩, List.mem_of_getElem? (i := 680) (by decide +kernel), List.mem_of_getElem? (i := 854) (by decide +kernel), List.mem_of_getElem? (i := 855) (by decide +kernel)⟩
theorem lw_p54 : lw_okq (⟨"PatternBenchModel", "item", "(I)V"⟩, 27) := ⟨⟨by decide +kernel, by decide +kernel⟩, List.mem_of_getElem? (i := 680) (by decide +kernel), List.mem_of_getElem? (i := 858) (by decide +kernel), List.mem_of_getElem? (i := 859) (by decide +kernel)⟩
theorem lw_p55 : lw_okq (⟨"PatternBenchModel", "behindAtom", "(I)I"⟩, 27) := ⟨⟨by decide +kernel, by decide +kernel⟩, List.mem_of_getElem? (i := 680) (by decide +kernel), List.mem_of_getElem? (i := 862) (by decide +kernel), List.mem_of_getElem? (i := 863) (by decide +kernel)⟩
theorem lw_p56 : lw_okq (⟨"PatternBenchModel", "closing", "(I)I"⟩, 27) := ⟨⟨by decide +kernel, by decide +kernel⟩, List.mem_of_getElem? (i := 680) (by decide +kernel), List.mem_of_getElem? (i := 866) (by decide +kernel), List.mem_of_getElem? (i := 867) (by decide +kernel)⟩
theorem lw_p57 : lw_okq (⟨"PatternBenchModel", "push", "(IIII)I"⟩, 27) := ⟨⟨by decide +kernel, by decide +kernel⟩, List.mem_of_getElem? (i := 680) (by decide +kernel), List.mem_of_getElem? (i := 870) (by decide +kernel), List.mem_of_getElem? (i := 871) (by decide +kernel)⟩
theorem lw_p58 : lw_okq (⟨"PatternBenchModel", "pushBack", "(III)V"⟩, 27) := ⟨⟨by decide +kernel, by decide +kernel⟩, List.mem_of_getElem? (i := 680) (by decide +kernel), List.mem_of_getElem? (i := 874) (by decide +kernel), List.mem_of_getElem? (i := 875) (by decide +kernel)⟩
theorem lw_p59 : lw_okq (⟨"PatternBenchModel", "nextRow", "(I)I"⟩, 27) := ⟨⟨by decide +kernel, by decide +kernel⟩, List.mem_of_getElem? (i := 680) (by decide +kernel), List.mem_of_getElem? (i := 878) (by decide +kernel), List.mem_of_getElem? (i := 879) (by decide +kernel)⟩
theorem lw_p60 : lw_okq (⟨"PatternBenchModel", "atom", "()V"⟩, 27) := ⟨⟨by decide +kernel, by decide +kernel⟩, List.mem_of_getElem? (i := 680) (by decide +kernel), List.mem_of_getElem? (i := 882) (by decide +kernel), List.mem_of_getElem? (i := 883) (by decide +kernel)⟩
theorem lw_p61 : lw_okq (⟨"PatternBenchModel", "openChoice", "(I)V"⟩, 27) := ⟨⟨by decide +kernel, by decide +kernel⟩, List.mem_of_getElem? (i := 680) (by decide +kernel), List.mem_of_getElem? (i := 886) (by decide +kernel), List.mem_of_getElem? (i := 887) (by decide +kernel)⟩
theorem lw_p62 : lw_okq (⟨"PatternBenchModel", "groupAt", "(I)I"⟩, 27) := ⟨⟨by decide +kernel, by decide +kernel⟩, List.mem_of_getElem? (i := 680) (by decide +kernel), List.mem_of_getElem? (i := 890) (by decide +kernel), List.mem_of_getElem? (i := 891) (by decide +kernel)⟩
theorem lw_p63 : lw_okq (⟨"PatternBenchModel", "calls", "()I"⟩, 27) := ⟨⟨by decide +kernel, by decide +kernel⟩, List.mem_of_getElem? (i := 680) (by decide +kernel), List.mem_of_getElem? (i := 894) (by decide +kernel), List.mem_of_getElem? (i := 895) (by decide +kernel)⟩
def lw_privs_4 : List (MethodName × Nat) := [(⟨"PatternBenchModel", "seek", "(I)I"⟩, 27), (⟨"PatternBenchModel", "walk", "(I)I"⟩, 27), (⟨"PatternBenchModel", "go", "(III)V"⟩, 27), (⟨"PatternBenchModel", "retreat", "()Z"⟩, 27), (⟨"PatternBenchModel", "rowEnds", "(I)Z"⟩, 27), (⟨"PatternBenchModel", "t", "(I)I"⟩, 27), (⟨"PatternBenchModel", "item", "(I)V"⟩, 27), (⟨"PatternBenchModel", "behindAtom", "(I)I"⟩, 27), (⟨"PatternBenchModel", "closing", "(I)I"⟩, 27), (⟨"PatternBenchModel", "push", "(IIII)I"⟩, 27), (⟨"PatternBenchModel", "pushBack", "(III)V"⟩, 27), (⟨"PatternBenchModel", "nextRow", "(I)I"⟩, 27), (⟨"PatternBenchModel", "atom", "()V"⟩, 27), (⟨"PatternBenchModel", "openChoice", "(I)V"⟩, 27), (⟨"PatternBenchModel", "groupAt", "(I)I"⟩, 27), (⟨"PatternBenchModel", "calls", "()I"⟩, 27)]
theorem lw_r4 : ∀ q ∈ lw_privs_4, lw_okq q := List.forall_mem_cons.mpr ⟨lw_p48, List.forall_mem_cons.mpr ⟨lw_p49, List.forall_mem_cons.mpr ⟨lw_p50, List.forall_mem_cons.mpr ⟨lw_p51, List.forall_mem_cons.mpr ⟨lw_p52, List.forall_mem_cons.mpr ⟨lw_p53, List.forall_mem_cons.mpr ⟨lw_p54, List.forall_mem_cons.mpr ⟨lw_p55, List.forall_mem_cons.mpr ⟨lw_p56, List.forall_mem_cons.mpr ⟨lw_p57, List.forall_mem_cons.mpr ⟨lw_p58, List.forall_mem_cons.mpr ⟨lw_p59, List.forall_mem_cons.mpr ⟨lw_p60, List.forall_mem_cons.mpr ⟨lw_p61, List.forall_mem_cons.mpr ⟨lw_p62, List.forall_mem_cons.mpr ⟨lw_p63, fun _ h => absurd h List.not_mem_nil⟩⟩⟩⟩⟩⟩⟩⟩⟩⟩⟩⟩⟩⟩⟩⟩
theorem lw_p64 : lw_okq (⟨"PatternBenchModel", "kindOf", "(I)I"⟩, 27) := ⟨⟨by decide +kernel, by decide +kernel⟩, List.mem_of_getElem? (i := 680) (by decide +kernel), List.mem_of_getElem? (i := 898) (by decide +kernel), List.mem_of_getElem? (i := 899) (by decide +kernel)⟩
theorem lw_p65 : lw_okq (⟨"PatternBenchModel", "parentOf", "(I)I"⟩, 27) := ⟨⟨by decide +kernel, by decide +kernel⟩, List.mem_of_getElem? (i := 680) (by decide +kernel), List.mem_of_getElem? (i := 902) (by decide +kernel), List.mem_of_getElem? (i := 903) (by decide +kernel)⟩
theorem lw_p66 : lw_okq (⟨"PatternBenchModel", "choiceOf", "(I)I"⟩, 27) := ⟨⟨by decide +kernel, by decide +kernel⟩, List.mem_of_getElem? (i := 680) (by decide +kernel), List.mem_of_getElem? (i := 906) (by decide +kernel), List.mem_of_getElem? (i := 907) (by decide +kernel)⟩
theorem lw_p67 : lw_okq (⟨"PatternBenchModel", "plain", "(I)Z"⟩, 27) := ⟨⟨by decide +kernel, by decide +kernel⟩, List.mem_of_getElem? (i := 680) (by decide +kernel), List.mem_of_getElem? (i := 910) (by decide +kernel), List.mem_of_getElem? (i := 911) (by decide +kernel)⟩
theorem lw_p68 : lw_okq (⟨"PatternBenchModel", "repeats", "(I)Z"⟩, 27) := ⟨⟨by decide +kernel, by decide +kernel⟩, List.mem_of_getElem? (i := 680) (by decide +kernel), List.mem_of_getElem? (i := 914) (by decide +kernel), List.mem_of_getElem? (i := 915) (by decide +kernel)⟩
theorem lw_p69 : lw_okq (⟨"PatternBenchModel", "capture", "(JIZ)I"⟩, 27) := ⟨⟨by decide +kernel, by decide +kernel⟩, List.mem_of_getElem? (i := 680) (by decide +kernel), List.mem_of_getElem? (i := 918) (by decide +kernel), List.mem_of_getElem? (i := 919) (by decide +kernel)⟩
theorem lw_p70 : lw_okq (⟨"PatternBenchModel", "takesLetter", "(I)Z"⟩, 27) := ⟨⟨by decide +kernel, by decide +kernel⟩, List.mem_of_getElem? (i := 680) (by decide +kernel), List.mem_of_getElem? (i := 922) (by decide +kernel), List.mem_of_getElem? (i := 923) (by decide +kernel)⟩
theorem lw_p71 : lw_okq (⟨"PatternBenchModel", "inClass", "(II)Z"⟩, 27) := ⟨⟨by decide +kernel, by decide +kernel⟩, List.mem_of_getElem? (i := 680) (by decide +kernel), List.mem_of_getElem? (i := 926) (by decide +kernel), List.mem_of_getElem? (i := 927) (by decide +kernel)⟩
theorem lw_p72 : lw_okq (⟨"PatternBenchModel", "star", "(Z)V"⟩, 27) := ⟨⟨by decide +kernel, by decide +kernel⟩, List.mem_of_getElem? (i := 680) (by decide +kernel), List.mem_of_getElem? (i := 930) (by decide +kernel), List.mem_of_getElem? (i := 931) (by decide +kernel)⟩
theorem lw_p73 : lw_okq (⟨"PatternBenchModel", "carryOn", "()V"⟩, 27) := ⟨⟨by decide +kernel, by decide +kernel⟩, List.mem_of_getElem? (i := 680) (by decide +kernel), List.mem_of_getElem? (i := 934) (by decide +kernel), List.mem_of_getElem? (i := 935) (by decide +kernel)⟩
theorem lw_p74 : lw_okq (⟨"PatternBenchModel", "placeOf", "(I)I"⟩, 27) := ⟨⟨by decide +kernel, by decide +kernel⟩, List.mem_of_getElem? (i := 680) (by decide +kernel), List.mem_of_getElem? (i := 938) (by decide +kernel), List.mem_of_getElem? (i := 939) (by decide +kernel)⟩
theorem lw_p75 : lw_okq (⟨"PatternBenchModel", "numberOf", "(I)I"⟩, 27) := ⟨⟨by decide +kernel, by decide +kernel⟩, List.mem_of_getElem? (i := 680) (by decide +kernel), List.mem_of_getElem? (i := 942) (by decide +kernel), List.mem_of_getElem? (i := 943) (by decide +kernel)⟩
theorem lw_p76 : lw_okq (⟨"PatternBenchModel", "bound", "(IZ)I"⟩, 27) := ⟨⟨by decide +kernel, by decide +kernel⟩, List.mem_of_getElem? (i := 680) (by decide +kernel), List.mem_of_getElem? (i := 956) (by decide +kernel), List.mem_of_getElem? (i := 957) (by decide +kernel)⟩
def lw_privs_5 : List (MethodName × Nat) := [(⟨"PatternBenchModel", "kindOf", "(I)I"⟩, 27), (⟨"PatternBenchModel", "parentOf", "(I)I"⟩, 27), (⟨"PatternBenchModel", "choiceOf", "(I)I"⟩, 27), (⟨"PatternBenchModel", "plain", "(I)Z"⟩, 27), (⟨"PatternBenchModel", "repeats", "(I)Z"⟩, 27), (⟨"PatternBenchModel", "capture", "(JIZ)I"⟩, 27), (⟨"PatternBenchModel", "takesLetter", "(I)Z"⟩, 27), (⟨"PatternBenchModel", "inClass", "(II)Z"⟩, 27), (⟨"PatternBenchModel", "star", "(Z)V"⟩, 27), (⟨"PatternBenchModel", "carryOn", "()V"⟩, 27), (⟨"PatternBenchModel", "placeOf", "(I)I"⟩, 27), (⟨"PatternBenchModel", "numberOf", "(I)I"⟩, 27), (⟨"PatternBenchModel", "bound", "(IZ)I"⟩, 27)]
theorem lw_r5 : ∀ q ∈ lw_privs_5, lw_okq q := List.forall_mem_cons.mpr ⟨lw_p64, List.forall_mem_cons.mpr ⟨lw_p65, List.forall_mem_cons.mpr ⟨lw_p66, List.forall_mem_cons.mpr ⟨lw_p67, List.forall_mem_cons.mpr ⟨lw_p68, List.forall_mem_cons.mpr ⟨lw_p69, List.forall_mem_cons.mpr ⟨lw_p70, List.forall_mem_cons.mpr ⟨lw_p71, List.forall_mem_cons.mpr ⟨lw_p72, List.forall_mem_cons.mpr ⟨lw_p73, List.forall_mem_cons.mpr ⟨lw_p74, List.forall_mem_cons.mpr ⟨lw_p75, List.forall_mem_cons.mpr ⟨lw_p76, fun _ h => absurd h List.not_mem_nil⟩⟩⟩⟩⟩⟩⟩⟩⟩⟩⟩⟩⟩
def lw_privs : List (MethodName × Nat) := lw_privs_1 ++ (lw_privs_2 ++ (lw_privs_3 ++ (lw_privs_4 ++ (lw_privs_5))))
def lw_tbl : List Cond := k2_sels lw_privs ++ tables_1
theorem lw_privs_ok : ∀ q ∈ lw_privs, lw_okq q := by
  show ∀ q ∈ lw_privs_1 ++ (lw_privs_2 ++ (lw_privs_3 ++ (lw_privs_4 ++ (lw_privs_5)))), lw_okq q
  exact List.forall_mem_append.mpr ⟨lw_r1, List.forall_mem_append.mpr ⟨lw_r2, List.forall_mem_append.mpr ⟨lw_r3, List.forall_mem_append.mpr ⟨lw_r4, lw_r5⟩⟩⟩⟩

def r_Text : String := "PatternBench$Text"
def t_Text : u_T := fun k => match k with
  | 0 => ("PatternBench$Text", "codes", "[I", true)
  | _ => ("PatternBench$Text", "length", "I", false)
def r_Program : String := "PatternBench$Program"
def t_Program : u_T := fun k => match k with
  | 0 => ("PatternBench$Program", "kind", "[I", true)
  | 1 => ("PatternBench$Program", "value", "[I", true)
  | 2 => ("PatternBench$Program", "repeat", "[I", true)
  | 3 => ("PatternBench$Program", "times", "[I", true)
  | 4 => ("PatternBench$Program", "manner", "[I", true)
  | 5 => ("PatternBench$Program", "body", "[I", true)
  | 6 => ("PatternBench$Program", "nextItem", "[I", true)
  | 7 => ("PatternBench$Program", "firstItem", "[I", true)
  | 8 => ("PatternBench$Program", "nextRow", "[I", true)
  | 9 => ("PatternBench$Program", "groupBody", "[I", true)
  | 10 => ("PatternBench$Program", "items", "I", false)
  | 11 => ("PatternBench$Program", "rows", "I", false)
  | 12 => ("PatternBench$Program", "groups", "I", false)
  | _ => ("PatternBench$Program", "size", "I", false)
def r_Reader : String := "PatternBench$Reader"
def t_Reader : u_T := fun k => match k with
  | 0 => ("PatternBench$Reader", "text", "LPatternBench$Text;", true)
  | 1 => ("PatternBench$Reader", "program", "LPatternBench$Program;", false)
  | 2 => ("PatternBench$Reader", "levelItem", "[I", true)
  | 3 => ("PatternBench$Reader", "levelRow", "[I", true)
  | 4 => ("PatternBench$Reader", "levelLast", "[I", true)
  | 5 => ("PatternBench$Reader", "levelSize", "[I", true)
  | 6 => ("PatternBench$Reader", "level", "I", false)
  | 7 => ("PatternBench$Reader", "at", "I", false)
  | 8 => ("PatternBench$Reader", "atomSize", "I", false)
  | 9 => ("PatternBench$Reader", "highestNamed", "I", false)
  | _ => ("PatternBench$Reader", "isGood", "Z", false)
def r_Frames : String := "PatternBench$Frames"
def t_Frames : u_T := fun k => match k with
  | 0 => ("PatternBench$Frames", "kind", "[I", true)
  | 1 => ("PatternBench$Frames", "item", "[I", true)
  | 2 => ("PatternBench$Frames", "mark", "[I", true)
  | 3 => ("PatternBench$Frames", "place", "[I", true)
  | 4 => ("PatternBench$Frames", "captures", "[J", true)
  | 5 => ("PatternBench$Frames", "outer", "[I", true)
  | 6 => ("PatternBench$Frames", "calls", "[I", true)
  | _ => ("PatternBench$Frames", "used", "I", false)
def r_Choices : String := "PatternBench$Choices"
def t_Choices : u_T := fun k => match k with
  | 0 => ("PatternBench$Choices", "task", "[I", true)
  | 1 => ("PatternBench$Choices", "number", "[I", true)
  | 2 => ("PatternBench$Choices", "place", "[I", true)
  | 3 => ("PatternBench$Choices", "captures", "[J", true)
  | 4 => ("PatternBench$Choices", "frame", "[I", true)
  | _ => ("PatternBench$Choices", "used", "I", false)
def r_Matcher : String := "PatternBench$Matcher"
def t_Matcher : u_T := fun k => match k with
  | 0 => ("PatternBench$Matcher", "subject", "LPatternBench$Text;", true)
  | 1 => ("PatternBench$Matcher", "program", "LPatternBench$Program;", false)
  | 2 => ("PatternBench$Matcher", "limit", "I", true)
  | 3 => ("PatternBench$Matcher", "frames", "LPatternBench$Frames;", true)
  | 4 => ("PatternBench$Matcher", "choices", "LPatternBench$Choices;", true)
  | 5 => ("PatternBench$Matcher", "task", "I", false)
  | 6 => ("PatternBench$Matcher", "number", "I", false)
  | 7 => ("PatternBench$Matcher", "frame", "I", false)
  | 8 => ("PatternBench$Matcher", "place", "I", false)
  | 9 => ("PatternBench$Matcher", "captures", "J", false)
  | _ => ("PatternBench$Matcher", "taken", "I", false)
def r_Bench : String := "PatternBench"
def t_Bench : u_T := fun k => match k with
  | 0 => ("PatternBench", "reader", "LPatternBench$Reader;", true)
  | 1 => ("PatternBench", "matcher", "LPatternBench$Matcher;", true)
  | 2 => ("PatternBench", "isReady", "Z", false)
  | 3 => ("PatternBench", "isMatched", "Z", false)
  | 4 => ("PatternBench", "matchStart", "I", false)
  | 5 => ("PatternBench", "matchEnd", "I", false)
  | 6 => ("PatternBench", "matchCaptures", "J", false)
  | _ => ("PatternBench", "lastSteps", "I", false)
def r_Captures : String := "PatternBench$Captures"
abbrev mmCl : List vw_C := [(r_Text, t_Text, 2), (r_Program, t_Program, 14), (r_Reader, t_Reader, 11), (r_Frames, t_Frames, 8), (r_Choices, t_Choices, 6), (r_Matcher, t_Matcher, 11), (r_Bench, t_Bench, 8)]
abbrev c_Bench_init : ByteArray := prog_1_method_1_code
def y_Bench_init : MethodName := ⟨r_Bench, "<init>", "(I)V"⟩
abbrev c_Reader_init : ByteArray := prog_7_method_1_code
def y_Reader_init : MethodName := ⟨r_Reader, "<init>", "()V"⟩
abbrev c_Text_init : ByteArray := prog_8_method_1_code
def y_Text_init : MethodName := ⟨r_Text, "<init>", "(I)V"⟩
abbrev c_Program_init : ByteArray := prog_6_method_1_code
def y_Program_init : MethodName := ⟨r_Program, "<init>", "()V"⟩
abbrev c_Matcher_init : ByteArray := prog_5_method_1_code
def y_Matcher_init : MethodName := ⟨r_Matcher, "<init>", "(I)V"⟩
abbrev c_Frames_init : ByteArray := prog_4_method_1_code
def y_Frames_init : MethodName := ⟨r_Frames, "<init>", "(I)V"⟩
abbrev c_Choices_init : ByteArray := prog_3_method_1_code
def y_Choices_init : MethodName := ⟨r_Choices, "<init>", "(I)V"⟩
abbrev c_Bench_write : ByteArray := prog_1_method_2_code
def y_Bench_write : MethodName := ⟨r_Bench, "write", "(I)I"⟩
abbrev c_Bench_mayStandInPattern : ByteArray := prog_1_method_17_code
def y_Bench_mayStandInPattern : MethodName := ⟨r_Bench, "mayStandInPattern", "(I)Z"⟩
abbrev c_Bench_isLetter : ByteArray := prog_1_method_15_code
def y_Bench_isLetter : MethodName := ⟨r_Bench, "isLetter", "(I)Z"⟩
abbrev c_Bench_isDigit : ByteArray := prog_1_method_16_code
def y_Bench_isDigit : MethodName := ⟨r_Bench, "isDigit", "(I)Z"⟩
abbrev c_Text_isFull : ByteArray := prog_8_method_2_code
def y_Text_isFull : MethodName := ⟨r_Text, "isFull", "()Z"⟩
abbrev c_Text_add : ByteArray := prog_8_method_3_code
def y_Text_add : MethodName := ⟨r_Text, "add", "(I)I"⟩
abbrev c_Bench_compile : ByteArray := prog_1_method_3_code
def y_Bench_compile : MethodName := ⟨r_Bench, "compile", "()I"⟩
abbrev c_Reader_read : ByteArray := prog_7_method_2_code
def y_Reader_read : MethodName := ⟨r_Reader, "read", "()Z"⟩
abbrev c_Program_empty : ByteArray := prog_6_method_2_code
def y_Program_empty : MethodName := ⟨r_Program, "empty", "()V"⟩
abbrev c_Reader_openLevel : ByteArray := prog_7_method_6_code
def y_Reader_openLevel : MethodName := ⟨r_Reader, "openLevel", "(II)V"⟩
abbrev c_Program_addRow : ByteArray := prog_6_method_3_code
def y_Program_addRow : MethodName := ⟨r_Program, "addRow", "()I"⟩
abbrev c_Reader_readPart : ByteArray := prog_7_method_3_code
def y_Reader_readPart : MethodName := ⟨r_Reader, "readPart", "()I"⟩
abbrev c_Reader_ahead : ByteArray := prog_7_method_4_code
def y_Reader_ahead : MethodName := ⟨r_Reader, "ahead", "(I)I"⟩
abbrev c_Text_codeAt : ByteArray := prog_8_method_4_code
def y_Text_codeAt : MethodName := ⟨r_Text, "codeAt", "(I)I"⟩
abbrev c_Reader_openNextRow : ByteArray := prog_7_method_7_code
def y_Reader_openNextRow : MethodName := ⟨r_Reader, "openNextRow", "()I"⟩
abbrev c_Reader_closeChoice : ByteArray := prog_7_method_10_code
def y_Reader_closeChoice : MethodName := ⟨r_Reader, "closeChoice", "()I"⟩
abbrev c_Reader_refuse : ByteArray := prog_7_method_5_code
def y_Reader_refuse : MethodName := ⟨r_Reader, "refuse", "()I"⟩
abbrev c_Reader_readCall : ByteArray := prog_7_method_11_code
def y_Reader_readCall : MethodName := ⟨r_Reader, "readCall", "()I"⟩
abbrev c_Reader_appendItem : ByteArray := prog_7_method_17_code
def y_Reader_appendItem : MethodName := ⟨r_Reader, "appendItem", "(II)I"⟩
abbrev c_Program_addItem : ByteArray := prog_6_method_4_code
def y_Program_addItem : MethodName := ⟨r_Program, "addItem", "(II)I"⟩
abbrev c_Reader_openChoice : ByteArray := prog_7_method_8_code
def y_Reader_openChoice : MethodName := ⟨r_Reader, "openChoice", "()I"⟩
abbrev c_Reader_kindOfChoice : ByteArray := prog_7_method_9_code
def y_Reader_kindOfChoice : MethodName := ⟨r_Reader, "kindOfChoice", "()I"⟩
abbrev c_Reader_readClass : ByteArray := prog_7_method_14_code
def y_Reader_readClass : MethodName := ⟨r_Reader, "readClass", "()I"⟩
abbrev c_Reader_readClassPart : ByteArray := prog_7_method_15_code
def y_Reader_readClassPart : MethodName := ⟨r_Reader, "readClassPart", "()I"⟩
abbrev c_Reader_lettersBetween : ByteArray := prog_7_method_16_code
def y_Reader_lettersBetween : MethodName := ⟨r_Reader, "lettersBetween", "(II)I"⟩
abbrev c_Reader_readReference : ByteArray := prog_7_method_12_code
def y_Reader_readReference : MethodName := ⟨r_Reader, "readReference", "()I"⟩
abbrev c_Reader_readSign : ByteArray := prog_7_method_13_code
def y_Reader_readSign : MethodName := ⟨r_Reader, "readSign", "()I"⟩
abbrev c_Reader_readRepeat : ByteArray := prog_7_method_18_code
def y_Reader_readRepeat : MethodName := ⟨r_Reader, "readRepeat", "(I)V"⟩
abbrev c_Reader_setRepeat : ByteArray := prog_7_method_20_code
def y_Reader_setRepeat : MethodName := ⟨r_Reader, "setRepeat", "(IIII)V"⟩
abbrev c_Reader_readTimes : ByteArray := prog_7_method_19_code
def y_Reader_readTimes : MethodName := ⟨r_Reader, "readTimes", "(I)V"⟩
abbrev c_Bench_feed : ByteArray := prog_1_method_4_code
def y_Bench_feed : MethodName := ⟨r_Bench, "feed", "(I)I"⟩
abbrev c_Bench_clear : ByteArray := prog_1_method_5_code
def y_Bench_clear : MethodName := ⟨r_Bench, "clear", "()I"⟩
abbrev c_Bench_search : ByteArray := prog_1_method_6_code
def y_Bench_search : MethodName := ⟨r_Bench, "search", "(I)I"⟩
abbrev c_Bench_searchFrom : ByteArray := prog_1_method_13_code
def y_Bench_searchFrom : MethodName := ⟨r_Bench, "searchFrom", "(I)I"⟩
abbrev c_Matcher_find : ByteArray := prog_5_method_2_code
def y_Matcher_find : MethodName := ⟨r_Matcher, "find", "(I)I"⟩
abbrev c_Matcher_beginAt : ByteArray := prog_5_method_3_code
def y_Matcher_beginAt : MethodName := ⟨r_Matcher, "beginAt", "(I)V"⟩
abbrev c_Frames_empty : ByteArray := prog_4_method_2_code
def y_Frames_empty : MethodName := ⟨r_Frames, "empty", "()V"⟩
abbrev c_Choices_cutTo : ByteArray := prog_3_method_4_code
def y_Choices_cutTo : MethodName := ⟨r_Choices, "cutTo", "(I)V"⟩
abbrev c_Matcher_go : ByteArray := prog_5_method_5_code
def y_Matcher_go : MethodName := ⟨r_Matcher, "go", "(II)V"⟩
abbrev c_Matcher_goesOn : ByteArray := prog_5_method_4_code
def y_Matcher_goesOn : MethodName := ⟨r_Matcher, "goesOn", "()Z"⟩
abbrev c_Frames_hasRoom : ByteArray := prog_4_method_3_code
def y_Frames_hasRoom : MethodName := ⟨r_Frames, "hasRoom", "(I)Z"⟩
abbrev c_Choices_hasRoom : ByteArray := prog_3_method_2_code
def y_Choices_hasRoom : MethodName := ⟨r_Choices, "hasRoom", "(I)Z"⟩
abbrev c_Matcher_takeTurn : ByteArray := prog_5_method_6_code
def y_Matcher_takeTurn : MethodName := ⟨r_Matcher, "takeTurn", "()V"⟩
abbrev c_Matcher_enterRow : ByteArray := prog_5_method_7_code
def y_Matcher_enterRow : MethodName := ⟨r_Matcher, "enterRow", "(I)V"⟩
abbrev c_Choices_add : ByteArray := prog_3_method_3_code
def y_Choices_add : MethodName := ⟨r_Choices, "add", "(IIIJI)V"⟩
abbrev c_Matcher_enterItem : ByteArray := prog_5_method_8_code
def y_Matcher_enterItem : MethodName := ⟨r_Matcher, "enterItem", "(I)V"⟩
abbrev c_Frames_add : ByteArray := prog_4_method_4_code
def y_Frames_add : MethodName := ⟨r_Frames, "add", "(IIIIJI)I"⟩
abbrev c_Matcher_fork : ByteArray := prog_5_method_9_code
def y_Matcher_fork : MethodName := ⟨r_Matcher, "fork", "(I)V"⟩
abbrev c_Matcher_tryAtom : ByteArray := prog_5_method_10_code
def y_Matcher_tryAtom : MethodName := ⟨r_Matcher, "tryAtom", "(I)V"⟩
abbrev c_Matcher_ask : ByteArray := prog_5_method_14_code
def y_Matcher_ask : MethodName := ⟨r_Matcher, "ask", "(I)V"⟩
abbrev c_Matcher_askLetter : ByteArray := prog_5_method_15_code
def y_Matcher_askLetter : MethodName := ⟨r_Matcher, "askLetter", "(I)V"⟩
abbrev c_Matcher_askSame : ByteArray := prog_5_method_16_code
def y_Matcher_askSame : MethodName := ⟨r_Matcher, "askSame", "(I)V"⟩
abbrev c_Captures_from : ByteArray := prog_2_method_3_code
def y_Captures_from : MethodName := ⟨r_Captures, "from", "(JI)I"⟩
abbrev c_Captures_to : ByteArray := prog_2_method_4_code
def y_Captures_to : MethodName := ⟨r_Captures, "to", "(JI)I"⟩
abbrev c_Matcher_standsHere : ByteArray := prog_5_method_17_code
def y_Matcher_standsHere : MethodName := ⟨r_Matcher, "standsHere", "(II)Z"⟩
abbrev c_Matcher_askCall : ByteArray := prog_5_method_18_code
def y_Matcher_askCall : MethodName := ⟨r_Matcher, "askCall", "(I)V"⟩
abbrev c_Matcher_askBody : ByteArray := prog_5_method_19_code
def y_Matcher_askBody : MethodName := ⟨r_Matcher, "askBody", "(I)V"⟩
abbrev c_Matcher_goAfterAtom : ByteArray := prog_5_method_11_code
def y_Matcher_goAfterAtom : MethodName := ⟨r_Matcher, "goAfterAtom", "(I)V"⟩
abbrev c_Matcher_goAfterItem : ByteArray := prog_5_method_12_code
def y_Matcher_goAfterItem : MethodName := ⟨r_Matcher, "goAfterItem", "(I)V"⟩
abbrev c_Matcher_resume : ByteArray := prog_5_method_20_code
def y_Matcher_resume : MethodName := ⟨r_Matcher, "resume", "(I)V"⟩
abbrev c_Matcher_leaveBody : ByteArray := prog_5_method_22_code
def y_Matcher_leaveBody : MethodName := ⟨r_Matcher, "leaveBody", "(II)V"⟩
abbrev c_Captures_with : ByteArray := prog_2_method_2_code
def y_Captures_with : MethodName := ⟨r_Captures, "with", "(JIII)J"⟩
abbrev c_Matcher_leaveTimesTurn : ByteArray := prog_5_method_21_code
def y_Matcher_leaveTimesTurn : MethodName := ⟨r_Matcher, "leaveTimesTurn", "(II)V"⟩
abbrev c_Matcher_takeChoice : ByteArray := prog_5_method_13_code
def y_Matcher_takeChoice : MethodName := ⟨r_Matcher, "takeChoice", "()V"⟩
abbrev c_Bench_again : ByteArray := prog_1_method_7_code
def y_Bench_again : MethodName := ⟨r_Bench, "again", "()I"⟩
abbrev c_Bench_placeBehindMatch : ByteArray := prog_1_method_14_code
def y_Bench_placeBehindMatch : MethodName := ⟨r_Bench, "placeBehindMatch", "()I"⟩
abbrev c_Bench_start : ByteArray := prog_1_method_8_code
def y_Bench_start : MethodName := ⟨r_Bench, "start", "(I)I"⟩
abbrev c_Bench_end : ByteArray := prog_1_method_9_code
def y_Bench_end : MethodName := ⟨r_Bench, "end", "(I)I"⟩
abbrev c_Bench_steps : ByteArray := prog_1_method_10_code
def y_Bench_steps : MethodName := ⟨r_Bench, "steps", "()I"⟩
abbrev c_Bench_matches : ByteArray := prog_1_method_11_code
def y_Bench_matches : MethodName := ⟨r_Bench, "matches", "()I"⟩
abbrev c_Bench_count : ByteArray := prog_1_method_12_code
def y_Bench_count : MethodName := ⟨r_Bench, "count", "(I)I"⟩
end
section
/-! the words of the tables that a callee may take over, and the nest's -/
def mm_good (w : Cond) : Bool := (w.onTables && w.keeps) || (match w with
  | .arrayClass _ => true
  | _ => false)
def mm_T : List Cond := lw_tbl.filter mm_good
def mm_nest (w : Cond) : Bool := match w with
  | .fieldLinkNest .. => true
  | .methodLinkNest .. => true
  | _ => false
def mm_N : List Cond := lw_tbl.filter mm_nest
theorem tw_of {i : Nat} {w : Cond} (h : tables_1[i]? = some w) (hg : mm_good w = true) : w ∈ mm_T := List.mem_filter.mpr ⟨List.mem_append_right _ (List.mem_of_getElem? h), hg⟩
theorem tw_n {i : Nat} {w : Cond} (h : tables_1[i]? = some w) (hg : mm_nest w = true) : w ∈ mm_N := List.mem_filter.mpr ⟨List.mem_append_right _ (List.mem_of_getElem? h), hg⟩
theorem tw_s {i : Nat} {q : MethodName × Nat} (h : lw_privs[i]? = some q) : Cond.selects q.1.cls q.1 q.1 ∈ mm_T := List.mem_filter.mpr ⟨List.mem_append_left _ (List.mem_map.mpr ⟨q, List.mem_of_getElem? h, rfl⟩), rfl⟩
theorem tw_0 : (Jvm.Cond.initialized "PatternBenchLaw") ∈ mm_T := tw_of (i := 0) (by decide +kernel) rfl
theorem tw_1 : (Jvm.Cond.initialized "PatternBench") ∈ mm_T := tw_of (i := 1) (by decide +kernel) rfl
theorem tw_2 : (Jvm.Cond.initialized "PatternBench$Reader") ∈ mm_T := tw_of (i := 2) (by decide +kernel) rfl
theorem tw_3 : (Jvm.Cond.initialized "PatternBench$Text") ∈ mm_T := tw_of (i := 3) (by decide +kernel) rfl
theorem tw_4 : (Jvm.Cond.initialized "PatternBench$Program") ∈ mm_T := tw_of (i := 4) (by decide +kernel) rfl
theorem tw_5 : (Jvm.Cond.initialized "PatternBench$Matcher") ∈ mm_T := tw_of (i := 5) (by decide +kernel) rfl
theorem tw_6 : (Jvm.Cond.initialized "java/lang/Math") ∈ mm_T := tw_of (i := 6) (by decide +kernel) rfl
theorem tw_7 : (Jvm.Cond.initialized "PatternBench$Frames") ∈ mm_T := tw_of (i := 7) (by decide +kernel) rfl
theorem tw_8 : (Jvm.Cond.initialized "PatternBench$Choices") ∈ mm_T := tw_of (i := 8) (by decide +kernel) rfl
theorem tw_10 : (Jvm.Cond.initialized "java/lang/String") ∈ mm_T := tw_of (i := 10) (by decide +kernel) rfl
theorem tw_11 : (Jvm.Cond.initialized "java/lang/StringLatin1") ∈ mm_T := tw_of (i := 11) (by decide +kernel) rfl
theorem tw_12 : (Jvm.Cond.initialized "java/lang/StringUTF16") ∈ mm_T := tw_of (i := 12) (by decide +kernel) rfl
theorem tw_13 : (Jvm.Cond.initialized "jdk/internal/util/Preconditions") ∈ mm_T := tw_of (i := 13) (by decide +kernel) rfl
theorem tw_14 : (Jvm.Cond.initialized "java/lang/Character") ∈ mm_T := tw_of (i := 14) (by decide +kernel) rfl
theorem tw_15 : (Jvm.Cond.initialized "PatternBench$Captures") ∈ mm_T := tw_of (i := 15) (by decide +kernel) rfl
theorem tw_16 : (Jvm.Cond.classLink "PatternBenchLaw" (7 : Nat) "PatternBench") ∈ mm_T := tw_of (i := 16) (by decide +kernel) rfl
theorem tw_17 : (Jvm.Cond.instantiable "PatternBench" (8 : Nat)) ∈ mm_T := tw_of (i := 17) (by decide +kernel) rfl
theorem tw_18 : (Jvm.Cond.methodLink "PatternBenchLaw" (15 : Nat) ({ cls := "PatternBench", name := "<init>", desc := "(I)V" } : Jvm.MethodName)) ∈ mm_T := tw_of (i := 18) (by decide +kernel) rfl
theorem tw_19 : (Jvm.Cond.instanceMethod ({ cls := "PatternBench", name := "<init>", desc := "(I)V" } : Jvm.MethodName)) ∈ mm_T := tw_of (i := 19) (by decide +kernel) rfl
theorem tw_20 : (Jvm.Cond.code ({ cls := "PatternBench", name := "<init>", desc := "(I)V" } : Jvm.MethodName) prog_1_method_1_code (2 : Nat) (Option.none : Option Jvm.ClassFile.FieldType)) ∈ mm_T := tw_of (i := 20) (by decide +kernel) rfl
theorem tw_21 : (Jvm.Cond.methodLink "PatternBench" (1 : Nat) ({ cls := "java/lang/Object", name := "<init>", desc := "()V" } : Jvm.MethodName)) ∈ mm_T := tw_of (i := 21) (by decide +kernel) rfl
theorem tw_22 : (Jvm.Cond.instanceMethod ({ cls := "java/lang/Object", name := "<init>", desc := "()V" } : Jvm.MethodName)) ∈ mm_T := tw_of (i := 22) (by decide +kernel) rfl
theorem tw_23 : (Jvm.Cond.code ({ cls := "java/lang/Object", name := "<init>", desc := "()V" } : Jvm.MethodName) object_method_1_code (1 : Nat) (Option.none : Option Jvm.ClassFile.FieldType)) ∈ mm_T := tw_of (i := 23) (by decide +kernel) rfl
theorem tw_24 : (Jvm.Cond.classLink "PatternBench" (7 : Nat) "PatternBench$Reader") ∈ mm_T := tw_of (i := 24) (by decide +kernel) rfl
theorem tw_25 : (Jvm.Cond.instantiable "PatternBench$Reader" (11 : Nat)) ∈ mm_T := tw_of (i := 25) (by decide +kernel) rfl
theorem tw_26 : (Jvm.Cond.methodLinkNest "PatternBench" (9 : Nat) ({ cls := "PatternBench$Reader", name := "<init>", desc := "()V" } : Jvm.MethodName) "PatternBench") ∈ mm_N := tw_n (i := 26) (by decide +kernel) rfl
theorem tw_27 : (Jvm.Cond.instanceMethod ({ cls := "PatternBench$Reader", name := "<init>", desc := "()V" } : Jvm.MethodName)) ∈ mm_T := tw_of (i := 27) (by decide +kernel) rfl
theorem tw_28 : (Jvm.Cond.code ({ cls := "PatternBench$Reader", name := "<init>", desc := "()V" } : Jvm.MethodName) prog_7_method_1_code (1 : Nat) (Option.none : Option Jvm.ClassFile.FieldType)) ∈ mm_T := tw_of (i := 28) (by decide +kernel) rfl
theorem tw_29 : (Jvm.Cond.methodLink "PatternBench$Reader" (3 : Nat) ({ cls := "java/lang/Object", name := "<init>", desc := "()V" } : Jvm.MethodName)) ∈ mm_T := tw_of (i := 29) (by decide +kernel) rfl
theorem tw_30 : (Jvm.Cond.classLink "PatternBench$Reader" (9 : Nat) "PatternBench$Text") ∈ mm_T := tw_of (i := 30) (by decide +kernel) rfl
theorem tw_31 : (Jvm.Cond.instantiable "PatternBench$Text" (2 : Nat)) ∈ mm_T := tw_of (i := 31) (by decide +kernel) rfl
theorem tw_32 : (Jvm.Cond.methodLink "PatternBench$Reader" (11 : Nat) ({ cls := "PatternBench$Text", name := "<init>", desc := "(I)V" } : Jvm.MethodName)) ∈ mm_T := tw_of (i := 32) (by decide +kernel) rfl
theorem tw_33 : (Jvm.Cond.instanceMethod ({ cls := "PatternBench$Text", name := "<init>", desc := "(I)V" } : Jvm.MethodName)) ∈ mm_T := tw_of (i := 33) (by decide +kernel) rfl
theorem tw_34 : (Jvm.Cond.code ({ cls := "PatternBench$Text", name := "<init>", desc := "(I)V" } : Jvm.MethodName) prog_8_method_1_code (2 : Nat) (Option.none : Option Jvm.ClassFile.FieldType)) ∈ mm_T := tw_of (i := 34) (by decide +kernel) rfl
theorem tw_35 : (Jvm.Cond.methodLink "PatternBench$Text" (3 : Nat) ({ cls := "java/lang/Object", name := "<init>", desc := "()V" } : Jvm.MethodName)) ∈ mm_T := tw_of (i := 35) (by decide +kernel) rfl
theorem tw_36 : (Jvm.Cond.fieldLink "PatternBench$Text" (15 : Nat) "PatternBench$Text" "codes" "[I") ∈ mm_T := tw_of (i := 36) (by decide +kernel) rfl
theorem tw_37 : (Jvm.Cond.fieldLink "PatternBench$Matcher" (181 : Nat) "PatternBench$Text" "codes" "[I") ∈ mm_T := tw_of (i := 37) (by decide +kernel) rfl
theorem tw_38 : (Jvm.Cond.fieldLink "PatternBench$Text" (9 : Nat) "PatternBench$Text" "length" "I") ∈ mm_T := tw_of (i := 38) (by decide +kernel) rfl
theorem tw_39 : (Jvm.Cond.fieldLink "PatternBench$Matcher" (64 : Nat) "PatternBench$Text" "length" "I") ∈ mm_T := tw_of (i := 39) (by decide +kernel) rfl
theorem tw_40 : (Jvm.Cond.fieldLink "PatternBench$Reader" (67 : Nat) "PatternBench$Text" "length" "I") ∈ mm_T := tw_of (i := 40) (by decide +kernel) rfl
theorem tw_41 : (Jvm.Cond.fieldLink "PatternBench" (76 : Nat) "PatternBench$Text" "length" "I") ∈ mm_T := tw_of (i := 41) (by decide +kernel) rfl
theorem tw_42 : (Jvm.Cond.laysFinal "PatternBench$Text" "PatternBench$Text" "codes" "[I") ∈ mm_T := tw_of (i := 42) (by decide +kernel) rfl
theorem tw_44 : (Jvm.Cond.lays "PatternBench$Text" "PatternBench$Text" "length" "I") ∈ mm_T := tw_of (i := 44) (by decide +kernel) rfl
theorem tw_47 : (Jvm.Cond.arrayClass Jvm.ClassFile.FieldType.int) ∈ mm_T := tw_of (i := 47) (by decide +kernel) rfl
theorem tw_48 : (Jvm.Cond.classLink "PatternBench$Reader" (20 : Nat) "PatternBench$Program") ∈ mm_T := tw_of (i := 48) (by decide +kernel) rfl
theorem tw_49 : (Jvm.Cond.instantiable "PatternBench$Program" (14 : Nat)) ∈ mm_T := tw_of (i := 49) (by decide +kernel) rfl
theorem tw_50 : (Jvm.Cond.methodLinkNest "PatternBench$Reader" (22 : Nat) ({ cls := "PatternBench$Program", name := "<init>", desc := "()V" } : Jvm.MethodName) "PatternBench") ∈ mm_N := tw_n (i := 50) (by decide +kernel) rfl
theorem tw_51 : (Jvm.Cond.instanceMethod ({ cls := "PatternBench$Program", name := "<init>", desc := "()V" } : Jvm.MethodName)) ∈ mm_T := tw_of (i := 51) (by decide +kernel) rfl
theorem tw_52 : (Jvm.Cond.code ({ cls := "PatternBench$Program", name := "<init>", desc := "()V" } : Jvm.MethodName) prog_6_method_1_code (1 : Nat) (Option.none : Option Jvm.ClassFile.FieldType)) ∈ mm_T := tw_of (i := 52) (by decide +kernel) rfl
theorem tw_53 : (Jvm.Cond.methodLink "PatternBench$Program" (3 : Nat) ({ cls := "java/lang/Object", name := "<init>", desc := "()V" } : Jvm.MethodName)) ∈ mm_T := tw_of (i := 53) (by decide +kernel) rfl
theorem tw_54 : (Jvm.Cond.fieldLink "PatternBench$Program" (9 : Nat) "PatternBench$Program" "kind" "[I") ∈ mm_T := tw_of (i := 54) (by decide +kernel) rfl
theorem tw_55 : (Jvm.Cond.fieldLink "PatternBench$Matcher" (163 : Nat) "PatternBench$Program" "kind" "[I") ∈ mm_T := tw_of (i := 55) (by decide +kernel) rfl
theorem tw_56 : (Jvm.Cond.fieldLink "PatternBench$Program" (15 : Nat) "PatternBench$Program" "value" "[I") ∈ mm_T := tw_of (i := 56) (by decide +kernel) rfl
theorem tw_57 : (Jvm.Cond.fieldLink "PatternBench$Matcher" (169 : Nat) "PatternBench$Program" "value" "[I") ∈ mm_T := tw_of (i := 57) (by decide +kernel) rfl
theorem tw_58 : (Jvm.Cond.fieldLink "PatternBench$Program" (18 : Nat) "PatternBench$Program" "repeat" "[I") ∈ mm_T := tw_of (i := 58) (by decide +kernel) rfl
theorem tw_59 : (Jvm.Cond.fieldLink "PatternBench$Matcher" (131 : Nat) "PatternBench$Program" "repeat" "[I") ∈ mm_T := tw_of (i := 59) (by decide +kernel) rfl
theorem tw_60 : (Jvm.Cond.fieldLink "PatternBench$Reader" (168 : Nat) "PatternBench$Program" "repeat" "[I") ∈ mm_T := tw_of (i := 60) (by decide +kernel) rfl
theorem tw_61 : (Jvm.Cond.fieldLink "PatternBench$Program" (21 : Nat) "PatternBench$Program" "times" "[I") ∈ mm_T := tw_of (i := 61) (by decide +kernel) rfl
theorem tw_62 : (Jvm.Cond.fieldLink "PatternBench$Matcher" (149 : Nat) "PatternBench$Program" "times" "[I") ∈ mm_T := tw_of (i := 62) (by decide +kernel) rfl
theorem tw_63 : (Jvm.Cond.fieldLink "PatternBench$Reader" (165 : Nat) "PatternBench$Program" "times" "[I") ∈ mm_T := tw_of (i := 63) (by decide +kernel) rfl
theorem tw_64 : (Jvm.Cond.fieldLink "PatternBench$Program" (24 : Nat) "PatternBench$Program" "manner" "[I") ∈ mm_T := tw_of (i := 64) (by decide +kernel) rfl
theorem tw_65 : (Jvm.Cond.fieldLink "PatternBench$Matcher" (137 : Nat) "PatternBench$Program" "manner" "[I") ∈ mm_T := tw_of (i := 65) (by decide +kernel) rfl
theorem tw_66 : (Jvm.Cond.fieldLink "PatternBench$Reader" (171 : Nat) "PatternBench$Program" "manner" "[I") ∈ mm_T := tw_of (i := 66) (by decide +kernel) rfl
theorem tw_67 : (Jvm.Cond.fieldLink "PatternBench$Program" (27 : Nat) "PatternBench$Program" "body" "[I") ∈ mm_T := tw_of (i := 67) (by decide +kernel) rfl
theorem tw_68 : (Jvm.Cond.fieldLink "PatternBench$Reader" (131 : Nat) "PatternBench$Program" "body" "[I") ∈ mm_T := tw_of (i := 68) (by decide +kernel) rfl
theorem tw_69 : (Jvm.Cond.fieldLink "PatternBench$Matcher" (200 : Nat) "PatternBench$Program" "body" "[I") ∈ mm_T := tw_of (i := 69) (by decide +kernel) rfl
theorem tw_70 : (Jvm.Cond.fieldLink "PatternBench$Program" (30 : Nat) "PatternBench$Program" "nextItem" "[I") ∈ mm_T := tw_of (i := 70) (by decide +kernel) rfl
theorem tw_71 : (Jvm.Cond.fieldLink "PatternBench$Matcher" (134 : Nat) "PatternBench$Program" "nextItem" "[I") ∈ mm_T := tw_of (i := 71) (by decide +kernel) rfl
theorem tw_72 : (Jvm.Cond.fieldLink "PatternBench$Reader" (155 : Nat) "PatternBench$Program" "nextItem" "[I") ∈ mm_T := tw_of (i := 72) (by decide +kernel) rfl
theorem tw_73 : (Jvm.Cond.fieldLink "PatternBench$Program" (33 : Nat) "PatternBench$Program" "firstItem" "[I") ∈ mm_T := tw_of (i := 73) (by decide +kernel) rfl
theorem tw_74 : (Jvm.Cond.fieldLink "PatternBench$Matcher" (128 : Nat) "PatternBench$Program" "firstItem" "[I") ∈ mm_T := tw_of (i := 74) (by decide +kernel) rfl
theorem tw_75 : (Jvm.Cond.fieldLink "PatternBench$Reader" (152 : Nat) "PatternBench$Program" "firstItem" "[I") ∈ mm_T := tw_of (i := 75) (by decide +kernel) rfl
theorem tw_76 : (Jvm.Cond.fieldLink "PatternBench$Program" (36 : Nat) "PatternBench$Program" "nextRow" "[I") ∈ mm_T := tw_of (i := 76) (by decide +kernel) rfl
theorem tw_77 : (Jvm.Cond.fieldLink "PatternBench$Matcher" (121 : Nat) "PatternBench$Program" "nextRow" "[I") ∈ mm_T := tw_of (i := 77) (by decide +kernel) rfl
theorem tw_78 : (Jvm.Cond.fieldLink "PatternBench$Reader" (118 : Nat) "PatternBench$Program" "nextRow" "[I") ∈ mm_T := tw_of (i := 78) (by decide +kernel) rfl
theorem tw_79 : (Jvm.Cond.fieldLink "PatternBench$Program" (39 : Nat) "PatternBench$Program" "groupBody" "[I") ∈ mm_T := tw_of (i := 79) (by decide +kernel) rfl
theorem tw_80 : (Jvm.Cond.fieldLink "PatternBench$Reader" (64 : Nat) "PatternBench$Program" "groupBody" "[I") ∈ mm_T := tw_of (i := 80) (by decide +kernel) rfl
theorem tw_81 : (Jvm.Cond.fieldLink "PatternBench$Matcher" (84 : Nat) "PatternBench$Program" "groupBody" "[I") ∈ mm_T := tw_of (i := 81) (by decide +kernel) rfl
theorem tw_82 : (Jvm.Cond.fieldLink "PatternBench$Program" (42 : Nat) "PatternBench$Program" "items" "I") ∈ mm_T := tw_of (i := 82) (by decide +kernel) rfl
theorem tw_83 : (Jvm.Cond.fieldLink "PatternBench$Program" (46 : Nat) "PatternBench$Program" "rows" "I") ∈ mm_T := tw_of (i := 83) (by decide +kernel) rfl
theorem tw_84 : (Jvm.Cond.fieldLink "PatternBench$Program" (49 : Nat) "PatternBench$Program" "groups" "I") ∈ mm_T := tw_of (i := 84) (by decide +kernel) rfl
theorem tw_85 : (Jvm.Cond.fieldLink "PatternBench$Reader" (80 : Nat) "PatternBench$Program" "groups" "I") ∈ mm_T := tw_of (i := 85) (by decide +kernel) rfl
theorem tw_86 : (Jvm.Cond.fieldLink "PatternBench" (89 : Nat) "PatternBench$Program" "groups" "I") ∈ mm_T := tw_of (i := 86) (by decide +kernel) rfl
theorem tw_87 : (Jvm.Cond.fieldLink "PatternBench$Program" (52 : Nat) "PatternBench$Program" "size" "I") ∈ mm_T := tw_of (i := 87) (by decide +kernel) rfl
theorem tw_88 : (Jvm.Cond.fieldLink "PatternBench$Reader" (77 : Nat) "PatternBench$Program" "size" "I") ∈ mm_T := tw_of (i := 88) (by decide +kernel) rfl
theorem tw_89 : (Jvm.Cond.fieldLink "PatternBench" (83 : Nat) "PatternBench$Program" "size" "I") ∈ mm_T := tw_of (i := 89) (by decide +kernel) rfl
theorem tw_90 : (Jvm.Cond.laysFinal "PatternBench$Program" "PatternBench$Program" "kind" "[I") ∈ mm_T := tw_of (i := 90) (by decide +kernel) rfl
theorem tw_92 : (Jvm.Cond.laysFinal "PatternBench$Program" "PatternBench$Program" "value" "[I") ∈ mm_T := tw_of (i := 92) (by decide +kernel) rfl
theorem tw_94 : (Jvm.Cond.laysFinal "PatternBench$Program" "PatternBench$Program" "repeat" "[I") ∈ mm_T := tw_of (i := 94) (by decide +kernel) rfl
theorem tw_96 : (Jvm.Cond.laysFinal "PatternBench$Program" "PatternBench$Program" "times" "[I") ∈ mm_T := tw_of (i := 96) (by decide +kernel) rfl
theorem tw_98 : (Jvm.Cond.laysFinal "PatternBench$Program" "PatternBench$Program" "manner" "[I") ∈ mm_T := tw_of (i := 98) (by decide +kernel) rfl
theorem tw_100 : (Jvm.Cond.laysFinal "PatternBench$Program" "PatternBench$Program" "body" "[I") ∈ mm_T := tw_of (i := 100) (by decide +kernel) rfl
theorem tw_102 : (Jvm.Cond.laysFinal "PatternBench$Program" "PatternBench$Program" "nextItem" "[I") ∈ mm_T := tw_of (i := 102) (by decide +kernel) rfl
theorem tw_104 : (Jvm.Cond.laysFinal "PatternBench$Program" "PatternBench$Program" "firstItem" "[I") ∈ mm_T := tw_of (i := 104) (by decide +kernel) rfl
theorem tw_106 : (Jvm.Cond.laysFinal "PatternBench$Program" "PatternBench$Program" "nextRow" "[I") ∈ mm_T := tw_of (i := 106) (by decide +kernel) rfl
theorem tw_108 : (Jvm.Cond.laysFinal "PatternBench$Program" "PatternBench$Program" "groupBody" "[I") ∈ mm_T := tw_of (i := 108) (by decide +kernel) rfl
theorem tw_110 : (Jvm.Cond.lays "PatternBench$Program" "PatternBench$Program" "items" "I") ∈ mm_T := tw_of (i := 110) (by decide +kernel) rfl
theorem tw_112 : (Jvm.Cond.lays "PatternBench$Program" "PatternBench$Program" "rows" "I") ∈ mm_T := tw_of (i := 112) (by decide +kernel) rfl
theorem tw_114 : (Jvm.Cond.lays "PatternBench$Program" "PatternBench$Program" "groups" "I") ∈ mm_T := tw_of (i := 114) (by decide +kernel) rfl
theorem tw_116 : (Jvm.Cond.lays "PatternBench$Program" "PatternBench$Program" "size" "I") ∈ mm_T := tw_of (i := 116) (by decide +kernel) rfl
theorem tw_119 : (Jvm.Cond.fieldLink "PatternBench$Reader" (14 : Nat) "PatternBench$Reader" "text" "LPatternBench$Text;") ∈ mm_T := tw_of (i := 119) (by decide +kernel) rfl
theorem tw_120 : (Jvm.Cond.fieldLink "PatternBench" (59 : Nat) "PatternBench$Reader" "text" "LPatternBench$Text;") ∈ mm_T := tw_of (i := 120) (by decide +kernel) rfl
theorem tw_121 : (Jvm.Cond.fieldLink "PatternBench$Reader" (23 : Nat) "PatternBench$Reader" "program" "LPatternBench$Program;") ∈ mm_T := tw_of (i := 121) (by decide +kernel) rfl
theorem tw_122 : (Jvm.Cond.fieldLink "PatternBench" (79 : Nat) "PatternBench$Reader" "program" "LPatternBench$Program;") ∈ mm_T := tw_of (i := 122) (by decide +kernel) rfl
theorem tw_123 : (Jvm.Cond.fieldLink "PatternBench$Reader" (27 : Nat) "PatternBench$Reader" "levelItem" "[I") ∈ mm_T := tw_of (i := 123) (by decide +kernel) rfl
theorem tw_124 : (Jvm.Cond.fieldLink "PatternBench$Reader" (31 : Nat) "PatternBench$Reader" "levelRow" "[I") ∈ mm_T := tw_of (i := 124) (by decide +kernel) rfl
theorem tw_125 : (Jvm.Cond.fieldLink "PatternBench$Reader" (34 : Nat) "PatternBench$Reader" "levelLast" "[I") ∈ mm_T := tw_of (i := 125) (by decide +kernel) rfl
theorem tw_126 : (Jvm.Cond.fieldLink "PatternBench$Reader" (37 : Nat) "PatternBench$Reader" "levelSize" "[I") ∈ mm_T := tw_of (i := 126) (by decide +kernel) rfl
theorem tw_127 : (Jvm.Cond.fieldLink "PatternBench$Reader" (40 : Nat) "PatternBench$Reader" "level" "I") ∈ mm_T := tw_of (i := 127) (by decide +kernel) rfl
theorem tw_128 : (Jvm.Cond.fieldLink "PatternBench$Reader" (44 : Nat) "PatternBench$Reader" "at" "I") ∈ mm_T := tw_of (i := 128) (by decide +kernel) rfl
theorem tw_129 : (Jvm.Cond.fieldLink "PatternBench$Reader" (47 : Nat) "PatternBench$Reader" "atomSize" "I") ∈ mm_T := tw_of (i := 129) (by decide +kernel) rfl
theorem tw_130 : (Jvm.Cond.fieldLink "PatternBench$Reader" (50 : Nat) "PatternBench$Reader" "highestNamed" "I") ∈ mm_T := tw_of (i := 130) (by decide +kernel) rfl
theorem tw_131 : (Jvm.Cond.fieldLink "PatternBench$Reader" (53 : Nat) "PatternBench$Reader" "isGood" "Z") ∈ mm_T := tw_of (i := 131) (by decide +kernel) rfl
theorem tw_132 : (Jvm.Cond.laysFinal "PatternBench$Reader" "PatternBench$Reader" "text" "LPatternBench$Text;") ∈ mm_T := tw_of (i := 132) (by decide +kernel) rfl
theorem tw_134 : (Jvm.Cond.lays "PatternBench$Reader" "PatternBench$Reader" "program" "LPatternBench$Program;") ∈ mm_T := tw_of (i := 134) (by decide +kernel) rfl
theorem tw_136 : (Jvm.Cond.laysFinal "PatternBench$Reader" "PatternBench$Reader" "levelItem" "[I") ∈ mm_T := tw_of (i := 136) (by decide +kernel) rfl
theorem tw_138 : (Jvm.Cond.laysFinal "PatternBench$Reader" "PatternBench$Reader" "levelRow" "[I") ∈ mm_T := tw_of (i := 138) (by decide +kernel) rfl
theorem tw_140 : (Jvm.Cond.laysFinal "PatternBench$Reader" "PatternBench$Reader" "levelLast" "[I") ∈ mm_T := tw_of (i := 140) (by decide +kernel) rfl
theorem tw_142 : (Jvm.Cond.laysFinal "PatternBench$Reader" "PatternBench$Reader" "levelSize" "[I") ∈ mm_T := tw_of (i := 142) (by decide +kernel) rfl
theorem tw_144 : (Jvm.Cond.lays "PatternBench$Reader" "PatternBench$Reader" "level" "I") ∈ mm_T := tw_of (i := 144) (by decide +kernel) rfl
theorem tw_146 : (Jvm.Cond.lays "PatternBench$Reader" "PatternBench$Reader" "at" "I") ∈ mm_T := tw_of (i := 146) (by decide +kernel) rfl
theorem tw_148 : (Jvm.Cond.lays "PatternBench$Reader" "PatternBench$Reader" "atomSize" "I") ∈ mm_T := tw_of (i := 148) (by decide +kernel) rfl
theorem tw_150 : (Jvm.Cond.lays "PatternBench$Reader" "PatternBench$Reader" "highestNamed" "I") ∈ mm_T := tw_of (i := 150) (by decide +kernel) rfl
theorem tw_152 : (Jvm.Cond.lays "PatternBench$Reader" "PatternBench$Reader" "isGood" "Z") ∈ mm_T := tw_of (i := 152) (by decide +kernel) rfl
theorem tw_155 : (Jvm.Cond.classLink "PatternBench" (37 : Nat) "PatternBench$Matcher") ∈ mm_T := tw_of (i := 155) (by decide +kernel) rfl
theorem tw_156 : (Jvm.Cond.instantiable "PatternBench$Matcher" (11 : Nat)) ∈ mm_T := tw_of (i := 156) (by decide +kernel) rfl
theorem tw_157 : (Jvm.Cond.methodLink "PatternBench" (39 : Nat) ({ cls := "java/lang/Math", name := "min", desc := "(II)I" } : Jvm.MethodName)) ∈ mm_T := tw_of (i := 157) (by decide +kernel) rfl
theorem tw_158 : (Jvm.Cond.static ({ cls := "java/lang/Math", name := "min", desc := "(II)I" } : Jvm.MethodName)) ∈ mm_T := tw_of (i := 158) (by decide +kernel) rfl
theorem tw_159 : (Jvm.Cond.code ({ cls := "java/lang/Math", name := "min", desc := "(II)I" } : Jvm.MethodName) prog_12_method_69_code (2 : Nat) (Option.some Jvm.ClassFile.FieldType.int)) ∈ mm_T := tw_of (i := 159) (by decide +kernel) rfl
theorem tw_160 : (Jvm.Cond.methodLink "PatternBench" (45 : Nat) ({ cls := "java/lang/Math", name := "max", desc := "(II)I" } : Jvm.MethodName)) ∈ mm_T := tw_of (i := 160) (by decide +kernel) rfl
theorem tw_161 : (Jvm.Cond.static ({ cls := "java/lang/Math", name := "max", desc := "(II)I" } : Jvm.MethodName)) ∈ mm_T := tw_of (i := 161) (by decide +kernel) rfl
theorem tw_162 : (Jvm.Cond.code ({ cls := "java/lang/Math", name := "max", desc := "(II)I" } : Jvm.MethodName) prog_12_method_65_code (2 : Nat) (Option.some Jvm.ClassFile.FieldType.int)) ∈ mm_T := tw_of (i := 162) (by decide +kernel) rfl
theorem tw_163 : (Jvm.Cond.methodLink "PatternBench" (48 : Nat) ({ cls := "PatternBench$Matcher", name := "<init>", desc := "(I)V" } : Jvm.MethodName)) ∈ mm_T := tw_of (i := 163) (by decide +kernel) rfl
theorem tw_164 : (Jvm.Cond.instanceMethod ({ cls := "PatternBench$Matcher", name := "<init>", desc := "(I)V" } : Jvm.MethodName)) ∈ mm_T := tw_of (i := 164) (by decide +kernel) rfl
theorem tw_165 : (Jvm.Cond.code ({ cls := "PatternBench$Matcher", name := "<init>", desc := "(I)V" } : Jvm.MethodName) prog_5_method_1_code (2 : Nat) (Option.none : Option Jvm.ClassFile.FieldType)) ∈ mm_T := tw_of (i := 165) (by decide +kernel) rfl
theorem tw_166 : (Jvm.Cond.methodLink "PatternBench$Matcher" (3 : Nat) ({ cls := "java/lang/Object", name := "<init>", desc := "()V" } : Jvm.MethodName)) ∈ mm_T := tw_of (i := 166) (by decide +kernel) rfl
theorem tw_167 : (Jvm.Cond.classLink "PatternBench$Matcher" (9 : Nat) "PatternBench$Text") ∈ mm_T := tw_of (i := 167) (by decide +kernel) rfl
theorem tw_168 : (Jvm.Cond.methodLink "PatternBench$Matcher" (11 : Nat) ({ cls := "PatternBench$Text", name := "<init>", desc := "(I)V" } : Jvm.MethodName)) ∈ mm_T := tw_of (i := 168) (by decide +kernel) rfl
theorem tw_169 : (Jvm.Cond.classLink "PatternBench$Matcher" (20 : Nat) "PatternBench$Program") ∈ mm_T := tw_of (i := 169) (by decide +kernel) rfl
theorem tw_170 : (Jvm.Cond.methodLinkNest "PatternBench$Matcher" (22 : Nat) ({ cls := "PatternBench$Program", name := "<init>", desc := "()V" } : Jvm.MethodName) "PatternBench") ∈ mm_N := tw_n (i := 170) (by decide +kernel) rfl
theorem tw_171 : (Jvm.Cond.classLink "PatternBench$Matcher" (50 : Nat) "PatternBench$Frames") ∈ mm_T := tw_of (i := 171) (by decide +kernel) rfl
theorem tw_172 : (Jvm.Cond.instantiable "PatternBench$Frames" (8 : Nat)) ∈ mm_T := tw_of (i := 172) (by decide +kernel) rfl
theorem tw_173 : (Jvm.Cond.methodLink "PatternBench$Matcher" (52 : Nat) ({ cls := "PatternBench$Frames", name := "<init>", desc := "(I)V" } : Jvm.MethodName)) ∈ mm_T := tw_of (i := 173) (by decide +kernel) rfl
theorem tw_174 : (Jvm.Cond.instanceMethod ({ cls := "PatternBench$Frames", name := "<init>", desc := "(I)V" } : Jvm.MethodName)) ∈ mm_T := tw_of (i := 174) (by decide +kernel) rfl
theorem tw_175 : (Jvm.Cond.code ({ cls := "PatternBench$Frames", name := "<init>", desc := "(I)V" } : Jvm.MethodName) prog_4_method_1_code (2 : Nat) (Option.none : Option Jvm.ClassFile.FieldType)) ∈ mm_T := tw_of (i := 175) (by decide +kernel) rfl
theorem tw_176 : (Jvm.Cond.methodLink "PatternBench$Frames" (1 : Nat) ({ cls := "java/lang/Object", name := "<init>", desc := "()V" } : Jvm.MethodName)) ∈ mm_T := tw_of (i := 176) (by decide +kernel) rfl
theorem tw_177 : (Jvm.Cond.fieldLink "PatternBench$Frames" (13 : Nat) "PatternBench$Frames" "kind" "[I") ∈ mm_T := tw_of (i := 177) (by decide +kernel) rfl
theorem tw_178 : (Jvm.Cond.fieldLink "PatternBench$Matcher" (209 : Nat) "PatternBench$Frames" "kind" "[I") ∈ mm_T := tw_of (i := 178) (by decide +kernel) rfl
theorem tw_179 : (Jvm.Cond.fieldLink "PatternBench$Frames" (17 : Nat) "PatternBench$Frames" "item" "[I") ∈ mm_T := tw_of (i := 179) (by decide +kernel) rfl
theorem tw_180 : (Jvm.Cond.fieldLink "PatternBench$Matcher" (203 : Nat) "PatternBench$Frames" "item" "[I") ∈ mm_T := tw_of (i := 180) (by decide +kernel) rfl
theorem tw_181 : (Jvm.Cond.fieldLink "PatternBench$Frames" (20 : Nat) "PatternBench$Frames" "mark" "[I") ∈ mm_T := tw_of (i := 181) (by decide +kernel) rfl
theorem tw_182 : (Jvm.Cond.fieldLink "PatternBench$Matcher" (218 : Nat) "PatternBench$Frames" "mark" "[I") ∈ mm_T := tw_of (i := 182) (by decide +kernel) rfl
theorem tw_183 : (Jvm.Cond.fieldLink "PatternBench$Frames" (23 : Nat) "PatternBench$Frames" "place" "[I") ∈ mm_T := tw_of (i := 183) (by decide +kernel) rfl
theorem tw_184 : (Jvm.Cond.fieldLink "PatternBench$Matcher" (214 : Nat) "PatternBench$Frames" "place" "[I") ∈ mm_T := tw_of (i := 184) (by decide +kernel) rfl
theorem tw_185 : (Jvm.Cond.fieldLink "PatternBench$Frames" (26 : Nat) "PatternBench$Frames" "captures" "[J") ∈ mm_T := tw_of (i := 185) (by decide +kernel) rfl
theorem tw_186 : (Jvm.Cond.fieldLink "PatternBench$Matcher" (213 : Nat) "PatternBench$Frames" "captures" "[J") ∈ mm_T := tw_of (i := 186) (by decide +kernel) rfl
theorem tw_187 : (Jvm.Cond.fieldLink "PatternBench$Frames" (30 : Nat) "PatternBench$Frames" "outer" "[I") ∈ mm_T := tw_of (i := 187) (by decide +kernel) rfl
theorem tw_188 : (Jvm.Cond.fieldLink "PatternBench$Matcher" (206 : Nat) "PatternBench$Frames" "outer" "[I") ∈ mm_T := tw_of (i := 188) (by decide +kernel) rfl
theorem tw_189 : (Jvm.Cond.fieldLink "PatternBench$Frames" (33 : Nat) "PatternBench$Frames" "calls" "[I") ∈ mm_T := tw_of (i := 189) (by decide +kernel) rfl
theorem tw_190 : (Jvm.Cond.fieldLink "PatternBench$Matcher" (197 : Nat) "PatternBench$Frames" "calls" "[I") ∈ mm_T := tw_of (i := 190) (by decide +kernel) rfl
theorem tw_191 : (Jvm.Cond.fieldLink "PatternBench$Frames" (7 : Nat) "PatternBench$Frames" "used" "I") ∈ mm_T := tw_of (i := 191) (by decide +kernel) rfl
theorem tw_192 : (Jvm.Cond.laysFinal "PatternBench$Frames" "PatternBench$Frames" "kind" "[I") ∈ mm_T := tw_of (i := 192) (by decide +kernel) rfl
theorem tw_194 : (Jvm.Cond.laysFinal "PatternBench$Frames" "PatternBench$Frames" "item" "[I") ∈ mm_T := tw_of (i := 194) (by decide +kernel) rfl
theorem tw_196 : (Jvm.Cond.laysFinal "PatternBench$Frames" "PatternBench$Frames" "mark" "[I") ∈ mm_T := tw_of (i := 196) (by decide +kernel) rfl
theorem tw_198 : (Jvm.Cond.laysFinal "PatternBench$Frames" "PatternBench$Frames" "place" "[I") ∈ mm_T := tw_of (i := 198) (by decide +kernel) rfl
theorem tw_200 : (Jvm.Cond.laysFinal "PatternBench$Frames" "PatternBench$Frames" "captures" "[J") ∈ mm_T := tw_of (i := 200) (by decide +kernel) rfl
theorem tw_202 : (Jvm.Cond.laysFinal "PatternBench$Frames" "PatternBench$Frames" "outer" "[I") ∈ mm_T := tw_of (i := 202) (by decide +kernel) rfl
theorem tw_204 : (Jvm.Cond.laysFinal "PatternBench$Frames" "PatternBench$Frames" "calls" "[I") ∈ mm_T := tw_of (i := 204) (by decide +kernel) rfl
theorem tw_206 : (Jvm.Cond.lays "PatternBench$Frames" "PatternBench$Frames" "used" "I") ∈ mm_T := tw_of (i := 206) (by decide +kernel) rfl
theorem tw_209 : (Jvm.Cond.arrayClass Jvm.ClassFile.FieldType.long) ∈ mm_T := tw_of (i := 209) (by decide +kernel) rfl
theorem tw_210 : (Jvm.Cond.classLink "PatternBench$Matcher" (57 : Nat) "PatternBench$Choices") ∈ mm_T := tw_of (i := 210) (by decide +kernel) rfl
theorem tw_211 : (Jvm.Cond.instantiable "PatternBench$Choices" (6 : Nat)) ∈ mm_T := tw_of (i := 211) (by decide +kernel) rfl
theorem tw_212 : (Jvm.Cond.methodLink "PatternBench$Matcher" (59 : Nat) ({ cls := "PatternBench$Choices", name := "<init>", desc := "(I)V" } : Jvm.MethodName)) ∈ mm_T := tw_of (i := 212) (by decide +kernel) rfl
theorem tw_213 : (Jvm.Cond.instanceMethod ({ cls := "PatternBench$Choices", name := "<init>", desc := "(I)V" } : Jvm.MethodName)) ∈ mm_T := tw_of (i := 213) (by decide +kernel) rfl
theorem tw_214 : (Jvm.Cond.code ({ cls := "PatternBench$Choices", name := "<init>", desc := "(I)V" } : Jvm.MethodName) prog_3_method_1_code (2 : Nat) (Option.none : Option Jvm.ClassFile.FieldType)) ∈ mm_T := tw_of (i := 214) (by decide +kernel) rfl
theorem tw_215 : (Jvm.Cond.methodLink "PatternBench$Choices" (1 : Nat) ({ cls := "java/lang/Object", name := "<init>", desc := "()V" } : Jvm.MethodName)) ∈ mm_T := tw_of (i := 215) (by decide +kernel) rfl
theorem tw_216 : (Jvm.Cond.fieldLink "PatternBench$Choices" (13 : Nat) "PatternBench$Choices" "task" "[I") ∈ mm_T := tw_of (i := 216) (by decide +kernel) rfl
theorem tw_217 : (Jvm.Cond.fieldLink "PatternBench$Matcher" (159 : Nat) "PatternBench$Choices" "task" "[I") ∈ mm_T := tw_of (i := 217) (by decide +kernel) rfl
theorem tw_218 : (Jvm.Cond.fieldLink "PatternBench$Choices" (17 : Nat) "PatternBench$Choices" "number" "[I") ∈ mm_T := tw_of (i := 218) (by decide +kernel) rfl
theorem tw_219 : (Jvm.Cond.fieldLink "PatternBench$Matcher" (161 : Nat) "PatternBench$Choices" "number" "[I") ∈ mm_T := tw_of (i := 219) (by decide +kernel) rfl
theorem tw_220 : (Jvm.Cond.fieldLink "PatternBench$Choices" (20 : Nat) "PatternBench$Choices" "place" "[I") ∈ mm_T := tw_of (i := 220) (by decide +kernel) rfl
theorem tw_221 : (Jvm.Cond.fieldLink "PatternBench$Matcher" (152 : Nat) "PatternBench$Choices" "place" "[I") ∈ mm_T := tw_of (i := 221) (by decide +kernel) rfl
theorem tw_222 : (Jvm.Cond.fieldLink "PatternBench$Choices" (23 : Nat) "PatternBench$Choices" "captures" "[J") ∈ mm_T := tw_of (i := 222) (by decide +kernel) rfl
theorem tw_223 : (Jvm.Cond.fieldLink "PatternBench$Matcher" (154 : Nat) "PatternBench$Choices" "captures" "[J") ∈ mm_T := tw_of (i := 223) (by decide +kernel) rfl
theorem tw_224 : (Jvm.Cond.fieldLink "PatternBench$Choices" (27 : Nat) "PatternBench$Choices" "frame" "[I") ∈ mm_T := tw_of (i := 224) (by decide +kernel) rfl
theorem tw_225 : (Jvm.Cond.fieldLink "PatternBench$Matcher" (157 : Nat) "PatternBench$Choices" "frame" "[I") ∈ mm_T := tw_of (i := 225) (by decide +kernel) rfl
theorem tw_226 : (Jvm.Cond.fieldLink "PatternBench$Choices" (7 : Nat) "PatternBench$Choices" "used" "I") ∈ mm_T := tw_of (i := 226) (by decide +kernel) rfl
theorem tw_227 : (Jvm.Cond.fieldLink "PatternBench$Matcher" (140 : Nat) "PatternBench$Choices" "used" "I") ∈ mm_T := tw_of (i := 227) (by decide +kernel) rfl
theorem tw_228 : (Jvm.Cond.laysFinal "PatternBench$Choices" "PatternBench$Choices" "task" "[I") ∈ mm_T := tw_of (i := 228) (by decide +kernel) rfl
theorem tw_230 : (Jvm.Cond.laysFinal "PatternBench$Choices" "PatternBench$Choices" "number" "[I") ∈ mm_T := tw_of (i := 230) (by decide +kernel) rfl
theorem tw_232 : (Jvm.Cond.laysFinal "PatternBench$Choices" "PatternBench$Choices" "place" "[I") ∈ mm_T := tw_of (i := 232) (by decide +kernel) rfl
theorem tw_234 : (Jvm.Cond.laysFinal "PatternBench$Choices" "PatternBench$Choices" "captures" "[J") ∈ mm_T := tw_of (i := 234) (by decide +kernel) rfl
theorem tw_236 : (Jvm.Cond.laysFinal "PatternBench$Choices" "PatternBench$Choices" "frame" "[I") ∈ mm_T := tw_of (i := 236) (by decide +kernel) rfl
theorem tw_238 : (Jvm.Cond.lays "PatternBench$Choices" "PatternBench$Choices" "used" "I") ∈ mm_T := tw_of (i := 238) (by decide +kernel) rfl
theorem tw_241 : (Jvm.Cond.fieldLink "PatternBench$Matcher" (14 : Nat) "PatternBench$Matcher" "subject" "LPatternBench$Text;") ∈ mm_T := tw_of (i := 241) (by decide +kernel) rfl
theorem tw_242 : (Jvm.Cond.fieldLink "PatternBench" (95 : Nat) "PatternBench$Matcher" "subject" "LPatternBench$Text;") ∈ mm_T := tw_of (i := 242) (by decide +kernel) rfl
theorem tw_243 : (Jvm.Cond.fieldLink "PatternBench$Matcher" (23 : Nat) "PatternBench$Matcher" "program" "LPatternBench$Program;") ∈ mm_T := tw_of (i := 243) (by decide +kernel) rfl
theorem tw_244 : (Jvm.Cond.fieldLink "PatternBench" (88 : Nat) "PatternBench$Matcher" "program" "LPatternBench$Program;") ∈ mm_T := tw_of (i := 244) (by decide +kernel) rfl
theorem tw_245 : (Jvm.Cond.fieldLink "PatternBench$Matcher" (47 : Nat) "PatternBench$Matcher" "limit" "I") ∈ mm_T := tw_of (i := 245) (by decide +kernel) rfl
theorem tw_246 : (Jvm.Cond.fieldLink "PatternBench$Matcher" (53 : Nat) "PatternBench$Matcher" "frames" "LPatternBench$Frames;") ∈ mm_T := tw_of (i := 246) (by decide +kernel) rfl
theorem tw_247 : (Jvm.Cond.fieldLink "PatternBench$Matcher" (60 : Nat) "PatternBench$Matcher" "choices" "LPatternBench$Choices;") ∈ mm_T := tw_of (i := 247) (by decide +kernel) rfl
theorem tw_248 : (Jvm.Cond.fieldLink "PatternBench$Matcher" (27 : Nat) "PatternBench$Matcher" "task" "I") ∈ mm_T := tw_of (i := 248) (by decide +kernel) rfl
theorem tw_249 : (Jvm.Cond.fieldLink "PatternBench$Matcher" (31 : Nat) "PatternBench$Matcher" "number" "I") ∈ mm_T := tw_of (i := 249) (by decide +kernel) rfl
theorem tw_250 : (Jvm.Cond.fieldLink "PatternBench$Matcher" (34 : Nat) "PatternBench$Matcher" "frame" "I") ∈ mm_T := tw_of (i := 250) (by decide +kernel) rfl
theorem tw_251 : (Jvm.Cond.fieldLink "PatternBench$Matcher" (37 : Nat) "PatternBench$Matcher" "place" "I") ∈ mm_T := tw_of (i := 251) (by decide +kernel) rfl
theorem tw_252 : (Jvm.Cond.fieldLink "PatternBench" (117 : Nat) "PatternBench$Matcher" "place" "I") ∈ mm_T := tw_of (i := 252) (by decide +kernel) rfl
theorem tw_253 : (Jvm.Cond.fieldLink "PatternBench$Matcher" (40 : Nat) "PatternBench$Matcher" "captures" "J") ∈ mm_T := tw_of (i := 253) (by decide +kernel) rfl
theorem tw_254 : (Jvm.Cond.fieldLink "PatternBench" (120 : Nat) "PatternBench$Matcher" "captures" "J") ∈ mm_T := tw_of (i := 254) (by decide +kernel) rfl
theorem tw_255 : (Jvm.Cond.fieldLink "PatternBench$Matcher" (44 : Nat) "PatternBench$Matcher" "taken" "I") ∈ mm_T := tw_of (i := 255) (by decide +kernel) rfl
theorem tw_256 : (Jvm.Cond.fieldLink "PatternBench" (123 : Nat) "PatternBench$Matcher" "taken" "I") ∈ mm_T := tw_of (i := 256) (by decide +kernel) rfl
theorem tw_257 : (Jvm.Cond.laysFinal "PatternBench$Matcher" "PatternBench$Matcher" "subject" "LPatternBench$Text;") ∈ mm_T := tw_of (i := 257) (by decide +kernel) rfl
theorem tw_259 : (Jvm.Cond.lays "PatternBench$Matcher" "PatternBench$Matcher" "program" "LPatternBench$Program;") ∈ mm_T := tw_of (i := 259) (by decide +kernel) rfl
theorem tw_261 : (Jvm.Cond.laysFinal "PatternBench$Matcher" "PatternBench$Matcher" "limit" "I") ∈ mm_T := tw_of (i := 261) (by decide +kernel) rfl
theorem tw_263 : (Jvm.Cond.laysFinal "PatternBench$Matcher" "PatternBench$Matcher" "frames" "LPatternBench$Frames;") ∈ mm_T := tw_of (i := 263) (by decide +kernel) rfl
theorem tw_265 : (Jvm.Cond.laysFinal "PatternBench$Matcher" "PatternBench$Matcher" "choices" "LPatternBench$Choices;") ∈ mm_T := tw_of (i := 265) (by decide +kernel) rfl
theorem tw_267 : (Jvm.Cond.lays "PatternBench$Matcher" "PatternBench$Matcher" "task" "I") ∈ mm_T := tw_of (i := 267) (by decide +kernel) rfl
theorem tw_269 : (Jvm.Cond.lays "PatternBench$Matcher" "PatternBench$Matcher" "number" "I") ∈ mm_T := tw_of (i := 269) (by decide +kernel) rfl
theorem tw_271 : (Jvm.Cond.lays "PatternBench$Matcher" "PatternBench$Matcher" "frame" "I") ∈ mm_T := tw_of (i := 271) (by decide +kernel) rfl
theorem tw_273 : (Jvm.Cond.lays "PatternBench$Matcher" "PatternBench$Matcher" "place" "I") ∈ mm_T := tw_of (i := 273) (by decide +kernel) rfl
theorem tw_275 : (Jvm.Cond.lays "PatternBench$Matcher" "PatternBench$Matcher" "captures" "J") ∈ mm_T := tw_of (i := 275) (by decide +kernel) rfl
theorem tw_277 : (Jvm.Cond.lays "PatternBench$Matcher" "PatternBench$Matcher" "taken" "I") ∈ mm_T := tw_of (i := 277) (by decide +kernel) rfl
theorem tw_280 : (Jvm.Cond.fieldLink "PatternBench" (10 : Nat) "PatternBench" "reader" "LPatternBench$Reader;") ∈ mm_T := tw_of (i := 280) (by decide +kernel) rfl
theorem tw_281 : (Jvm.Cond.fieldLink "PatternBench" (51 : Nat) "PatternBench" "matcher" "LPatternBench$Matcher;") ∈ mm_T := tw_of (i := 281) (by decide +kernel) rfl
theorem tw_282 : (Jvm.Cond.fieldLink "PatternBench" (16 : Nat) "PatternBench" "isReady" "Z") ∈ mm_T := tw_of (i := 282) (by decide +kernel) rfl
theorem tw_283 : (Jvm.Cond.fieldLink "PatternBench" (20 : Nat) "PatternBench" "isMatched" "Z") ∈ mm_T := tw_of (i := 283) (by decide +kernel) rfl
theorem tw_284 : (Jvm.Cond.fieldLink "PatternBench" (23 : Nat) "PatternBench" "matchStart" "I") ∈ mm_T := tw_of (i := 284) (by decide +kernel) rfl
theorem tw_285 : (Jvm.Cond.fieldLink "PatternBench" (27 : Nat) "PatternBench" "matchEnd" "I") ∈ mm_T := tw_of (i := 285) (by decide +kernel) rfl
theorem tw_286 : (Jvm.Cond.fieldLink "PatternBench" (30 : Nat) "PatternBench" "matchCaptures" "J") ∈ mm_T := tw_of (i := 286) (by decide +kernel) rfl
theorem tw_287 : (Jvm.Cond.fieldLink "PatternBench" (34 : Nat) "PatternBench" "lastSteps" "I") ∈ mm_T := tw_of (i := 287) (by decide +kernel) rfl
theorem tw_288 : (Jvm.Cond.laysFinal "PatternBench" "PatternBench" "reader" "LPatternBench$Reader;") ∈ mm_T := tw_of (i := 288) (by decide +kernel) rfl
theorem tw_290 : (Jvm.Cond.laysFinal "PatternBench" "PatternBench" "matcher" "LPatternBench$Matcher;") ∈ mm_T := tw_of (i := 290) (by decide +kernel) rfl
theorem tw_292 : (Jvm.Cond.lays "PatternBench" "PatternBench" "isReady" "Z") ∈ mm_T := tw_of (i := 292) (by decide +kernel) rfl
theorem tw_294 : (Jvm.Cond.lays "PatternBench" "PatternBench" "isMatched" "Z") ∈ mm_T := tw_of (i := 294) (by decide +kernel) rfl
theorem tw_296 : (Jvm.Cond.lays "PatternBench" "PatternBench" "matchStart" "I") ∈ mm_T := tw_of (i := 296) (by decide +kernel) rfl
theorem tw_298 : (Jvm.Cond.lays "PatternBench" "PatternBench" "matchEnd" "I") ∈ mm_T := tw_of (i := 298) (by decide +kernel) rfl
theorem tw_300 : (Jvm.Cond.lays "PatternBench" "PatternBench" "matchCaptures" "J") ∈ mm_T := tw_of (i := 300) (by decide +kernel) rfl
theorem tw_302 : (Jvm.Cond.lays "PatternBench" "PatternBench" "lastSteps" "I") ∈ mm_T := tw_of (i := 302) (by decide +kernel) rfl
theorem tw_305 : (Jvm.Cond.methodLink "PatternBenchLaw" (21 : Nat) ({ cls := "PatternBench", name := "write", desc := "(I)I" } : Jvm.MethodName)) ∈ mm_T := tw_of (i := 305) (by decide +kernel) rfl
theorem tw_306 : (Jvm.Cond.instanceMethod ({ cls := "PatternBench", name := "write", desc := "(I)I" } : Jvm.MethodName)) ∈ mm_T := tw_of (i := 306) (by decide +kernel) rfl
theorem tw_307 : (Jvm.Cond.selects "PatternBench" ({ cls := "PatternBench", name := "write", desc := "(I)I" } : Jvm.MethodName) ({ cls := "PatternBench", name := "write", desc := "(I)I" } : Jvm.MethodName)) ∈ mm_T := tw_of (i := 307) (by decide +kernel) rfl
theorem tw_308 : (Jvm.Cond.code ({ cls := "PatternBench", name := "write", desc := "(I)I" } : Jvm.MethodName) prog_1_method_2_code (2 : Nat) (Option.some Jvm.ClassFile.FieldType.int)) ∈ mm_T := tw_of (i := 308) (by decide +kernel) rfl
theorem tw_309 : (Jvm.Cond.methodLink "PatternBench" (55 : Nat) ({ cls := "PatternBench", name := "mayStandInPattern", desc := "(I)Z" } : Jvm.MethodName)) ∈ mm_T := tw_of (i := 309) (by decide +kernel) rfl
theorem tw_310 : (Jvm.Cond.static ({ cls := "PatternBench", name := "mayStandInPattern", desc := "(I)Z" } : Jvm.MethodName)) ∈ mm_T := tw_of (i := 310) (by decide +kernel) rfl
theorem tw_311 : (Jvm.Cond.code ({ cls := "PatternBench", name := "mayStandInPattern", desc := "(I)Z" } : Jvm.MethodName) prog_1_method_17_code (1 : Nat) (Option.some Jvm.ClassFile.FieldType.boolean)) ∈ mm_T := tw_of (i := 311) (by decide +kernel) rfl
theorem tw_312 : (Jvm.Cond.methodLink "PatternBench" (92 : Nat) ({ cls := "PatternBench", name := "isLetter", desc := "(I)Z" } : Jvm.MethodName)) ∈ mm_T := tw_of (i := 312) (by decide +kernel) rfl
theorem tw_313 : (Jvm.Cond.static ({ cls := "PatternBench", name := "isLetter", desc := "(I)Z" } : Jvm.MethodName)) ∈ mm_T := tw_of (i := 313) (by decide +kernel) rfl
theorem tw_314 : (Jvm.Cond.code ({ cls := "PatternBench", name := "isLetter", desc := "(I)Z" } : Jvm.MethodName) prog_1_method_15_code (1 : Nat) (Option.some Jvm.ClassFile.FieldType.boolean)) ∈ mm_T := tw_of (i := 314) (by decide +kernel) rfl
theorem tw_315 : (Jvm.Cond.methodLink "PatternBench" (126 : Nat) ({ cls := "PatternBench", name := "isDigit", desc := "(I)Z" } : Jvm.MethodName)) ∈ mm_T := tw_of (i := 315) (by decide +kernel) rfl
theorem tw_316 : (Jvm.Cond.static ({ cls := "PatternBench", name := "isDigit", desc := "(I)Z" } : Jvm.MethodName)) ∈ mm_T := tw_of (i := 316) (by decide +kernel) rfl
theorem tw_317 : (Jvm.Cond.code ({ cls := "PatternBench", name := "isDigit", desc := "(I)Z" } : Jvm.MethodName) prog_1_method_16_code (1 : Nat) (Option.some Jvm.ClassFile.FieldType.boolean)) ∈ mm_T := tw_of (i := 317) (by decide +kernel) rfl
theorem tw_319 : (Jvm.Cond.methodLink "PatternBench" (131 : Nat) ({ cls := "java/lang/String", name := "indexOf", desc := "(I)I" } : Jvm.MethodName)) ∈ mm_T := tw_of (i := 319) (by decide +kernel) rfl
theorem tw_320 : (Jvm.Cond.instanceMethod ({ cls := "java/lang/String", name := "indexOf", desc := "(I)I" } : Jvm.MethodName)) ∈ mm_T := tw_of (i := 320) (by decide +kernel) rfl
theorem tw_321 : (Jvm.Cond.selects "java/lang/String" ({ cls := "java/lang/String", name := "indexOf", desc := "(I)I" } : Jvm.MethodName) ({ cls := "java/lang/String", name := "indexOf", desc := "(I)I" } : Jvm.MethodName)) ∈ mm_T := tw_of (i := 321) (by decide +kernel) rfl
theorem tw_322 : (Jvm.Cond.code ({ cls := "java/lang/String", name := "indexOf", desc := "(I)I" } : Jvm.MethodName) prog_13_method_79_code (2 : Nat) (Option.some Jvm.ClassFile.FieldType.int)) ∈ mm_T := tw_of (i := 322) (by decide +kernel) rfl
theorem tw_323 : (Jvm.Cond.methodLink "java/lang/String" (633 : Nat) ({ cls := "java/lang/String", name := "indexOf", desc := "(II)I" } : Jvm.MethodName)) ∈ mm_T := tw_of (i := 323) (by decide +kernel) rfl
theorem tw_324 : (Jvm.Cond.instanceMethod ({ cls := "java/lang/String", name := "indexOf", desc := "(II)I" } : Jvm.MethodName)) ∈ mm_T := tw_of (i := 324) (by decide +kernel) rfl
theorem tw_325 : (Jvm.Cond.selects "java/lang/String" ({ cls := "java/lang/String", name := "indexOf", desc := "(II)I" } : Jvm.MethodName) ({ cls := "java/lang/String", name := "indexOf", desc := "(II)I" } : Jvm.MethodName)) ∈ mm_T := tw_of (i := 325) (by decide +kernel) rfl
theorem tw_326 : (Jvm.Cond.code ({ cls := "java/lang/String", name := "indexOf", desc := "(II)I" } : Jvm.MethodName) prog_13_method_80_code (3 : Nat) (Option.some Jvm.ClassFile.FieldType.int)) ∈ mm_T := tw_of (i := 326) (by decide +kernel) rfl
theorem tw_327 : (Jvm.Cond.methodLink "java/lang/String" (492 : Nat) ({ cls := "java/lang/String", name := "isLatin1", desc := "()Z" } : Jvm.MethodName)) ∈ mm_T := tw_of (i := 327) (by decide +kernel) rfl
theorem tw_328 : (Jvm.Cond.instanceMethod ({ cls := "java/lang/String", name := "isLatin1", desc := "()Z" } : Jvm.MethodName)) ∈ mm_T := tw_of (i := 328) (by decide +kernel) rfl
theorem tw_329 : (Jvm.Cond.selects "java/lang/String" ({ cls := "java/lang/String", name := "isLatin1", desc := "()Z" } : Jvm.MethodName) ({ cls := "java/lang/String", name := "isLatin1", desc := "()Z" } : Jvm.MethodName)) ∈ mm_T := tw_of (i := 329) (by decide +kernel) rfl
theorem tw_330 : (Jvm.Cond.code ({ cls := "java/lang/String", name := "isLatin1", desc := "()Z" } : Jvm.MethodName) prog_13_method_154_code (1 : Nat) (Option.some Jvm.ClassFile.FieldType.boolean)) ∈ mm_T := tw_of (i := 330) (by decide +kernel) rfl
theorem tw_331 : (Jvm.Cond.fieldLink "java/lang/String" (38 : Nat) "java/lang/String" "COMPACT_STRINGS" "Z") ∈ mm_T := tw_of (i := 331) (by decide +kernel) rfl
theorem tw_333 : (Jvm.Cond.methodLink "java/lang/String" (505 : Nat) ({ cls := "java/lang/String", name := "length", desc := "()I" } : Jvm.MethodName)) ∈ mm_T := tw_of (i := 333) (by decide +kernel) rfl
theorem tw_334 : (Jvm.Cond.instanceMethod ({ cls := "java/lang/String", name := "length", desc := "()I" } : Jvm.MethodName)) ∈ mm_T := tw_of (i := 334) (by decide +kernel) rfl
theorem tw_335 : (Jvm.Cond.selects "java/lang/String" ({ cls := "java/lang/String", name := "length", desc := "()I" } : Jvm.MethodName) ({ cls := "java/lang/String", name := "length", desc := "()I" } : Jvm.MethodName)) ∈ mm_T := tw_of (i := 335) (by decide +kernel) rfl
theorem tw_336 : (Jvm.Cond.code ({ cls := "java/lang/String", name := "length", desc := "()I" } : Jvm.MethodName) prog_13_method_54_code (1 : Nat) (Option.some Jvm.ClassFile.FieldType.int)) ∈ mm_T := tw_of (i := 336) (by decide +kernel) rfl
theorem tw_337 : (Jvm.Cond.methodLink "java/lang/String" (335 : Nat) ({ cls := "java/lang/String", name := "coder", desc := "()B" } : Jvm.MethodName)) ∈ mm_T := tw_of (i := 337) (by decide +kernel) rfl
theorem tw_338 : (Jvm.Cond.instanceMethod ({ cls := "java/lang/String", name := "coder", desc := "()B" } : Jvm.MethodName)) ∈ mm_T := tw_of (i := 338) (by decide +kernel) rfl
theorem tw_339 : (Jvm.Cond.selects "java/lang/String" ({ cls := "java/lang/String", name := "coder", desc := "()B" } : Jvm.MethodName) ({ cls := "java/lang/String", name := "coder", desc := "()B" } : Jvm.MethodName)) ∈ mm_T := tw_of (i := 339) (by decide +kernel) rfl
theorem tw_340 : (Jvm.Cond.code ({ cls := "java/lang/String", name := "coder", desc := "()B" } : Jvm.MethodName) prog_13_method_152_code (1 : Nat) (Option.some Jvm.ClassFile.FieldType.byte)) ∈ mm_T := tw_of (i := 340) (by decide +kernel) rfl
theorem tw_341 : (Jvm.Cond.methodLink "java/lang/String" (637 : Nat) ({ cls := "java/lang/StringLatin1", name := "indexOf", desc := "([BIII)I" } : Jvm.MethodName)) ∈ mm_T := tw_of (i := 341) (by decide +kernel) rfl
theorem tw_342 : (Jvm.Cond.static ({ cls := "java/lang/StringLatin1", name := "indexOf", desc := "([BIII)I" } : Jvm.MethodName)) ∈ mm_T := tw_of (i := 342) (by decide +kernel) rfl
theorem tw_343 : (Jvm.Cond.code ({ cls := "java/lang/StringLatin1", name := "indexOf", desc := "([BIII)I" } : Jvm.MethodName) prog_14_method_22_code (4 : Nat) (Option.some Jvm.ClassFile.FieldType.int)) ∈ mm_T := tw_of (i := 343) (by decide +kernel) rfl
theorem tw_344 : (Jvm.Cond.methodLink "java/lang/StringLatin1" (88 : Nat) ({ cls := "java/lang/StringLatin1", name := "canEncode", desc := "(I)Z" } : Jvm.MethodName)) ∈ mm_T := tw_of (i := 344) (by decide +kernel) rfl
theorem tw_345 : (Jvm.Cond.static ({ cls := "java/lang/StringLatin1", name := "canEncode", desc := "(I)Z" } : Jvm.MethodName)) ∈ mm_T := tw_of (i := 345) (by decide +kernel) rfl
theorem tw_346 : (Jvm.Cond.code ({ cls := "java/lang/StringLatin1", name := "canEncode", desc := "(I)Z" } : Jvm.MethodName) prog_14_method_4_code (1 : Nat) (Option.some Jvm.ClassFile.FieldType.boolean)) ∈ mm_T := tw_of (i := 346) (by decide +kernel) rfl
theorem tw_347 : (Jvm.Cond.methodLink "java/lang/StringLatin1" (92 : Nat) ({ cls := "java/lang/Math", name := "max", desc := "(II)I" } : Jvm.MethodName)) ∈ mm_T := tw_of (i := 347) (by decide +kernel) rfl
theorem tw_348 : (Jvm.Cond.methodLink "java/lang/StringLatin1" (38 : Nat) ({ cls := "java/lang/Math", name := "min", desc := "(II)I" } : Jvm.MethodName)) ∈ mm_T := tw_of (i := 348) (by decide +kernel) rfl
theorem tw_349 : (Jvm.Cond.methodLink "java/lang/StringLatin1" (95 : Nat) ({ cls := "java/lang/StringLatin1", name := "indexOfChar", desc := "([BIII)I" } : Jvm.MethodName)) ∈ mm_T := tw_of (i := 349) (by decide +kernel) rfl
theorem tw_350 : (Jvm.Cond.static ({ cls := "java/lang/StringLatin1", name := "indexOfChar", desc := "([BIII)I" } : Jvm.MethodName)) ∈ mm_T := tw_of (i := 350) (by decide +kernel) rfl
theorem tw_351 : (Jvm.Cond.code ({ cls := "java/lang/StringLatin1", name := "indexOfChar", desc := "([BIII)I" } : Jvm.MethodName) prog_14_method_23_code (6 : Nat) (Option.some Jvm.ClassFile.FieldType.int)) ∈ mm_T := tw_of (i := 351) (by decide +kernel) rfl
theorem tw_352 : (Jvm.Cond.methodLink "java/lang/String" (640 : Nat) ({ cls := "java/lang/StringUTF16", name := "indexOf", desc := "([BIII)I" } : Jvm.MethodName)) ∈ mm_T := tw_of (i := 352) (by decide +kernel) rfl
theorem tw_353 : (Jvm.Cond.static ({ cls := "java/lang/StringUTF16", name := "indexOf", desc := "([BIII)I" } : Jvm.MethodName)) ∈ mm_T := tw_of (i := 353) (by decide +kernel) rfl
theorem tw_354 : (Jvm.Cond.code ({ cls := "java/lang/StringUTF16", name := "indexOf", desc := "([BIII)I" } : Jvm.MethodName) prog_15_method_40_code (4 : Nat) (Option.some Jvm.ClassFile.FieldType.int)) ∈ mm_T := tw_of (i := 354) (by decide +kernel) rfl
theorem tw_355 : (Jvm.Cond.methodLink "java/lang/StringUTF16" (224 : Nat) ({ cls := "java/lang/Math", name := "max", desc := "(II)I" } : Jvm.MethodName)) ∈ mm_T := tw_of (i := 355) (by decide +kernel) rfl
theorem tw_356 : (Jvm.Cond.methodLink "java/lang/StringUTF16" (183 : Nat) ({ cls := "java/lang/Math", name := "min", desc := "(II)I" } : Jvm.MethodName)) ∈ mm_T := tw_of (i := 356) (by decide +kernel) rfl
theorem tw_357 : (Jvm.Cond.constant "java/lang/StringUTF16" (227 : Nat) (65536 : Int32)) ∈ mm_T := tw_of (i := 357) (by decide +kernel) rfl
theorem tw_358 : (Jvm.Cond.methodLink "java/lang/StringUTF16" (228 : Nat) ({ cls := "java/lang/StringUTF16", name := "indexOfChar", desc := "([BIII)I" } : Jvm.MethodName)) ∈ mm_T := tw_of (i := 358) (by decide +kernel) rfl
theorem tw_359 : (Jvm.Cond.static ({ cls := "java/lang/StringUTF16", name := "indexOfChar", desc := "([BIII)I" } : Jvm.MethodName)) ∈ mm_T := tw_of (i := 359) (by decide +kernel) rfl
theorem tw_360 : (Jvm.Cond.code ({ cls := "java/lang/StringUTF16", name := "indexOfChar", desc := "([BIII)I" } : Jvm.MethodName) prog_15_method_47_code (4 : Nat) (Option.some Jvm.ClassFile.FieldType.int)) ∈ mm_T := tw_of (i := 360) (by decide +kernel) rfl
theorem tw_361 : (Jvm.Cond.methodLink "java/lang/StringUTF16" (96 : Nat) ({ cls := "java/lang/StringUTF16", name := "checkBoundsBeginEnd", desc := "(II[B)V" } : Jvm.MethodName)) ∈ mm_T := tw_of (i := 361) (by decide +kernel) rfl
theorem tw_362 : (Jvm.Cond.static ({ cls := "java/lang/StringUTF16", name := "checkBoundsBeginEnd", desc := "(II[B)V" } : Jvm.MethodName)) ∈ mm_T := tw_of (i := 362) (by decide +kernel) rfl
theorem tw_363 : (Jvm.Cond.code ({ cls := "java/lang/StringUTF16", name := "checkBoundsBeginEnd", desc := "(II[B)V" } : Jvm.MethodName) prog_15_method_93_code (3 : Nat) (Option.none : Option Jvm.ClassFile.FieldType)) ∈ mm_T := tw_of (i := 363) (by decide +kernel) rfl
theorem tw_364 : (Jvm.Cond.methodLink "java/lang/StringUTF16" (48 : Nat) ({ cls := "java/lang/StringUTF16", name := "length", desc := "([B)I" } : Jvm.MethodName)) ∈ mm_T := tw_of (i := 364) (by decide +kernel) rfl
theorem tw_365 : (Jvm.Cond.static ({ cls := "java/lang/StringUTF16", name := "length", desc := "([B)I" } : Jvm.MethodName)) ∈ mm_T := tw_of (i := 365) (by decide +kernel) rfl
theorem tw_366 : (Jvm.Cond.code ({ cls := "java/lang/StringUTF16", name := "length", desc := "([B)I" } : Jvm.MethodName) prog_15_method_6_code (1 : Nat) (Option.some Jvm.ClassFile.FieldType.int)) ∈ mm_T := tw_of (i := 366) (by decide +kernel) rfl
theorem tw_367 : (Jvm.Cond.methodLink "java/lang/StringUTF16" (241 : Nat) ({ cls := "java/lang/String", name := "checkBoundsBeginEnd", desc := "(III)V" } : Jvm.MethodName)) ∈ mm_T := tw_of (i := 367) (by decide +kernel) rfl
theorem tw_368 : (Jvm.Cond.static ({ cls := "java/lang/String", name := "checkBoundsBeginEnd", desc := "(III)V" } : Jvm.MethodName)) ∈ mm_T := tw_of (i := 368) (by decide +kernel) rfl
theorem tw_369 : (Jvm.Cond.code ({ cls := "java/lang/String", name := "checkBoundsBeginEnd", desc := "(III)V" } : Jvm.MethodName) prog_13_method_158_code (3 : Nat) (Option.none : Option Jvm.ClassFile.FieldType)) ∈ mm_T := tw_of (i := 369) (by decide +kernel) rfl
theorem tw_370 : (Jvm.Cond.fieldLink "java/lang/String" (1053 : Nat) "jdk/internal/util/Preconditions" "SIOOBE_FORMATTER" "Ljava/util/function/BiFunction;") ∈ mm_T := tw_of (i := 370) (by decide +kernel) rfl
theorem tw_372 : (Jvm.Cond.methodLink "java/lang/String" (1062 : Nat) ({ cls := "jdk/internal/util/Preconditions", name := "checkFromToIndex", desc := "(IIILjava/util/function/BiFunction;)I" } : Jvm.MethodName)) ∈ mm_T := tw_of (i := 372) (by decide +kernel) rfl
theorem tw_373 : (Jvm.Cond.static ({ cls := "jdk/internal/util/Preconditions", name := "checkFromToIndex", desc := "(IIILjava/util/function/BiFunction;)I" } : Jvm.MethodName)) ∈ mm_T := tw_of (i := 373) (by decide +kernel) rfl
theorem tw_374 : (Jvm.Cond.code ({ cls := "jdk/internal/util/Preconditions", name := "checkFromToIndex", desc := "(IIILjava/util/function/BiFunction;)I" } : Jvm.MethodName) prog_16_method_12_code (4 : Nat) (Option.some Jvm.ClassFile.FieldType.int)) ∈ mm_T := tw_of (i := 374) (by decide +kernel) rfl
theorem tw_375 : (Jvm.Cond.methodLink "java/lang/StringUTF16" (244 : Nat) ({ cls := "java/lang/StringUTF16", name := "indexOfCharUnsafe", desc := "([BIII)I" } : Jvm.MethodName)) ∈ mm_T := tw_of (i := 375) (by decide +kernel) rfl
theorem tw_376 : (Jvm.Cond.static ({ cls := "java/lang/StringUTF16", name := "indexOfCharUnsafe", desc := "([BIII)I" } : Jvm.MethodName)) ∈ mm_T := tw_of (i := 376) (by decide +kernel) rfl
theorem tw_377 : (Jvm.Cond.code ({ cls := "java/lang/StringUTF16", name := "indexOfCharUnsafe", desc := "([BIII)I" } : Jvm.MethodName) prog_15_method_48_code (5 : Nat) (Option.some Jvm.ClassFile.FieldType.int)) ∈ mm_T := tw_of (i := 377) (by decide +kernel) rfl
theorem tw_378 : (Jvm.Cond.methodLink "java/lang/StringUTF16" (71 : Nat) ({ cls := "java/lang/StringUTF16", name := "getChar", desc := "([BI)C" } : Jvm.MethodName)) ∈ mm_T := tw_of (i := 378) (by decide +kernel) rfl
theorem tw_379 : (Jvm.Cond.static ({ cls := "java/lang/StringUTF16", name := "getChar", desc := "([BI)C" } : Jvm.MethodName)) ∈ mm_T := tw_of (i := 379) (by decide +kernel) rfl
theorem tw_380 : (Jvm.Cond.code ({ cls := "java/lang/StringUTF16", name := "getChar", desc := "([BI)C" } : Jvm.MethodName) prog_15_method_5_code (2 : Nat) (Option.some Jvm.ClassFile.FieldType.char)) ∈ mm_T := tw_of (i := 380) (by decide +kernel) rfl
theorem tw_381 : (Jvm.Cond.fieldLink "java/lang/StringUTF16" (44 : Nat) "java/lang/StringUTF16" "$assertionsDisabled" "Z") ∈ mm_T := tw_of (i := 381) (by decide +kernel) rfl
theorem tw_383 : (Jvm.Cond.fieldLink "java/lang/StringUTF16" (59 : Nat) "java/lang/StringUTF16" "HI_BYTE_SHIFT" "I") ∈ mm_T := tw_of (i := 383) (by decide +kernel) rfl
theorem tw_385 : (Jvm.Cond.fieldLink "java/lang/StringUTF16" (63 : Nat) "java/lang/StringUTF16" "LO_BYTE_SHIFT" "I") ∈ mm_T := tw_of (i := 385) (by decide +kernel) rfl
theorem tw_387 : (Jvm.Cond.methodLink "java/lang/StringUTF16" (232 : Nat) ({ cls := "java/lang/StringUTF16", name := "indexOfSupplementary", desc := "([BIII)I" } : Jvm.MethodName)) ∈ mm_T := tw_of (i := 387) (by decide +kernel) rfl
theorem tw_388 : (Jvm.Cond.static ({ cls := "java/lang/StringUTF16", name := "indexOfSupplementary", desc := "([BIII)I" } : Jvm.MethodName)) ∈ mm_T := tw_of (i := 388) (by decide +kernel) rfl
theorem tw_389 : (Jvm.Cond.code ({ cls := "java/lang/StringUTF16", name := "indexOfSupplementary", desc := "([BIII)I" } : Jvm.MethodName) prog_15_method_49_code (7 : Nat) (Option.some Jvm.ClassFile.FieldType.int)) ∈ mm_T := tw_of (i := 389) (by decide +kernel) rfl
theorem tw_390 : (Jvm.Cond.methodLink "java/lang/StringUTF16" (164 : Nat) ({ cls := "java/lang/Character", name := "isValidCodePoint", desc := "(I)Z" } : Jvm.MethodName)) ∈ mm_T := tw_of (i := 390) (by decide +kernel) rfl
theorem tw_391 : (Jvm.Cond.static ({ cls := "java/lang/Character", name := "isValidCodePoint", desc := "(I)Z" } : Jvm.MethodName)) ∈ mm_T := tw_of (i := 391) (by decide +kernel) rfl
theorem tw_392 : (Jvm.Cond.code ({ cls := "java/lang/Character", name := "isValidCodePoint", desc := "(I)Z" } : Jvm.MethodName) prog_11_method_11_code (2 : Nat) (Option.some Jvm.ClassFile.FieldType.boolean)) ∈ mm_T := tw_of (i := 392) (by decide +kernel) rfl
theorem tw_393 : (Jvm.Cond.methodLink "java/lang/StringUTF16" (157 : Nat) ({ cls := "java/lang/Character", name := "highSurrogate", desc := "(I)C" } : Jvm.MethodName)) ∈ mm_T := tw_of (i := 393) (by decide +kernel) rfl
theorem tw_394 : (Jvm.Cond.static ({ cls := "java/lang/Character", name := "highSurrogate", desc := "(I)C" } : Jvm.MethodName)) ∈ mm_T := tw_of (i := 394) (by decide +kernel) rfl
theorem tw_395 : (Jvm.Cond.code ({ cls := "java/lang/Character", name := "highSurrogate", desc := "(I)C" } : Jvm.MethodName) prog_11_method_28_code (1 : Nat) (Option.some Jvm.ClassFile.FieldType.char)) ∈ mm_T := tw_of (i := 395) (by decide +kernel) rfl
theorem tw_396 : (Jvm.Cond.constant "java/lang/Character" (110 : Nat) (55232 : Int32)) ∈ mm_T := tw_of (i := 396) (by decide +kernel) rfl
theorem tw_397 : (Jvm.Cond.methodLink "java/lang/StringUTF16" (161 : Nat) ({ cls := "java/lang/Character", name := "lowSurrogate", desc := "(I)C" } : Jvm.MethodName)) ∈ mm_T := tw_of (i := 397) (by decide +kernel) rfl
theorem tw_398 : (Jvm.Cond.static ({ cls := "java/lang/Character", name := "lowSurrogate", desc := "(I)C" } : Jvm.MethodName)) ∈ mm_T := tw_of (i := 398) (by decide +kernel) rfl
theorem tw_399 : (Jvm.Cond.code ({ cls := "java/lang/Character", name := "lowSurrogate", desc := "(I)C" } : Jvm.MethodName) prog_11_method_29_code (1 : Nat) (Option.some Jvm.ClassFile.FieldType.char)) ∈ mm_T := tw_of (i := 399) (by decide +kernel) rfl
theorem tw_400 : (Jvm.Cond.constant "java/lang/Character" (76 : Nat) (56320 : Int32)) ∈ mm_T := tw_of (i := 400) (by decide +kernel) rfl
theorem tw_401 : (Jvm.Cond.methodLink "PatternBench" (63 : Nat) ({ cls := "PatternBench$Text", name := "isFull", desc := "()Z" } : Jvm.MethodName)) ∈ mm_T := tw_of (i := 401) (by decide +kernel) rfl
theorem tw_402 : (Jvm.Cond.instanceMethod ({ cls := "PatternBench$Text", name := "isFull", desc := "()Z" } : Jvm.MethodName)) ∈ mm_T := tw_of (i := 402) (by decide +kernel) rfl
theorem tw_403 : (Jvm.Cond.selects "PatternBench$Text" ({ cls := "PatternBench$Text", name := "isFull", desc := "()Z" } : Jvm.MethodName) ({ cls := "PatternBench$Text", name := "isFull", desc := "()Z" } : Jvm.MethodName)) ∈ mm_T := tw_of (i := 403) (by decide +kernel) rfl
theorem tw_404 : (Jvm.Cond.code ({ cls := "PatternBench$Text", name := "isFull", desc := "()Z" } : Jvm.MethodName) prog_8_method_2_code (1 : Nat) (Option.some Jvm.ClassFile.FieldType.boolean)) ∈ mm_T := tw_of (i := 404) (by decide +kernel) rfl
theorem tw_405 : (Jvm.Cond.methodLink "PatternBench" (69 : Nat) ({ cls := "PatternBench$Text", name := "add", desc := "(I)I" } : Jvm.MethodName)) ∈ mm_T := tw_of (i := 405) (by decide +kernel) rfl
theorem tw_406 : (Jvm.Cond.instanceMethod ({ cls := "PatternBench$Text", name := "add", desc := "(I)I" } : Jvm.MethodName)) ∈ mm_T := tw_of (i := 406) (by decide +kernel) rfl
theorem tw_407 : (Jvm.Cond.selects "PatternBench$Text" ({ cls := "PatternBench$Text", name := "add", desc := "(I)I" } : Jvm.MethodName) ({ cls := "PatternBench$Text", name := "add", desc := "(I)I" } : Jvm.MethodName)) ∈ mm_T := tw_of (i := 407) (by decide +kernel) rfl
theorem tw_408 : (Jvm.Cond.code ({ cls := "PatternBench$Text", name := "add", desc := "(I)I" } : Jvm.MethodName) prog_8_method_3_code (2 : Nat) (Option.some Jvm.ClassFile.FieldType.int)) ∈ mm_T := tw_of (i := 408) (by decide +kernel) rfl
theorem tw_409 : (Jvm.Cond.methodLink "PatternBench$Text" (19 : Nat) ({ cls := "PatternBench$Text", name := "isFull", desc := "()Z" } : Jvm.MethodName)) ∈ mm_T := tw_of (i := 409) (by decide +kernel) rfl
theorem tw_410 : (Jvm.Cond.arrayClass Jvm.ClassFile.FieldType.byte) ∈ mm_T := tw_of (i := 410) (by decide +kernel) rfl
theorem tw_411 : (Jvm.Cond.methodLink "PatternBenchLaw" (26 : Nat) ({ cls := "PatternBench", name := "compile", desc := "()I" } : Jvm.MethodName)) ∈ mm_T := tw_of (i := 411) (by decide +kernel) rfl
theorem tw_412 : (Jvm.Cond.instanceMethod ({ cls := "PatternBench", name := "compile", desc := "()I" } : Jvm.MethodName)) ∈ mm_T := tw_of (i := 412) (by decide +kernel) rfl
theorem tw_413 : (Jvm.Cond.selects "PatternBench" ({ cls := "PatternBench", name := "compile", desc := "()I" } : Jvm.MethodName) ({ cls := "PatternBench", name := "compile", desc := "()I" } : Jvm.MethodName)) ∈ mm_T := tw_of (i := 413) (by decide +kernel) rfl
theorem tw_414 : (Jvm.Cond.code ({ cls := "PatternBench", name := "compile", desc := "()I" } : Jvm.MethodName) prog_1_method_3_code (3 : Nat) (Option.some Jvm.ClassFile.FieldType.int)) ∈ mm_T := tw_of (i := 414) (by decide +kernel) rfl
theorem tw_415 : (Jvm.Cond.methodLink "PatternBench" (73 : Nat) ({ cls := "PatternBench$Reader", name := "read", desc := "()Z" } : Jvm.MethodName)) ∈ mm_T := tw_of (i := 415) (by decide +kernel) rfl
theorem tw_416 : (Jvm.Cond.instanceMethod ({ cls := "PatternBench$Reader", name := "read", desc := "()Z" } : Jvm.MethodName)) ∈ mm_T := tw_of (i := 416) (by decide +kernel) rfl
theorem tw_417 : (Jvm.Cond.selects "PatternBench$Reader" ({ cls := "PatternBench$Reader", name := "read", desc := "()Z" } : Jvm.MethodName) ({ cls := "PatternBench$Reader", name := "read", desc := "()Z" } : Jvm.MethodName)) ∈ mm_T := tw_of (i := 417) (by decide +kernel) rfl
theorem tw_418 : (Jvm.Cond.code ({ cls := "PatternBench$Reader", name := "read", desc := "()Z" } : Jvm.MethodName) prog_7_method_2_code (3 : Nat) (Option.some Jvm.ClassFile.FieldType.boolean)) ∈ mm_T := tw_of (i := 418) (by decide +kernel) rfl
theorem tw_419 : (Jvm.Cond.methodLink "PatternBench$Reader" (57 : Nat) ({ cls := "PatternBench$Program", name := "empty", desc := "()V" } : Jvm.MethodName)) ∈ mm_T := tw_of (i := 419) (by decide +kernel) rfl
theorem tw_420 : (Jvm.Cond.instanceMethod ({ cls := "PatternBench$Program", name := "empty", desc := "()V" } : Jvm.MethodName)) ∈ mm_T := tw_of (i := 420) (by decide +kernel) rfl
theorem tw_421 : (Jvm.Cond.selects "PatternBench$Program" ({ cls := "PatternBench$Program", name := "empty", desc := "()V" } : Jvm.MethodName) ({ cls := "PatternBench$Program", name := "empty", desc := "()V" } : Jvm.MethodName)) ∈ mm_T := tw_of (i := 421) (by decide +kernel) rfl
theorem tw_422 : (Jvm.Cond.code ({ cls := "PatternBench$Program", name := "empty", desc := "()V" } : Jvm.MethodName) prog_6_method_2_code (1 : Nat) (Option.none : Option Jvm.ClassFile.FieldType)) ∈ mm_T := tw_of (i := 422) (by decide +kernel) rfl
theorem tw_423 : (Jvm.Cond.methodLink "PatternBench$Reader" (60 : Nat) ({ cls := "PatternBench$Reader", name := "openLevel", desc := "(II)V" } : Jvm.MethodName)) ∈ mm_T := tw_of (i := 423) (by decide +kernel) rfl
theorem tw_425 : (Jvm.Cond.instanceMethod ({ cls := "PatternBench$Reader", name := "openLevel", desc := "(II)V" } : Jvm.MethodName)) ∈ mm_T := tw_of (i := 425) (by decide +kernel) rfl
theorem tw_426 : (Jvm.Cond.code ({ cls := "PatternBench$Reader", name := "openLevel", desc := "(II)V" } : Jvm.MethodName) prog_7_method_6_code (3 : Nat) (Option.none : Option Jvm.ClassFile.FieldType)) ∈ mm_T := tw_of (i := 426) (by decide +kernel) rfl
theorem tw_427 : (Jvm.Cond.methodLink "PatternBench$Reader" (115 : Nat) ({ cls := "PatternBench$Program", name := "addRow", desc := "()I" } : Jvm.MethodName)) ∈ mm_T := tw_of (i := 427) (by decide +kernel) rfl
theorem tw_428 : (Jvm.Cond.instanceMethod ({ cls := "PatternBench$Program", name := "addRow", desc := "()I" } : Jvm.MethodName)) ∈ mm_T := tw_of (i := 428) (by decide +kernel) rfl
theorem tw_429 : (Jvm.Cond.selects "PatternBench$Program" ({ cls := "PatternBench$Program", name := "addRow", desc := "()I" } : Jvm.MethodName) ({ cls := "PatternBench$Program", name := "addRow", desc := "()I" } : Jvm.MethodName)) ∈ mm_T := tw_of (i := 429) (by decide +kernel) rfl
theorem tw_430 : (Jvm.Cond.code ({ cls := "PatternBench$Program", name := "addRow", desc := "()I" } : Jvm.MethodName) prog_6_method_3_code (2 : Nat) (Option.some Jvm.ClassFile.FieldType.int)) ∈ mm_T := tw_of (i := 430) (by decide +kernel) rfl
theorem tw_431 : (Jvm.Cond.methodLink "PatternBench$Reader" (70 : Nat) ({ cls := "PatternBench$Reader", name := "readPart", desc := "()I" } : Jvm.MethodName)) ∈ mm_T := tw_of (i := 431) (by decide +kernel) rfl
theorem tw_433 : (Jvm.Cond.instanceMethod ({ cls := "PatternBench$Reader", name := "readPart", desc := "()I" } : Jvm.MethodName)) ∈ mm_T := tw_of (i := 433) (by decide +kernel) rfl
theorem tw_434 : (Jvm.Cond.code ({ cls := "PatternBench$Reader", name := "readPart", desc := "()I" } : Jvm.MethodName) prog_7_method_3_code (1 : Nat) (Option.some Jvm.ClassFile.FieldType.int)) ∈ mm_T := tw_of (i := 434) (by decide +kernel) rfl
theorem tw_435 : (Jvm.Cond.methodLink "PatternBench$Reader" (83 : Nat) ({ cls := "PatternBench$Reader", name := "ahead", desc := "(I)I" } : Jvm.MethodName)) ∈ mm_T := tw_of (i := 435) (by decide +kernel) rfl
theorem tw_437 : (Jvm.Cond.instanceMethod ({ cls := "PatternBench$Reader", name := "ahead", desc := "(I)I" } : Jvm.MethodName)) ∈ mm_T := tw_of (i := 437) (by decide +kernel) rfl
theorem tw_438 : (Jvm.Cond.code ({ cls := "PatternBench$Reader", name := "ahead", desc := "(I)I" } : Jvm.MethodName) prog_7_method_4_code (2 : Nat) (Option.some Jvm.ClassFile.FieldType.int)) ∈ mm_T := tw_of (i := 438) (by decide +kernel) rfl
theorem tw_439 : (Jvm.Cond.methodLink "PatternBench$Reader" (112 : Nat) ({ cls := "PatternBench$Text", name := "codeAt", desc := "(I)I" } : Jvm.MethodName)) ∈ mm_T := tw_of (i := 439) (by decide +kernel) rfl
theorem tw_440 : (Jvm.Cond.instanceMethod ({ cls := "PatternBench$Text", name := "codeAt", desc := "(I)I" } : Jvm.MethodName)) ∈ mm_T := tw_of (i := 440) (by decide +kernel) rfl
theorem tw_441 : (Jvm.Cond.selects "PatternBench$Text" ({ cls := "PatternBench$Text", name := "codeAt", desc := "(I)I" } : Jvm.MethodName) ({ cls := "PatternBench$Text", name := "codeAt", desc := "(I)I" } : Jvm.MethodName)) ∈ mm_T := tw_of (i := 441) (by decide +kernel) rfl
theorem tw_442 : (Jvm.Cond.code ({ cls := "PatternBench$Text", name := "codeAt", desc := "(I)I" } : Jvm.MethodName) prog_8_method_4_code (2 : Nat) (Option.some Jvm.ClassFile.FieldType.int)) ∈ mm_T := tw_of (i := 442) (by decide +kernel) rfl
theorem tw_443 : (Jvm.Cond.methodLink "PatternBench$Reader" (87 : Nat) ({ cls := "PatternBench$Reader", name := "openNextRow", desc := "()I" } : Jvm.MethodName)) ∈ mm_T := tw_of (i := 443) (by decide +kernel) rfl
theorem tw_445 : (Jvm.Cond.instanceMethod ({ cls := "PatternBench$Reader", name := "openNextRow", desc := "()I" } : Jvm.MethodName)) ∈ mm_T := tw_of (i := 445) (by decide +kernel) rfl
theorem tw_446 : (Jvm.Cond.code ({ cls := "PatternBench$Reader", name := "openNextRow", desc := "()I" } : Jvm.MethodName) prog_7_method_7_code (2 : Nat) (Option.some Jvm.ClassFile.FieldType.int)) ∈ mm_T := tw_of (i := 446) (by decide +kernel) rfl
theorem tw_447 : (Jvm.Cond.methodLink "PatternBench$Reader" (90 : Nat) ({ cls := "PatternBench$Reader", name := "closeChoice", desc := "()I" } : Jvm.MethodName)) ∈ mm_T := tw_of (i := 447) (by decide +kernel) rfl
theorem tw_449 : (Jvm.Cond.instanceMethod ({ cls := "PatternBench$Reader", name := "closeChoice", desc := "()I" } : Jvm.MethodName)) ∈ mm_T := tw_of (i := 449) (by decide +kernel) rfl
theorem tw_450 : (Jvm.Cond.code ({ cls := "PatternBench$Reader", name := "closeChoice", desc := "()I" } : Jvm.MethodName) prog_7_method_10_code (2 : Nat) (Option.some Jvm.ClassFile.FieldType.int)) ∈ mm_T := tw_of (i := 450) (by decide +kernel) rfl
theorem tw_451 : (Jvm.Cond.methodLink "PatternBench$Reader" (124 : Nat) ({ cls := "PatternBench$Reader", name := "refuse", desc := "()I" } : Jvm.MethodName)) ∈ mm_T := tw_of (i := 451) (by decide +kernel) rfl
theorem tw_453 : (Jvm.Cond.instanceMethod ({ cls := "PatternBench$Reader", name := "refuse", desc := "()I" } : Jvm.MethodName)) ∈ mm_T := tw_of (i := 453) (by decide +kernel) rfl
theorem tw_454 : (Jvm.Cond.code ({ cls := "PatternBench$Reader", name := "refuse", desc := "()I" } : Jvm.MethodName) prog_7_method_5_code (1 : Nat) (Option.some Jvm.ClassFile.FieldType.int)) ∈ mm_T := tw_of (i := 454) (by decide +kernel) rfl
theorem tw_455 : (Jvm.Cond.methodLinkNest "PatternBench$Reader" (93 : Nat) ({ cls := "PatternBench", name := "isDigit", desc := "(I)Z" } : Jvm.MethodName) "PatternBench") ∈ mm_N := tw_n (i := 455) (by decide +kernel) rfl
theorem tw_456 : (Jvm.Cond.methodLink "PatternBench$Reader" (97 : Nat) ({ cls := "PatternBench$Reader", name := "readCall", desc := "()I" } : Jvm.MethodName)) ∈ mm_T := tw_of (i := 456) (by decide +kernel) rfl
theorem tw_458 : (Jvm.Cond.instanceMethod ({ cls := "PatternBench$Reader", name := "readCall", desc := "()I" } : Jvm.MethodName)) ∈ mm_T := tw_of (i := 458) (by decide +kernel) rfl
theorem tw_459 : (Jvm.Cond.code ({ cls := "PatternBench$Reader", name := "readCall", desc := "()I" } : Jvm.MethodName) prog_7_method_11_code (2 : Nat) (Option.some Jvm.ClassFile.FieldType.int)) ∈ mm_T := tw_of (i := 459) (by decide +kernel) rfl
theorem tw_460 : (Jvm.Cond.methodLink "PatternBench$Reader" (134 : Nat) ({ cls := "java/lang/Math", name := "max", desc := "(II)I" } : Jvm.MethodName)) ∈ mm_T := tw_of (i := 460) (by decide +kernel) rfl
theorem tw_461 : (Jvm.Cond.methodLink "PatternBench$Reader" (127 : Nat) ({ cls := "PatternBench$Reader", name := "appendItem", desc := "(II)I" } : Jvm.MethodName)) ∈ mm_T := tw_of (i := 461) (by decide +kernel) rfl
theorem tw_463 : (Jvm.Cond.instanceMethod ({ cls := "PatternBench$Reader", name := "appendItem", desc := "(II)I" } : Jvm.MethodName)) ∈ mm_T := tw_of (i := 463) (by decide +kernel) rfl
theorem tw_464 : (Jvm.Cond.code ({ cls := "PatternBench$Reader", name := "appendItem", desc := "(II)I" } : Jvm.MethodName) prog_7_method_17_code (4 : Nat) (Option.some Jvm.ClassFile.FieldType.int)) ∈ mm_T := tw_of (i := 464) (by decide +kernel) rfl
theorem tw_465 : (Jvm.Cond.methodLink "PatternBench$Reader" (149 : Nat) ({ cls := "PatternBench$Program", name := "addItem", desc := "(II)I" } : Jvm.MethodName)) ∈ mm_T := tw_of (i := 465) (by decide +kernel) rfl
theorem tw_466 : (Jvm.Cond.instanceMethod ({ cls := "PatternBench$Program", name := "addItem", desc := "(II)I" } : Jvm.MethodName)) ∈ mm_T := tw_of (i := 466) (by decide +kernel) rfl
theorem tw_467 : (Jvm.Cond.selects "PatternBench$Program" ({ cls := "PatternBench$Program", name := "addItem", desc := "(II)I" } : Jvm.MethodName) ({ cls := "PatternBench$Program", name := "addItem", desc := "(II)I" } : Jvm.MethodName)) ∈ mm_T := tw_of (i := 467) (by decide +kernel) rfl
theorem tw_468 : (Jvm.Cond.code ({ cls := "PatternBench$Program", name := "addItem", desc := "(II)I" } : Jvm.MethodName) prog_6_method_4_code (4 : Nat) (Option.some Jvm.ClassFile.FieldType.int)) ∈ mm_T := tw_of (i := 468) (by decide +kernel) rfl
theorem tw_469 : (Jvm.Cond.methodLink "PatternBench$Reader" (100 : Nat) ({ cls := "PatternBench$Reader", name := "openChoice", desc := "()I" } : Jvm.MethodName)) ∈ mm_T := tw_of (i := 469) (by decide +kernel) rfl
theorem tw_471 : (Jvm.Cond.instanceMethod ({ cls := "PatternBench$Reader", name := "openChoice", desc := "()I" } : Jvm.MethodName)) ∈ mm_T := tw_of (i := 471) (by decide +kernel) rfl
theorem tw_472 : (Jvm.Cond.code ({ cls := "PatternBench$Reader", name := "openChoice", desc := "()I" } : Jvm.MethodName) prog_7_method_8_code (4 : Nat) (Option.some Jvm.ClassFile.FieldType.int)) ∈ mm_T := tw_of (i := 472) (by decide +kernel) rfl
theorem tw_473 : (Jvm.Cond.methodLink "PatternBench$Reader" (121 : Nat) ({ cls := "PatternBench$Reader", name := "kindOfChoice", desc := "()I" } : Jvm.MethodName)) ∈ mm_T := tw_of (i := 473) (by decide +kernel) rfl
theorem tw_475 : (Jvm.Cond.instanceMethod ({ cls := "PatternBench$Reader", name := "kindOfChoice", desc := "()I" } : Jvm.MethodName)) ∈ mm_T := tw_of (i := 475) (by decide +kernel) rfl
theorem tw_476 : (Jvm.Cond.code ({ cls := "PatternBench$Reader", name := "kindOfChoice", desc := "()I" } : Jvm.MethodName) prog_7_method_9_code (1 : Nat) (Option.some Jvm.ClassFile.FieldType.int)) ∈ mm_T := tw_of (i := 476) (by decide +kernel) rfl
theorem tw_477 : (Jvm.Cond.methodLink "PatternBench$Reader" (103 : Nat) ({ cls := "PatternBench$Reader", name := "readClass", desc := "()I" } : Jvm.MethodName)) ∈ mm_T := tw_of (i := 477) (by decide +kernel) rfl
theorem tw_479 : (Jvm.Cond.instanceMethod ({ cls := "PatternBench$Reader", name := "readClass", desc := "()I" } : Jvm.MethodName)) ∈ mm_T := tw_of (i := 479) (by decide +kernel) rfl
theorem tw_480 : (Jvm.Cond.code ({ cls := "PatternBench$Reader", name := "readClass", desc := "()I" } : Jvm.MethodName) prog_7_method_14_code (4 : Nat) (Option.some Jvm.ClassFile.FieldType.int)) ∈ mm_T := tw_of (i := 480) (by decide +kernel) rfl
theorem tw_481 : (Jvm.Cond.methodLinkNest "PatternBench$Reader" (139 : Nat) ({ cls := "PatternBench", name := "isLetter", desc := "(I)Z" } : Jvm.MethodName) "PatternBench") ∈ mm_N := tw_n (i := 481) (by decide +kernel) rfl
theorem tw_482 : (Jvm.Cond.methodLink "PatternBench$Reader" (146 : Nat) ({ cls := "PatternBench$Reader", name := "readClassPart", desc := "()I" } : Jvm.MethodName)) ∈ mm_T := tw_of (i := 482) (by decide +kernel) rfl
theorem tw_484 : (Jvm.Cond.instanceMethod ({ cls := "PatternBench$Reader", name := "readClassPart", desc := "()I" } : Jvm.MethodName)) ∈ mm_T := tw_of (i := 484) (by decide +kernel) rfl
theorem tw_485 : (Jvm.Cond.code ({ cls := "PatternBench$Reader", name := "readClassPart", desc := "()I" } : Jvm.MethodName) prog_7_method_15_code (3 : Nat) (Option.some Jvm.ClassFile.FieldType.int)) ∈ mm_T := tw_of (i := 485) (by decide +kernel) rfl
theorem tw_486 : (Jvm.Cond.methodLink "PatternBench$Reader" (142 : Nat) ({ cls := "PatternBench$Reader", name := "lettersBetween", desc := "(II)I" } : Jvm.MethodName)) ∈ mm_T := tw_of (i := 486) (by decide +kernel) rfl
theorem tw_487 : (Jvm.Cond.static ({ cls := "PatternBench$Reader", name := "lettersBetween", desc := "(II)I" } : Jvm.MethodName)) ∈ mm_T := tw_of (i := 487) (by decide +kernel) rfl
theorem tw_488 : (Jvm.Cond.code ({ cls := "PatternBench$Reader", name := "lettersBetween", desc := "(II)I" } : Jvm.MethodName) prog_7_method_16_code (2 : Nat) (Option.some Jvm.ClassFile.FieldType.int)) ∈ mm_T := tw_of (i := 488) (by decide +kernel) rfl
theorem tw_489 : (Jvm.Cond.constant "PatternBench$Reader" (145 : Nat) (67108863 : Int32)) ∈ mm_T := tw_of (i := 489) (by decide +kernel) rfl
theorem tw_490 : (Jvm.Cond.methodLink "PatternBench$Reader" (106 : Nat) ({ cls := "PatternBench$Reader", name := "readReference", desc := "()I" } : Jvm.MethodName)) ∈ mm_T := tw_of (i := 490) (by decide +kernel) rfl
theorem tw_492 : (Jvm.Cond.instanceMethod ({ cls := "PatternBench$Reader", name := "readReference", desc := "()I" } : Jvm.MethodName)) ∈ mm_T := tw_of (i := 492) (by decide +kernel) rfl
theorem tw_493 : (Jvm.Cond.code ({ cls := "PatternBench$Reader", name := "readReference", desc := "()I" } : Jvm.MethodName) prog_7_method_12_code (2 : Nat) (Option.some Jvm.ClassFile.FieldType.int)) ∈ mm_T := tw_of (i := 493) (by decide +kernel) rfl
theorem tw_494 : (Jvm.Cond.methodLink "PatternBench$Reader" (109 : Nat) ({ cls := "PatternBench$Reader", name := "readSign", desc := "()I" } : Jvm.MethodName)) ∈ mm_T := tw_of (i := 494) (by decide +kernel) rfl
theorem tw_496 : (Jvm.Cond.instanceMethod ({ cls := "PatternBench$Reader", name := "readSign", desc := "()I" } : Jvm.MethodName)) ∈ mm_T := tw_of (i := 496) (by decide +kernel) rfl
theorem tw_497 : (Jvm.Cond.code ({ cls := "PatternBench$Reader", name := "readSign", desc := "()I" } : Jvm.MethodName) prog_7_method_13_code (2 : Nat) (Option.some Jvm.ClassFile.FieldType.int)) ∈ mm_T := tw_of (i := 497) (by decide +kernel) rfl
theorem tw_498 : (Jvm.Cond.methodLink "PatternBench$Reader" (74 : Nat) ({ cls := "PatternBench$Reader", name := "readRepeat", desc := "(I)V" } : Jvm.MethodName)) ∈ mm_T := tw_of (i := 498) (by decide +kernel) rfl
theorem tw_500 : (Jvm.Cond.instanceMethod ({ cls := "PatternBench$Reader", name := "readRepeat", desc := "(I)V" } : Jvm.MethodName)) ∈ mm_T := tw_of (i := 500) (by decide +kernel) rfl
theorem tw_501 : (Jvm.Cond.code ({ cls := "PatternBench$Reader", name := "readRepeat", desc := "(I)V" } : Jvm.MethodName) prog_7_method_18_code (2 : Nat) (Option.none : Option Jvm.ClassFile.FieldType)) ∈ mm_T := tw_of (i := 501) (by decide +kernel) rfl
theorem tw_502 : (Jvm.Cond.methodLink "PatternBench$Reader" (158 : Nat) ({ cls := "PatternBench$Reader", name := "setRepeat", desc := "(IIII)V" } : Jvm.MethodName)) ∈ mm_T := tw_of (i := 502) (by decide +kernel) rfl
theorem tw_504 : (Jvm.Cond.instanceMethod ({ cls := "PatternBench$Reader", name := "setRepeat", desc := "(IIII)V" } : Jvm.MethodName)) ∈ mm_T := tw_of (i := 504) (by decide +kernel) rfl
theorem tw_505 : (Jvm.Cond.code ({ cls := "PatternBench$Reader", name := "setRepeat", desc := "(IIII)V" } : Jvm.MethodName) prog_7_method_20_code (5 : Nat) (Option.none : Option Jvm.ClassFile.FieldType)) ∈ mm_T := tw_of (i := 505) (by decide +kernel) rfl
theorem tw_506 : (Jvm.Cond.methodLink "PatternBench$Reader" (162 : Nat) ({ cls := "PatternBench$Reader", name := "readTimes", desc := "(I)V" } : Jvm.MethodName)) ∈ mm_T := tw_of (i := 506) (by decide +kernel) rfl
theorem tw_508 : (Jvm.Cond.instanceMethod ({ cls := "PatternBench$Reader", name := "readTimes", desc := "(I)V" } : Jvm.MethodName)) ∈ mm_T := tw_of (i := 508) (by decide +kernel) rfl
theorem tw_509 : (Jvm.Cond.code ({ cls := "PatternBench$Reader", name := "readTimes", desc := "(I)V" } : Jvm.MethodName) prog_7_method_19_code (3 : Nat) (Option.none : Option Jvm.ClassFile.FieldType)) ∈ mm_T := tw_of (i := 509) (by decide +kernel) rfl
theorem tw_510 : (Jvm.Cond.methodLink "PatternBenchLaw" (31 : Nat) ({ cls := "PatternBench", name := "feed", desc := "(I)I" } : Jvm.MethodName)) ∈ mm_T := tw_of (i := 510) (by decide +kernel) rfl
theorem tw_511 : (Jvm.Cond.instanceMethod ({ cls := "PatternBench", name := "feed", desc := "(I)I" } : Jvm.MethodName)) ∈ mm_T := tw_of (i := 511) (by decide +kernel) rfl
theorem tw_512 : (Jvm.Cond.selects "PatternBench" ({ cls := "PatternBench", name := "feed", desc := "(I)I" } : Jvm.MethodName) ({ cls := "PatternBench", name := "feed", desc := "(I)I" } : Jvm.MethodName)) ∈ mm_T := tw_of (i := 512) (by decide +kernel) rfl
theorem tw_513 : (Jvm.Cond.code ({ cls := "PatternBench", name := "feed", desc := "(I)I" } : Jvm.MethodName) prog_1_method_4_code (2 : Nat) (Option.some Jvm.ClassFile.FieldType.int)) ∈ mm_T := tw_of (i := 513) (by decide +kernel) rfl
theorem tw_514 : (Jvm.Cond.methodLink "PatternBenchLaw" (35 : Nat) ({ cls := "PatternBench", name := "clear", desc := "()I" } : Jvm.MethodName)) ∈ mm_T := tw_of (i := 514) (by decide +kernel) rfl
theorem tw_515 : (Jvm.Cond.instanceMethod ({ cls := "PatternBench", name := "clear", desc := "()I" } : Jvm.MethodName)) ∈ mm_T := tw_of (i := 515) (by decide +kernel) rfl
theorem tw_516 : (Jvm.Cond.selects "PatternBench" ({ cls := "PatternBench", name := "clear", desc := "()I" } : Jvm.MethodName) ({ cls := "PatternBench", name := "clear", desc := "()I" } : Jvm.MethodName)) ∈ mm_T := tw_of (i := 516) (by decide +kernel) rfl
theorem tw_517 : (Jvm.Cond.code ({ cls := "PatternBench", name := "clear", desc := "()I" } : Jvm.MethodName) prog_1_method_5_code (2 : Nat) (Option.some Jvm.ClassFile.FieldType.int)) ∈ mm_T := tw_of (i := 517) (by decide +kernel) rfl
theorem tw_518 : (Jvm.Cond.methodLink "PatternBenchLaw" (39 : Nat) ({ cls := "PatternBench", name := "search", desc := "(I)I" } : Jvm.MethodName)) ∈ mm_T := tw_of (i := 518) (by decide +kernel) rfl
theorem tw_519 : (Jvm.Cond.instanceMethod ({ cls := "PatternBench", name := "search", desc := "(I)I" } : Jvm.MethodName)) ∈ mm_T := tw_of (i := 519) (by decide +kernel) rfl
theorem tw_520 : (Jvm.Cond.selects "PatternBench" ({ cls := "PatternBench", name := "search", desc := "(I)I" } : Jvm.MethodName) ({ cls := "PatternBench", name := "search", desc := "(I)I" } : Jvm.MethodName)) ∈ mm_T := tw_of (i := 520) (by decide +kernel) rfl
theorem tw_521 : (Jvm.Cond.code ({ cls := "PatternBench", name := "search", desc := "(I)I" } : Jvm.MethodName) prog_1_method_6_code (2 : Nat) (Option.some Jvm.ClassFile.FieldType.int)) ∈ mm_T := tw_of (i := 521) (by decide +kernel) rfl
theorem tw_522 : (Jvm.Cond.methodLink "PatternBench" (98 : Nat) ({ cls := "PatternBench", name := "searchFrom", desc := "(I)I" } : Jvm.MethodName)) ∈ mm_T := tw_of (i := 522) (by decide +kernel) rfl
theorem tw_524 : (Jvm.Cond.instanceMethod ({ cls := "PatternBench", name := "searchFrom", desc := "(I)I" } : Jvm.MethodName)) ∈ mm_T := tw_of (i := 524) (by decide +kernel) rfl
theorem tw_525 : (Jvm.Cond.code ({ cls := "PatternBench", name := "searchFrom", desc := "(I)I" } : Jvm.MethodName) prog_1_method_13_code (3 : Nat) (Option.some Jvm.ClassFile.FieldType.int)) ∈ mm_T := tw_of (i := 525) (by decide +kernel) rfl
theorem tw_526 : (Jvm.Cond.methodLink "PatternBench" (114 : Nat) ({ cls := "PatternBench$Matcher", name := "find", desc := "(I)I" } : Jvm.MethodName)) ∈ mm_T := tw_of (i := 526) (by decide +kernel) rfl
theorem tw_527 : (Jvm.Cond.instanceMethod ({ cls := "PatternBench$Matcher", name := "find", desc := "(I)I" } : Jvm.MethodName)) ∈ mm_T := tw_of (i := 527) (by decide +kernel) rfl
theorem tw_528 : (Jvm.Cond.selects "PatternBench$Matcher" ({ cls := "PatternBench$Matcher", name := "find", desc := "(I)I" } : Jvm.MethodName) ({ cls := "PatternBench$Matcher", name := "find", desc := "(I)I" } : Jvm.MethodName)) ∈ mm_T := tw_of (i := 528) (by decide +kernel) rfl
theorem tw_529 : (Jvm.Cond.code ({ cls := "PatternBench$Matcher", name := "find", desc := "(I)I" } : Jvm.MethodName) prog_5_method_2_code (4 : Nat) (Option.some Jvm.ClassFile.FieldType.int)) ∈ mm_T := tw_of (i := 529) (by decide +kernel) rfl
theorem tw_530 : (Jvm.Cond.methodLink "PatternBench$Matcher" (67 : Nat) ({ cls := "PatternBench$Matcher", name := "beginAt", desc := "(I)V" } : Jvm.MethodName)) ∈ mm_T := tw_of (i := 530) (by decide +kernel) rfl
theorem tw_532 : (Jvm.Cond.instanceMethod ({ cls := "PatternBench$Matcher", name := "beginAt", desc := "(I)V" } : Jvm.MethodName)) ∈ mm_T := tw_of (i := 532) (by decide +kernel) rfl
theorem tw_533 : (Jvm.Cond.code ({ cls := "PatternBench$Matcher", name := "beginAt", desc := "(I)V" } : Jvm.MethodName) prog_5_method_3_code (2 : Nat) (Option.none : Option Jvm.ClassFile.FieldType)) ∈ mm_T := tw_of (i := 533) (by decide +kernel) rfl
theorem tw_534 : (Jvm.Cond.methodLink "PatternBench$Matcher" (78 : Nat) ({ cls := "PatternBench$Frames", name := "empty", desc := "()V" } : Jvm.MethodName)) ∈ mm_T := tw_of (i := 534) (by decide +kernel) rfl
theorem tw_535 : (Jvm.Cond.instanceMethod ({ cls := "PatternBench$Frames", name := "empty", desc := "()V" } : Jvm.MethodName)) ∈ mm_T := tw_of (i := 535) (by decide +kernel) rfl
theorem tw_536 : (Jvm.Cond.selects "PatternBench$Frames" ({ cls := "PatternBench$Frames", name := "empty", desc := "()V" } : Jvm.MethodName) ({ cls := "PatternBench$Frames", name := "empty", desc := "()V" } : Jvm.MethodName)) ∈ mm_T := tw_of (i := 536) (by decide +kernel) rfl
theorem tw_537 : (Jvm.Cond.code ({ cls := "PatternBench$Frames", name := "empty", desc := "()V" } : Jvm.MethodName) prog_4_method_2_code (1 : Nat) (Option.none : Option Jvm.ClassFile.FieldType)) ∈ mm_T := tw_of (i := 537) (by decide +kernel) rfl
theorem tw_538 : (Jvm.Cond.methodLink "PatternBench$Matcher" (81 : Nat) ({ cls := "PatternBench$Choices", name := "cutTo", desc := "(I)V" } : Jvm.MethodName)) ∈ mm_T := tw_of (i := 538) (by decide +kernel) rfl
theorem tw_539 : (Jvm.Cond.instanceMethod ({ cls := "PatternBench$Choices", name := "cutTo", desc := "(I)V" } : Jvm.MethodName)) ∈ mm_T := tw_of (i := 539) (by decide +kernel) rfl
theorem tw_540 : (Jvm.Cond.selects "PatternBench$Choices" ({ cls := "PatternBench$Choices", name := "cutTo", desc := "(I)V" } : Jvm.MethodName) ({ cls := "PatternBench$Choices", name := "cutTo", desc := "(I)V" } : Jvm.MethodName)) ∈ mm_T := tw_of (i := 540) (by decide +kernel) rfl
theorem tw_541 : (Jvm.Cond.code ({ cls := "PatternBench$Choices", name := "cutTo", desc := "(I)V" } : Jvm.MethodName) prog_3_method_4_code (2 : Nat) (Option.none : Option Jvm.ClassFile.FieldType)) ∈ mm_T := tw_of (i := 541) (by decide +kernel) rfl
theorem tw_542 : (Jvm.Cond.methodLink "PatternBench$Matcher" (88 : Nat) ({ cls := "PatternBench$Matcher", name := "go", desc := "(II)V" } : Jvm.MethodName)) ∈ mm_T := tw_of (i := 542) (by decide +kernel) rfl
theorem tw_544 : (Jvm.Cond.instanceMethod ({ cls := "PatternBench$Matcher", name := "go", desc := "(II)V" } : Jvm.MethodName)) ∈ mm_T := tw_of (i := 544) (by decide +kernel) rfl
theorem tw_545 : (Jvm.Cond.code ({ cls := "PatternBench$Matcher", name := "go", desc := "(II)V" } : Jvm.MethodName) prog_5_method_5_code (3 : Nat) (Option.none : Option Jvm.ClassFile.FieldType)) ∈ mm_T := tw_of (i := 545) (by decide +kernel) rfl
theorem tw_546 : (Jvm.Cond.constant "PatternBench$Matcher" (70 : Nat) (1000000 : Int32)) ∈ mm_T := tw_of (i := 546) (by decide +kernel) rfl
theorem tw_547 : (Jvm.Cond.methodLink "PatternBench$Matcher" (71 : Nat) ({ cls := "PatternBench$Matcher", name := "goesOn", desc := "()Z" } : Jvm.MethodName)) ∈ mm_T := tw_of (i := 547) (by decide +kernel) rfl
theorem tw_549 : (Jvm.Cond.instanceMethod ({ cls := "PatternBench$Matcher", name := "goesOn", desc := "()Z" } : Jvm.MethodName)) ∈ mm_T := tw_of (i := 549) (by decide +kernel) rfl
theorem tw_550 : (Jvm.Cond.code ({ cls := "PatternBench$Matcher", name := "goesOn", desc := "()Z" } : Jvm.MethodName) prog_5_method_4_code (1 : Nat) (Option.some Jvm.ClassFile.FieldType.boolean)) ∈ mm_T := tw_of (i := 550) (by decide +kernel) rfl
theorem tw_551 : (Jvm.Cond.methodLink "PatternBench$Matcher" (92 : Nat) ({ cls := "PatternBench$Frames", name := "hasRoom", desc := "(I)Z" } : Jvm.MethodName)) ∈ mm_T := tw_of (i := 551) (by decide +kernel) rfl
theorem tw_552 : (Jvm.Cond.instanceMethod ({ cls := "PatternBench$Frames", name := "hasRoom", desc := "(I)Z" } : Jvm.MethodName)) ∈ mm_T := tw_of (i := 552) (by decide +kernel) rfl
theorem tw_553 : (Jvm.Cond.selects "PatternBench$Frames" ({ cls := "PatternBench$Frames", name := "hasRoom", desc := "(I)Z" } : Jvm.MethodName) ({ cls := "PatternBench$Frames", name := "hasRoom", desc := "(I)Z" } : Jvm.MethodName)) ∈ mm_T := tw_of (i := 553) (by decide +kernel) rfl
theorem tw_554 : (Jvm.Cond.code ({ cls := "PatternBench$Frames", name := "hasRoom", desc := "(I)Z" } : Jvm.MethodName) prog_4_method_3_code (2 : Nat) (Option.some Jvm.ClassFile.FieldType.boolean)) ∈ mm_T := tw_of (i := 554) (by decide +kernel) rfl
theorem tw_555 : (Jvm.Cond.methodLink "PatternBench$Matcher" (96 : Nat) ({ cls := "PatternBench$Choices", name := "hasRoom", desc := "(I)Z" } : Jvm.MethodName)) ∈ mm_T := tw_of (i := 555) (by decide +kernel) rfl
theorem tw_556 : (Jvm.Cond.instanceMethod ({ cls := "PatternBench$Choices", name := "hasRoom", desc := "(I)Z" } : Jvm.MethodName)) ∈ mm_T := tw_of (i := 556) (by decide +kernel) rfl
theorem tw_557 : (Jvm.Cond.selects "PatternBench$Choices" ({ cls := "PatternBench$Choices", name := "hasRoom", desc := "(I)Z" } : Jvm.MethodName) ({ cls := "PatternBench$Choices", name := "hasRoom", desc := "(I)Z" } : Jvm.MethodName)) ∈ mm_T := tw_of (i := 557) (by decide +kernel) rfl
theorem tw_558 : (Jvm.Cond.code ({ cls := "PatternBench$Choices", name := "hasRoom", desc := "(I)Z" } : Jvm.MethodName) prog_3_method_2_code (2 : Nat) (Option.some Jvm.ClassFile.FieldType.boolean)) ∈ mm_T := tw_of (i := 558) (by decide +kernel) rfl
theorem tw_559 : (Jvm.Cond.methodLink "PatternBench$Matcher" (75 : Nat) ({ cls := "PatternBench$Matcher", name := "takeTurn", desc := "()V" } : Jvm.MethodName)) ∈ mm_T := tw_of (i := 559) (by decide +kernel) rfl
theorem tw_561 : (Jvm.Cond.instanceMethod ({ cls := "PatternBench$Matcher", name := "takeTurn", desc := "()V" } : Jvm.MethodName)) ∈ mm_T := tw_of (i := 561) (by decide +kernel) rfl
theorem tw_562 : (Jvm.Cond.code ({ cls := "PatternBench$Matcher", name := "takeTurn", desc := "()V" } : Jvm.MethodName) prog_5_method_6_code (1 : Nat) (Option.none : Option Jvm.ClassFile.FieldType)) ∈ mm_T := tw_of (i := 562) (by decide +kernel) rfl
theorem tw_563 : (Jvm.Cond.methodLink "PatternBench$Matcher" (97 : Nat) ({ cls := "PatternBench$Matcher", name := "enterRow", desc := "(I)V" } : Jvm.MethodName)) ∈ mm_T := tw_of (i := 563) (by decide +kernel) rfl
theorem tw_565 : (Jvm.Cond.instanceMethod ({ cls := "PatternBench$Matcher", name := "enterRow", desc := "(I)V" } : Jvm.MethodName)) ∈ mm_T := tw_of (i := 565) (by decide +kernel) rfl
theorem tw_566 : (Jvm.Cond.code ({ cls := "PatternBench$Matcher", name := "enterRow", desc := "(I)V" } : Jvm.MethodName) prog_5_method_7_code (3 : Nat) (Option.none : Option Jvm.ClassFile.FieldType)) ∈ mm_T := tw_of (i := 566) (by decide +kernel) rfl
theorem tw_567 : (Jvm.Cond.methodLink "PatternBench$Matcher" (124 : Nat) ({ cls := "PatternBench$Choices", name := "add", desc := "(IIIJI)V" } : Jvm.MethodName)) ∈ mm_T := tw_of (i := 567) (by decide +kernel) rfl
theorem tw_568 : (Jvm.Cond.instanceMethod ({ cls := "PatternBench$Choices", name := "add", desc := "(IIIJI)V" } : Jvm.MethodName)) ∈ mm_T := tw_of (i := 568) (by decide +kernel) rfl
theorem tw_569 : (Jvm.Cond.selects "PatternBench$Choices" ({ cls := "PatternBench$Choices", name := "add", desc := "(IIIJI)V" } : Jvm.MethodName) ({ cls := "PatternBench$Choices", name := "add", desc := "(IIIJI)V" } : Jvm.MethodName)) ∈ mm_T := tw_of (i := 569) (by decide +kernel) rfl
theorem tw_570 : (Jvm.Cond.code ({ cls := "PatternBench$Choices", name := "add", desc := "(IIIJI)V" } : Jvm.MethodName) prog_3_method_3_code (7 : Nat) (Option.none : Option Jvm.ClassFile.FieldType)) ∈ mm_T := tw_of (i := 570) (by decide +kernel) rfl
theorem tw_571 : (Jvm.Cond.methodLink "PatternBench$Matcher" (100 : Nat) ({ cls := "PatternBench$Matcher", name := "enterItem", desc := "(I)V" } : Jvm.MethodName)) ∈ mm_T := tw_of (i := 571) (by decide +kernel) rfl
theorem tw_573 : (Jvm.Cond.instanceMethod ({ cls := "PatternBench$Matcher", name := "enterItem", desc := "(I)V" } : Jvm.MethodName)) ∈ mm_T := tw_of (i := 573) (by decide +kernel) rfl
theorem tw_574 : (Jvm.Cond.code ({ cls := "PatternBench$Matcher", name := "enterItem", desc := "(I)V" } : Jvm.MethodName) prog_5_method_8_code (3 : Nat) (Option.none : Option Jvm.ClassFile.FieldType)) ∈ mm_T := tw_of (i := 574) (by decide +kernel) rfl
theorem tw_575 : (Jvm.Cond.methodLink "PatternBench$Matcher" (143 : Nat) ({ cls := "PatternBench$Frames", name := "add", desc := "(IIIIJI)I" } : Jvm.MethodName)) ∈ mm_T := tw_of (i := 575) (by decide +kernel) rfl
theorem tw_576 : (Jvm.Cond.instanceMethod ({ cls := "PatternBench$Frames", name := "add", desc := "(IIIIJI)I" } : Jvm.MethodName)) ∈ mm_T := tw_of (i := 576) (by decide +kernel) rfl
theorem tw_577 : (Jvm.Cond.selects "PatternBench$Frames" ({ cls := "PatternBench$Frames", name := "add", desc := "(IIIIJI)I" } : Jvm.MethodName) ({ cls := "PatternBench$Frames", name := "add", desc := "(IIIIJI)I" } : Jvm.MethodName)) ∈ mm_T := tw_of (i := 577) (by decide +kernel) rfl
theorem tw_578 : (Jvm.Cond.code ({ cls := "PatternBench$Frames", name := "add", desc := "(IIIIJI)I" } : Jvm.MethodName) prog_4_method_4_code (9 : Nat) (Option.some Jvm.ClassFile.FieldType.int)) ∈ mm_T := tw_of (i := 578) (by decide +kernel) rfl
theorem tw_579 : (Jvm.Cond.methodLink "PatternBench$Matcher" (146 : Nat) ({ cls := "PatternBench$Matcher", name := "fork", desc := "(I)V" } : Jvm.MethodName)) ∈ mm_T := tw_of (i := 579) (by decide +kernel) rfl
theorem tw_581 : (Jvm.Cond.instanceMethod ({ cls := "PatternBench$Matcher", name := "fork", desc := "(I)V" } : Jvm.MethodName)) ∈ mm_T := tw_of (i := 581) (by decide +kernel) rfl
theorem tw_582 : (Jvm.Cond.code ({ cls := "PatternBench$Matcher", name := "fork", desc := "(I)V" } : Jvm.MethodName) prog_5_method_9_code (3 : Nat) (Option.none : Option Jvm.ClassFile.FieldType)) ∈ mm_T := tw_of (i := 582) (by decide +kernel) rfl
theorem tw_583 : (Jvm.Cond.methodLink "PatternBench$Matcher" (103 : Nat) ({ cls := "PatternBench$Matcher", name := "tryAtom", desc := "(I)V" } : Jvm.MethodName)) ∈ mm_T := tw_of (i := 583) (by decide +kernel) rfl
theorem tw_585 : (Jvm.Cond.instanceMethod ({ cls := "PatternBench$Matcher", name := "tryAtom", desc := "(I)V" } : Jvm.MethodName)) ∈ mm_T := tw_of (i := 585) (by decide +kernel) rfl
theorem tw_586 : (Jvm.Cond.code ({ cls := "PatternBench$Matcher", name := "tryAtom", desc := "(I)V" } : Jvm.MethodName) prog_5_method_10_code (2 : Nat) (Option.none : Option Jvm.ClassFile.FieldType)) ∈ mm_T := tw_of (i := 586) (by decide +kernel) rfl
theorem tw_587 : (Jvm.Cond.methodLink "PatternBench$Matcher" (106 : Nat) ({ cls := "PatternBench$Matcher", name := "ask", desc := "(I)V" } : Jvm.MethodName)) ∈ mm_T := tw_of (i := 587) (by decide +kernel) rfl
theorem tw_589 : (Jvm.Cond.instanceMethod ({ cls := "PatternBench$Matcher", name := "ask", desc := "(I)V" } : Jvm.MethodName)) ∈ mm_T := tw_of (i := 589) (by decide +kernel) rfl
theorem tw_590 : (Jvm.Cond.code ({ cls := "PatternBench$Matcher", name := "ask", desc := "(I)V" } : Jvm.MethodName) prog_5_method_14_code (2 : Nat) (Option.none : Option Jvm.ClassFile.FieldType)) ∈ mm_T := tw_of (i := 590) (by decide +kernel) rfl
theorem tw_591 : (Jvm.Cond.methodLink "PatternBench$Matcher" (166 : Nat) ({ cls := "PatternBench$Matcher", name := "askLetter", desc := "(I)V" } : Jvm.MethodName)) ∈ mm_T := tw_of (i := 591) (by decide +kernel) rfl
theorem tw_593 : (Jvm.Cond.instanceMethod ({ cls := "PatternBench$Matcher", name := "askLetter", desc := "(I)V" } : Jvm.MethodName)) ∈ mm_T := tw_of (i := 593) (by decide +kernel) rfl
theorem tw_594 : (Jvm.Cond.code ({ cls := "PatternBench$Matcher", name := "askLetter", desc := "(I)V" } : Jvm.MethodName) prog_5_method_15_code (2 : Nat) (Option.none : Option Jvm.ClassFile.FieldType)) ∈ mm_T := tw_of (i := 594) (by decide +kernel) rfl
theorem tw_595 : (Jvm.Cond.methodLink "PatternBench$Matcher" (172 : Nat) ({ cls := "PatternBench$Matcher", name := "askSame", desc := "(I)V" } : Jvm.MethodName)) ∈ mm_T := tw_of (i := 595) (by decide +kernel) rfl
theorem tw_597 : (Jvm.Cond.instanceMethod ({ cls := "PatternBench$Matcher", name := "askSame", desc := "(I)V" } : Jvm.MethodName)) ∈ mm_T := tw_of (i := 597) (by decide +kernel) rfl
theorem tw_598 : (Jvm.Cond.code ({ cls := "PatternBench$Matcher", name := "askSame", desc := "(I)V" } : Jvm.MethodName) prog_5_method_16_code (4 : Nat) (Option.none : Option Jvm.ClassFile.FieldType)) ∈ mm_T := tw_of (i := 598) (by decide +kernel) rfl
theorem tw_599 : (Jvm.Cond.methodLink "PatternBench$Matcher" (184 : Nat) ({ cls := "PatternBench$Captures", name := "from", desc := "(JI)I" } : Jvm.MethodName)) ∈ mm_T := tw_of (i := 599) (by decide +kernel) rfl
theorem tw_600 : (Jvm.Cond.static ({ cls := "PatternBench$Captures", name := "from", desc := "(JI)I" } : Jvm.MethodName)) ∈ mm_T := tw_of (i := 600) (by decide +kernel) rfl
theorem tw_601 : (Jvm.Cond.code ({ cls := "PatternBench$Captures", name := "from", desc := "(JI)I" } : Jvm.MethodName) prog_2_method_3_code (4 : Nat) (Option.some Jvm.ClassFile.FieldType.int)) ∈ mm_T := tw_of (i := 601) (by decide +kernel) rfl
theorem tw_602 : (Jvm.Cond.methodLink "PatternBench$Matcher" (190 : Nat) ({ cls := "PatternBench$Captures", name := "to", desc := "(JI)I" } : Jvm.MethodName)) ∈ mm_T := tw_of (i := 602) (by decide +kernel) rfl
theorem tw_603 : (Jvm.Cond.static ({ cls := "PatternBench$Captures", name := "to", desc := "(JI)I" } : Jvm.MethodName)) ∈ mm_T := tw_of (i := 603) (by decide +kernel) rfl
theorem tw_604 : (Jvm.Cond.code ({ cls := "PatternBench$Captures", name := "to", desc := "(JI)I" } : Jvm.MethodName) prog_2_method_4_code (4 : Nat) (Option.some Jvm.ClassFile.FieldType.int)) ∈ mm_T := tw_of (i := 604) (by decide +kernel) rfl
theorem tw_605 : (Jvm.Cond.methodLink "PatternBench$Matcher" (193 : Nat) ({ cls := "PatternBench$Matcher", name := "standsHere", desc := "(II)Z" } : Jvm.MethodName)) ∈ mm_T := tw_of (i := 605) (by decide +kernel) rfl
theorem tw_607 : (Jvm.Cond.instanceMethod ({ cls := "PatternBench$Matcher", name := "standsHere", desc := "(II)Z" } : Jvm.MethodName)) ∈ mm_T := tw_of (i := 607) (by decide +kernel) rfl
theorem tw_608 : (Jvm.Cond.code ({ cls := "PatternBench$Matcher", name := "standsHere", desc := "(II)Z" } : Jvm.MethodName) prog_5_method_17_code (4 : Nat) (Option.some Jvm.ClassFile.FieldType.boolean)) ∈ mm_T := tw_of (i := 608) (by decide +kernel) rfl
theorem tw_609 : (Jvm.Cond.methodLink "PatternBench$Matcher" (175 : Nat) ({ cls := "PatternBench$Matcher", name := "askCall", desc := "(I)V" } : Jvm.MethodName)) ∈ mm_T := tw_of (i := 609) (by decide +kernel) rfl
theorem tw_611 : (Jvm.Cond.instanceMethod ({ cls := "PatternBench$Matcher", name := "askCall", desc := "(I)V" } : Jvm.MethodName)) ∈ mm_T := tw_of (i := 611) (by decide +kernel) rfl
theorem tw_612 : (Jvm.Cond.code ({ cls := "PatternBench$Matcher", name := "askCall", desc := "(I)V" } : Jvm.MethodName) prog_5_method_18_code (2 : Nat) (Option.none : Option Jvm.ClassFile.FieldType)) ∈ mm_T := tw_of (i := 612) (by decide +kernel) rfl
theorem tw_613 : (Jvm.Cond.methodLink "PatternBench$Matcher" (178 : Nat) ({ cls := "PatternBench$Matcher", name := "askBody", desc := "(I)V" } : Jvm.MethodName)) ∈ mm_T := tw_of (i := 613) (by decide +kernel) rfl
theorem tw_615 : (Jvm.Cond.instanceMethod ({ cls := "PatternBench$Matcher", name := "askBody", desc := "(I)V" } : Jvm.MethodName)) ∈ mm_T := tw_of (i := 615) (by decide +kernel) rfl
theorem tw_616 : (Jvm.Cond.code ({ cls := "PatternBench$Matcher", name := "askBody", desc := "(I)V" } : Jvm.MethodName) prog_5_method_19_code (3 : Nat) (Option.none : Option Jvm.ClassFile.FieldType)) ∈ mm_T := tw_of (i := 616) (by decide +kernel) rfl
theorem tw_617 : (Jvm.Cond.methodLink "PatternBench$Matcher" (109 : Nat) ({ cls := "PatternBench$Matcher", name := "goAfterAtom", desc := "(I)V" } : Jvm.MethodName)) ∈ mm_T := tw_of (i := 617) (by decide +kernel) rfl
theorem tw_619 : (Jvm.Cond.instanceMethod ({ cls := "PatternBench$Matcher", name := "goAfterAtom", desc := "(I)V" } : Jvm.MethodName)) ∈ mm_T := tw_of (i := 619) (by decide +kernel) rfl
theorem tw_620 : (Jvm.Cond.code ({ cls := "PatternBench$Matcher", name := "goAfterAtom", desc := "(I)V" } : Jvm.MethodName) prog_5_method_11_code (3 : Nat) (Option.none : Option Jvm.ClassFile.FieldType)) ∈ mm_T := tw_of (i := 620) (by decide +kernel) rfl
theorem tw_621 : (Jvm.Cond.methodLink "PatternBench$Matcher" (112 : Nat) ({ cls := "PatternBench$Matcher", name := "goAfterItem", desc := "(I)V" } : Jvm.MethodName)) ∈ mm_T := tw_of (i := 621) (by decide +kernel) rfl
theorem tw_623 : (Jvm.Cond.instanceMethod ({ cls := "PatternBench$Matcher", name := "goAfterItem", desc := "(I)V" } : Jvm.MethodName)) ∈ mm_T := tw_of (i := 623) (by decide +kernel) rfl
theorem tw_624 : (Jvm.Cond.code ({ cls := "PatternBench$Matcher", name := "goAfterItem", desc := "(I)V" } : Jvm.MethodName) prog_5_method_12_code (2 : Nat) (Option.none : Option Jvm.ClassFile.FieldType)) ∈ mm_T := tw_of (i := 624) (by decide +kernel) rfl
theorem tw_625 : (Jvm.Cond.methodLink "PatternBench$Matcher" (115 : Nat) ({ cls := "PatternBench$Matcher", name := "resume", desc := "(I)V" } : Jvm.MethodName)) ∈ mm_T := tw_of (i := 625) (by decide +kernel) rfl
theorem tw_627 : (Jvm.Cond.instanceMethod ({ cls := "PatternBench$Matcher", name := "resume", desc := "(I)V" } : Jvm.MethodName)) ∈ mm_T := tw_of (i := 627) (by decide +kernel) rfl
theorem tw_628 : (Jvm.Cond.code ({ cls := "PatternBench$Matcher", name := "resume", desc := "(I)V" } : Jvm.MethodName) prog_5_method_20_code (3 : Nat) (Option.none : Option Jvm.ClassFile.FieldType)) ∈ mm_T := tw_of (i := 628) (by decide +kernel) rfl
theorem tw_629 : (Jvm.Cond.methodLink "PatternBench$Matcher" (210 : Nat) ({ cls := "PatternBench$Matcher", name := "leaveBody", desc := "(II)V" } : Jvm.MethodName)) ∈ mm_T := tw_of (i := 629) (by decide +kernel) rfl
theorem tw_631 : (Jvm.Cond.instanceMethod ({ cls := "PatternBench$Matcher", name := "leaveBody", desc := "(II)V" } : Jvm.MethodName)) ∈ mm_T := tw_of (i := 631) (by decide +kernel) rfl
theorem tw_632 : (Jvm.Cond.code ({ cls := "PatternBench$Matcher", name := "leaveBody", desc := "(II)V" } : Jvm.MethodName) prog_5_method_22_code (4 : Nat) (Option.none : Option Jvm.ClassFile.FieldType)) ∈ mm_T := tw_of (i := 632) (by decide +kernel) rfl
theorem tw_633 : (Jvm.Cond.methodLink "PatternBench$Matcher" (221 : Nat) ({ cls := "PatternBench$Captures", name := "with", desc := "(JIII)J" } : Jvm.MethodName)) ∈ mm_T := tw_of (i := 633) (by decide +kernel) rfl
theorem tw_634 : (Jvm.Cond.static ({ cls := "PatternBench$Captures", name := "with", desc := "(JIII)J" } : Jvm.MethodName)) ∈ mm_T := tw_of (i := 634) (by decide +kernel) rfl
theorem tw_635 : (Jvm.Cond.code ({ cls := "PatternBench$Captures", name := "with", desc := "(JIII)J" } : Jvm.MethodName) prog_2_method_2_code (8 : Nat) (Option.some Jvm.ClassFile.FieldType.long)) ∈ mm_T := tw_of (i := 635) (by decide +kernel) rfl
theorem tw_636 : (Jvm.Cond.constantLong "PatternBench$Captures" (11 : Nat) (4095 : Int64)) ∈ mm_T := tw_of (i := 636) (by decide +kernel) rfl
theorem tw_637 : (Jvm.Cond.constantLong "PatternBench$Captures" (13 : Nat) (-1 : Int64)) ∈ mm_T := tw_of (i := 637) (by decide +kernel) rfl
theorem tw_638 : (Jvm.Cond.methodLink "PatternBench$Matcher" (215 : Nat) ({ cls := "PatternBench$Matcher", name := "leaveTimesTurn", desc := "(II)V" } : Jvm.MethodName)) ∈ mm_T := tw_of (i := 638) (by decide +kernel) rfl
theorem tw_640 : (Jvm.Cond.instanceMethod ({ cls := "PatternBench$Matcher", name := "leaveTimesTurn", desc := "(II)V" } : Jvm.MethodName)) ∈ mm_T := tw_of (i := 640) (by decide +kernel) rfl
theorem tw_641 : (Jvm.Cond.code ({ cls := "PatternBench$Matcher", name := "leaveTimesTurn", desc := "(II)V" } : Jvm.MethodName) prog_5_method_21_code (4 : Nat) (Option.none : Option Jvm.ClassFile.FieldType)) ∈ mm_T := tw_of (i := 641) (by decide +kernel) rfl
theorem tw_642 : (Jvm.Cond.methodLink "PatternBench$Matcher" (118 : Nat) ({ cls := "PatternBench$Matcher", name := "takeChoice", desc := "()V" } : Jvm.MethodName)) ∈ mm_T := tw_of (i := 642) (by decide +kernel) rfl
theorem tw_644 : (Jvm.Cond.instanceMethod ({ cls := "PatternBench$Matcher", name := "takeChoice", desc := "()V" } : Jvm.MethodName)) ∈ mm_T := tw_of (i := 644) (by decide +kernel) rfl
theorem tw_645 : (Jvm.Cond.code ({ cls := "PatternBench$Matcher", name := "takeChoice", desc := "()V" } : Jvm.MethodName) prog_5_method_13_code (2 : Nat) (Option.none : Option Jvm.ClassFile.FieldType)) ∈ mm_T := tw_of (i := 645) (by decide +kernel) rfl
theorem tw_646 : (Jvm.Cond.methodLink "PatternBenchLaw" (43 : Nat) ({ cls := "PatternBench", name := "again", desc := "()I" } : Jvm.MethodName)) ∈ mm_T := tw_of (i := 646) (by decide +kernel) rfl
theorem tw_647 : (Jvm.Cond.instanceMethod ({ cls := "PatternBench", name := "again", desc := "()I" } : Jvm.MethodName)) ∈ mm_T := tw_of (i := 647) (by decide +kernel) rfl
theorem tw_648 : (Jvm.Cond.selects "PatternBench" ({ cls := "PatternBench", name := "again", desc := "()I" } : Jvm.MethodName) ({ cls := "PatternBench", name := "again", desc := "()I" } : Jvm.MethodName)) ∈ mm_T := tw_of (i := 648) (by decide +kernel) rfl
theorem tw_649 : (Jvm.Cond.code ({ cls := "PatternBench", name := "again", desc := "()I" } : Jvm.MethodName) prog_1_method_7_code (2 : Nat) (Option.some Jvm.ClassFile.FieldType.int)) ∈ mm_T := tw_of (i := 649) (by decide +kernel) rfl
theorem tw_650 : (Jvm.Cond.methodLink "PatternBench" (101 : Nat) ({ cls := "PatternBench", name := "placeBehindMatch", desc := "()I" } : Jvm.MethodName)) ∈ mm_T := tw_of (i := 650) (by decide +kernel) rfl
theorem tw_652 : (Jvm.Cond.instanceMethod ({ cls := "PatternBench", name := "placeBehindMatch", desc := "()I" } : Jvm.MethodName)) ∈ mm_T := tw_of (i := 652) (by decide +kernel) rfl
theorem tw_653 : (Jvm.Cond.code ({ cls := "PatternBench", name := "placeBehindMatch", desc := "()I" } : Jvm.MethodName) prog_1_method_14_code (1 : Nat) (Option.some Jvm.ClassFile.FieldType.int)) ∈ mm_T := tw_of (i := 653) (by decide +kernel) rfl
theorem tw_654 : (Jvm.Cond.methodLink "PatternBenchLaw" (47 : Nat) ({ cls := "PatternBench", name := "start", desc := "(I)I" } : Jvm.MethodName)) ∈ mm_T := tw_of (i := 654) (by decide +kernel) rfl
theorem tw_655 : (Jvm.Cond.instanceMethod ({ cls := "PatternBench", name := "start", desc := "(I)I" } : Jvm.MethodName)) ∈ mm_T := tw_of (i := 655) (by decide +kernel) rfl
theorem tw_656 : (Jvm.Cond.selects "PatternBench" ({ cls := "PatternBench", name := "start", desc := "(I)I" } : Jvm.MethodName) ({ cls := "PatternBench", name := "start", desc := "(I)I" } : Jvm.MethodName)) ∈ mm_T := tw_of (i := 656) (by decide +kernel) rfl
theorem tw_657 : (Jvm.Cond.code ({ cls := "PatternBench", name := "start", desc := "(I)I" } : Jvm.MethodName) prog_1_method_8_code (2 : Nat) (Option.some Jvm.ClassFile.FieldType.int)) ∈ mm_T := tw_of (i := 657) (by decide +kernel) rfl
theorem tw_658 : (Jvm.Cond.methodLink "PatternBench" (105 : Nat) ({ cls := "PatternBench$Captures", name := "from", desc := "(JI)I" } : Jvm.MethodName)) ∈ mm_T := tw_of (i := 658) (by decide +kernel) rfl
theorem tw_659 : (Jvm.Cond.methodLink "PatternBenchLaw" (51 : Nat) ({ cls := "PatternBench", name := "end", desc := "(I)I" } : Jvm.MethodName)) ∈ mm_T := tw_of (i := 659) (by decide +kernel) rfl
theorem tw_660 : (Jvm.Cond.instanceMethod ({ cls := "PatternBench", name := "end", desc := "(I)I" } : Jvm.MethodName)) ∈ mm_T := tw_of (i := 660) (by decide +kernel) rfl
theorem tw_661 : (Jvm.Cond.selects "PatternBench" ({ cls := "PatternBench", name := "end", desc := "(I)I" } : Jvm.MethodName) ({ cls := "PatternBench", name := "end", desc := "(I)I" } : Jvm.MethodName)) ∈ mm_T := tw_of (i := 661) (by decide +kernel) rfl
theorem tw_662 : (Jvm.Cond.code ({ cls := "PatternBench", name := "end", desc := "(I)I" } : Jvm.MethodName) prog_1_method_9_code (2 : Nat) (Option.some Jvm.ClassFile.FieldType.int)) ∈ mm_T := tw_of (i := 662) (by decide +kernel) rfl
theorem tw_663 : (Jvm.Cond.methodLink "PatternBench" (111 : Nat) ({ cls := "PatternBench$Captures", name := "to", desc := "(JI)I" } : Jvm.MethodName)) ∈ mm_T := tw_of (i := 663) (by decide +kernel) rfl
theorem tw_664 : (Jvm.Cond.methodLink "PatternBenchLaw" (55 : Nat) ({ cls := "PatternBench", name := "steps", desc := "()I" } : Jvm.MethodName)) ∈ mm_T := tw_of (i := 664) (by decide +kernel) rfl
theorem tw_665 : (Jvm.Cond.instanceMethod ({ cls := "PatternBench", name := "steps", desc := "()I" } : Jvm.MethodName)) ∈ mm_T := tw_of (i := 665) (by decide +kernel) rfl
theorem tw_666 : (Jvm.Cond.selects "PatternBench" ({ cls := "PatternBench", name := "steps", desc := "()I" } : Jvm.MethodName) ({ cls := "PatternBench", name := "steps", desc := "()I" } : Jvm.MethodName)) ∈ mm_T := tw_of (i := 666) (by decide +kernel) rfl
theorem tw_667 : (Jvm.Cond.code ({ cls := "PatternBench", name := "steps", desc := "()I" } : Jvm.MethodName) prog_1_method_10_code (1 : Nat) (Option.some Jvm.ClassFile.FieldType.int)) ∈ mm_T := tw_of (i := 667) (by decide +kernel) rfl
theorem tw_668 : (Jvm.Cond.methodLink "PatternBenchLaw" (59 : Nat) ({ cls := "PatternBench", name := "matches", desc := "()I" } : Jvm.MethodName)) ∈ mm_T := tw_of (i := 668) (by decide +kernel) rfl
theorem tw_669 : (Jvm.Cond.instanceMethod ({ cls := "PatternBench", name := "matches", desc := "()I" } : Jvm.MethodName)) ∈ mm_T := tw_of (i := 669) (by decide +kernel) rfl
theorem tw_670 : (Jvm.Cond.selects "PatternBench" ({ cls := "PatternBench", name := "matches", desc := "()I" } : Jvm.MethodName) ({ cls := "PatternBench", name := "matches", desc := "()I" } : Jvm.MethodName)) ∈ mm_T := tw_of (i := 670) (by decide +kernel) rfl
theorem tw_671 : (Jvm.Cond.code ({ cls := "PatternBench", name := "matches", desc := "()I" } : Jvm.MethodName) prog_1_method_11_code (5 : Nat) (Option.some Jvm.ClassFile.FieldType.int)) ∈ mm_T := tw_of (i := 671) (by decide +kernel) rfl
theorem tw_672 : (Jvm.Cond.methodLink "PatternBenchLaw" (63 : Nat) ({ cls := "PatternBench", name := "count", desc := "(I)I" } : Jvm.MethodName)) ∈ mm_T := tw_of (i := 672) (by decide +kernel) rfl
theorem tw_673 : (Jvm.Cond.instanceMethod ({ cls := "PatternBench", name := "count", desc := "(I)I" } : Jvm.MethodName)) ∈ mm_T := tw_of (i := 673) (by decide +kernel) rfl
theorem tw_674 : (Jvm.Cond.selects "PatternBench" ({ cls := "PatternBench", name := "count", desc := "(I)I" } : Jvm.MethodName) ({ cls := "PatternBench", name := "count", desc := "(I)I" } : Jvm.MethodName)) ∈ mm_T := tw_of (i := 674) (by decide +kernel) rfl
theorem tw_675 : (Jvm.Cond.code ({ cls := "PatternBench", name := "count", desc := "(I)I" } : Jvm.MethodName) prog_1_method_12_code (2 : Nat) (Option.some Jvm.ClassFile.FieldType.int)) ∈ mm_T := tw_of (i := 675) (by decide +kernel) rfl
theorem tw_676 : (Jvm.Cond.methodLink "PatternBenchLaw" (9 : Nat) ({ cls := "PatternBenchLaw", name := "cell", desc := "([II)I" } : Jvm.MethodName)) ∈ mm_T := tw_of (i := 676) (by decide +kernel) rfl
theorem tw_677 : (Jvm.Cond.static ({ cls := "PatternBenchLaw", name := "cell", desc := "([II)I" } : Jvm.MethodName)) ∈ mm_T := tw_of (i := 677) (by decide +kernel) rfl
theorem tw_678 : (Jvm.Cond.code ({ cls := "PatternBenchLaw", name := "cell", desc := "([II)I" } : Jvm.MethodName) method_2_code (2 : Nat) (Option.some Jvm.ClassFile.FieldType.int)) ∈ mm_T := tw_of (i := 678) (by decide +kernel) rfl
theorem tw_975 : (Jvm.Cond.fieldLink "java/lang/String" (15 : Nat) "java/lang/String" "coder" "B") ∈ mm_T := tw_of (i := 975) (by decide +kernel) rfl
theorem tw_976 : (Jvm.Cond.fieldLink "java/lang/String" (9 : Nat) "java/lang/String" "value" "[B") ∈ mm_T := tw_of (i := 976) (by decide +kernel) rfl
theorem ts_Reader_openLevel : Cond.selects r_Reader y_Reader_openLevel y_Reader_openLevel ∈ mm_T := tw_s (i := 0) (q := (y_Reader_openLevel, 11)) (by decide +kernel)
theorem ts_Reader_readPart : Cond.selects r_Reader y_Reader_readPart y_Reader_readPart ∈ mm_T := tw_s (i := 1) (q := (y_Reader_readPart, 11)) (by decide +kernel)
theorem ts_Reader_ahead : Cond.selects r_Reader y_Reader_ahead y_Reader_ahead ∈ mm_T := tw_s (i := 2) (q := (y_Reader_ahead, 11)) (by decide +kernel)
theorem ts_Reader_openNextRow : Cond.selects r_Reader y_Reader_openNextRow y_Reader_openNextRow ∈ mm_T := tw_s (i := 3) (q := (y_Reader_openNextRow, 11)) (by decide +kernel)
theorem ts_Reader_closeChoice : Cond.selects r_Reader y_Reader_closeChoice y_Reader_closeChoice ∈ mm_T := tw_s (i := 4) (q := (y_Reader_closeChoice, 11)) (by decide +kernel)
theorem ts_Reader_refuse : Cond.selects r_Reader y_Reader_refuse y_Reader_refuse ∈ mm_T := tw_s (i := 5) (q := (y_Reader_refuse, 11)) (by decide +kernel)
theorem ts_Reader_readCall : Cond.selects r_Reader y_Reader_readCall y_Reader_readCall ∈ mm_T := tw_s (i := 6) (q := (y_Reader_readCall, 11)) (by decide +kernel)
theorem ts_Reader_appendItem : Cond.selects r_Reader y_Reader_appendItem y_Reader_appendItem ∈ mm_T := tw_s (i := 7) (q := (y_Reader_appendItem, 11)) (by decide +kernel)
theorem ts_Reader_openChoice : Cond.selects r_Reader y_Reader_openChoice y_Reader_openChoice ∈ mm_T := tw_s (i := 8) (q := (y_Reader_openChoice, 11)) (by decide +kernel)
theorem ts_Reader_kindOfChoice : Cond.selects r_Reader y_Reader_kindOfChoice y_Reader_kindOfChoice ∈ mm_T := tw_s (i := 9) (q := (y_Reader_kindOfChoice, 11)) (by decide +kernel)
theorem ts_Reader_readClass : Cond.selects r_Reader y_Reader_readClass y_Reader_readClass ∈ mm_T := tw_s (i := 10) (q := (y_Reader_readClass, 11)) (by decide +kernel)
theorem ts_Reader_readClassPart : Cond.selects r_Reader y_Reader_readClassPart y_Reader_readClassPart ∈ mm_T := tw_s (i := 11) (q := (y_Reader_readClassPart, 11)) (by decide +kernel)
theorem ts_Reader_readReference : Cond.selects r_Reader y_Reader_readReference y_Reader_readReference ∈ mm_T := tw_s (i := 12) (q := (y_Reader_readReference, 11)) (by decide +kernel)
theorem ts_Reader_readSign : Cond.selects r_Reader y_Reader_readSign y_Reader_readSign ∈ mm_T := tw_s (i := 13) (q := (y_Reader_readSign, 11)) (by decide +kernel)
theorem ts_Reader_readRepeat : Cond.selects r_Reader y_Reader_readRepeat y_Reader_readRepeat ∈ mm_T := tw_s (i := 14) (q := (y_Reader_readRepeat, 11)) (by decide +kernel)
theorem ts_Reader_setRepeat : Cond.selects r_Reader y_Reader_setRepeat y_Reader_setRepeat ∈ mm_T := tw_s (i := 15) (q := (y_Reader_setRepeat, 11)) (by decide +kernel)
theorem ts_Reader_readTimes : Cond.selects r_Reader y_Reader_readTimes y_Reader_readTimes ∈ mm_T := tw_s (i := 16) (q := (y_Reader_readTimes, 11)) (by decide +kernel)
theorem ts_Bench_searchFrom : Cond.selects r_Bench y_Bench_searchFrom y_Bench_searchFrom ∈ mm_T := tw_s (i := 17) (q := (y_Bench_searchFrom, 8)) (by decide +kernel)
theorem ts_Matcher_beginAt : Cond.selects r_Matcher y_Matcher_beginAt y_Matcher_beginAt ∈ mm_T := tw_s (i := 18) (q := (y_Matcher_beginAt, 11)) (by decide +kernel)
theorem ts_Matcher_go : Cond.selects r_Matcher y_Matcher_go y_Matcher_go ∈ mm_T := tw_s (i := 19) (q := (y_Matcher_go, 11)) (by decide +kernel)
theorem ts_Matcher_goesOn : Cond.selects r_Matcher y_Matcher_goesOn y_Matcher_goesOn ∈ mm_T := tw_s (i := 20) (q := (y_Matcher_goesOn, 11)) (by decide +kernel)
theorem ts_Matcher_takeTurn : Cond.selects r_Matcher y_Matcher_takeTurn y_Matcher_takeTurn ∈ mm_T := tw_s (i := 21) (q := (y_Matcher_takeTurn, 11)) (by decide +kernel)
theorem ts_Matcher_enterRow : Cond.selects r_Matcher y_Matcher_enterRow y_Matcher_enterRow ∈ mm_T := tw_s (i := 22) (q := (y_Matcher_enterRow, 11)) (by decide +kernel)
theorem ts_Matcher_enterItem : Cond.selects r_Matcher y_Matcher_enterItem y_Matcher_enterItem ∈ mm_T := tw_s (i := 23) (q := (y_Matcher_enterItem, 11)) (by decide +kernel)
theorem ts_Matcher_fork : Cond.selects r_Matcher y_Matcher_fork y_Matcher_fork ∈ mm_T := tw_s (i := 24) (q := (y_Matcher_fork, 11)) (by decide +kernel)
theorem ts_Matcher_tryAtom : Cond.selects r_Matcher y_Matcher_tryAtom y_Matcher_tryAtom ∈ mm_T := tw_s (i := 25) (q := (y_Matcher_tryAtom, 11)) (by decide +kernel)
theorem ts_Matcher_ask : Cond.selects r_Matcher y_Matcher_ask y_Matcher_ask ∈ mm_T := tw_s (i := 26) (q := (y_Matcher_ask, 11)) (by decide +kernel)
theorem ts_Matcher_askLetter : Cond.selects r_Matcher y_Matcher_askLetter y_Matcher_askLetter ∈ mm_T := tw_s (i := 27) (q := (y_Matcher_askLetter, 11)) (by decide +kernel)
theorem ts_Matcher_askSame : Cond.selects r_Matcher y_Matcher_askSame y_Matcher_askSame ∈ mm_T := tw_s (i := 28) (q := (y_Matcher_askSame, 11)) (by decide +kernel)
theorem ts_Matcher_standsHere : Cond.selects r_Matcher y_Matcher_standsHere y_Matcher_standsHere ∈ mm_T := tw_s (i := 29) (q := (y_Matcher_standsHere, 11)) (by decide +kernel)
theorem ts_Matcher_askCall : Cond.selects r_Matcher y_Matcher_askCall y_Matcher_askCall ∈ mm_T := tw_s (i := 30) (q := (y_Matcher_askCall, 11)) (by decide +kernel)
theorem ts_Matcher_askBody : Cond.selects r_Matcher y_Matcher_askBody y_Matcher_askBody ∈ mm_T := tw_s (i := 31) (q := (y_Matcher_askBody, 11)) (by decide +kernel)
theorem ts_Matcher_goAfterAtom : Cond.selects r_Matcher y_Matcher_goAfterAtom y_Matcher_goAfterAtom ∈ mm_T := tw_s (i := 32) (q := (y_Matcher_goAfterAtom, 11)) (by decide +kernel)
theorem ts_Matcher_goAfterItem : Cond.selects r_Matcher y_Matcher_goAfterItem y_Matcher_goAfterItem ∈ mm_T := tw_s (i := 33) (q := (y_Matcher_goAfterItem, 11)) (by decide +kernel)
theorem ts_Matcher_resume : Cond.selects r_Matcher y_Matcher_resume y_Matcher_resume ∈ mm_T := tw_s (i := 34) (q := (y_Matcher_resume, 11)) (by decide +kernel)
theorem ts_Matcher_leaveBody : Cond.selects r_Matcher y_Matcher_leaveBody y_Matcher_leaveBody ∈ mm_T := tw_s (i := 35) (q := (y_Matcher_leaveBody, 11)) (by decide +kernel)
theorem ts_Matcher_leaveTimesTurn : Cond.selects r_Matcher y_Matcher_leaveTimesTurn y_Matcher_leaveTimesTurn ∈ mm_T := tw_s (i := 36) (q := (y_Matcher_leaveTimesTurn, 11)) (by decide +kernel)
theorem ts_Matcher_takeChoice : Cond.selects r_Matcher y_Matcher_takeChoice y_Matcher_takeChoice ∈ mm_T := tw_s (i := 37) (q := (y_Matcher_takeChoice, 11)) (by decide +kernel)
theorem ts_Bench_placeBehindMatch : Cond.selects r_Bench y_Bench_placeBehindMatch y_Bench_placeBehindMatch ∈ mm_T := tw_s (i := 38) (q := (y_Bench_placeBehindMatch, 8)) (by decide +kernel)
end
section
/-! THE MINI LAYER: worlds with addresses 0, 1, 2 .. ; a judgement mm_V over them; blocks of instructions that run by computation -/
abbrev mm_C : Type := (FieldType × vp_A) ⊕ (Nat × List Value)
abbrev mm_H : Type := List mm_C
abbrev mm_L : Type := List (Option Value)
/-- pc, instruction, its length, a constant, two numbers (a class and a field; a target) -/
abbrev mm_I : Type := Nat × Instr × Nat × Value × Nat × Nat
def mm_v (ρ : List Nat) (u v : Value) : Prop := match u with
  | .ref a => ∃ b, ρ[a]? = some b ∧ v = .ref b
  | u => v = u
def mm_vs (ρ : List Nat) : List Value → List Value → Prop
  | [], vs => vs = []
  | u :: us, vs => ∃ v vs', vs = v :: vs' ∧ mm_v ρ u v ∧ mm_vs ρ us vs'
def mm_ov (ρ : List Nat) (u v : Option Value) : Prop := match u with
  | none => v = none
  | some x => ∃ y, v = some y ∧ mm_v ρ x y
def mm_e (cA : FieldType → ClassId) (ρ : List Nat) (x : mm_C) (y : va_E) : Prop := match x with
  | .inl a => y = .inl (cA a.1, a.2)
  | .inr o => ∃ fs, y = .inr (o.1, fs) ∧ mm_vs ρ o.2 fs
def mm_w (cA : FieldType → ClassId) (ρ : List Nat) (w : mm_H) (ws : va_W) : Prop := ρ.length = w.length ∧ ws.length = w.length ∧ ∀ (i : Nat) (x : mm_C), w[i]? = some x → ∃ (b : Nat) (y : va_E), ρ[i]? = some b ∧ ws[i]? = some (b, y) ∧ mm_e cA ρ x y
def mm_l (nL : Nat) (ρ : List Nat) (ls : Array Slot) (L : mm_L) : Prop := ls.size = nL ∧ L.length = nL ∧ lv_wf ls ∧ ∀ (i : Nat) (u : Value), L[i]? = some (some u) → ∃ v, ls[i]? = some (.val v) ∧ mm_v ρ u v
theorem mm_v_mono {ρ ρ' : List Nat} (h : ∀ a, a < ρ.length → ρ'[a]? = ρ[a]?) {u v : Value} (hv : mm_v ρ u v) : mm_v ρ' u v := by
  cases u with
  | ref a =>
    obtain ⟨b, h1, h2⟩ := hv
    exact ⟨b, by rw [h a (List.getElem?_eq_some_iff.mp h1).1]; exact h1, h2⟩
  | _ => exact hv
theorem mm_vs_mono {ρ ρ' : List Nat} (h : ∀ a, a < ρ.length → ρ'[a]? = ρ[a]?) : ∀ {us vs : List Value}, mm_vs ρ us vs → mm_vs ρ' us vs
  | [], _, hv => hv
  | _ :: _, _, ⟨v, vs', e, h1, h2⟩ => ⟨v, vs', e, mm_v_mono h h1, mm_vs_mono h h2⟩
theorem mm_e_mono {cA : FieldType → ClassId} {ρ ρ' : List Nat} (h : ∀ a, a < ρ.length → ρ'[a]? = ρ[a]?) {x : mm_C} {y : va_E} (hv : mm_e cA ρ x y) : mm_e cA ρ' x y := by
  cases x with
  | inl a => exact hv
  | inr o =>
    obtain ⟨fs, h1, h2⟩ := hv
    exact ⟨fs, h1, mm_vs_mono h h2⟩
theorem mm_l_mono {nL : Nat} {ρ ρ' : List Nat} (h : ∀ a, a < ρ.length → ρ'[a]? = ρ[a]?) {ls : Array Slot} {L : mm_L} (hl : mm_l nL ρ ls L) : mm_l nL ρ' ls L :=
  ⟨hl.1, hl.2.1, hl.2.2.1, fun i u hi => by
    obtain ⟨v, h1, h2⟩ := hl.2.2.2 i u hi
    exact ⟨v, h1, mm_v_mono h h2⟩⟩
theorem mm_v_cat {ρ : List Nat} {u v : Value} (h : mm_v ρ u v) : v.category = u.category := by
  cases u with
  | ref a =>
    obtain ⟨b, h1, h2⟩ := h
    rw [h2]; rfl
  | _ => rw [show v = _ from h]
theorem mm_vs_cat {ρ : List Nat} : ∀ {us vs : List Value}, mm_vs ρ us vs → (vs.map fun v => v.category) = (us.map fun v => v.category)
  | [], _, hv => by rw [show _ = [] from hv]
  | _ :: _, _, ⟨v, vs', e, h1, h2⟩ => by rw [e, List.map_cons, List.map_cons, mm_v_cat h1, mm_vs_cat h2]
theorem mm_vs_len {ρ : List Nat} : ∀ {us vs : List Value}, mm_vs ρ us vs → vs.length = us.length
  | [], _, hv => by rw [show _ = [] from hv]
  | _ :: _, _, ⟨v, vs', e, h1, h2⟩ => by rw [e, List.length_cons, List.length_cons, mm_vs_len h2]
theorem mm_vs_i {ρ : List Nat} {x : Int32} {us vs : List Value} (h : mm_vs ρ (.int x :: us) vs) : ∃ vs', vs = .int x :: vs' ∧ mm_vs ρ us vs' := by
  obtain ⟨v, vs', e, h1, h2⟩ := h
  have h1 : v = .int x := h1
  exact ⟨vs', by rw [e, h1], h2⟩
theorem mm_vs_j {ρ : List Nat} {x : Int64} {us vs : List Value} (h : mm_vs ρ (.long x :: us) vs) : ∃ vs', vs = .long x :: vs' ∧ mm_vs ρ us vs' := by
  obtain ⟨v, vs', e, h1, h2⟩ := h
  have h1 : v = .long x := h1
  exact ⟨vs', by rw [e, h1], h2⟩
theorem mm_vs_n {ρ : List Nat} {us vs : List Value} (h : mm_vs ρ (.null :: us) vs) : ∃ vs', vs = .null :: vs' ∧ mm_vs ρ us vs' := by
  obtain ⟨v, vs', e, h1, h2⟩ := h
  have h1 : v = .null := h1
  exact ⟨vs', by rw [e, h1], h2⟩
theorem mm_vs_r {ρ : List Nat} {a : Nat} {us vs : List Value} (h : mm_vs ρ (.ref a :: us) vs) : ∃ b vs', vs = .ref b :: vs' ∧ ρ[a]? = some b ∧ mm_vs ρ us vs' := by
  obtain ⟨v, vs', e, ⟨b, h1, h3⟩, h2⟩ := h
  exact ⟨b, vs', by rw [e, h3], h1, h2⟩
theorem mm_vs_app {ρ : List Nat} : ∀ {us us2 vs : List Value}, mm_vs ρ (us ++ us2) vs → ∃ v1 v2, vs = v1 ++ v2 ∧ mm_vs ρ us v1 ∧ mm_vs ρ us2 v2
  | [], _, vs, h => ⟨[], vs, rfl, rfl, h⟩
  | _ :: _, _, _, ⟨v, vs', e, h1, h2⟩ => by
    obtain ⟨v1, v2, e2, h3, h4⟩ := mm_vs_app h2
    exact ⟨v :: v1, v2, by rw [e, e2]; rfl, ⟨v, v1, rfl, h1, h3⟩, h4⟩
theorem mm_vs_join {ρ : List Nat} : ∀ {us us2 v1 v2 : List Value}, mm_vs ρ us v1 → mm_vs ρ us2 v2 → mm_vs ρ (us ++ us2) (v1 ++ v2)
  | [], _, _, _, h, h2 => by rw [show _ = [] from h]; exact h2
  | _ :: _, _, _, _, ⟨v, vs', e, h1, h2⟩, h3 => ⟨v, vs' ++ _, by rw [e]; rfl, h1, mm_vs_join h2 h3⟩
theorem mm_vs_rev {ρ : List Nat} : ∀ {us vs : List Value}, mm_vs ρ us vs → mm_vs ρ us.reverse vs.reverse
  | [], _, h => by rw [show _ = [] from h]; exact rfl
  | _ :: _, _, ⟨v, vs', e, h1, h2⟩ => by
    rw [e, List.reverse_cons, List.reverse_cons]
    exact mm_vs_join (mm_vs_rev h2) ⟨v, [], rfl, h1, rfl⟩
theorem mm_vs_get {ρ : List Nat} : ∀ {us vs : List Value}, mm_vs ρ us vs → ∀ {k : Nat} {u : Value}, us[k]? = some u → ∃ v, vs[k]? = some v ∧ mm_v ρ u v
  | [], _, _, _, _, hk => by simp at hk
  | _ :: _, _, ⟨v, vs', e, h1, h2⟩, 0, _, hk => by
    cases hk
    exact ⟨v, by rw [e]; rfl, h1⟩
  | _ :: _, _, ⟨v, vs', e, h1, h2⟩, k + 1, _, hk => by
    rw [List.getElem?_cons_succ] at hk
    obtain ⟨y, h3, h4⟩ := mm_vs_get h2 hk
    exact ⟨y, by rw [e, List.getElem?_cons_succ]; exact h3, h4⟩
theorem mm_vs_set {ρ : List Nat} {x y : Value} (hxy : mm_v ρ x y) : ∀ {us vs : List Value}, mm_vs ρ us vs → ∀ (k : Nat), mm_vs ρ (us.set k x) (vs.set k y)
  | [], _, h, _ => by rw [show _ = [] from h]; exact rfl
  | _ :: _, _, ⟨v, vs', e, h1, h2⟩, 0 => by rw [e]; exact ⟨y, vs', rfl, hxy, h2⟩
  | _ :: _, _, ⟨v, vs', e, h1, h2⟩, k + 1 => by rw [e]; exact ⟨v, vs'.set k y, rfl, h1, mm_vs_set hxy h2 k⟩
/-! locals -/
def mm_k1 (L : mm_L) (i : Nat) : mm_L := match i with
  | 0 => L
  | j + 1 => match L[j]? with
    | some (some (.long _)) => L.set j none
    | some (some (.double _)) => L.set j none
    | _ => L
def mm_s1 (L : mm_L) (i : Nat) (v : Value) : mm_L := (mm_k1 L i).set i (some v)
def mm_s2 (L : mm_L) (i : Nat) (v : Value) : mm_L := ((mm_k1 L i).set i (some v)).set (i + 1) none
theorem mm_k1_len (L : mm_L) (i : Nat) : (mm_k1 L i).length = L.length := by
  cases i with
  | zero => rfl
  | succ j =>
    show (match L[j]? with | some (some (.long _)) => L.set j none | some (some (.double _)) => L.set j none | _ => L).length = _
    split <;> simp
theorem mm_k1_get {L : mm_L} {i j : Nat} {u : Value} (h : (mm_k1 L i)[j]? = some (some u)) : L[j]? = some (some u) ∧ ¬ (j + 1 = i ∧ u.category = 2) := by
  cases i with
  | zero => exact ⟨h, fun q => by omega⟩
  | succ n =>
    have g : (match L[n]? with | some (some (.long _)) => L.set n none | some (some (.double _)) => L.set n none | _ => L)[j]? = some (some u) := h
    clear h
    revert g
    split
    · intro h
      rw [List.getElem?_set] at h
      by_cases e : n = j
      · rw [if_pos e] at h
        split at h <;> cases h
      · rw [if_neg e] at h
        exact ⟨h, fun q => e (by omega)⟩
    · intro h
      rw [List.getElem?_set] at h
      by_cases e : n = j
      · rw [if_pos e] at h
        split at h <;> cases h
      · rw [if_neg e] at h
        exact ⟨h, fun q => e (by omega)⟩
    · rename_i h1 h2
      intro h
      refine ⟨h, fun q => ?_⟩
      have e : j = n := by omega
      subst e
      cases u with
      | long x => exact h1 x h
      | double x => exact h2 x h
      | _ => exact absurd q.2 (by simp [Value.category])
def mm_lv (ls : Array Slot) : List (Nat × Value) := (List.range ls.size).filterMap (fun (i : Nat) => match ls[i]? with
  | some (.val v) => some (i, v)
  | _ => none)
theorem mm_lv_mem {ls : Array Slot} {i : Nat} {v : Value} : (i, v) ∈ mm_lv ls ↔ ls[i]? = some (.val v) := by
  constructor
  · intro h
    obtain ⟨j, -, hj⟩ := List.mem_filterMap.mp h
    split at hj
    · rename_i x hx
      cases hj
      exact hx
    · cases hj
  · intro h
    refine List.mem_filterMap.mpr ⟨i, List.mem_range.mpr (Array.getElem?_eq_some_iff.mp h).1, ?_⟩
    rw [h]
theorem mm_lv_has {ls : Array Slot} {nL : Nat} (hs : ls.size = nL) (hw : lv_wf ls) : lv_has ls nL (mm_lv ls) := ⟨hs, hw, fun q hq => mm_lv_mem.mp hq⟩
theorem mm_l_s1 {nL i : Nat} {ρ : List Nat} {ls ls' : Array Slot} {L : mm_L} {u v : Value} (hl : mm_l nL ρ ls L) (hv : mm_v ρ u v) (hi : i < nL)
    (h : lv_has ls' nL ((i, v) :: (mm_lv ls).filter (fun q => !(q.1 == i) && !(q.1 + 1 == i && q.2.category == 2)))) : mm_l nL ρ ls' (mm_s1 L i u) := by
  refine ⟨h.1, by rw [mm_s1, List.length_set, mm_k1_len]; exact hl.2.1, h.2.1, fun j x hj => ?_⟩
  rw [mm_s1, List.getElem?_set] at hj
  by_cases e : i = j
  · rw [if_pos e, mm_k1_len] at hj
    split at hj
    · cases hj
      exact ⟨v, by rw [← e]; exact h.2.2 (i, v) List.mem_cons_self, hv⟩
    · cases hj
  · rw [if_neg e] at hj
    obtain ⟨h1, h2⟩ := mm_k1_get hj
    obtain ⟨y, h3, h4⟩ := hl.2.2.2 j x h1
    refine ⟨y, h.2.2 (j, y) (List.mem_cons_of_mem _ (List.mem_filter.mpr ⟨mm_lv_mem.mpr h3, ?_⟩)), h4⟩
    have e2 : ¬ j = i := fun q => e q.symm
    rw [mm_v_cat h4]
    by_cases e3 : j + 1 = i
    · have e4 : ¬ x.category = 2 := fun q => h2 ⟨e3, q⟩
      simp [e2, e4]
    · simp [e2, e3]
theorem mm_l_s2 {nL i : Nat} {ρ : List Nat} {ls ls' : Array Slot} {L : mm_L} {u v : Value} (hl : mm_l nL ρ ls L) (hv : mm_v ρ u v) (hi : i + 1 < nL)
    (h : lv_has ls' nL ((i, v) :: (mm_lv ls).filter (fun q => !(q.1 == i) && (!(q.1 == i + 1) && !(q.1 + 1 == i && q.2.category == 2))))) : mm_l nL ρ ls' (mm_s2 L i u) := by
  refine ⟨h.1, by rw [mm_s2, List.length_set, List.length_set, mm_k1_len]; exact hl.2.1, h.2.1, fun j x hj => ?_⟩
  rw [mm_s2, List.getElem?_set] at hj
  by_cases e0 : i + 1 = j
  · rw [if_pos e0] at hj
    split at hj <;> cases hj
  · rw [if_neg e0, List.getElem?_set] at hj
    by_cases e : i = j
    · rw [if_pos e, mm_k1_len] at hj
      split at hj
      · cases hj
        exact ⟨v, by rw [← e]; exact h.2.2 (i, v) List.mem_cons_self, hv⟩
      · cases hj
    · rw [if_neg e] at hj
      obtain ⟨h1, h2⟩ := mm_k1_get hj
      obtain ⟨y, h3, h4⟩ := hl.2.2.2 j x h1
      refine ⟨y, h.2.2 (j, y) (List.mem_cons_of_mem _ (List.mem_filter.mpr ⟨mm_lv_mem.mpr h3, ?_⟩)), h4⟩
      have e2 : ¬ j = i := fun q => e q.symm
      have e5 : ¬ j = i + 1 := fun q => e0 q.symm
      rw [mm_v_cat h4]
      by_cases e3 : j + 1 = i
      · have e4 : ¬ x.category = 2 := fun q => h2 ⟨e3, q⟩
        simp [e2, e4, e5]
      · simp [e2, e3, e5]
/-- a method's arguments as its first locals -/
def mm_ar : List Value → mm_L
  | [] => []
  | v :: vs => if v.category = 2 then some v :: none :: mm_ar vs else some v :: mm_ar vs
def mm_args (nL : Nat) (vs : List Value) : mm_L := mm_ar vs ++ List.replicate (nL - (mm_ar vs).length) none
theorem mm_ar_len : ∀ (vs : List Value), (mm_ar vs).length = (lg_sl vs).length
  | [] => rfl
  | v :: vs => by
    have ih := mm_ar_len vs
    by_cases hc : v.category = 2
    · simp [mm_ar, lg_sl, hc] at *; omega
    · simp [mm_ar, lg_sl, hc] at *; omega
theorem mm_ar_get {ρ : List Nat} : ∀ {us vs : List Value}, mm_vs ρ us vs → ∀ (n i : Nat) (u : Value), (mm_ar us)[i]? = some (some u) → ∃ v, (n + i, v) ∈ lv_args n vs ∧ mm_v ρ u v
  | [], _, _, n, i, u, hi => by simp [mm_ar] at hi
  | x :: us, _, ⟨v, vs', e, h1, h2⟩, n, i, u, hi => by
    rw [e]
    by_cases hc : x.category = 2
    · have hc' : v.category = 2 := by rw [mm_v_cat h1]; exact hc
      simp only [mm_ar, hc, if_true] at hi
      match i, hi with
      | 0, hi =>
        cases hi
        exact ⟨v, by simp [lv_args], h1⟩
      | 1, hi => simp at hi
      | i + 2, hi =>
        rw [List.getElem?_cons_succ, List.getElem?_cons_succ] at hi
        obtain ⟨y, h3, h4⟩ := mm_ar_get h2 (n + 2) i u hi
        refine ⟨y, ?_, h4⟩
        simp only [lv_args, hc', if_true]
        rw [show n + (i + 2) = n + 2 + i by omega]
        exact List.mem_cons_of_mem _ h3
    · have hc' : ¬ v.category = 2 := by rw [mm_v_cat h1]; exact hc
      simp only [mm_ar, hc, if_false] at hi
      match i, hi with
      | 0, hi =>
        cases hi
        exact ⟨v, by simp [lv_args], h1⟩
      | i + 1, hi =>
        rw [List.getElem?_cons_succ] at hi
        obtain ⟨y, h3, h4⟩ := mm_ar_get h2 (n + 1) i u hi
        refine ⟨y, ?_, h4⟩
        simp only [lv_args, hc', if_false]
        rw [show n + (i + 1) = n + 1 + i by omega]
        exact List.mem_cons_of_mem _ h3
theorem mm_sl_cons (v : Value) (vs : List Value) : (lg_sl (v :: vs)).length = (if v.category = 2 then 2 else 1) + (lg_sl vs).length := by
  unfold lg_sl
  rw [List.flatMap_cons, List.length_append]
  split <;> rfl
theorem mm_sl_len {ρ : List Nat} : ∀ {us vs : List Value}, mm_vs ρ us vs → (lg_sl vs).length = (lg_sl us).length
  | [], _, h => by rw [show _ = [] from h]
  | x :: us, _, ⟨v, vs', e, h1, h2⟩ => by
    rw [e, mm_sl_cons, mm_sl_cons, mm_sl_len h2, mm_v_cat h1]
theorem mm_l_entry {nL : Nat} {ρ : List Nat} {us vs : List Value} (h : mm_vs ρ us vs) (hn : (mm_ar us).length ≤ nL) {ls : Array Slot} (hl : lv_has ls nL (lv_args 0 vs)) : mm_l nL ρ ls (mm_args nL us) := by
  refine ⟨hl.1, by simp [mm_args]; omega, hl.2.1, fun i u hi => ?_⟩
  rw [mm_args] at hi
  by_cases hi2 : i < (mm_ar us).length
  · rw [List.getElem?_append_left hi2] at hi
    obtain ⟨v, h1, h2⟩ := mm_ar_get h 0 i u hi
    rw [Nat.zero_add] at h1
    exact ⟨v, hl.2.2 (i, v) h1, h2⟩
  · rw [List.getElem?_append_right (by omega)] at hi
    have := List.eq_of_mem_replicate (List.mem_of_getElem? hi)
    cases this
/-! worlds -/
theorem mm_w_get {cA : FieldType → ClassId} {ρ : List Nat} {w : mm_H} {ws : va_W} (h : mm_w cA ρ w ws) {a b : Nat} {x : mm_C} (ha : w[a]? = some x) (hb : ρ[a]? = some b) : ∃ y, ws[a]? = some (b, y) ∧ mm_e cA ρ x y := by
  obtain ⟨b', y, h1, h2, h3⟩ := h.2.2 a x ha
  rw [hb] at h1
  cases h1
  exact ⟨y, h2, h3⟩
theorem mm_w_set {cA : FieldType → ClassId} {ρ : List Nat} {w : mm_H} {ws : va_W} (h : mm_w cA ρ w ws) {a b : Nat} {x : mm_C} {y : va_E} (hb : ρ[a]? = some b) (he : mm_e cA ρ x y) : mm_w cA ρ (w.set a x) (ws.set a (b, y)) := by
  refine ⟨by rw [List.length_set]; exact h.1, by rw [List.length_set, List.length_set]; exact h.2.1, fun i z hz => ?_⟩
  rw [List.getElem?_set] at hz
  by_cases e : a = i
  · rw [if_pos e] at hz
    split at hz
    · rename_i hlt
      cases hz
      refine ⟨b, y, by rw [← e]; exact hb, ?_, he⟩
      rw [List.getElem?_set, if_pos e, if_pos (by rw [h.2.1]; exact hlt)]
    · cases hz
  · rw [if_neg e] at hz
    obtain ⟨b', y', h1, h2, h3⟩ := h.2.2 i z hz
    exact ⟨b', y', h1, by rw [List.getElem?_set, if_neg e]; exact h2, h3⟩
theorem mm_w_push {cA : FieldType → ClassId} {ρ : List Nat} {w : mm_H} {ws : va_W} (h : mm_w cA ρ w ws) {q : Nat} {x : mm_C} {y : va_E} (he : mm_e cA (ρ ++ [q]) x y) : mm_w cA (ρ ++ [q]) (w ++ [x]) (ws ++ [(q, y)]) := by
  have hm : ∀ a, a < ρ.length → (ρ ++ [q])[a]? = ρ[a]? := fun a ha => List.getElem?_append_left ha
  refine ⟨by simp [h.1], by simp [h.2.1], fun i z hz => ?_⟩
  by_cases hi : i < w.length
  · rw [List.getElem?_append_left hi] at hz
    obtain ⟨b', y', h1, h2, h3⟩ := h.2.2 i z hz
    exact ⟨b', y', by rw [hm i (by rw [h.1]; exact hi)]; exact h1, by rw [List.getElem?_append_left (by rw [h.2.1]; exact hi)]; exact h2, mm_e_mono hm h3⟩
  · rw [List.getElem?_append_right (by omega)] at hz
    have hi2 : i = w.length := by
      have := (List.getElem?_eq_some_iff.mp hz).1
      simp at this
      omega
    subst hi2
    rw [Nat.sub_self] at hz
    cases hz
    exact ⟨q, y, by rw [← h.1]; simp, by rw [← h.2.1]; simp, he⟩
/-! THE JUDGEMENT -/
/-- words of locals that a call may cost, all told -/
def mm_K : Nat := 36
def mm_tys (cA : FieldType → ClassId) : List (ClassId × FieldType) := [(cA .int, .int), (cA .long, .long)]
/-- class, code, locals, is it <init>, what it returns -/
abbrev mm_M : Type := String × ByteArray × Nat × Bool × Option FieldType
def mm_X (M : mm_M) (d : Nat) (p : Program) (R : Room) (s : State) (m : MethodId) (args : Array Value) (meth : Method) (c : Code) (D : va_G) (cA : FieldType → ClassId) (A : Nat → Prop) : Prop :=
  p.tables.exec = Jvm.exec ∧ c.code = M.2.1 ∧ c.maxLocals = M.2.2.1 ∧ s.vm.findClass M.1 = some m.cls ∧ (∀ w ∈ mm_T, w.before args s = true) ∧ (∀ w ∈ mm_N, va_Nw w s) ∧ va_K D mmCl (mm_tys cA) s ∧ (d ≤ R.frames ∧ mm_K * d ≤ R.locals) ∧ (∀ q : Nat, s.heap.size ≤ q → A q) ∧ (M.2.2.2.1 = true → meth.name = "<init>")
def mm_rd (M : mm_M) (pc : Nat) (v : Option Value) : Prop := match v with
  | none => M.2.2.2.2 = none ∧ decode M.2.1 pc = .ok (.return_, 1)
  | some (.int x) => ∃ ty, M.2.2.2.2 = some ty ∧ narrow ty (.int x) = .int x ∧ decode M.2.1 pc = .ok (.ireturn, 1)
  | some (.long _) => M.2.2.2.2 = some .long ∧ decode M.2.1 pc = .ok (.lreturn, 1)
  | some .null => (∃ rt, M.2.2.2.2 = some rt ∧ ((∃ n, rt = .object n) ∨ ∃ t, rt = .array t)) ∧ decode M.2.1 pc = .ok (.areturn, 1)
  | some (.ref _) => (∃ rt, M.2.2.2.2 = some rt ∧ ((∃ n, rt = .object n) ∨ ∃ t, rt = .array t)) ∧ decode M.2.1 pc = .ok (.areturn, 1)
  | _ => False
def mm_G (M : mm_M) (d k0 : Nat) (post : Option Value → mm_H → Prop) (p : Program) (l : Launch) (e : Env) (R : Room) (s : State) (m : MethodId) (args : Array Value) (below : List Frame) (meth : Method) (c : Code) (D : va_G) (cA : FieldType → ClassId) (A : Nat → Prop) (Q : State → Prop) (ρ0 : List Nat) (mc ms : Nat) : Prop :=
  mm_X M d p R s m args meth c D cA A ∧ (mc ≤ R.cells ∧ ms ≤ R.slots) ∧ k0 ≤ ρ0.length ∧ ∀ (pc : Nat) (ls : Array Slot) (v v' : Option Value) (w : mm_H) (ρ : List Nat) (ws : va_W) (H : Heap) (locs : List Loc), post v w → mm_ov ρ v v' → mm_rd M pc v → (∀ a, a < k0 → ρ[a]? = ρ0[a]?) → mm_w cA ρ w ws → va_P D mmCl ws H → va_D A ws → va_S A s.heap H locs → W p l e R s m args below meth c H locs mc ms Q (F0 m pc ls v'.toList)
def mm_R (M : mm_M) (k0 : Nat) (s : State) (D : va_G) (cA : FieldType → ClassId) (A : Nat → Prop) (ρ0 : List Nat) (mc ms kc ks : Nat) (ρ : List Nat) (w : mm_H) (H : Heap) (locs : List Loc) (ls : Array Slot) (L : mm_L) (st st' : List Value) (cells slots : Nat) : Prop :=
  (∀ a, a < k0 → ρ[a]? = ρ0[a]?) ∧ (∃ ws : va_W, mm_w cA ρ w ws ∧ va_P D mmCl ws H ∧ va_D A ws) ∧ va_S A s.heap H locs ∧ mm_l M.2.2.1 ρ ls L ∧ mm_vs ρ st st' ∧ cells + kc ≤ mc ∧ slots + ks ≤ ms
def mm_V (M : mm_M) (d k0 : Nat) (post : Option Value → mm_H → Prop) (kc ks pc : Nat) (L : mm_L) (st : List Value) (w : mm_H) : Prop :=
  ∀ ⦃p : Program⦄ ⦃l : Launch⦄ ⦃e : Env⦄ ⦃R : Room⦄ ⦃s : State⦄ ⦃m : MethodId⦄ ⦃args : Array Value⦄ ⦃below : List Frame⦄ ⦃meth : Method⦄ ⦃c : Code⦄ ⦃D : va_G⦄ ⦃cA : FieldType → ClassId⦄ ⦃A : Nat → Prop⦄ ⦃Q : State → Prop⦄ ⦃ρ0 : List Nat⦄ ⦃mc ms : Nat⦄, mm_G M d k0 post p l e R s m args below meth c D cA A Q ρ0 mc ms →
  ∀ ⦃ρ : List Nat⦄ ⦃H : Heap⦄ ⦃locs : List Loc⦄ ⦃ls : Array Slot⦄ ⦃st' : List Value⦄ ⦃cells slots : Nat⦄, mm_R M k0 s D cA A ρ0 mc ms kc ks ρ w H locs ls L st st' cells slots → W p l e R s m args below meth c H locs cells slots Q (F0 m pc ls st')
theorem mm_in_Text : ∀ w ∈ u_ws r_Text t_Text 2, w ∈ mm_T := by
  intro w hw
  obtain ⟨k, hk, rfl⟩ := List.mem_map.mp hw
  have hk := List.mem_range.mp hk
  match k, hk with
  | 0, _ => exact tw_42
  | 1, _ => exact tw_44
  | k + 2, hk => omega
theorem mm_in_Program : ∀ w ∈ u_ws r_Program t_Program 14, w ∈ mm_T := by
  intro w hw
  obtain ⟨k, hk, rfl⟩ := List.mem_map.mp hw
  have hk := List.mem_range.mp hk
  match k, hk with
  | 0, _ => exact tw_90
  | 1, _ => exact tw_92
  | 2, _ => exact tw_94
  | 3, _ => exact tw_96
  | 4, _ => exact tw_98
  | 5, _ => exact tw_100
  | 6, _ => exact tw_102
  | 7, _ => exact tw_104
  | 8, _ => exact tw_106
  | 9, _ => exact tw_108
  | 10, _ => exact tw_110
  | 11, _ => exact tw_112
  | 12, _ => exact tw_114
  | 13, _ => exact tw_116
  | k + 14, hk => omega
theorem mm_in_Reader : ∀ w ∈ u_ws r_Reader t_Reader 11, w ∈ mm_T := by
  intro w hw
  obtain ⟨k, hk, rfl⟩ := List.mem_map.mp hw
  have hk := List.mem_range.mp hk
  match k, hk with
  | 0, _ => exact tw_132
  | 1, _ => exact tw_134
  | 2, _ => exact tw_136
  | 3, _ => exact tw_138
  | 4, _ => exact tw_140
  | 5, _ => exact tw_142
  | 6, _ => exact tw_144
  | 7, _ => exact tw_146
  | 8, _ => exact tw_148
  | 9, _ => exact tw_150
  | 10, _ => exact tw_152
  | k + 11, hk => omega
theorem mm_in_Frames : ∀ w ∈ u_ws r_Frames t_Frames 8, w ∈ mm_T := by
  intro w hw
  obtain ⟨k, hk, rfl⟩ := List.mem_map.mp hw
  have hk := List.mem_range.mp hk
  match k, hk with
  | 0, _ => exact tw_192
  | 1, _ => exact tw_194
  | 2, _ => exact tw_196
  | 3, _ => exact tw_198
  | 4, _ => exact tw_200
  | 5, _ => exact tw_202
  | 6, _ => exact tw_204
  | 7, _ => exact tw_206
  | k + 8, hk => omega
theorem mm_in_Choices : ∀ w ∈ u_ws r_Choices t_Choices 6, w ∈ mm_T := by
  intro w hw
  obtain ⟨k, hk, rfl⟩ := List.mem_map.mp hw
  have hk := List.mem_range.mp hk
  match k, hk with
  | 0, _ => exact tw_228
  | 1, _ => exact tw_230
  | 2, _ => exact tw_232
  | 3, _ => exact tw_234
  | 4, _ => exact tw_236
  | 5, _ => exact tw_238
  | k + 6, hk => omega
theorem mm_in_Matcher : ∀ w ∈ u_ws r_Matcher t_Matcher 11, w ∈ mm_T := by
  intro w hw
  obtain ⟨k, hk, rfl⟩ := List.mem_map.mp hw
  have hk := List.mem_range.mp hk
  match k, hk with
  | 0, _ => exact tw_257
  | 1, _ => exact tw_259
  | 2, _ => exact tw_261
  | 3, _ => exact tw_263
  | 4, _ => exact tw_265
  | 5, _ => exact tw_267
  | 6, _ => exact tw_269
  | 7, _ => exact tw_271
  | 8, _ => exact tw_273
  | 9, _ => exact tw_275
  | 10, _ => exact tw_277
  | k + 11, hk => omega
theorem mm_in_Bench : ∀ w ∈ u_ws r_Bench t_Bench 8, w ∈ mm_T := by
  intro w hw
  obtain ⟨k, hk, rfl⟩ := List.mem_map.mp hw
  have hk := List.mem_range.mp hk
  match k, hk with
  | 0, _ => exact tw_288
  | 1, _ => exact tw_290
  | 2, _ => exact tw_292
  | 3, _ => exact tw_294
  | 4, _ => exact tw_296
  | 5, _ => exact tw_298
  | 6, _ => exact tw_300
  | 7, _ => exact tw_302
  | k + 8, hk => omega
theorem mm_in : ∀ q ∈ mmCl, ∀ w ∈ u_ws q.1 q.2.1 q.2.2, w ∈ mm_T := by
  intro q hq
  simp only [mmCl, List.mem_cons, List.not_mem_nil, or_false] at hq
  rcases hq with rfl | rfl | rfl | rfl | rfl | rfl | rfl
  · exact mm_in_Text
  · exact mm_in_Program
  · exact mm_in_Reader
  · exact mm_in_Frames
  · exact mm_in_Choices
  · exact mm_in_Matcher
  · exact mm_in_Bench
section MMV
variable {M : mm_M} {d k0 kc ks pc : Nat} {post : Option Value → mm_H → Prop} {L : mm_L} {r : List Value} {w : mm_H}
theorem mm_iconst {n : Int} {v : Int32} (hd : decode M.2.1 pc = .ok (.iconst n, 1)) (hv : Int32.ofInt n = v) (k : mm_V M d k0 post kc ks (pc + 1) L (.int v :: r) w) : mm_V M d k0 post kc ks pc L r w := by
  intro p l e R s m args below meth c D cA A Q ρ0 mc ms hG ρ H locs ls st' cells slots ⟨h0, hw, hS, hl, hst, hb⟩
  exact lv_iconst hG.1.1 hG.1.2.1 hd hv (k hG ⟨h0, hw, hS, hl, ⟨_, _, rfl, rfl, hst⟩, hb⟩)
theorem mm_bipush {n : Int} {v : Int32} (hd : decode M.2.1 pc = .ok (.bipush n, 2)) (hv : (Int8.ofInt n).toInt32 = v) (k : mm_V M d k0 post kc ks (pc + 2) L (.int v :: r) w) : mm_V M d k0 post kc ks pc L r w := by
  intro p l e R s m args below meth c D cA A Q ρ0 mc ms hG ρ H locs ls st' cells slots ⟨h0, hw, hS, hl, hst, hb⟩
  exact lv_bipush hG.1.1 hG.1.2.1 hd hv (k hG ⟨h0, hw, hS, hl, ⟨_, _, rfl, rfl, hst⟩, hb⟩)
theorem mm_sipush {n : Int} {v : Int32} (hd : decode M.2.1 pc = .ok (.sipush n, 3)) (hv : (Int16.ofInt n).toInt32 = v) (k : mm_V M d k0 post kc ks (pc + 3) L (.int v :: r) w) : mm_V M d k0 post kc ks pc L r w := by
  intro p l e R s m args below meth c D cA A Q ρ0 mc ms hG ρ H locs ls st' cells slots ⟨h0, hw, hS, hl, hst, hb⟩
  exact lv_sipush hG.1.1 hG.1.2.1 hd hv (k hG ⟨h0, hw, hS, hl, ⟨_, _, rfl, rfl, hst⟩, hb⟩)
theorem mm_lconst {n : Fin 2} {v : Int64} (hd : decode M.2.1 pc = .ok (.lconst n, 1)) (hv : Int64.ofNat (n : Nat) = v) (k : mm_V M d k0 post kc ks (pc + 1) L (.long v :: r) w) : mm_V M d k0 post kc ks pc L r w := by
  intro p l e R s m args below meth c D cA A Q ρ0 mc ms hG ρ H locs ls st' cells slots ⟨h0, hw, hS, hl, hst, hb⟩
  exact lv_lconst hG.1.1 hG.1.2.1 hd hv (k hG ⟨h0, hw, hS, hl, ⟨_, _, rfl, rfl, hst⟩, hb⟩)
theorem mm_null  (hd : decode M.2.1 pc = .ok (.aconst_null, 1)) (k : mm_V M d k0 post kc ks (pc + 1) L (.null :: r) w) : mm_V M d k0 post kc ks pc L r w := by
  intro p l e R s m args below meth c D cA A Q ρ0 mc ms hG ρ H locs ls st' cells slots ⟨h0, hw, hS, hl, hst, hb⟩
  exact lv_null hG.1.1 hG.1.2.1 hd (k hG ⟨h0, hw, hS, hl, ⟨_, _, rfl, rfl, hst⟩, hb⟩)
theorem mm_ldc {idx : Nat} {v : Int32} (hd : decode M.2.1 pc = .ok (.ldc idx, 2)) (hv : Cond.constant M.1 idx v ∈ mm_T) (k : mm_V M d k0 post kc ks (pc + 2) L (.int v :: r) w) : mm_V M d k0 post kc ks pc L r w := by
  intro p l e R s m args below meth c D cA A Q ρ0 mc ms hG ρ H locs ls st' cells slots ⟨h0, hw, hS, hl, hst, hb⟩
  exact lv_ldc hG.1.1 hG.1.2.1 hG.1.2.2.2.1 (hG.1.2.2.2.2.1 _ hv) hd (k hG ⟨h0, hw, hS, hl, ⟨_, _, rfl, rfl, hst⟩, hb⟩)
theorem mm_ldc2 {idx : Nat} {v : Int64} (hd : decode M.2.1 pc = .ok (.ldc2_w idx, 3)) (hv : Cond.constantLong M.1 idx v ∈ mm_T) (k : mm_V M d k0 post kc ks (pc + 3) L (.long v :: r) w) : mm_V M d k0 post kc ks pc L r w := by
  intro p l e R s m args below meth c D cA A Q ρ0 mc ms hG ρ H locs ls st' cells slots ⟨h0, hw, hS, hl, hst, hb⟩
  exact lv_ldc2 hG.1.1 hG.1.2.1 hG.1.2.2.2.1 (hG.1.2.2.2.2.1 _ hv) hd (k hG ⟨h0, hw, hS, hl, ⟨_, _, rfl, rfl, hst⟩, hb⟩)
theorem mm_iload {n : Nat} {x : Int32} (hd : decode M.2.1 pc = .ok (.iload n, 2)) (hx : L[n]? = some (some (.int x))) (k : mm_V M d k0 post kc ks (pc + 2) L (.int x :: r) w) : mm_V M d k0 post kc ks pc L r w := by
  intro p l e R s m args below meth c D cA A Q ρ0 mc ms hG ρ H locs ls st' cells slots ⟨h0, hw, hS, hl, hst, hb⟩
  obtain ⟨v, h1, h2⟩ := hl.2.2.2 _ _ hx
  have h2 : v = .int x := h2
  subst h2
  exact lv_iload hG.1.1 hG.1.2.1 hd h1 (k hG ⟨h0, hw, hS, hl, ⟨_, _, rfl, rfl, hst⟩, hb⟩)
theorem mm_iload_n {n : Fin 4} {x : Int32} (hd : decode M.2.1 pc = .ok (.iload_n n, 1)) (hx : L[(n : Nat)]? = some (some (.int x))) (k : mm_V M d k0 post kc ks (pc + 1) L (.int x :: r) w) : mm_V M d k0 post kc ks pc L r w := by
  intro p l e R s m args below meth c D cA A Q ρ0 mc ms hG ρ H locs ls st' cells slots ⟨h0, hw, hS, hl, hst, hb⟩
  obtain ⟨v, h1, h2⟩ := hl.2.2.2 _ _ hx
  have h2 : v = .int x := h2
  subst h2
  exact lv_iload_n hG.1.1 hG.1.2.1 hd rfl h1 (k hG ⟨h0, hw, hS, hl, ⟨_, _, rfl, rfl, hst⟩, hb⟩)
theorem mm_lload {n : Nat} {x : Int64} (hd : decode M.2.1 pc = .ok (.lload n, 2)) (hx : L[n]? = some (some (.long x))) (k : mm_V M d k0 post kc ks (pc + 2) L (.long x :: r) w) : mm_V M d k0 post kc ks pc L r w := by
  intro p l e R s m args below meth c D cA A Q ρ0 mc ms hG ρ H locs ls st' cells slots ⟨h0, hw, hS, hl, hst, hb⟩
  obtain ⟨v, h1, h2⟩ := hl.2.2.2 _ _ hx
  have h2 : v = .long x := h2
  subst h2
  exact lv_lload hG.1.1 hG.1.2.1 hd h1 (k hG ⟨h0, hw, hS, hl, ⟨_, _, rfl, rfl, hst⟩, hb⟩)
theorem mm_lload_n {n : Fin 4} {x : Int64} (hd : decode M.2.1 pc = .ok (.lload_n n, 1)) (hx : L[(n : Nat)]? = some (some (.long x))) (k : mm_V M d k0 post kc ks (pc + 1) L (.long x :: r) w) : mm_V M d k0 post kc ks pc L r w := by
  intro p l e R s m args below meth c D cA A Q ρ0 mc ms hG ρ H locs ls st' cells slots ⟨h0, hw, hS, hl, hst, hb⟩
  obtain ⟨v, h1, h2⟩ := hl.2.2.2 _ _ hx
  have h2 : v = .long x := h2
  subst h2
  exact lv_lload_n hG.1.1 hG.1.2.1 hd rfl h1 (k hG ⟨h0, hw, hS, hl, ⟨_, _, rfl, rfl, hst⟩, hb⟩)
theorem mm_aload {n : Nat} {a : Nat} (hd : decode M.2.1 pc = .ok (.aload n, 2)) (hx : L[n]? = some (some (.ref a))) (k : mm_V M d k0 post kc ks (pc + 2) L (.ref a :: r) w) : mm_V M d k0 post kc ks pc L r w := by
  intro p l e R s m args below meth c D cA A Q ρ0 mc ms hG ρ H locs ls st' cells slots ⟨h0, hw, hS, hl, hst, hb⟩
  obtain ⟨v, h1, b, h2, h3⟩ := hl.2.2.2 _ _ hx
  subst h3
  exact lv_aload hG.1.1 hG.1.2.1 hd h1 (k hG ⟨h0, hw, hS, hl, ⟨_, _, rfl, ⟨b, h2, rfl⟩, hst⟩, hb⟩)
theorem mm_aloadN {n : Nat} (hd : decode M.2.1 pc = .ok (.aload n, 2)) (hx : L[n]? = some (some .null)) (k : mm_V M d k0 post kc ks (pc + 2) L (.null :: r) w) : mm_V M d k0 post kc ks pc L r w := by
  intro p l e R s m args below meth c D cA A Q ρ0 mc ms hG ρ H locs ls st' cells slots ⟨h0, hw, hS, hl, hst, hb⟩
  obtain ⟨v, h1, h2⟩ := hl.2.2.2 _ _ hx
  have h2 : v = .null := h2
  subst h2
  exact lv_aloadN hG.1.1 hG.1.2.1 hd h1 (k hG ⟨h0, hw, hS, hl, ⟨_, _, rfl, rfl, hst⟩, hb⟩)
theorem mm_aload_n {n : Fin 4} {a : Nat} (hd : decode M.2.1 pc = .ok (.aload_n n, 1)) (hx : L[(n : Nat)]? = some (some (.ref a))) (k : mm_V M d k0 post kc ks (pc + 1) L (.ref a :: r) w) : mm_V M d k0 post kc ks pc L r w := by
  intro p l e R s m args below meth c D cA A Q ρ0 mc ms hG ρ H locs ls st' cells slots ⟨h0, hw, hS, hl, hst, hb⟩
  obtain ⟨v, h1, b, h2, h3⟩ := hl.2.2.2 _ _ hx
  subst h3
  exact lv_aload_n hG.1.1 hG.1.2.1 hd rfl h1 (k hG ⟨h0, hw, hS, hl, ⟨_, _, rfl, ⟨b, h2, rfl⟩, hst⟩, hb⟩)
theorem mm_aload_nN {n : Fin 4} (hd : decode M.2.1 pc = .ok (.aload_n n, 1)) (hx : L[(n : Nat)]? = some (some .null)) (k : mm_V M d k0 post kc ks (pc + 1) L (.null :: r) w) : mm_V M d k0 post kc ks pc L r w := by
  intro p l e R s m args below meth c D cA A Q ρ0 mc ms hG ρ H locs ls st' cells slots ⟨h0, hw, hS, hl, hst, hb⟩
  obtain ⟨v, h1, h2⟩ := hl.2.2.2 _ _ hx
  have h2 : v = .null := h2
  subst h2
  exact lv_aload_nN hG.1.1 hG.1.2.1 hd rfl h1 (k hG ⟨h0, hw, hS, hl, ⟨_, _, rfl, rfl, hst⟩, hb⟩)
theorem mm_istore {n : Nat} {x : Int32} (hd : decode M.2.1 pc = .ok (.istore n, 2)) (hn : n < M.2.2.1) (k : mm_V M d k0 post kc ks (pc + 2) (mm_s1 L n (.int x)) r w) : mm_V M d k0 post kc ks pc L ((.int x) :: r) w := by
  intro p l e R s m args below meth c D cA A Q ρ0 mc ms hG ρ H locs ls st' cells slots ⟨h0, hw, hS, hl, hst, hb⟩
  obtain ⟨t1, rfl, h1⟩ := mm_vs_i hst
  exact lv_istore hG.1.1 hG.1.2.1 hd (mm_lv_has hl.1 hl.2.2.1) hn rfl (fun ls' hl' => k hG ⟨h0, hw, hS, mm_l_s1 hl rfl hn hl', h1, hb⟩)
theorem mm_lstore {n : Nat} {x : Int64} (hd : decode M.2.1 pc = .ok (.lstore n, 2)) (hn : n + 1 < M.2.2.1) (k : mm_V M d k0 post kc ks (pc + 2) (mm_s2 L n (.long x)) r w) : mm_V M d k0 post kc ks pc L ((.long x) :: r) w := by
  intro p l e R s m args below meth c D cA A Q ρ0 mc ms hG ρ H locs ls st' cells slots ⟨h0, hw, hS, hl, hst, hb⟩
  obtain ⟨t1, rfl, h1⟩ := mm_vs_j hst
  exact lv_lstore hG.1.1 hG.1.2.1 hd (mm_lv_has hl.1 hl.2.2.1) hn rfl (fun ls' hl' => k hG ⟨h0, hw, hS, mm_l_s2 hl rfl hn hl', h1, hb⟩)
theorem mm_astore {n : Nat} {a : Nat} (hd : decode M.2.1 pc = .ok (.astore n, 2)) (hn : n < M.2.2.1) (k : mm_V M d k0 post kc ks (pc + 2) (mm_s1 L n (.ref a)) r w) : mm_V M d k0 post kc ks pc L ((.ref a) :: r) w := by
  intro p l e R s m args below meth c D cA A Q ρ0 mc ms hG ρ H locs ls st' cells slots ⟨h0, hw, hS, hl, hst, hb⟩
  obtain ⟨b, t1, rfl, hb1, h1⟩ := mm_vs_r hst
  exact lv_astore hG.1.1 hG.1.2.1 hd (mm_lv_has hl.1 hl.2.2.1) hn rfl (fun ls' hl' => k hG ⟨h0, hw, hS, mm_l_s1 hl ⟨b, hb1, rfl⟩ hn hl', h1, hb⟩)
theorem mm_astoreN {n : Nat} (hd : decode M.2.1 pc = .ok (.astore n, 2)) (hn : n < M.2.2.1) (k : mm_V M d k0 post kc ks (pc + 2) (mm_s1 L n .null) r w) : mm_V M d k0 post kc ks pc L (.null :: r) w := by
  intro p l e R s m args below meth c D cA A Q ρ0 mc ms hG ρ H locs ls st' cells slots ⟨h0, hw, hS, hl, hst, hb⟩
  obtain ⟨t1, rfl, h1⟩ := mm_vs_n hst
  exact lv_astoreN hG.1.1 hG.1.2.1 hd (mm_lv_has hl.1 hl.2.2.1) hn rfl (fun ls' hl' => k hG ⟨h0, hw, hS, mm_l_s1 hl rfl hn hl', h1, hb⟩)
theorem mm_istore_n {n : Fin 4} {x : Int32} (hd : decode M.2.1 pc = .ok (.istore_n n, 1)) (hn : (n : Nat) < M.2.2.1) (k : mm_V M d k0 post kc ks (pc + 1) (mm_s1 L (n : Nat) (.int x)) r w) : mm_V M d k0 post kc ks pc L ((.int x) :: r) w := by
  intro p l e R s m args below meth c D cA A Q ρ0 mc ms hG ρ H locs ls st' cells slots ⟨h0, hw, hS, hl, hst, hb⟩
  obtain ⟨t1, rfl, h1⟩ := mm_vs_i hst
  exact lv_istore_n hG.1.1 hG.1.2.1 hd rfl (mm_lv_has hl.1 hl.2.2.1) hn rfl (fun ls' hl' => k hG ⟨h0, hw, hS, mm_l_s1 hl rfl hn hl', h1, hb⟩)
theorem mm_lstore_n {n : Fin 4} {x : Int64} (hd : decode M.2.1 pc = .ok (.lstore_n n, 1)) (hn : (n : Nat) + 1 < M.2.2.1) (k : mm_V M d k0 post kc ks (pc + 1) (mm_s2 L (n : Nat) (.long x)) r w) : mm_V M d k0 post kc ks pc L ((.long x) :: r) w := by
  intro p l e R s m args below meth c D cA A Q ρ0 mc ms hG ρ H locs ls st' cells slots ⟨h0, hw, hS, hl, hst, hb⟩
  obtain ⟨t1, rfl, h1⟩ := mm_vs_j hst
  exact lv_lstore_n hG.1.1 hG.1.2.1 hd rfl (mm_lv_has hl.1 hl.2.2.1) hn rfl (fun ls' hl' => k hG ⟨h0, hw, hS, mm_l_s2 hl rfl hn hl', h1, hb⟩)
theorem mm_astore_n {n : Fin 4} {a : Nat} (hd : decode M.2.1 pc = .ok (.astore_n n, 1)) (hn : (n : Nat) < M.2.2.1) (k : mm_V M d k0 post kc ks (pc + 1) (mm_s1 L (n : Nat) (.ref a)) r w) : mm_V M d k0 post kc ks pc L ((.ref a) :: r) w := by
  intro p l e R s m args below meth c D cA A Q ρ0 mc ms hG ρ H locs ls st' cells slots ⟨h0, hw, hS, hl, hst, hb⟩
  obtain ⟨b, t1, rfl, hb1, h1⟩ := mm_vs_r hst
  exact lv_astore_n hG.1.1 hG.1.2.1 hd rfl (mm_lv_has hl.1 hl.2.2.1) hn rfl (fun ls' hl' => k hG ⟨h0, hw, hS, mm_l_s1 hl ⟨b, hb1, rfl⟩ hn hl', h1, hb⟩)
theorem mm_astore_nN {n : Fin 4} (hd : decode M.2.1 pc = .ok (.astore_n n, 1)) (hn : (n : Nat) < M.2.2.1) (k : mm_V M d k0 post kc ks (pc + 1) (mm_s1 L (n : Nat) .null) r w) : mm_V M d k0 post kc ks pc L (.null :: r) w := by
  intro p l e R s m args below meth c D cA A Q ρ0 mc ms hG ρ H locs ls st' cells slots ⟨h0, hw, hS, hl, hst, hb⟩
  obtain ⟨t1, rfl, h1⟩ := mm_vs_n hst
  exact lv_astore_nN hG.1.1 hG.1.2.1 hd rfl (mm_lv_has hl.1 hl.2.2.1) hn rfl (fun ls' hl' => k hG ⟨h0, hw, hS, mm_l_s1 hl rfl hn hl', h1, hb⟩)
theorem mm_iinc {n : Nat} {i : Int} {x v : Int32} (hd : decode M.2.1 pc = .ok (.iinc n i, 3)) (hx : L[n]? = some (some (.int x))) (hv : Int32.ofInt i = v) (hn : n < M.2.2.1) (k : mm_V M d k0 post kc ks (pc + 3) (mm_s1 L n (.int (x + v))) r w) : mm_V M d k0 post kc ks pc L r w := by
  intro p l e R s m args below meth c D cA A Q ρ0 mc ms hG ρ H locs ls st' cells slots ⟨h0, hw, hS, hl, hst, hb⟩
  obtain ⟨y, h1, h2⟩ := hl.2.2.2 _ _ hx
  have h2 : y = .int x := h2
  subst h2
  obtain ⟨j, hj⟩ := List.getElem?_of_mem (mm_lv_mem.mpr h1)
  exact lv_iinc hG.1.1 hG.1.2.1 hd (mm_lv_has hl.1 hl.2.2.1) hj (by rw [hv]) hn rfl (fun ls' hl' => k hG ⟨h0, hw, hS, mm_l_s1 hl rfl hn hl', hst, hb⟩)
theorem mm_iadd {x y : Int32} (hd : decode M.2.1 pc = .ok (.iadd, 1)) (k : mm_V M d k0 post kc ks (pc + 1) L (.int (x + y) :: r) w) : mm_V M d k0 post kc ks pc L (.int y :: .int x :: r) w := by
  intro p l e R s m args below meth c D cA A Q ρ0 mc ms hG ρ H locs ls st' cells slots ⟨h0, hw, hS, hl, hst, hb⟩
  obtain ⟨t1, rfl, h1⟩ := mm_vs_i hst
  obtain ⟨t2, rfl, h2⟩ := mm_vs_i h1
  exact lv_iadd hG.1.1 hG.1.2.1 hd (k hG ⟨h0, hw, hS, hl, ⟨_, _, rfl, rfl, h2⟩, hb⟩)
theorem mm_isub {x y : Int32} (hd : decode M.2.1 pc = .ok (.isub, 1)) (k : mm_V M d k0 post kc ks (pc + 1) L (.int (x - y) :: r) w) : mm_V M d k0 post kc ks pc L (.int y :: .int x :: r) w := by
  intro p l e R s m args below meth c D cA A Q ρ0 mc ms hG ρ H locs ls st' cells slots ⟨h0, hw, hS, hl, hst, hb⟩
  obtain ⟨t1, rfl, h1⟩ := mm_vs_i hst
  obtain ⟨t2, rfl, h2⟩ := mm_vs_i h1
  exact lv_isub hG.1.1 hG.1.2.1 hd (k hG ⟨h0, hw, hS, hl, ⟨_, _, rfl, rfl, h2⟩, hb⟩)
theorem mm_imul {x y : Int32} (hd : decode M.2.1 pc = .ok (.imul, 1)) (k : mm_V M d k0 post kc ks (pc + 1) L (.int (x * y) :: r) w) : mm_V M d k0 post kc ks pc L (.int y :: .int x :: r) w := by
  intro p l e R s m args below meth c D cA A Q ρ0 mc ms hG ρ H locs ls st' cells slots ⟨h0, hw, hS, hl, hst, hb⟩
  obtain ⟨t1, rfl, h1⟩ := mm_vs_i hst
  obtain ⟨t2, rfl, h2⟩ := mm_vs_i h1
  exact lv_imul hG.1.1 hG.1.2.1 hd (k hG ⟨h0, hw, hS, hl, ⟨_, _, rfl, rfl, h2⟩, hb⟩)
theorem mm_iand {x y : Int32} (hd : decode M.2.1 pc = .ok (.iand, 1)) (k : mm_V M d k0 post kc ks (pc + 1) L (.int (x &&& y) :: r) w) : mm_V M d k0 post kc ks pc L (.int y :: .int x :: r) w := by
  intro p l e R s m args below meth c D cA A Q ρ0 mc ms hG ρ H locs ls st' cells slots ⟨h0, hw, hS, hl, hst, hb⟩
  obtain ⟨t1, rfl, h1⟩ := mm_vs_i hst
  obtain ⟨t2, rfl, h2⟩ := mm_vs_i h1
  exact lv_iand hG.1.1 hG.1.2.1 hd (k hG ⟨h0, hw, hS, hl, ⟨_, _, rfl, rfl, h2⟩, hb⟩)
theorem mm_ior {x y : Int32} (hd : decode M.2.1 pc = .ok (.ior, 1)) (k : mm_V M d k0 post kc ks (pc + 1) L (.int (x ||| y) :: r) w) : mm_V M d k0 post kc ks pc L (.int y :: .int x :: r) w := by
  intro p l e R s m args below meth c D cA A Q ρ0 mc ms hG ρ H locs ls st' cells slots ⟨h0, hw, hS, hl, hst, hb⟩
  obtain ⟨t1, rfl, h1⟩ := mm_vs_i hst
  obtain ⟨t2, rfl, h2⟩ := mm_vs_i h1
  exact lv_ior hG.1.1 hG.1.2.1 hd (k hG ⟨h0, hw, hS, hl, ⟨_, _, rfl, rfl, h2⟩, hb⟩)
theorem mm_ixor {x y : Int32} (hd : decode M.2.1 pc = .ok (.ixor, 1)) (k : mm_V M d k0 post kc ks (pc + 1) L (.int (x ^^^ y) :: r) w) : mm_V M d k0 post kc ks pc L (.int y :: .int x :: r) w := by
  intro p l e R s m args below meth c D cA A Q ρ0 mc ms hG ρ H locs ls st' cells slots ⟨h0, hw, hS, hl, hst, hb⟩
  obtain ⟨t1, rfl, h1⟩ := mm_vs_i hst
  obtain ⟨t2, rfl, h2⟩ := mm_vs_i h1
  exact lv_ixor hG.1.1 hG.1.2.1 hd (k hG ⟨h0, hw, hS, hl, ⟨_, _, rfl, rfl, h2⟩, hb⟩)
theorem mm_ishl {x y : Int32} (hd : decode M.2.1 pc = .ok (.ishl, 1)) (k : mm_V M d k0 post kc ks (pc + 1) L (.int (x <<< (y &&& 31)) :: r) w) : mm_V M d k0 post kc ks pc L (.int y :: .int x :: r) w := by
  intro p l e R s m args below meth c D cA A Q ρ0 mc ms hG ρ H locs ls st' cells slots ⟨h0, hw, hS, hl, hst, hb⟩
  obtain ⟨t1, rfl, h1⟩ := mm_vs_i hst
  obtain ⟨t2, rfl, h2⟩ := mm_vs_i h1
  exact lv_ishl hG.1.1 hG.1.2.1 hd (k hG ⟨h0, hw, hS, hl, ⟨_, _, rfl, rfl, h2⟩, hb⟩)
theorem mm_ishr {x y : Int32} (hd : decode M.2.1 pc = .ok (.ishr, 1)) (k : mm_V M d k0 post kc ks (pc + 1) L (.int (x >>> (y &&& 31)) :: r) w) : mm_V M d k0 post kc ks pc L (.int y :: .int x :: r) w := by
  intro p l e R s m args below meth c D cA A Q ρ0 mc ms hG ρ H locs ls st' cells slots ⟨h0, hw, hS, hl, hst, hb⟩
  obtain ⟨t1, rfl, h1⟩ := mm_vs_i hst
  obtain ⟨t2, rfl, h2⟩ := mm_vs_i h1
  exact lv_ishr hG.1.1 hG.1.2.1 hd (k hG ⟨h0, hw, hS, hl, ⟨_, _, rfl, rfl, h2⟩, hb⟩)
theorem mm_idiv {x y : Int32} (hd : decode M.2.1 pc = .ok (.idiv, 1)) (hne : ¬ y = 0) (k : mm_V M d k0 post kc ks (pc + 1) L (.int (x / y) :: r) w) : mm_V M d k0 post kc ks pc L (.int y :: .int x :: r) w := by
  intro p l e R s m args below meth c D cA A Q ρ0 mc ms hG ρ H locs ls st' cells slots ⟨h0, hw, hS, hl, hst, hb⟩
  obtain ⟨t1, rfl, h1⟩ := mm_vs_i hst
  obtain ⟨t2, rfl, h2⟩ := mm_vs_i h1
  exact lv_idiv hG.1.1 hG.1.2.1 hd hne (k hG ⟨h0, hw, hS, hl, ⟨_, _, rfl, rfl, h2⟩, hb⟩)
theorem mm_irem {x y : Int32} (hd : decode M.2.1 pc = .ok (.irem, 1)) (hne : ¬ y = 0) (k : mm_V M d k0 post kc ks (pc + 1) L (.int (x - x / y * y) :: r) w) : mm_V M d k0 post kc ks pc L (.int y :: .int x :: r) w := by
  intro p l e R s m args below meth c D cA A Q ρ0 mc ms hG ρ H locs ls st' cells slots ⟨h0, hw, hS, hl, hst, hb⟩
  obtain ⟨t1, rfl, h1⟩ := mm_vs_i hst
  obtain ⟨t2, rfl, h2⟩ := mm_vs_i h1
  exact lv_irem hG.1.1 hG.1.2.1 hd hne (k hG ⟨h0, hw, hS, hl, ⟨_, _, rfl, rfl, h2⟩, hb⟩)
theorem mm_iushr {x y : Int32} (hd : decode M.2.1 pc = .ok (.iushr, 1)) (k : mm_V M d k0 post kc ks (pc + 1) L (.int (x.toUInt32 >>> (y.toUInt32 &&& Int32.toUInt32 31)).toInt32 :: r) w) : mm_V M d k0 post kc ks pc L (.int y :: .int x :: r) w := by
  intro p l e R s m args below meth c D cA A Q ρ0 mc ms hG ρ H locs ls st' cells slots ⟨h0, hw, hS, hl, hst, hb⟩
  obtain ⟨t1, rfl, h1⟩ := mm_vs_i hst
  obtain ⟨t2, rfl, h2⟩ := mm_vs_i h1
  exact lv_iushr hG.1.1 hG.1.2.1 hd rfl (k hG ⟨h0, hw, hS, hl, ⟨_, _, rfl, rfl, h2⟩, hb⟩)
theorem mm_ladd {x y : Int64} (hd : decode M.2.1 pc = .ok (.ladd, 1)) (k : mm_V M d k0 post kc ks (pc + 1) L (.long (x + y) :: r) w) : mm_V M d k0 post kc ks pc L (.long y :: .long x :: r) w := by
  intro p l e R s m args below meth c D cA A Q ρ0 mc ms hG ρ H locs ls st' cells slots ⟨h0, hw, hS, hl, hst, hb⟩
  obtain ⟨t1, rfl, h1⟩ := mm_vs_j hst
  obtain ⟨t2, rfl, h2⟩ := mm_vs_j h1
  exact lv_ladd hG.1.1 hG.1.2.1 hd (k hG ⟨h0, hw, hS, hl, ⟨_, _, rfl, rfl, h2⟩, hb⟩)
theorem mm_lsub {x y : Int64} (hd : decode M.2.1 pc = .ok (.lsub, 1)) (k : mm_V M d k0 post kc ks (pc + 1) L (.long (x - y) :: r) w) : mm_V M d k0 post kc ks pc L (.long y :: .long x :: r) w := by
  intro p l e R s m args below meth c D cA A Q ρ0 mc ms hG ρ H locs ls st' cells slots ⟨h0, hw, hS, hl, hst, hb⟩
  obtain ⟨t1, rfl, h1⟩ := mm_vs_j hst
  obtain ⟨t2, rfl, h2⟩ := mm_vs_j h1
  exact lv_lsub hG.1.1 hG.1.2.1 hd (k hG ⟨h0, hw, hS, hl, ⟨_, _, rfl, rfl, h2⟩, hb⟩)
theorem mm_lmul {x y : Int64} (hd : decode M.2.1 pc = .ok (.lmul, 1)) (k : mm_V M d k0 post kc ks (pc + 1) L (.long (x * y) :: r) w) : mm_V M d k0 post kc ks pc L (.long y :: .long x :: r) w := by
  intro p l e R s m args below meth c D cA A Q ρ0 mc ms hG ρ H locs ls st' cells slots ⟨h0, hw, hS, hl, hst, hb⟩
  obtain ⟨t1, rfl, h1⟩ := mm_vs_j hst
  obtain ⟨t2, rfl, h2⟩ := mm_vs_j h1
  exact lv_lmul hG.1.1 hG.1.2.1 hd (k hG ⟨h0, hw, hS, hl, ⟨_, _, rfl, rfl, h2⟩, hb⟩)
theorem mm_land {x y : Int64} (hd : decode M.2.1 pc = .ok (.land, 1)) (k : mm_V M d k0 post kc ks (pc + 1) L (.long (x &&& y) :: r) w) : mm_V M d k0 post kc ks pc L (.long y :: .long x :: r) w := by
  intro p l e R s m args below meth c D cA A Q ρ0 mc ms hG ρ H locs ls st' cells slots ⟨h0, hw, hS, hl, hst, hb⟩
  obtain ⟨t1, rfl, h1⟩ := mm_vs_j hst
  obtain ⟨t2, rfl, h2⟩ := mm_vs_j h1
  exact lv_land hG.1.1 hG.1.2.1 hd (k hG ⟨h0, hw, hS, hl, ⟨_, _, rfl, rfl, h2⟩, hb⟩)
theorem mm_lor {x y : Int64} (hd : decode M.2.1 pc = .ok (.lor, 1)) (k : mm_V M d k0 post kc ks (pc + 1) L (.long (x ||| y) :: r) w) : mm_V M d k0 post kc ks pc L (.long y :: .long x :: r) w := by
  intro p l e R s m args below meth c D cA A Q ρ0 mc ms hG ρ H locs ls st' cells slots ⟨h0, hw, hS, hl, hst, hb⟩
  obtain ⟨t1, rfl, h1⟩ := mm_vs_j hst
  obtain ⟨t2, rfl, h2⟩ := mm_vs_j h1
  exact lv_lor hG.1.1 hG.1.2.1 hd (k hG ⟨h0, hw, hS, hl, ⟨_, _, rfl, rfl, h2⟩, hb⟩)
theorem mm_lxor {x y : Int64} (hd : decode M.2.1 pc = .ok (.lxor, 1)) (k : mm_V M d k0 post kc ks (pc + 1) L (.long (x ^^^ y) :: r) w) : mm_V M d k0 post kc ks pc L (.long y :: .long x :: r) w := by
  intro p l e R s m args below meth c D cA A Q ρ0 mc ms hG ρ H locs ls st' cells slots ⟨h0, hw, hS, hl, hst, hb⟩
  obtain ⟨t1, rfl, h1⟩ := mm_vs_j hst
  obtain ⟨t2, rfl, h2⟩ := mm_vs_j h1
  exact lv_lxor hG.1.1 hG.1.2.1 hd (k hG ⟨h0, hw, hS, hl, ⟨_, _, rfl, rfl, h2⟩, hb⟩)
theorem mm_lshl {x : Int64} {y : Int32} (hd : decode M.2.1 pc = .ok (.lshl, 1)) (k : mm_V M d k0 post kc ks (pc + 1) L (.long (x <<< (y.toInt64 &&& 63)) :: r) w) : mm_V M d k0 post kc ks pc L (.int y :: .long x :: r) w := by
  intro p l e R s m args below meth c D cA A Q ρ0 mc ms hG ρ H locs ls st' cells slots ⟨h0, hw, hS, hl, hst, hb⟩
  obtain ⟨t1, rfl, h1⟩ := mm_vs_i hst
  obtain ⟨t2, rfl, h2⟩ := mm_vs_j h1
  exact lv_lshl hG.1.1 hG.1.2.1 hd rfl (k hG ⟨h0, hw, hS, hl, ⟨_, _, rfl, rfl, h2⟩, hb⟩)
theorem mm_lshr {x : Int64} {y : Int32} (hd : decode M.2.1 pc = .ok (.lshr, 1)) (k : mm_V M d k0 post kc ks (pc + 1) L (.long (x >>> (y.toInt64 &&& 63)) :: r) w) : mm_V M d k0 post kc ks pc L (.int y :: .long x :: r) w := by
  intro p l e R s m args below meth c D cA A Q ρ0 mc ms hG ρ H locs ls st' cells slots ⟨h0, hw, hS, hl, hst, hb⟩
  obtain ⟨t1, rfl, h1⟩ := mm_vs_i hst
  obtain ⟨t2, rfl, h2⟩ := mm_vs_j h1
  exact lv_lshr hG.1.1 hG.1.2.1 hd rfl (k hG ⟨h0, hw, hS, hl, ⟨_, _, rfl, rfl, h2⟩, hb⟩)
theorem mm_lushr {x : Int64} {y : Int32} (hd : decode M.2.1 pc = .ok (.lushr, 1)) (k : mm_V M d k0 post kc ks (pc + 1) L (.long ((x.toUInt64 >>> (y.toInt64.toUInt64 &&& Int64.toUInt64 63)).toInt64) :: r) w) : mm_V M d k0 post kc ks pc L (.int y :: .long x :: r) w := by
  intro p l e R s m args below meth c D cA A Q ρ0 mc ms hG ρ H locs ls st' cells slots ⟨h0, hw, hS, hl, hst, hb⟩
  obtain ⟨t1, rfl, h1⟩ := mm_vs_i hst
  obtain ⟨t2, rfl, h2⟩ := mm_vs_j h1
  exact lv_lushr hG.1.1 hG.1.2.1 hd rfl (k hG ⟨h0, hw, hS, hl, ⟨_, _, rfl, rfl, h2⟩, hb⟩)
theorem mm_ineg {x : Int32} (hd : decode M.2.1 pc = .ok (.ineg, 1)) (k : mm_V M d k0 post kc ks (pc + 1) L (.int (-x) :: r) w) : mm_V M d k0 post kc ks pc L (.int x :: r) w := by
  intro p l e R s m args below meth c D cA A Q ρ0 mc ms hG ρ H locs ls st' cells slots ⟨h0, hw, hS, hl, hst, hb⟩
  obtain ⟨t1, rfl, h1⟩ := mm_vs_i hst
  exact lv_ineg hG.1.1 hG.1.2.1 hd (k hG ⟨h0, hw, hS, hl, ⟨_, _, rfl, rfl, h1⟩, hb⟩)
theorem mm_i2b {x : Int32} (hd : decode M.2.1 pc = .ok (.i2b, 1)) (k : mm_V M d k0 post kc ks (pc + 1) L (.int x.toInt8.toInt32 :: r) w) : mm_V M d k0 post kc ks pc L (.int x :: r) w := by
  intro p l e R s m args below meth c D cA A Q ρ0 mc ms hG ρ H locs ls st' cells slots ⟨h0, hw, hS, hl, hst, hb⟩
  obtain ⟨t1, rfl, h1⟩ := mm_vs_i hst
  exact lv_i2b hG.1.1 hG.1.2.1 hd rfl (k hG ⟨h0, hw, hS, hl, ⟨_, _, rfl, rfl, h1⟩, hb⟩)
theorem mm_i2s {x : Int32} (hd : decode M.2.1 pc = .ok (.i2s, 1)) (k : mm_V M d k0 post kc ks (pc + 1) L (.int x.toInt16.toInt32 :: r) w) : mm_V M d k0 post kc ks pc L (.int x :: r) w := by
  intro p l e R s m args below meth c D cA A Q ρ0 mc ms hG ρ H locs ls st' cells slots ⟨h0, hw, hS, hl, hst, hb⟩
  obtain ⟨t1, rfl, h1⟩ := mm_vs_i hst
  exact lv_i2s hG.1.1 hG.1.2.1 hd rfl (k hG ⟨h0, hw, hS, hl, ⟨_, _, rfl, rfl, h1⟩, hb⟩)
theorem mm_i2c {x : Int32} (hd : decode M.2.1 pc = .ok (.i2c, 1)) (k : mm_V M d k0 post kc ks (pc + 1) L (.int (x.toUInt32 % 65536).toInt32 :: r) w) : mm_V M d k0 post kc ks pc L (.int x :: r) w := by
  intro p l e R s m args below meth c D cA A Q ρ0 mc ms hG ρ H locs ls st' cells slots ⟨h0, hw, hS, hl, hst, hb⟩
  obtain ⟨t1, rfl, h1⟩ := mm_vs_i hst
  exact lv_i2c hG.1.1 hG.1.2.1 hd rfl (k hG ⟨h0, hw, hS, hl, ⟨_, _, rfl, rfl, h1⟩, hb⟩)
theorem mm_i2l {x : Int32} (hd : decode M.2.1 pc = .ok (.i2l, 1)) (k : mm_V M d k0 post kc ks (pc + 1) L (.long x.toInt64 :: r) w) : mm_V M d k0 post kc ks pc L (.int x :: r) w := by
  intro p l e R s m args below meth c D cA A Q ρ0 mc ms hG ρ H locs ls st' cells slots ⟨h0, hw, hS, hl, hst, hb⟩
  obtain ⟨t1, rfl, h1⟩ := mm_vs_i hst
  exact lv_i2l hG.1.1 hG.1.2.1 hd rfl (k hG ⟨h0, hw, hS, hl, ⟨_, _, rfl, rfl, h1⟩, hb⟩)
theorem mm_l2i {x : Int64} (hd : decode M.2.1 pc = .ok (.l2i, 1)) (k : mm_V M d k0 post kc ks (pc + 1) L (.int x.toInt32 :: r) w) : mm_V M d k0 post kc ks pc L (.long x :: r) w := by
  intro p l e R s m args below meth c D cA A Q ρ0 mc ms hG ρ H locs ls st' cells slots ⟨h0, hw, hS, hl, hst, hb⟩
  obtain ⟨t1, rfl, h1⟩ := mm_vs_j hst
  exact lv_l2i hG.1.1 hG.1.2.1 hd rfl (k hG ⟨h0, hw, hS, hl, ⟨_, _, rfl, rfl, h1⟩, hb⟩)
theorem mm_lcmp {x y : Int64} (hd : decode M.2.1 pc = .ok (.lcmp, 1)) (k : mm_V M d k0 post kc ks (pc + 1) L (.int (lg_cmp x y) :: r) w) : mm_V M d k0 post kc ks pc L (.long y :: .long x :: r) w := by
  intro p l e R s m args below meth c D cA A Q ρ0 mc ms hG ρ H locs ls st' cells slots ⟨h0, hw, hS, hl, hst, hb⟩
  obtain ⟨t1, rfl, h1⟩ := mm_vs_j hst
  obtain ⟨t2, rfl, h2⟩ := mm_vs_j h1
  exact W.lcmp hG.1.1 hG.1.2.1 hd (k hG ⟨h0, hw, hS, hl, ⟨_, _, rfl, rfl, h2⟩, hb⟩)
theorem mm_dup {u : Value} (hd : decode M.2.1 pc = .ok (.dup, 1)) (hu : u.category = 1) (k : mm_V M d k0 post kc ks (pc + 1) L (u :: u :: r) w) : mm_V M d k0 post kc ks pc L (u :: r) w := by
  intro p l e R s m args below meth c D cA A Q ρ0 mc ms hG ρ H locs ls st' cells slots ⟨h0, hw, hS, hl, hst, hb⟩
  obtain ⟨v, t1, rfl, h1, h2⟩ := hst
  exact lv_dup hG.1.1 hG.1.2.1 hd (by rw [mm_v_cat h1]; exact hu) (k hG ⟨h0, hw, hS, hl, ⟨_, _, rfl, h1, _, _, rfl, h1, h2⟩, hb⟩)
theorem mm_pop {u : Value} (hd : decode M.2.1 pc = .ok (.pop, 1)) (hu : u.category = 1) (k : mm_V M d k0 post kc ks (pc + 1) L r w) : mm_V M d k0 post kc ks pc L (u :: r) w := by
  intro p l e R s m args below meth c D cA A Q ρ0 mc ms hG ρ H locs ls st' cells slots ⟨h0, hw, hS, hl, hst, hb⟩
  obtain ⟨v, t1, rfl, h1, h2⟩ := hst
  exact lv_pop hG.1.1 hG.1.2.1 hd (by rw [mm_v_cat h1]; exact hu) (k hG ⟨h0, hw, hS, hl, h2, hb⟩)
theorem mm_dup_x1 {u u2 : Value} (hd : decode M.2.1 pc = .ok (.dup_x1, 1)) (hu : u.category = 1) (hu2 : u2.category = 1) (k : mm_V M d k0 post kc ks (pc + 1) L (u :: u2 :: u :: r) w) : mm_V M d k0 post kc ks pc L (u :: u2 :: r) w := by
  intro p l e R s m args below meth c D cA A Q ρ0 mc ms hG ρ H locs ls st' cells slots ⟨h0, hw, hS, hl, hst, hb⟩
  obtain ⟨v, t1, rfl, h1, v2, t2, rfl, h2, h3⟩ := hst
  exact lv_dup_x1 hG.1.1 hG.1.2.1 hd (by rw [mm_v_cat h1]; exact hu) (by rw [mm_v_cat h2]; exact hu2) (k hG ⟨h0, hw, hS, hl, ⟨_, _, rfl, h1, _, _, rfl, h2, _, _, rfl, h1, h3⟩, hb⟩)
theorem mm_dup_x2 {u u2 u3 : Value} (hd : decode M.2.1 pc = .ok (.dup_x2, 1)) (hu : u.category = 1) (hu2 : u2.category = 1) (hu3 : u3.category = 1) (k : mm_V M d k0 post kc ks (pc + 1) L (u :: u2 :: u3 :: u :: r) w) : mm_V M d k0 post kc ks pc L (u :: u2 :: u3 :: r) w := by
  intro p l e R s m args below meth c D cA A Q ρ0 mc ms hG ρ H locs ls st' cells slots ⟨h0, hw, hS, hl, hst, hb⟩
  obtain ⟨v, t1, rfl, h1, v2, t2, rfl, h2, v3, t3, rfl, h3, h4⟩ := hst
  exact lv_dup_x2 hG.1.1 hG.1.2.1 hd (by rw [mm_v_cat h1]; exact hu) (by rw [mm_v_cat h2]; exact hu2) (by rw [mm_v_cat h3]; exact hu3) (k hG ⟨h0, hw, hS, hl, ⟨_, _, rfl, h1, _, _, rfl, h2, _, _, rfl, h3, _, _, rfl, h1, h4⟩, hb⟩)
theorem mm_dup2 {u u2 : Value} (hd : decode M.2.1 pc = .ok (.dup2, 1)) (hu : u.category = 1) (hu2 : u2.category = 1) (k : mm_V M d k0 post kc ks (pc + 1) L (u :: u2 :: u :: u2 :: r) w) : mm_V M d k0 post kc ks pc L (u :: u2 :: r) w := by
  intro p l e R s m args below meth c D cA A Q ρ0 mc ms hG ρ H locs ls st' cells slots ⟨h0, hw, hS, hl, hst, hb⟩
  obtain ⟨v, t1, rfl, h1, v2, t2, rfl, h2, h3⟩ := hst
  exact lv_dup2_11 hG.1.1 hG.1.2.1 hd (by rw [mm_v_cat h1]; exact hu) (by rw [mm_v_cat h2]; exact hu2) (k hG ⟨h0, hw, hS, hl, ⟨_, _, rfl, h1, _, _, rfl, h2, _, _, rfl, h1, _, _, rfl, h2, h3⟩, hb⟩)
theorem mm_goto {off : Int} {tgt : Nat} (hd : decode M.2.1 pc = .ok (.goto off, 3)) (ht : (pc : Int) + off = (tgt : Int)) (k : mm_V M d k0 post kc ks tgt L r w) : mm_V M d k0 post kc ks pc L r w := by
  intro p l e R s m args below meth c D cA A Q ρ0 mc ms hG ρ H locs ls st' cells slots ⟨h0, hw, hS, hl, hst, hb⟩
  exact lv_goto hG.1.1 hG.1.2.1 hd ht (k hG ⟨h0, hw, hS, hl, hst, hb⟩)
theorem mm_if_eq {x : Int32} {off : Int} (tgt : Nat) (hd : decode M.2.1 pc = .ok (.ifCond .eq off, 3)) (ht : (pc : Int) + off = (tgt : Int)) (kt : x = 0 → mm_V M d k0 post kc ks tgt L r w) (kf : ¬ x = 0 → mm_V M d k0 post kc ks (pc + 3) L r w) : mm_V M d k0 post kc ks pc L (.int x :: r) w := by
  intro p l e R s m args below meth c D cA A Q ρ0 mc ms hG ρ H locs ls st' cells slots ⟨h0, hw, hS, hl, hst, hb⟩
  obtain ⟨t1, rfl, h1⟩ := mm_vs_i hst
  exact lv_if_eq hG.1.1 hG.1.2.1 hd ht (fun q => kt q hG ⟨h0, hw, hS, hl, h1, hb⟩) (fun q => kf q hG ⟨h0, hw, hS, hl, h1, hb⟩)
theorem mm_icmp_eq {x y : Int32} {off : Int} (tgt : Nat) (hd : decode M.2.1 pc = .ok (.if_icmp .eq off, 3)) (ht : (pc : Int) + off = (tgt : Int)) (kt : x = y → mm_V M d k0 post kc ks tgt L r w) (kf : ¬ x = y → mm_V M d k0 post kc ks (pc + 3) L r w) : mm_V M d k0 post kc ks pc L (.int y :: .int x :: r) w := by
  intro p l e R s m args below meth c D cA A Q ρ0 mc ms hG ρ H locs ls st' cells slots ⟨h0, hw, hS, hl, hst, hb⟩
  obtain ⟨t1, rfl, h1⟩ := mm_vs_i hst
  obtain ⟨t2, rfl, h2⟩ := mm_vs_i h1
  exact lv_icmp_eq hG.1.1 hG.1.2.1 hd ht (fun q => kt q hG ⟨h0, hw, hS, hl, h2, hb⟩) (fun q => kf q hG ⟨h0, hw, hS, hl, h2, hb⟩)
theorem mm_if_ne {x : Int32} {off : Int} (tgt : Nat) (hd : decode M.2.1 pc = .ok (.ifCond .ne off, 3)) (ht : (pc : Int) + off = (tgt : Int)) (kt : ¬ x = 0 → mm_V M d k0 post kc ks tgt L r w) (kf : x = 0 → mm_V M d k0 post kc ks (pc + 3) L r w) : mm_V M d k0 post kc ks pc L (.int x :: r) w := by
  intro p l e R s m args below meth c D cA A Q ρ0 mc ms hG ρ H locs ls st' cells slots ⟨h0, hw, hS, hl, hst, hb⟩
  obtain ⟨t1, rfl, h1⟩ := mm_vs_i hst
  exact lv_if_ne hG.1.1 hG.1.2.1 hd ht (fun q => kt q hG ⟨h0, hw, hS, hl, h1, hb⟩) (fun q => kf q hG ⟨h0, hw, hS, hl, h1, hb⟩)
theorem mm_icmp_ne {x y : Int32} {off : Int} (tgt : Nat) (hd : decode M.2.1 pc = .ok (.if_icmp .ne off, 3)) (ht : (pc : Int) + off = (tgt : Int)) (kt : ¬ x = y → mm_V M d k0 post kc ks tgt L r w) (kf : x = y → mm_V M d k0 post kc ks (pc + 3) L r w) : mm_V M d k0 post kc ks pc L (.int y :: .int x :: r) w := by
  intro p l e R s m args below meth c D cA A Q ρ0 mc ms hG ρ H locs ls st' cells slots ⟨h0, hw, hS, hl, hst, hb⟩
  obtain ⟨t1, rfl, h1⟩ := mm_vs_i hst
  obtain ⟨t2, rfl, h2⟩ := mm_vs_i h1
  exact lv_icmp_ne hG.1.1 hG.1.2.1 hd ht (fun q => kt q hG ⟨h0, hw, hS, hl, h2, hb⟩) (fun q => kf q hG ⟨h0, hw, hS, hl, h2, hb⟩)
theorem mm_if_lt {x : Int32} {off : Int} (tgt : Nat) (hd : decode M.2.1 pc = .ok (.ifCond .lt off, 3)) (ht : (pc : Int) + off = (tgt : Int)) (kt : x < 0 → mm_V M d k0 post kc ks tgt L r w) (kf : ¬ x < 0 → mm_V M d k0 post kc ks (pc + 3) L r w) : mm_V M d k0 post kc ks pc L (.int x :: r) w := by
  intro p l e R s m args below meth c D cA A Q ρ0 mc ms hG ρ H locs ls st' cells slots ⟨h0, hw, hS, hl, hst, hb⟩
  obtain ⟨t1, rfl, h1⟩ := mm_vs_i hst
  exact lv_if_lt hG.1.1 hG.1.2.1 hd ht (fun q => kt q hG ⟨h0, hw, hS, hl, h1, hb⟩) (fun q => kf q hG ⟨h0, hw, hS, hl, h1, hb⟩)
theorem mm_icmp_lt {x y : Int32} {off : Int} (tgt : Nat) (hd : decode M.2.1 pc = .ok (.if_icmp .lt off, 3)) (ht : (pc : Int) + off = (tgt : Int)) (kt : x < y → mm_V M d k0 post kc ks tgt L r w) (kf : ¬ x < y → mm_V M d k0 post kc ks (pc + 3) L r w) : mm_V M d k0 post kc ks pc L (.int y :: .int x :: r) w := by
  intro p l e R s m args below meth c D cA A Q ρ0 mc ms hG ρ H locs ls st' cells slots ⟨h0, hw, hS, hl, hst, hb⟩
  obtain ⟨t1, rfl, h1⟩ := mm_vs_i hst
  obtain ⟨t2, rfl, h2⟩ := mm_vs_i h1
  exact lv_icmp_lt hG.1.1 hG.1.2.1 hd ht (fun q => kt q hG ⟨h0, hw, hS, hl, h2, hb⟩) (fun q => kf q hG ⟨h0, hw, hS, hl, h2, hb⟩)
theorem mm_if_ge {x : Int32} {off : Int} (tgt : Nat) (hd : decode M.2.1 pc = .ok (.ifCond .ge off, 3)) (ht : (pc : Int) + off = (tgt : Int)) (kt : 0 ≤ x → mm_V M d k0 post kc ks tgt L r w) (kf : ¬ 0 ≤ x → mm_V M d k0 post kc ks (pc + 3) L r w) : mm_V M d k0 post kc ks pc L (.int x :: r) w := by
  intro p l e R s m args below meth c D cA A Q ρ0 mc ms hG ρ H locs ls st' cells slots ⟨h0, hw, hS, hl, hst, hb⟩
  obtain ⟨t1, rfl, h1⟩ := mm_vs_i hst
  exact lv_if_ge hG.1.1 hG.1.2.1 hd ht (fun q => kt q hG ⟨h0, hw, hS, hl, h1, hb⟩) (fun q => kf q hG ⟨h0, hw, hS, hl, h1, hb⟩)
theorem mm_icmp_ge {x y : Int32} {off : Int} (tgt : Nat) (hd : decode M.2.1 pc = .ok (.if_icmp .ge off, 3)) (ht : (pc : Int) + off = (tgt : Int)) (kt : y ≤ x → mm_V M d k0 post kc ks tgt L r w) (kf : ¬ y ≤ x → mm_V M d k0 post kc ks (pc + 3) L r w) : mm_V M d k0 post kc ks pc L (.int y :: .int x :: r) w := by
  intro p l e R s m args below meth c D cA A Q ρ0 mc ms hG ρ H locs ls st' cells slots ⟨h0, hw, hS, hl, hst, hb⟩
  obtain ⟨t1, rfl, h1⟩ := mm_vs_i hst
  obtain ⟨t2, rfl, h2⟩ := mm_vs_i h1
  exact lv_icmp_ge hG.1.1 hG.1.2.1 hd ht (fun q => kt q hG ⟨h0, hw, hS, hl, h2, hb⟩) (fun q => kf q hG ⟨h0, hw, hS, hl, h2, hb⟩)
theorem mm_if_gt {x : Int32} {off : Int} (tgt : Nat) (hd : decode M.2.1 pc = .ok (.ifCond .gt off, 3)) (ht : (pc : Int) + off = (tgt : Int)) (kt : 0 < x → mm_V M d k0 post kc ks tgt L r w) (kf : ¬ 0 < x → mm_V M d k0 post kc ks (pc + 3) L r w) : mm_V M d k0 post kc ks pc L (.int x :: r) w := by
  intro p l e R s m args below meth c D cA A Q ρ0 mc ms hG ρ H locs ls st' cells slots ⟨h0, hw, hS, hl, hst, hb⟩
  obtain ⟨t1, rfl, h1⟩ := mm_vs_i hst
  exact lv_if_gt hG.1.1 hG.1.2.1 hd ht (fun q => kt q hG ⟨h0, hw, hS, hl, h1, hb⟩) (fun q => kf q hG ⟨h0, hw, hS, hl, h1, hb⟩)
theorem mm_icmp_gt {x y : Int32} {off : Int} (tgt : Nat) (hd : decode M.2.1 pc = .ok (.if_icmp .gt off, 3)) (ht : (pc : Int) + off = (tgt : Int)) (kt : y < x → mm_V M d k0 post kc ks tgt L r w) (kf : ¬ y < x → mm_V M d k0 post kc ks (pc + 3) L r w) : mm_V M d k0 post kc ks pc L (.int y :: .int x :: r) w := by
  intro p l e R s m args below meth c D cA A Q ρ0 mc ms hG ρ H locs ls st' cells slots ⟨h0, hw, hS, hl, hst, hb⟩
  obtain ⟨t1, rfl, h1⟩ := mm_vs_i hst
  obtain ⟨t2, rfl, h2⟩ := mm_vs_i h1
  exact lv_icmp_gt hG.1.1 hG.1.2.1 hd ht (fun q => kt q hG ⟨h0, hw, hS, hl, h2, hb⟩) (fun q => kf q hG ⟨h0, hw, hS, hl, h2, hb⟩)
theorem mm_if_le {x : Int32} {off : Int} (tgt : Nat) (hd : decode M.2.1 pc = .ok (.ifCond .le off, 3)) (ht : (pc : Int) + off = (tgt : Int)) (kt : x ≤ 0 → mm_V M d k0 post kc ks tgt L r w) (kf : ¬ x ≤ 0 → mm_V M d k0 post kc ks (pc + 3) L r w) : mm_V M d k0 post kc ks pc L (.int x :: r) w := by
  intro p l e R s m args below meth c D cA A Q ρ0 mc ms hG ρ H locs ls st' cells slots ⟨h0, hw, hS, hl, hst, hb⟩
  obtain ⟨t1, rfl, h1⟩ := mm_vs_i hst
  exact lv_if_le hG.1.1 hG.1.2.1 hd ht (fun q => kt q hG ⟨h0, hw, hS, hl, h1, hb⟩) (fun q => kf q hG ⟨h0, hw, hS, hl, h1, hb⟩)
theorem mm_icmp_le {x y : Int32} {off : Int} (tgt : Nat) (hd : decode M.2.1 pc = .ok (.if_icmp .le off, 3)) (ht : (pc : Int) + off = (tgt : Int)) (kt : x ≤ y → mm_V M d k0 post kc ks tgt L r w) (kf : ¬ x ≤ y → mm_V M d k0 post kc ks (pc + 3) L r w) : mm_V M d k0 post kc ks pc L (.int y :: .int x :: r) w := by
  intro p l e R s m args below meth c D cA A Q ρ0 mc ms hG ρ H locs ls st' cells slots ⟨h0, hw, hS, hl, hst, hb⟩
  obtain ⟨t1, rfl, h1⟩ := mm_vs_i hst
  obtain ⟨t2, rfl, h2⟩ := mm_vs_i h1
  exact lv_icmp_le hG.1.1 hG.1.2.1 hd ht (fun q => kt q hG ⟨h0, hw, hS, hl, h2, hb⟩) (fun q => kf q hG ⟨h0, hw, hS, hl, h2, hb⟩)
theorem mm_ifnull {off : Int} {a : Nat} (hd : decode M.2.1 pc = .ok (.ifnull off, 3)) (k : mm_V M d k0 post kc ks (pc + 3) L r w) : mm_V M d k0 post kc ks pc L (.ref a :: r) w := by
  intro p l e R s m args below meth c D cA A Q ρ0 mc ms hG ρ H locs ls st' cells slots ⟨h0, hw, hS, hl, hst, hb⟩
  obtain ⟨b, t1, rfl, hb1, h1⟩ := mm_vs_r hst
  exact lv_ifnull hG.1.1 hG.1.2.1 hd (k hG ⟨h0, hw, hS, hl, h1, hb⟩)
theorem mm_ifnonnull {off : Int} {a : Nat} (tgt : Nat) (hd : decode M.2.1 pc = .ok (.ifnonnull off, 3)) (ht : (pc : Int) + off = (tgt : Int)) (k : mm_V M d k0 post kc ks tgt L r w) : mm_V M d k0 post kc ks pc L (.ref a :: r) w := by
  intro p l e R s m args below meth c D cA A Q ρ0 mc ms hG ρ H locs ls st' cells slots ⟨h0, hw, hS, hl, hst, hb⟩
  obtain ⟨b, t1, rfl, hb1, h1⟩ := mm_vs_r hst
  exact lv_ifnonnull hG.1.1 hG.1.2.1 hd ht (k hG ⟨h0, hw, hS, hl, h1, hb⟩)
theorem mm_ifnullN {off : Int} (tgt : Nat) (hd : decode M.2.1 pc = .ok (.ifnull off, 3)) (ht : (pc : Int) + off = (tgt : Int)) (k : mm_V M d k0 post kc ks tgt L r w) : mm_V M d k0 post kc ks pc L (.null :: r) w := by
  intro p l e R s m args below meth c D cA A Q ρ0 mc ms hG ρ H locs ls st' cells slots ⟨h0, hw, hS, hl, hst, hb⟩
  obtain ⟨t1, rfl, h1⟩ := mm_vs_n hst
  exact lv_ifnullN hG.1.1 hG.1.2.1 hd ht (k hG ⟨h0, hw, hS, hl, h1, hb⟩)
theorem mm_ifnonnullN {off : Int} (hd : decode M.2.1 pc = .ok (.ifnonnull off, 3)) (k : mm_V M d k0 post kc ks (pc + 3) L r w) : mm_V M d k0 post kc ks pc L (.null :: r) w := by
  intro p l e R s m args below meth c D cA A Q ρ0 mc ms hG ρ H locs ls st' cells slots ⟨h0, hw, hS, hl, hst, hb⟩
  obtain ⟨t1, rfl, h1⟩ := mm_vs_n hst
  exact lv_ifnonnullN hG.1.1 hG.1.2.1 hd (k hG ⟨h0, hw, hS, hl, h1, hb⟩)
/-- a switch as a row of questions -/
def mm_Sel (P : Nat → Prop) (x : Int32) : List (Int32 × Nat) → Nat → Prop
  | [], t => P t
  | (c, t) :: cs, d => (x = c → P t) ∧ (¬ x = c → mm_Sel P x cs d)
theorem mm_Sel_off {P : Nat → Prop} {x : Int32} {pc : Nat} {dflt : Int} {dt : Nat} (hdt : (pc : Int) + dflt = (dt : Int)) : ∀ {cs : List (Int32 × Nat)} {ps : List (Int × Int)}, ps = cs.map (fun q => (q.1.toInt, (q.2 : Int) - (pc : Int))) → mm_Sel P x cs dt → ∃ tgt : Nat, (pc : Int) + Op.lookupswitch.offset ps dflt x.toInt = (tgt : Int) ∧ P tgt
  | [], ps, h, hs => by rw [h]; exact ⟨dt, hdt, hs⟩
  | (c, t) :: cs, ps, h, hs => by
    rw [h, List.map_cons]
    by_cases hx : x = c
    · refine ⟨t, ?_, hs.1 hx⟩
      have e : Op.lookupswitch.offset ((c.toInt, (t : Int) - (pc : Int)) :: cs.map (fun q => (q.1.toInt, (q.2 : Int) - (pc : Int)))) dflt x.toInt = (t : Int) - (pc : Int) := by
        rw [hx]; simp [Op.lookupswitch.offset]
      rw [e]; omega
    · obtain ⟨tgt, h1, h2⟩ := mm_Sel_off hdt rfl (hs.2 hx)
      exact ⟨tgt, by rw [lv_osw hx rfl]; exact h1, h2⟩
theorem mm_lookup {dflt : Int} {ps : Array (Int × Int)} {len : Nat} {x : Int32} (cs : List (Int32 × Nat)) (dt : Nat) (hd : decode M.2.1 pc = .ok (.lookupswitch dflt ps, len)) (hp : (ps.toList.zip (ps.toList.drop 1)).all (fun (a, next) => a.1 < next.1) = true) (hc : ps.toList = cs.map (fun q => (q.1.toInt, (q.2 : Int) - (pc : Int)))) (hdt : (pc : Int) + dflt = (dt : Int)) (k : mm_Sel (fun t => mm_V M d k0 post kc ks t L r w) x cs dt) : mm_V M d k0 post kc ks pc L (.int x :: r) w := by
  intro p l e R s m args below meth c D cA A Q ρ0 mc ms hG ρ H locs ls st' cells slots ⟨h0, hw, hS, hl, hst, hb⟩
  obtain ⟨t1, rfl, h1⟩ := mm_vs_i hst
  obtain ⟨tgt, e1, hk⟩ := mm_Sel_off hdt hc k
  exact lv_lookup hG.1.1 hG.1.2.1 hd hp rfl e1 (hk hG ⟨h0, hw, hS, hl, h1, hb⟩)
theorem mm_Sel_tab {P : Nat → Prop} {x : Int32} {lo : Int} {dt : Nat} : ∀ {cs : List (Int32 × Nat)} (i : Nat), (∀ (j : Nat) (q : Int32 × Nat), cs[j]? = some q → q.1.toInt = lo + ((i + j : Nat) : Int)) → mm_Sel P x cs dt → (∃ (j : Nat) (q : Int32 × Nat), cs[j]? = some q ∧ x.toInt = lo + ((i + j : Nat) : Int) ∧ P q.2) ∨ ((∀ (j : Nat) (q : Int32 × Nat), cs[j]? = some q → ¬ x = q.1) ∧ P dt)
  | [], i, _, hs => Or.inr ⟨fun j q hj => by simp at hj, hs⟩
  | (c, t) :: cs, i, h, hs => by
    by_cases hx : x = c
    · refine Or.inl ⟨0, (c, t), rfl, ?_, hs.1 hx⟩
      rw [hx]
      exact h 0 (c, t) rfl
    · rcases mm_Sel_tab (i + 1) (fun j q hj => by
        have := h (j + 1) q (by rw [List.getElem?_cons_succ]; exact hj)
        rw [this]
        congr 1
        omega) (hs.2 hx) with ⟨j, q, h1, h2, h3⟩ | ⟨h1, h2⟩
      · exact Or.inl ⟨j + 1, q, by rw [List.getElem?_cons_succ]; exact h1, by rw [h2]; congr 1; omega, h3⟩
      · refine Or.inr ⟨fun j q hj => ?_, h2⟩
        match j, hj with
        | 0, hj => cases hj; exact hx
        | j + 1, hj => exact h1 j q (by rw [List.getElem?_cons_succ] at hj; exact hj)
theorem mm_table {dflt lo hi : Int} {offs : Array Int} {len : Nat} {x : Int32} (cs : List (Int32 × Nat)) (dt : Nat) (hd : decode M.2.1 pc = .ok (.tableswitch dflt lo hi offs, len)) (hlo : lo + cs.length = hi + 1) (hc : offs.toList = cs.map (fun q => (q.2 : Int) - (pc : Int))) (hv : cs.map (fun q => q.1.toInt) = (List.range cs.length).map (fun (j : Nat) => lo + (j : Int))) (hdt : (pc : Int) + dflt = (dt : Int)) (k : mm_Sel (fun t => mm_V M d k0 post kc ks t L r w) x cs dt) : mm_V M d k0 post kc ks pc L (.int x :: r) w := by
  intro p l e R s m args below meth c D cA A Q ρ0 mc ms hG ρ H locs ls st' cells slots ⟨h0, hw, hS, hl, hst, hb⟩
  obtain ⟨t1, rfl, h1⟩ := mm_vs_i hst
  have hcs : ∀ (j : Nat) (q : Int32 × Nat), cs[j]? = some q → q.1.toInt = lo + ((0 + j : Nat) : Int) := by
    intro j q hj
    have e1 : (cs.map (fun q => q.1.toInt))[j]? = some q.1.toInt := by rw [List.getElem?_map, hj]; rfl
    have hlt : j < cs.length := (List.getElem?_eq_some_iff.mp hj).1
    rw [hv, List.getElem?_map, List.getElem?_range hlt] at e1
    rw [Nat.zero_add]
    exact (Option.some.inj e1).symm
  rcases mm_Sel_tab 0 hcs k with ⟨j, q, e1, e2, hk⟩ | ⟨e1, hk⟩
  · have hlt : j < cs.length := (List.getElem?_eq_some_iff.mp e1).1
    rw [Nat.zero_add] at e2
    have e3 : offs[(x.toInt - lo).toNat]? = some ((q.2 : Int) - (pc : Int)) := by
      rw [show (x.toInt - lo).toNat = j by omega, ← Array.getElem?_toList, hc, List.getElem?_map, e1]; rfl
    exact lv_tableIn hG.1.1 hG.1.2.1 hd (by omega) (by omega) e3 (tgt := q.2) (by omega) (hk hG ⟨h0, hw, hS, hl, h1, hb⟩)
  · refine lv_tableOut hG.1.1 hG.1.2.1 hd ?_ hdt (hk hG ⟨h0, hw, hS, hl, h1, hb⟩)
    rcases Int.lt_or_le x.toInt lo with q1 | q1
    · exact Or.inl q1
    · rcases Int.lt_or_le hi x.toInt with q2 | q2
      · exact Or.inr q2
      · exfalso
        have hlt : (x.toInt - lo).toNat < cs.length := by omega
        obtain ⟨q, hq⟩ : ∃ q, cs[(x.toInt - lo).toNat]? = some q := ⟨_, List.getElem?_eq_getElem hlt⟩
        refine e1 _ q hq (Int32.toInt_inj.mp ?_)
        rw [hcs _ q hq]
        omega
def mm_fl (own : String) (idx ci k : Nat) : Prop := ∃ (C : String) (T : u_T) (N : Nat), mmCl[ci]? = some (C, T, N) ∧ k < N ∧ (Cond.fieldLink own idx (T k).1 (T k).2.1 (T k).2.2.1 ∈ mm_T ∨ ∃ host, Cond.fieldLinkNest own idx (T k).1 (T k).2.1 (T k).2.2.1 host ∈ mm_N)
theorem mm_Cin {ci : Nat} {C : String} {T : u_T} {N : Nat} (h : mmCl[ci]? = some (C, T, N)) : ∀ w ∈ u_ws C T N, w ∈ mm_T := mm_in (C, T, N) (List.mem_of_getElem? h)
theorem mm_getf {idx a : Nat} {fs : List Value} {u : Value} (ci j : Nat) (hd : decode M.2.1 pc = .ok (.getfield idx, 3)) (hf : mm_fl M.1 idx ci j) (ha : w[a]? = some (.inr (ci, fs))) (hu : fs[j]? = some u) (k : mm_V M d k0 post kc ks (pc + 3) L (u :: r) w) : mm_V M d k0 post kc ks pc L (.ref a :: r) w := by
  intro p l e R s m args below meth c D cA A Q ρ0 mc ms hG ρ H locs ls st' cells slots ⟨h0, hw, hS, hl, hst, hb⟩
  obtain ⟨b, t1, rfl, hb1, h1⟩ := mm_vs_r hst
  obtain ⟨ws, hws, hP, hD⟩ := hw
  obtain ⟨y, hy1, fs', hy2, hy3⟩ := mm_w_get hws ha hb1
  subst hy2
  obtain ⟨v, hv1, hv2⟩ := mm_vs_get hy3 hu
  obtain ⟨C, T, N, hc, hk, hlk⟩ := hf
  have hts := hG.1.2.2.2.2.1
  have kk := k hG ⟨h0, ⟨ws, hws, hP, hD⟩, hS, hl, ⟨_, _, rfl, hv2, h1⟩, hb⟩
  rcases hlk with hlk | ⟨host, hlk⟩
  · exact va_get hG.1.1 hG.1.2.1 hts (mm_Cin hc) hG.1.2.2.2.1 hG.1.2.2.2.2.2.2.1 hP a hy1 hc j hk (hts _ hlk) (fun _ q => q) hv1 hd kk
  · exact va_getN hG.1.1 hG.1.2.1 hts (mm_Cin hc) hG.1.2.2.2.1 hG.1.2.2.2.2.2.2.1 hP a hy1 hc j hk ((hG.1.2.2.2.2.2.1 _ hlk).use rfl) (fun _ q => q) hv1 hd kk
/-- what a field of this type may be given -/
def mm_fit (ty : FieldType) (u : Value) : Prop := match ty, u with
  | .int, .int _ => True
  | .boolean, .int x => x = 0 ∨ x = 1
  | .long, .long _ => True
  | .object _, .ref _ => True
  | .object _, .null => True
  | .array _, .ref _ => True
  | .array _, .null => True
  | _, _ => False
theorem mm_fit_spec {ρ : List Nat} {ty : FieldType} {u v : Value} (h : mm_fit ty u) (hv : mm_v ρ u v) : narrow ty v = v ∧ fits ty v = true := by
  unfold mm_fit at h
  split at h
  · rw [show v = _ from hv]; exact ⟨rfl, rfl⟩
  · rw [show v = _ from hv]
    rcases h with rfl | rfl
    · exact ⟨by decide, by decide⟩
    · exact ⟨by decide, by decide⟩
  · rw [show v = _ from hv]; exact ⟨rfl, rfl⟩
  · obtain ⟨b, -, e⟩ := hv; rw [e]; exact ⟨rfl, rfl⟩
  · rw [show v = _ from hv]; exact ⟨rfl, rfl⟩
  · obtain ⟨b, -, e⟩ := hv; rw [e]; exact ⟨rfl, rfl⟩
  · rw [show v = _ from hv]; exact ⟨rfl, rfl⟩
  · exact h.elim
def mm_ty (q : vw_C) (k : Nat) : FieldType := (parseFieldDescriptor (q.2.1 k).2.2.1).getD .int
theorem mm_tyok : ∀ q ∈ mmCl, ∀ k, k < q.2.2 → parseFieldDescriptor (q.2.1 k).2.2.1 = some (mm_ty q k) := by decide +kernel
theorem mm_nmok : ∀ q ∈ mmCl, ∀ a, a < q.2.2 → ∀ b, b < q.2.2 → a ≠ b → (q.2.1 a).2.1 ≠ (q.2.1 b).2.1 := by decide +kernel
/-- may the field be written here -/
def mm_fp (M : mm_M) (idx ci k : Nat) : Prop := ∃ (C : String) (T : u_T) (N : Nat), mmCl[ci]? = some (C, T, N) ∧ ((T k).2.2.2 = false ∨ ((M.2.2.2.1 = true ∧ (T k).1 = M.1) ∧ Cond.fieldLink M.1 idx (T k).1 (T k).2.1 (T k).2.2.1 ∈ mm_T))
def mm_ft (ci k : Nat) (ty : FieldType) : Prop := ∃ (C : String) (T : u_T) (N : Nat), mmCl[ci]? = some (C, T, N) ∧ parseFieldDescriptor (T k).2.2.1 = some ty
theorem mm_putf {idx a : Nat} {fs : List Value} {u : Value} (ci j : Nat) (ty : FieldType) (hd : decode M.2.1 pc = .ok (.putfield idx, 3)) (hf : mm_fl M.1 idx ci j) (hp : mm_fp M idx ci j) (ht : mm_ft ci j ty) (ha : w[a]? = some (.inr (ci, fs))) (hj : j < fs.length) (hu : mm_fit ty u) (k : mm_V M d k0 post kc ks (pc + 3) L r (w.set a (.inr (ci, fs.set j u)))) : mm_V M d k0 post kc ks pc L (u :: .ref a :: r) w := by
  intro p l e R s m args below meth c D cA A Q ρ0 mc ms hG ρ H locs ls st' cells slots ⟨h0, hw, hS, hl, hst, hb⟩
  obtain ⟨v, t0, rfl, hv, hst⟩ := hst
  obtain ⟨b, t1, rfl, hb1, h1⟩ := mm_vs_r hst
  obtain ⟨ws, hws, hP, hD⟩ := hw
  obtain ⟨y, hy1, fs', hy2, hy3⟩ := mm_w_get hws ha hb1
  subst hy2
  obtain ⟨C, T, N, hc, hk, hlk⟩ := hf
  have hts := hG.1.2.2.2.2.1
  obtain ⟨hn, hfit⟩ := mm_fit_spec hu hv
  have hlen : j < fs'.length := by rw [mm_vs_len hy3]; exact hj
  have hmem := List.mem_of_getElem? hc
  have hty : parseFieldDescriptor (T j).2.2.1 = some ty := by
    obtain ⟨C2, T2, N2, hc2, ht⟩ := ht
    rw [hc] at hc2
    cases hc2
    exact ht
  have kk : ∀ (H1 : Heap) (locs1 : List Loc), va_P D mmCl (ws.set a (b, .inr (ci, fs'.set j v))) H1 → va_D A (ws.set a (b, .inr (ci, fs'.set j v))) → va_S A s.heap H1 locs1 → W p l e R s m args below meth c H1 locs1 cells slots Q (F0 m (pc + 3) ls t1) := fun H1 locs1 q1 q2 q3 =>
    k hG ⟨h0, ⟨_, mm_w_set hws hb1 ⟨_, rfl, mm_vs_set hv hy3 j⟩, q1, q2⟩, q3, hl, h1, hb⟩
  by_cases hfin : (T j).2.2.2 = false
  · rcases hlk with hlk | ⟨host, hlk⟩
    · exact va_put hG.1.1 hG.1.2.1 hts (mm_Cin hc) (mm_ty (C, T, N)) (mm_tyok (C, T, N) hmem) (mm_nmok (C, T, N) hmem) hG.1.2.2.2.1 hG.1.2.2.2.2.2.2.1 hP hD hS a hy1 hc j hk (hts _ hlk) (fun _ q => q) hfin hty hn hfit hlen hd kk
    · exact va_putN hG.1.1 hG.1.2.1 hts (mm_Cin hc) (mm_ty (C, T, N)) (mm_tyok (C, T, N) hmem) (mm_nmok (C, T, N) hmem) hG.1.2.2.2.1 hG.1.2.2.2.2.2.2.1 hP hD hS a hy1 hc j hk ((hG.1.2.2.2.2.2.1 _ hlk).use rfl) (fun _ q => q) hfin hty hn hfit hlen hd kk
  · have hp2 : (M.2.2.2.1 = true ∧ (T j).1 = M.1) ∧ Cond.fieldLink M.1 idx (T j).1 (T j).2.1 (T j).2.2.1 ∈ mm_T := by
      obtain ⟨C2, T2, N2, hc2, hp⟩ := hp
      rw [hc] at hc2
      cases hc2
      exact hp.resolve_left hfin
    exact va_putF hG.1.1 hG.1.2.1 hts (mm_Cin hc) (mm_ty (C, T, N)) (mm_tyok (C, T, N) hmem) (mm_nmok (C, T, N) hmem) hG.1.2.2.2.1 hG.1.2.2.2.2.2.2.1 hP hD hS a hy1 hc j hk (hts _ hp2.2) (fun _ q => q) (by simpa using hfin) (hG.1.2.2.2.2.2.2.2.2.2 hp2.1.1) hp2.1.2 hty hn hfit hlen hd kk
theorem mm_iald {a n : Nat} {f : Nat → Int32} {i : Int32} (hd : decode M.2.1 pc = .ok (.iaload, 1)) (ha : w[a]? = some (.inl (.int, (n, .inl f)))) (hin : vp_in i n) (k : mm_V M d k0 post kc ks (pc + 1) L (.int (f i.toNatClampNeg) :: r) w) : mm_V M d k0 post kc ks pc L (.int i :: .ref a :: r) w := by
  intro p l e R s m args below meth c D cA A Q ρ0 mc ms hG ρ H locs ls st' cells slots ⟨h0, hw, hS, hl, hst, hb⟩
  obtain ⟨t0, rfl, h8⟩ := mm_vs_i hst
  obtain ⟨b, t1, rfl, hb1, h1⟩ := mm_vs_r h8
  obtain ⟨ws, hws, hP, hD⟩ := hw
  obtain ⟨y, hy1, hy2⟩ := mm_w_get hws ha hb1
  have hy2 : y = .inl (cA .int, (n, .inl f)) := hy2
  subst hy2
  exact va_iald hG.1.1 hG.1.2.1 hG.1.2.2.2.2.2.2.1 hP a 0 hy1 rfl hin hd (k hG ⟨h0, ⟨ws, hws, hP, hD⟩, hS, hl, ⟨_, _, rfl, rfl, h1⟩, hb⟩)
theorem mm_lald {a n : Nat} {f : Nat → Int64} {i : Int32} (hd : decode M.2.1 pc = .ok (.laload, 1)) (ha : w[a]? = some (.inl (.long, (n, .inr (.inl f))))) (hin : vp_in i n) (k : mm_V M d k0 post kc ks (pc + 1) L (.long (f i.toNatClampNeg) :: r) w) : mm_V M d k0 post kc ks pc L (.int i :: .ref a :: r) w := by
  intro p l e R s m args below meth c D cA A Q ρ0 mc ms hG ρ H locs ls st' cells slots ⟨h0, hw, hS, hl, hst, hb⟩
  obtain ⟨t0, rfl, h8⟩ := mm_vs_i hst
  obtain ⟨b, t1, rfl, hb1, h1⟩ := mm_vs_r h8
  obtain ⟨ws, hws, hP, hD⟩ := hw
  obtain ⟨y, hy1, hy2⟩ := mm_w_get hws ha hb1
  have hy2 : y = .inl (cA .long, (n, .inr (.inl f))) := hy2
  subst hy2
  exact va_lald hG.1.1 hG.1.2.1 hG.1.2.2.2.2.2.2.1 hP a 1 hy1 rfl hin hd (k hG ⟨h0, ⟨ws, hws, hP, hD⟩, hS, hl, ⟨_, _, rfl, rfl, h1⟩, hb⟩)
theorem mm_iast {a n : Nat} {f : Nat → Int32} {i : Int32} {x : Int32} (hd : decode M.2.1 pc = .ok (.iastore, 1)) (ha : w[a]? = some (.inl (.int, (n, .inl (f))))) (hin : vp_in i n) (k : mm_V M d k0 post kc ks (pc + 1) L r (w.set a (.inl (.int, (n, .inl (upd f i.toNatClampNeg x)))))) : mm_V M d k0 post kc ks pc L (.int x :: .int i :: .ref a :: r) w := by
  intro p l e R s m args below meth c D cA A Q ρ0 mc ms hG ρ H locs ls st' cells slots ⟨h0, hw, hS, hl, hst, hb⟩
  obtain ⟨t9, rfl, h7⟩ := mm_vs_i hst
  obtain ⟨t0, rfl, h8⟩ := mm_vs_i h7
  obtain ⟨b, t1, rfl, hb1, h1⟩ := mm_vs_r h8
  obtain ⟨ws, hws, hP, hD⟩ := hw
  obtain ⟨y, hy1, hy2⟩ := mm_w_get hws ha hb1
  have hy2 : y = .inl (cA .int, (n, .inl (f))) := hy2
  subst hy2
  exact va_iast hG.1.1 hG.1.2.1 hG.1.2.2.2.2.2.2.1 hP hD hS a 0 hy1 rfl hin hd (fun H1 locs1 q1 q2 q3 => k hG ⟨h0, ⟨_, mm_w_set hws hb1 rfl, q1, q2⟩, q3, hl, h1, hb⟩)
theorem mm_last {a n : Nat} {f : Nat → Int64} {i : Int32} {x : Int64} (hd : decode M.2.1 pc = .ok (.lastore, 1)) (ha : w[a]? = some (.inl (.long, (n, .inr (.inl (f)))))) (hin : vp_in i n) (k : mm_V M d k0 post kc ks (pc + 1) L r (w.set a (.inl (.long, (n, .inr (.inl (vp_updL f i.toNatClampNeg x))))))) : mm_V M d k0 post kc ks pc L (.long x :: .int i :: .ref a :: r) w := by
  intro p l e R s m args below meth c D cA A Q ρ0 mc ms hG ρ H locs ls st' cells slots ⟨h0, hw, hS, hl, hst, hb⟩
  obtain ⟨t9, rfl, h7⟩ := mm_vs_j hst
  obtain ⟨t0, rfl, h8⟩ := mm_vs_i h7
  obtain ⟨b, t1, rfl, hb1, h1⟩ := mm_vs_r h8
  obtain ⟨ws, hws, hP, hD⟩ := hw
  obtain ⟨y, hy1, hy2⟩ := mm_w_get hws ha hb1
  have hy2 : y = .inl (cA .long, (n, .inr (.inl (f)))) := hy2
  subst hy2
  exact va_last hG.1.1 hG.1.2.1 hG.1.2.2.2.2.2.2.1 hP hD hS a 1 hy1 rfl hin hd (fun H1 locs1 q1 q2 q3 => k hG ⟨h0, ⟨_, mm_w_set hws hb1 rfl, q1, q2⟩, q3, hl, h1, hb⟩)
theorem mm_alen0 {a : Nat} {x : vp_A} {v : Int32} (hd : decode M.2.1 pc = .ok (.arraylength, 1)) (ha : w[a]? = some (.inl (.int, x))) (hv : Int32.ofNat x.1 = v) (k : mm_V M d k0 post kc ks (pc + 1) L (.int v :: r) w) : mm_V M d k0 post kc ks pc L (.ref a :: r) w := by
  intro p l e R s m args below meth c D cA A Q ρ0 mc ms hG ρ H locs ls st' cells slots ⟨h0, hw, hS, hl, hst, hb⟩
  obtain ⟨b, t1, rfl, hb1, h1⟩ := mm_vs_r hst
  obtain ⟨ws, hws, hP, hD⟩ := hw
  obtain ⟨y, hy1, hy2⟩ := mm_w_get hws ha hb1
  have hy2 : y = .inl (cA .int, x) := hy2
  subst hy2
  exact va_alen hG.1.1 hG.1.2.1 hG.1.2.2.2.2.2.2.1 hP a 0 hy1 rfl hv hd (k hG ⟨h0, ⟨ws, hws, hP, hD⟩, hS, hl, ⟨_, _, rfl, rfl, h1⟩, hb⟩)
theorem mm_alen1 {a : Nat} {x : vp_A} {v : Int32} (hd : decode M.2.1 pc = .ok (.arraylength, 1)) (ha : w[a]? = some (.inl (.long, x))) (hv : Int32.ofNat x.1 = v) (k : mm_V M d k0 post kc ks (pc + 1) L (.int v :: r) w) : mm_V M d k0 post kc ks pc L (.ref a :: r) w := by
  intro p l e R s m args below meth c D cA A Q ρ0 mc ms hG ρ H locs ls st' cells slots ⟨h0, hw, hS, hl, hst, hb⟩
  obtain ⟨b, t1, rfl, hb1, h1⟩ := mm_vs_r hst
  obtain ⟨ws, hws, hP, hD⟩ := hw
  obtain ⟨y, hy1, hy2⟩ := mm_w_get hws ha hb1
  have hy2 : y = .inl (cA .long, x) := hy2
  subst hy2
  exact va_alen hG.1.1 hG.1.2.1 hG.1.2.2.2.2.2.2.1 hP a 1 hy1 rfl hv hd (k hG ⟨h0, ⟨ws, hws, hP, hD⟩, hS, hl, ⟨_, _, rfl, rfl, h1⟩, hb⟩)
def mm_nr (v : Value) : Bool := match v with
  | .ref _ => false
  | _ => true
theorem mm_vs_nr {ρ : List Nat} : ∀ {fs : List Value}, fs.all mm_nr = true → mm_vs ρ fs fs
  | [], _ => rfl
  | u :: us, h => by
    simp only [List.all_cons, Bool.and_eq_true] at h
    refine ⟨u, us, rfl, ?_, mm_vs_nr h.2⟩
    cases u with
    | ref a => simp [mm_nr] at h
    | _ => exact rfl
def mm_nw (own : String) (idx ci : Nat) (fs : List Value) (N : Nat) : Prop := ∃ (C : String) (T : u_T), mmCl[ci]? = some (C, T, N) ∧ Cond.classLink own idx C ∈ mm_T ∧ Cond.instantiable C N ∈ mm_T ∧ Cond.initialized C ∈ mm_T ∧ fs.all mm_nr = true ∧ (List.range N).all (fun j => decide (defaultValue (mm_ty (C, T, N) j) = vp_V fs j)) = true
theorem mm_ext {ρ : List Nat} {k0 q : Nat} {ρ0 : List Nat} (hk : k0 ≤ ρ0.length) (h : ∀ a, a < k0 → ρ[a]? = ρ0[a]?) : ∀ a, a < k0 → (ρ ++ [q])[a]? = ρ0[a]? := fun a ha => by
  have h1 := h a ha
  rw [List.getElem?_eq_getElem (by omega : a < ρ0.length)] at h1
  rw [List.getElem?_append_left (List.getElem?_eq_some_iff.mp h1).1]
  exact h a ha
theorem mm_newo {idx N : Nat} (ci : Nat) (fs : List Value) (hd : decode M.2.1 pc = .ok (.new idx, 3)) (hf : mm_nw M.1 idx ci fs N) (k : mm_V M d k0 post kc ks (pc + 3) L (.ref w.length :: r) (w ++ [.inr (ci, fs)])) : mm_V M d k0 post (kc + 1) (ks + N) pc L r w := by
  intro p l e R s m args below meth c D cA A Q ρ0 mc ms hG ρ H locs ls st' cells slots ⟨h0, hw, hS, hl, hst, hb⟩
  obtain ⟨ws, hws, hP, hD⟩ := hw
  obtain ⟨C, T, hc, f1, f2, f3, f4, f5⟩ := hf
  have hts := hG.1.2.2.2.2.1
  have hmem := List.mem_of_getElem? hc
  have hR := hG.2.1
  refine va_new hG.1.1 hG.1.2.1 hts (mm_Cin hc) (mm_ty (C, T, N)) (mm_tyok (C, T, N) hmem) hG.1.2.2.2.1 (hts _ f1) (hts _ f2) (hts _ f3) hG.1.2.2.2.2.2.2.1 hP hD hS hG.1.2.2.2.2.2.2.2.2.1 hc (fun j hj => of_decide_eq_true (List.all_eq_true.mp f5 j (List.mem_range.mpr hj))) (by omega) (by omega) hd (fun q H1 q1 q2 q3 => ?_)
  have hm : ∀ a, a < ρ.length → (ρ ++ [q])[a]? = ρ[a]? := fun a ha => List.getElem?_append_left ha
  exact k hG ⟨mm_ext hG.2.2.1 h0, ⟨_, mm_w_push hws ⟨fs, rfl, mm_vs_nr f4⟩, q1, q2⟩, q3, mm_l_mono hm hl, ⟨_, _, rfl, ⟨q, by rw [← hws.1]; simp, rfl⟩, mm_vs_mono hm hst⟩, by omega, by omega⟩
theorem mm_newi {n : Int32} (N : Nat) (hd : decode M.2.1 pc = .ok (.newarray .int, 2)) (hw0 : Cond.arrayClass .int ∈ mm_T) (hn : ¬ n < 0) (hN : n.toNatClampNeg = N) (hb8 : N * componentBytes .int ≤ 536870912) (k : mm_V M d k0 post kc ks (pc + 2) L (.ref w.length :: r) (w ++ [.inl (.int, (N, .inl (fun _ => 0)))])) : mm_V M d k0 post (kc + 1) (ks + N) pc L (.int n :: r) w := by
  intro p l e R s m args below meth c D cA A Q ρ0 mc ms hG ρ H locs ls st' cells slots ⟨h0, hw, hS, hl, hst, hb⟩
  obtain ⟨t1, rfl, h1⟩ := mm_vs_i hst
  obtain ⟨ws, hws, hP, hD⟩ := hw
  have hR := hG.2.1
  refine va_newa (atype := .int) hG.1.1 hG.1.2.1 (hG.1.2.2.2.2.1 _ hw0) rfl hG.1.2.2.2.2.2.2.1 hP hD hS hG.1.2.2.2.2.2.2.2.2.1 (a0 := (N, .inl (fun _ => 0))) (fun _ => rfl) hn hN hb8 (by omega) (by omega) hd (fun q cA' H1 q0 q1 q2 q3 => ?_)
  have e1 : va_RA s (cA .int) .int := (hG.1.2.2.2.2.2.2.1.2 0 _ rfl).2
  have e2 : va_RA s cA' .int := (q0.2 2 _ rfl).2
  have e3 : cA' = cA .int := Option.some.inj (Eq.trans (Eq.symm e2) e1)
  subst e3
  have hm : ∀ a, a < ρ.length → (ρ ++ [q])[a]? = ρ[a]? := fun a ha => List.getElem?_append_left ha
  exact k hG ⟨mm_ext hG.2.2.1 h0, ⟨_, mm_w_push hws rfl, q1, q2⟩, q3, mm_l_mono hm hl, ⟨_, _, rfl, ⟨q, by rw [← hws.1]; simp, rfl⟩, mm_vs_mono hm h1⟩, by omega⟩
theorem mm_newl {n : Int32} (N : Nat) (hd : decode M.2.1 pc = .ok (.newarray .long, 2)) (hw0 : Cond.arrayClass .long ∈ mm_T) (hn : ¬ n < 0) (hN : n.toNatClampNeg = N) (hb8 : N * componentBytes .long ≤ 536870912) (k : mm_V M d k0 post kc ks (pc + 2) L (.ref w.length :: r) (w ++ [.inl (.long, (N, .inr (.inl (fun _ => 0))))])) : mm_V M d k0 post (kc + 1) (ks + N) pc L (.int n :: r) w := by
  intro p l e R s m args below meth c D cA A Q ρ0 mc ms hG ρ H locs ls st' cells slots ⟨h0, hw, hS, hl, hst, hb⟩
  obtain ⟨t1, rfl, h1⟩ := mm_vs_i hst
  obtain ⟨ws, hws, hP, hD⟩ := hw
  have hR := hG.2.1
  refine va_newa (atype := .long) hG.1.1 hG.1.2.1 (hG.1.2.2.2.2.1 _ hw0) rfl hG.1.2.2.2.2.2.2.1 hP hD hS hG.1.2.2.2.2.2.2.2.2.1 (a0 := (N, .inr (.inl (fun _ => 0)))) (fun _ => rfl) hn hN hb8 (by omega) (by omega) hd (fun q cA' H1 q0 q1 q2 q3 => ?_)
  have e1 : va_RA s (cA .long) .long := (hG.1.2.2.2.2.2.2.1.2 1 _ rfl).2
  have e2 : va_RA s cA' .long := (q0.2 2 _ rfl).2
  have e3 : cA' = cA .long := Option.some.inj (Eq.trans (Eq.symm e2) e1)
  subst e3
  have hm : ∀ a, a < ρ.length → (ρ ++ [q])[a]? = ρ[a]? := fun a ha => List.getElem?_append_left ha
  exact k hG ⟨mm_ext hG.2.2.1 h0, ⟨_, mm_w_push hws rfl, q1, q2⟩, q3, mm_l_mono hm hl, ⟨_, _, rfl, ⟨q, by rw [← hws.1]; simp, rfl⟩, mm_vs_mono hm h1⟩, by omega⟩
theorem mm_obj {idx a : Nat} (hd : decode M.2.1 pc = .ok (.invokespecial idx, 3)) (hw1 : Cond.methodLink M.1 idx Lib.objectInit ∈ mm_T) (hw2 : Cond.instanceMethod Lib.objectInit ∈ mm_T) (hw3 : Cond.code Lib.objectInit ⟨#[0xb1]⟩ 1 none ∈ mm_T) (hr : (r.map fun v => v.category).sum ≤ 8) (hd0 : 0 < d) (k : mm_V M d k0 post kc ks (pc + 3) L r w) : mm_V M d k0 post kc ks pc L (.ref a :: r) w := by
  intro p l e R s m args below meth c D cA A Q ρ0 mc ms hG ρ H locs ls st' cells slots ⟨h0, hw, hS, hl, hst, hb⟩
  obtain ⟨b, t1, rfl, hb1, h1⟩ := mm_vs_r hst
  have hts := hG.1.2.2.2.2.1
  have hrm := hG.1.2.2.2.2.2.2.2.1
  unfold mm_K at hrm
  refine W.objInit hG.1.1 hG.1.2.1 hG.1.2.2.2.1 (hts _ hw1) (hts _ hw2) (hts _ hw3) rfl (by rw [hG.1.2.2.1]; exact hl.1) rfl hd (by omega) ?_ (k hG ⟨h0, hw, hS, hl, h1, hb⟩)
  have e : (t1.map fun v => v.category).sum ≤ 8 := by rw [mm_vs_cat h1]; exact hr
  have e2 := lv_room (m := m) (pc := pc) (ls := ls) (rest := .ref b :: t1) e
  omega
theorem mm_mmax {idx : Nat} {x y : Int32} (hd : decode M.2.1 pc = .ok (.invokestatic idx, 3)) (hw1 : Cond.methodLink M.1 idx Lib.Math.max.name ∈ mm_T) (hw2 : Cond.static Lib.Math.max.name ∈ mm_T) (hw4 : Cond.initialized "java/lang/Math" ∈ mm_T) (hw3 : Cond.code Lib.Math.max.name Lib.Math.max.code 2 (some .int) ∈ mm_T) (hr : (r.map fun v => v.category).sum ≤ 8) (hd0 : 0 < d) (k : mm_V M d k0 post kc ks (pc + 3) L (.int (if x < y then y else x) :: r) w) : mm_V M d k0 post kc ks pc L (.int y :: .int x :: r) w := by
  intro p l e R s m args below meth c D cA A Q ρ0 mc ms hG ρ H locs ls st' cells slots ⟨h0, hw, hS, hl, hst, hb⟩
  obtain ⟨t0, rfl, h8⟩ := mm_vs_i hst
  obtain ⟨t1, rfl, h1⟩ := mm_vs_i h8
  have hts := hG.1.2.2.2.2.1
  have hrm := hG.1.2.2.2.2.2.2.2.1
  unfold mm_K at hrm
  have hR := hG.2.1
  refine va_mmax hG.1.1 hG.1.2.1 (by rw [hG.1.2.2.1]; exact hl.1.symm) hG.1.2.2.2.1 (hts _ hw1) (hts _ hw2) (hts _ hw4) (hts _ hw3) (by omega) ?_ (by omega) (by omega) hd (k hG ⟨h0, hw, hS, hl, ⟨_, _, rfl, rfl, h1⟩, hb⟩)
  have e : (t1.map fun v => v.category).sum ≤ 8 := by rw [mm_vs_cat h1]; exact hr
  omega
theorem mm_mmin {idx : Nat} {x y : Int32} (hd : decode M.2.1 pc = .ok (.invokestatic idx, 3)) (hw1 : Cond.methodLink M.1 idx Lib.Math.min.name ∈ mm_T) (hw2 : Cond.static Lib.Math.min.name ∈ mm_T) (hw4 : Cond.initialized "java/lang/Math" ∈ mm_T) (hw3 : Cond.code Lib.Math.min.name Lib.Math.min.code 2 (some .int) ∈ mm_T) (hr : (r.map fun v => v.category).sum ≤ 8) (hd0 : 0 < d) (k : mm_V M d k0 post kc ks (pc + 3) L (.int (if y < x then y else x) :: r) w) : mm_V M d k0 post kc ks pc L (.int y :: .int x :: r) w := by
  intro p l e R s m args below meth c D cA A Q ρ0 mc ms hG ρ H locs ls st' cells slots ⟨h0, hw, hS, hl, hst, hb⟩
  obtain ⟨t0, rfl, h8⟩ := mm_vs_i hst
  obtain ⟨t1, rfl, h1⟩ := mm_vs_i h8
  have hts := hG.1.2.2.2.2.1
  have hrm := hG.1.2.2.2.2.2.2.2.1
  unfold mm_K at hrm
  have hR := hG.2.1
  refine va_mmin hG.1.1 hG.1.2.1 (by rw [hG.1.2.2.1]; exact hl.1.symm) hG.1.2.2.2.1 (hts _ hw1) (hts _ hw2) (hts _ hw4) (hts _ hw3) (by omega) ?_ (by omega) (by omega) hd (k hG ⟨h0, hw, hS, hl, ⟨_, _, rfl, rfl, h1⟩, hb⟩)
  have e : (t1.map fun v => v.category).sum ≤ 8 := by rw [mm_vs_cat h1]; exact hr
  omega
theorem mm_ret (hr : mm_rd M pc none) (hp : post none w) : mm_V M d k0 post kc ks pc L [] w := by
  intro p l e R s m args below meth c D cA A Q ρ0 mc ms hG ρ H locs ls st' cells slots ⟨h0, hw, hS, hl, hst, hb⟩
  have hst : st' = [] := hst
  subst hst
  obtain ⟨ws, hws, hP, hD⟩ := hw
  exact W.widen (by omega) (by omega) (hG.2.2.2 pc ls none none w ρ ws H locs hp rfl hr h0 hws hP hD hS)
theorem mm_retv {u : Value} (hr : mm_rd M pc (some u)) (hp : post (some u) w) : mm_V M d k0 post kc ks pc L [u] w := by
  intro p l e R s m args below meth c D cA A Q ρ0 mc ms hG ρ H locs ls st' cells slots ⟨h0, hw, hS, hl, hst, hb⟩
  obtain ⟨v, t1, rfl, hv, h1⟩ := hst
  have h1 : t1 = [] := h1
  subst h1
  obtain ⟨ws, hws, hP, hD⟩ := hw
  exact W.widen (by omega) (by omega) (hG.2.2.2 pc ls (some u) (some v) w ρ ws H locs hp ⟨v, rfl, hv⟩ hr h0 hws hP hD hS)
theorem mm_eqw {st : List Value} {w' : mm_H} (h : w = w') (k : mm_V M d k0 post kc ks pc L st w') : mm_V M d k0 post kc ks pc L st w := h ▸ k
theorem mm_eqL {st : List Value} {L' : mm_L} (h : L = L') (k : mm_V M d k0 post kc ks pc L' st w) : mm_V M d k0 post kc ks pc L st w := h ▸ k
theorem mm_eqp {st : List Value} {pc' : Nat} (h : pc = pc') (k : mm_V M d k0 post kc ks pc' L st w) : mm_V M d k0 post kc ks pc L st w := h ▸ k
theorem mm_eqs {st st2 : List Value} (h : st = st2) (k : mm_V M d k0 post kc ks pc L st2 w) : mm_V M d k0 post kc ks pc L st w := h ▸ k
end MMV
/-! CONTRACTS -/
def mm_Pc (D : va_G) (cA : FieldType → ClassId) (ws : va_W) (sz : Nat) (av : List Value) : Array Value → State → Prop := va_Pc av (fun U => U.heap.size = sz ∧ va_P D mmCl ws U.heap ∧ va_K D mmCl (mm_tys cA) U ∧ va_D (fun _ => True) ws ∧ ∀ w ∈ mm_N, va_Nw w U)
def mm_Q (D : va_G) (cA : FieldType → ClassId) (ρ : List Nat) (A : Nat → Prop) (k0 : Nat) (post : Option Value → mm_H → Prop) : Array Value → State → Outcome → State → Prop := fun _ st oc t =>
  (∃ (v v' : Option Value) (w' : mm_H) (ρ' : List Nat) (ws' : va_W), oc = .returned v' ∧ post v w' ∧ mm_ov ρ' v v' ∧ (∀ a, a < k0 → ρ'[a]? = ρ[a]?) ∧ mm_w cA ρ' w' ws' ∧ va_P D mmCl ws' t.heap ∧ va_D A ws') ∧ va_F A st t
def mm_Ct (y : MethodName) (M : mm_M) (d kc ks : Nat) (av : List Value) (w : mm_H) (post : Option Value → mm_H → Prop) : Prop :=
  ∀ (l : Launch) (D : va_G) (cA : FieldType → ClassId) (ρ : List Nat) (av' : List Value) (ws : va_W) (sz : Nat), mm_w cA ρ w ws → mm_vs ρ av av' →
    Met l y (.code y M.2.1 M.2.2.1 M.2.2.2.2 :: mm_T) { frames := d, cells := kc, slots := ks, locals := mm_K * d } (mm_Pc D cA ws sz av') (mm_Q D cA ρ (va_A ws sz) w.length post) kc ks (va_A ws sz)
theorem mm_Nw_onT {w : Cond} (h : w ∈ mm_N) : w.onTables = true := by
  have h2 := (List.mem_filter.mp h).2
  unfold mm_nest at h2
  split at h2
  · rfl
  · rfl
  · cases h2
theorem mm_Nw_warm {w : Cond} (h : w ∈ mm_N) {s U : State} (hW : s.WarmedH U.vm) (hZ : va_Nw w s) : va_Nw w U := by
  have h2 := (List.mem_filter.mp h).2
  unfold mm_nest at h2
  split at h2
  · exact va_Nw.warmF hW hZ
  · exact va_Nw.warmM hW hZ
  · cases h2
theorem mm_blind (D : va_G) (cA : FieldType → ClassId) (ws : va_W) (sz : Nat) (av : List Value) : FrameBlind (mm_Pc D cA ws sz av) := by
  intro a U g mk q
  obtain ⟨q0, q1, qP, qK, qD, qN⟩ := q
  exact ⟨q0, q1, qP, va_K.moved (u := U) (U := U.calling g mk a) (Vm.Alike.refl U.vm) qK, qD, fun w hw => va_Nw.same (u := U) (U := U.calling g mk a) (mm_Nw_onT hw) rfl (qN w hw)⟩
theorem mm_ws_good {y : MethodName} {M : mm_M} (hc : Cond.code y M.2.1 M.2.2.1 M.2.2.2.2 ∈ mm_T) : GoodIn mm_T (.code y M.2.1 M.2.2.1 M.2.2.2.2 :: mm_T) := by
  have hg : ∀ w ∈ mm_T, w ∈ mm_T ∧ ((w.onTables && w.keeps) = true ∨ ∃ ty, w = .arrayClass ty) := by
    intro w hw
    refine ⟨hw, ?_⟩
    have h2 := (List.mem_filter.mp hw).2
    unfold mm_good at h2
    rw [Bool.or_eq_true] at h2
    rcases h2 with h2 | h2
    · exact Or.inl h2
    · split at h2
      · exact Or.inr ⟨_, rfl⟩
      · cases h2
  intro w hw
  rcases List.mem_cons.mp hw with rfl | hw
  · exact hg _ hc
  · exact hg _ hw
theorem mm_Ct.of {y : MethodName} {M : mm_M} {d kc ks : Nat} {av : List Value} {w : mm_H} {post : Option Value → mm_H → Prop} (hy : plainName y.cls = true) (ho : y.cls = M.1) (hi : M.2.2.2.1 = true → y.name = "<init>") (hn : (mm_ar av).length ≤ M.2.2.1)
    (hV : mm_V M d w.length post kc ks 0 (mm_args M.2.2.1 av) [] w) : mm_Ct y M d kc ks av w post := by
  intro l D cA ρ av' ws sz hw hav
  refine Met.ofW (cc := M.2.1) (maxL := M.2.2.1) (ret := M.2.2.2.2) hy rfl ?_
  intro p e s m args below meth c s₁ B hml hv
  obtain ⟨rfl, hsz, hP, hK, hD0, hN⟩ := hv
  subst hsz
  have hts := atoms_spec (ws := .code y M.2.1 M.2.2.1 M.2.2.2.2 :: mm_T) B.pre
  have hown : s.vm.findClass M.1 = some m.cls := by rw [← ho]; exact findClass_of_methodNamed B.named
  have hlocks := B.notSynchronized
  have hD := hD0.self (sz := s.heap.size)
  have hle : (lg_sl av').length ≤ M.2.2.1 := by rw [mm_sl_len hav, ← mm_ar_len]; exact hn
  have hl := lv_entry av' (n := M.2.2.1) hle
  rw [lg_entry_eq]
  generalize (lg_sl av' ++ List.replicate (M.2.2.1 - (lg_sl av').length) Slot.unset).toArray = ls at hl ⊢
  refine hV (A := va_A ws s.heap.size) (ρ0 := ρ) (mc := kc) (ms := ks) (cA := cA) (D := D) ⟨⟨B.exec, B.bytes, hml, hown, fun w hw => hts w (List.mem_cons_of_mem _ hw), hN, hK, ⟨Nat.le_refl _, Nat.le_refl _⟩, fun q h => Or.inr h, fun h => by rw [(name_of_methodNamed B.named B.method).1]; exact hi h⟩, ⟨Nat.le_refl _, Nat.le_refl _⟩, by rw [hw.1]; exact Nat.le_refl _, ?_⟩ ⟨fun _ _ => rfl, ⟨ws, hw, hP, hD⟩, va_S.rf, mm_l_entry hav hn hl, rfl, by omega, by omega⟩
  intro pc ls v v' w' ρ' ws' H locs hp hov hrd hpre hw' hP' hD' hS'
  have fin : ∀ t : State, t.heap = H → s.WarmedH t.vm → mm_Q D cA ρ (va_A ws s.heap.size) w.length post av'.toArray s (.returned v') t := fun t ht _ => ⟨⟨v, v', w', ρ', ws', rfl, hp, hov, hpre, hw', by rw [ht]; exact hP', hD'⟩, hS'.F ht⟩
  unfold mm_rd at hrd
  split at hrd
  · have hov : v' = none := hov
    subst hov
    exact W.vret B.exec B.bytes (by rw [B.returns]; exact hrd.1) fin hS'.2.2 hrd.2
  · obtain ⟨ty, h1, h2, h3⟩ := hrd
    obtain ⟨z, rfl, hz⟩ := hov
    have hz : z = .int _ := hz
    subst hz
    exact W.zret B.exec B.bytes (by rw [B.returns]; exact h1) h2 fin hS'.2.2 h3
  · obtain ⟨z, rfl, hz⟩ := hov
    have hz : z = .long _ := hz
    subst hz
    exact W.lret B.exec B.bytes (by rw [B.returns]; exact hrd.1) fin hS'.2.2 hrd.2
  · obtain ⟨⟨rt, h1, h2⟩, h3⟩ := hrd
    obtain ⟨z, rfl, hz⟩ := hov
    have hz : z = .null := hz
    subst hz
    exact W.aret B.exec B.bytes (by rw [B.returns]; exact h1) h2 (Or.inl rfl) fin hS'.2.2 h3
  · obtain ⟨⟨rt, h1, h2⟩, h3⟩ := hrd
    obtain ⟨z, rfl, b, hb, hz⟩ := hov
    subst hz
    exact W.aret B.exec B.bytes (by rw [B.returns]; exact h1) h2 (Or.inr ⟨b, rfl⟩) fin hS'.2.2 h3
  · exact hrd.elim
/-- the same contract with a weaker end -/
theorem mm_Ct.imp {y : MethodName} {M : mm_M} {d kc ks : Nat} {av : List Value} {w : mm_H} {post post' : Option Value → mm_H → Prop} (h : mm_Ct y M d kc ks av w post) (hp : ∀ v w', post v w' → post' v w') : mm_Ct y M d kc ks av w post' := by
  intro l D cA ρ av' ws sz hw hav p e ha hc hk s m args below hf happ hP hK
  obtain ⟨n, o, h1, h2, h3, ⟨⟨v, v', w', ρ', ws', q0, q1, q2⟩, hF⟩, q3⟩ := h l D cA ρ av' ws sz hw hav p e ha hc hk s m args below hf happ hP hK
  exact ⟨n, o, h1, h2, h3, ⟨⟨v, v', w', ρ', ws', q0, hp v w' q1, q2⟩, hF⟩, q3⟩
section MMC
variable {M : mm_M} {d k0 kc ks pc : Nat} {post : Option Value → mm_H → Prop} {L : mm_L} {r : List Value} {w : mm_H} {y : MethodName} {M' : mm_M} {d' kc' ks' idx n : Nat} {av : List Value} {post' : Option Value → mm_H → Prop}
/-- what a call of y asks of the tables, wherever it stands -/
def mm_okM (y : MethodName) (M' : mm_M) (n : Nat) : Prop := Cond.code y M'.2.1 M'.2.2.1 M'.2.2.2.2 ∈ mm_T ∧ Cond.initialized y.cls ∈ mm_T ∧ (y.cls ≠ "java/lang/invoke/MethodHandle" ∧ y.cls ≠ "java/lang/invoke/VarHandle") ∧ (parseMethodDescriptor y.desc).map (fun d => d.parameters.length) = some n ∧ M'.2.2.1 + 19 ≤ mm_K
def mm_ml (own : String) (idx : Nat) (y : MethodName) : Prop := Cond.methodLink own idx y ∈ mm_T ∨ ∃ host, Cond.methodLinkNest own idx y host ∈ mm_N
theorem mm_ov_list {ρ : List Nat} {v v' : Option Value} (h : mm_ov ρ v v') {r r' : List Value} (hr : mm_vs ρ r r') : mm_vs ρ (v.toList ++ r) (v'.toList ++ r') := by
  cases v with
  | none => rw [show v' = none from h]; exact hr
  | some x =>
    obtain ⟨y, rfl, hy⟩ := h
    exact ⟨y, r', rfl, hy, hr⟩
theorem mm_after {p : Program} {l : Launch} {e : Env} {R : Room} {s : State} {m : MethodId} {args : Array Value} {below : List Frame} {meth : Method} {c : Code} {D : va_G} {cA : FieldType → ClassId} {A : Nat → Prop} {Q : State → Prop} {ρ0 : List Nat} {mc ms : Nat} (hG : mm_G M d k0 post p l e R s m args below meth c D cA A Q ρ0 mc ms)
    {ρ : List Nat} {H : Heap} {locs : List Loc} {ls : Array Slot} {st0 r' : List Value} {cells slots : Nat} (h0 : ∀ a, a < k0 → ρ[a]? = ρ0[a]?) {ws : va_W} (hws : mm_w cA ρ w ws) (hD : va_D A ws) (hS : va_S A s.heap H locs) (hl : mm_l M.2.2.1 ρ ls L) (hr' : mm_vs ρ r r') (hb : cells + (kc + kc') ≤ mc ∧ slots + (ks + ks') ≤ ms) {a : Array Value}
    (hr : va_Run p l e R s m args below meth c H locs cells slots kc' ks' (F0 m pc ls st0) r' (mm_Q D cA ρ (va_A ws H.size) w.length post' a) (va_A ws H.size))
    (k : ∀ v w', post' v w' → mm_V M d k0 post kc ks (pc + 3) L (v.toList ++ r) w') : W p l e R s m args below meth c H locs cells slots Q (F0 m pc ls st0) := by
  intro T hT X
  obtain ⟨v', st₀, t, T', Lx, e0, X', hL, e1, e2, ⟨⟨v, v2, w', ρ', ws', ho, hpost, hov, hpre, hw', hP', hD'⟩, hz, hk⟩, st⟩ := hr T hT X
  cases ho
  rw [e0] at hz hk
  have hA : ∀ q, va_A ws H.size q → A q := by
    intro q hq
    rcases hq with ⟨i, x, hx⟩ | hq
    · exact hD.2 i (q, x) hx
    · exact hG.1.2.2.2.2.2.2.2.2.1 q (Nat.le_trans hS.1 hq)
  have hm : ∀ a, a < ρ.length → ρ'[a]? = ρ[a]? := fun a ha => hpre a (by rw [← hws.1]; exact ha)
  have hpre0 : ∀ a, a < k0 → ρ'[a]? = ρ0[a]? := fun a ha => by
    have h1 := h0 a ha
    have h2 := hG.2.2.1
    rw [List.getElem?_eq_getElem (by omega : a < ρ0.length)] at h1
    rw [hm a (List.getElem?_eq_some_iff.mp h1).1]
    exact h0 a ha
  have hS1 : va_S A s.heap T'.heap (locs ++ Lx) := ⟨Nat.le_trans hS.1 (by rw [e1]; exact hz), fun q h1 h2 => by rw [e1, hk q (Nat.lt_of_lt_of_le h1 hS.1) (fun z => h2 (hA q z))]; exact hS.2.1 q h1 h2, fun q hq => by
      rcases List.mem_append.mp hq with h | h
      · exact hS.2.2 q h
      · exact hA _ (hL q h)⟩
  have kk : W p l e R s m args below meth c T'.heap (locs ++ Lx) (cells + kc') (slots + ks') Q (F0 m (pc + 3) ls (v'.toList ++ r')) :=
    k v w' hpost hG ⟨hpre0, ⟨ws', hw', by rw [e1]; exact hP', hD'.weaken (fun _ _ _ h => hA _ h)⟩, hS1, mm_l_mono hm hl, mm_ov_list hov (mm_vs_mono hm hr'), by omega⟩
  obtain ⟨t2, a1, b1⟩ := kk T' rfl X'
  exact ⟨t2, st t2 a1, b1⟩
theorem mm_callB {p : Program} {l : Launch} {e : Env} {R : Room} {s : State} {m : MethodId} {args : Array Value} {below : List Frame} {meth : Method} {c : Code} {D : va_G} {cA : FieldType → ClassId} {A : Nat → Prop} {Q : State → Prop} {ρ0 : List Nat} {mc ms : Nat} (hG : mm_G M d k0 post p l e R s m args below meth c D cA A Q ρ0 mc ms) (hM : mm_okM y M' n) (hd1 : d' < d) :
    ((({ frames := d', cells := kc', slots := ks', locals := mm_K * d' } : Room).cells = kc' ∧ ({ frames := d', cells := kc', slots := ks', locals := mm_K * d' } : Room).slots = ks' ∧ ({ frames := d', cells := kc', slots := ks', locals := mm_K * d' } : Room).frames + 1 ≤ R.frames ∧ 8 + (M'.2.2.1 + 11) + ({ frames := d', cells := kc', slots := ks', locals := mm_K * d' } : Room).locals ≤ R.locals ∧ (∀ w ∈ (Cond.code y M'.2.1 M'.2.2.1 M'.2.2.2.2 :: mm_T), ∀ (a' : Array Value) (U : State), s.WarmedH U.vm → w.before a' U = true) ∧ Cond.code y M'.2.1 M'.2.2.1 M'.2.2.2.2 ∈ (Cond.code y M'.2.1 M'.2.2.1 M'.2.2.2.2 :: mm_T)) ∧ (Cond.code y M'.2.1 M'.2.2.1 M'.2.2.2.2).before args s = true ∧ (Cond.initialized y.cls).before args s = true ∧ (y.cls ≠ "java/lang/invoke/MethodHandle" ∧ y.cls ≠ "java/lang/invoke/VarHandle") ∧ (∀ sig, parseMethodDescriptor y.desc = some sig → n = sig.parameters.length)) := by
  obtain ⟨hc, hini, hy, hn, hL⟩ := hM
  have hts := hG.1.2.2.2.2.1
  have hrm := hG.1.2.2.2.2.2.2.2.1
  unfold mm_K at hrm hL ⊢
  refine ⟨⟨rfl, rfl, ?_, ?_, pay_in hts (mm_ws_good hc), List.mem_cons_self⟩, hts _ hc, hts _ hini, hy, fun sig h => ?_⟩
  · show d' + 1 ≤ R.frames
    omega
  · show 8 + (M'.2.2.1 + 11) + 36 * d' ≤ R.locals
    omega
  · rw [h] at hn
    exact (Option.some.inj hn).symm
theorem mm_pre {p : Program} {l : Launch} {e : Env} {R : Room} {s : State} {m : MethodId} {args : Array Value} {below : List Frame} {meth : Method} {c : Code} {D : va_G} {cA : FieldType → ClassId} {A : Nat → Prop} {Q : State → Prop} {ρ0 : List Nat} {mc ms : Nat} (hG : mm_G M d k0 post p l e R s m args below meth c D cA A Q ρ0 mc ms) {ws : va_W} {H : Heap} (hP : va_P D mmCl ws H) (hD : va_D A ws) (av' : List Value) : ∀ U : State, U.heap = H → s.WarmedH U.vm → mm_Pc D cA ws H.size av' av'.toArray U :=
  fun U hU hW => ⟨rfl, by rw [hU], by rw [hU]; exact hP, va_K.moved hW.alike hG.1.2.2.2.2.2.2.1, hD.weaken (fun _ _ _ _ => trivial), fun w hw => mm_Nw_warm hw hW (hG.1.2.2.2.2.2.1 w hw)⟩
theorem mm_callV {a ci : Nat} {fs : List Value} (hd : decode M.2.1 pc = .ok (.invokevirtual idx, 3)) (hM : mm_okM y M' n) (hlk : mm_ml M.1 idx y) (hd1 : d' < d) (hn : av.length = n) (hr8 : (r.map fun v => v.category).sum ≤ 8) (hi : Cond.instanceMethod y ∈ mm_T ∧ Cond.selects y.cls y y ∈ mm_T) (ha : w[a]? = some (.inr (ci, fs))) (hcl : (mmCl[ci]?.map (fun q => q.1)) = some y.cls) (hC : mm_Ct y M' d' kc' ks' (.ref a :: av) w post') (k : ∀ v w', post' v w' → mm_V M d k0 post kc ks (pc + 3) L (v.toList ++ r) w') : mm_V M d k0 post (kc + kc') (ks + ks') pc L (av.reverse ++ .ref a :: r) w := by
  intro p l e R s m args below meth c D cA A Q ρ0 mc ms hG ρ H locs ls st' cells slots ⟨h0, hw, hS, hl, hst, hb⟩
  obtain ⟨v1, v2, rfl, hv1, hv2⟩ := mm_vs_app hst
  obtain ⟨b, r', rfl, hb1, hr'⟩ := mm_vs_r hv2
  obtain ⟨ws, hws, hP, hD⟩ := hw
  obtain ⟨yy, hy1, fs', hy2, hy3⟩ := mm_w_get hws ha hb1
  subst hy2
  have hav : mm_vs ρ (.ref a :: av) (.ref b :: v1.reverse) := ⟨_, _, rfl, ⟨b, hb1, rfl⟩, by have := mm_vs_rev hv1; rw [List.reverse_reverse] at this; exact this⟩
  have hMet := hC l D cA ρ _ ws H.size hws hav
  have hB := mm_callB (kc' := kc') (ks' := ks') hG hM hd1
  have hts := hG.1.2.2.2.2.1
  have hR := hG.2.1
  have h8 := lv_room (m := m) (pc := pc) (ls := ls) (rest := v1 ++ .ref b :: r') (st := r') (by rw [mm_vs_cat hr']; exact hr8)
  have hlen : v1.reverse.length = n := by rw [List.length_reverse, mm_vs_len hv1, List.length_reverse]; exact hn
  have hrecv : ∃ cellB : Cell, H[b]? = some cellB ∧ cellB.vm.isStatics = false ∧ s.vm.findClass y.cls = some cellB.cls := by
    cases hq : mmCl[ci]? with
    | none => rw [hq] at hcl; cases hcl
    | some q =>
      rw [hq] at hcl
      have e : q.1 = y.cls := Option.some.inj hcl
      rw [← e]
      exact va_recv hG.1.2.2.2.2.2.2.1 hP hq hy1
  rcases hlk with hlk | ⟨host, hlk⟩
  · exact mm_after hG h0 hws hD hS hl hr' (by omega) (va_runV (C := y.cls) ⟨hG.1.1, hG.1.2.1, hG.1.2.2.1, hG.1.2.2.2.1, hts⟩ hMet ⟨⟨hB.1.1, hB.1.2.1, hB.1.2.2.1, hB.1.2.2.2.1, hB.1.2.2.2.2.1, hB.1.2.2.2.2.2, hB.2.1, hB.2.2.1, hB.2.2.2.1, hB.2.2.2.2, hts _ hlk⟩, hts _ hi.1, hts _ hi.2⟩ ⟨mm_blind _ _ _ _ _, hrecv, mm_pre hG hP hD _⟩ rfl hlen hl.1 (by rw [List.reverse_reverse]) h8 hd (by omega)) k
  · exact mm_after hG h0 hws hD hS hl hr' (by omega) (va_runVN (C := y.cls) (host := host) ⟨hG.1.1, hG.1.2.1, hG.1.2.2.1, hG.1.2.2.2.1, hts⟩ hMet ⟨⟨hB.1, hB.2.1, hB.2.2.1, hB.2.2.2.1, hB.2.2.2.2, (hG.1.2.2.2.2.2.1 _ hlk).use rfl⟩, hts _ hi.1, hts _ hi.2⟩ ⟨mm_blind _ _ _ _ _, hrecv, mm_pre hG hP hD _⟩ rfl hlen hl.1 (by rw [List.reverse_reverse]) h8 hd (by omega)) k
theorem mm_callS (hd : decode M.2.1 pc = .ok (.invokestatic idx, 3)) (hM : mm_okM y M' n) (hlk : mm_ml M.1 idx y) (hd1 : d' < d) (hn : av.length = n) (hr8 : (r.map fun v => v.category).sum ≤ 8) (hi : Cond.static y ∈ mm_T) (hC : mm_Ct y M' d' kc' ks' av w post') (k : ∀ v w', post' v w' → mm_V M d k0 post kc ks (pc + 3) L (v.toList ++ r) w') : mm_V M d k0 post (kc + kc') (ks + ks') pc L (av.reverse ++ r) w := by
  intro p l e R s m args below meth c D cA A Q ρ0 mc ms hG ρ H locs ls st' cells slots ⟨h0, hw, hS, hl, hst, hb⟩
  obtain ⟨v1, r', rfl, hv1, hr'⟩ := mm_vs_app hst
  obtain ⟨ws, hws, hP, hD⟩ := hw
  have hav : mm_vs ρ av v1.reverse := by have := mm_vs_rev hv1; rw [List.reverse_reverse] at this; exact this
  have hMet := hC l D cA ρ _ ws H.size hws hav
  have hB := mm_callB (kc' := kc') (ks' := ks') hG hM hd1
  have hts := hG.1.2.2.2.2.1
  have hR := hG.2.1
  have h8 := lv_room (m := m) (pc := pc) (ls := ls) (rest := v1 ++ r') (st := r') (by rw [mm_vs_cat hr']; exact hr8)
  have hlen : v1.reverse.length = n := by rw [List.length_reverse, mm_vs_len hv1, List.length_reverse]; exact hn
  rcases hlk with hlk | ⟨host, hlk⟩
  · exact mm_after hG h0 hws hD hS hl hr' (by omega) (va_runS ⟨hG.1.1, hG.1.2.1, hG.1.2.2.1, hG.1.2.2.2.1, hts⟩ hMet ⟨⟨hB.1.1, hB.1.2.1, hB.1.2.2.1, hB.1.2.2.2.1, hB.1.2.2.2.2.1, hB.1.2.2.2.2.2, hB.2.1, hB.2.2.1, hB.2.2.2.1, hB.2.2.2.2, hts _ hlk⟩, hts _ hi⟩ ⟨mm_blind _ _ _ _ _, mm_pre hG hP hD _⟩ rfl hlen hl.1 (by rw [List.reverse_reverse]) h8 hd (by omega)) k
  · exact mm_after hG h0 hws hD hS hl hr' (by omega) (va_runSN (host := host) ⟨hG.1.1, hG.1.2.1, hG.1.2.2.1, hG.1.2.2.2.1, hts⟩ hMet ⟨⟨hB.1, hB.2.1, hB.2.2.1, hB.2.2.2.1, hB.2.2.2.2, (hG.1.2.2.2.2.2.1 _ hlk).use rfl⟩, hts _ hi, trivial⟩ ⟨mm_blind _ _ _ _ _, mm_pre hG hP hD _⟩ rfl hlen hl.1 (by rw [List.reverse_reverse]) h8 hd (by omega)) k
theorem mm_callI {a : Nat} (hd : decode M.2.1 pc = .ok (.invokespecial idx, 3)) (hM : mm_okM y M' n) (hlk : mm_ml M.1 idx y) (hd1 : d' < d) (hn : av.length = n) (hr8 : (r.map fun v => v.category).sum ≤ 8) (hi : y.name = "<init>" ∧ Cond.instanceMethod y ∈ mm_T) (hvo : M'.2.2.2.2 = none) (hC : mm_Ct y M' d' kc' ks' (.ref a :: av) w post') (k : ∀ v w', post' v w' → mm_V M d k0 post kc ks (pc + 3) L (v.toList ++ r) w') : mm_V M d k0 post (kc + kc') (ks + ks') pc L (av.reverse ++ .ref a :: r) w := by
  intro p l e R s m args below meth c D cA A Q ρ0 mc ms hG ρ H locs ls st' cells slots ⟨h0, hw, hS, hl, hst, hb⟩
  obtain ⟨v1, v2, rfl, hv1, hv2⟩ := mm_vs_app hst
  obtain ⟨b, r', rfl, hb1, hr'⟩ := mm_vs_r hv2
  obtain ⟨ws, hws, hP, hD⟩ := hw
  have hav : mm_vs ρ (.ref a :: av) (.ref b :: v1.reverse) := ⟨_, _, rfl, ⟨b, hb1, rfl⟩, by have := mm_vs_rev hv1; rw [List.reverse_reverse] at this; exact this⟩
  have hMet := hC l D cA ρ _ ws H.size hws hav
  have hB := mm_callB (kc' := kc') (ks' := ks') hG hM hd1
  rw [hvo] at hMet hB
  have hts := hG.1.2.2.2.2.1
  have hR := hG.2.1
  have h8 := lv_room (m := m) (pc := pc) (ls := ls) (rest := v1 ++ .ref b :: r') (st := r') (by rw [mm_vs_cat hr']; exact hr8)
  have hlen : v1.reverse.length = n := by rw [List.length_reverse, mm_vs_len hv1, List.length_reverse]; exact hn
  rcases hlk with hlk | ⟨host, hlk⟩
  · exact mm_after hG h0 hws hD hS hl hr' (by omega) (va_runI ⟨hG.1.1, hG.1.2.1, hG.1.2.2.1, hG.1.2.2.2.1, hts⟩ hMet ⟨⟨hB.1.1, hB.1.2.1, hB.1.2.2.1, hB.1.2.2.2.1, hB.1.2.2.2.2.1, hB.1.2.2.2.2.2, hB.2.1, hB.2.2.1, hB.2.2.2.1, hB.2.2.2.2, hts _ hlk⟩, hi.1, hts _ hi.2⟩ ⟨mm_blind _ _ _ _ _, mm_pre hG hP hD _⟩ rfl hlen hl.1 (by rw [List.reverse_reverse]) h8 hd (by omega)) k
  · exact mm_after hG h0 hws hD hS hl hr' (by omega) (va_runIN (host := host) ⟨hG.1.1, hG.1.2.1, hG.1.2.2.1, hG.1.2.2.2.1, hts⟩ hMet ⟨⟨hB.1, hB.2.1, hB.2.2.1, hB.2.2.2.1, hB.2.2.2.2, (hG.1.2.2.2.2.2.1 _ hlk).use rfl⟩, hi.1, hts _ hi.2⟩ ⟨mm_blind _ _ _ _ _, mm_pre hG hP hD _⟩ rfl hlen hl.1 (by rw [List.reverse_reverse]) h8 hd (by omega)) k
end MMC
end
section
/-! facts of links, fields, methods: by their places in the tables -/
abbrev mm_i : Type := Nat → Int32
abbrev mm_j : Type := Nat → Int64
abbrev mm_a : Type := Nat → Nat → Int32
abbrev mm_b : Type := Nat → Nat → Int64
def mm_ua (a : mm_a) (k : Nat) (f : Nat → Int32) : mm_a := fun j => if j = k then f else a j
def mm_ub (b : mm_b) (k : Nat) (f : Nat → Int64) : mm_b := fun j => if j = k then f else b j
theorem fl_Text_15 : mm_fl r_Text 15 0 0 := ⟨_, _, _, rfl, by decide, Or.inl tw_36⟩
theorem fl_Matcher_181 : mm_fl r_Matcher 181 0 0 := ⟨_, _, _, rfl, by decide, Or.inl tw_37⟩
theorem fl_Text_9 : mm_fl r_Text 9 0 1 := ⟨_, _, _, rfl, by decide, Or.inl tw_38⟩
theorem fl_Matcher_64 : mm_fl r_Matcher 64 0 1 := ⟨_, _, _, rfl, by decide, Or.inl tw_39⟩
theorem fl_Reader_67 : mm_fl r_Reader 67 0 1 := ⟨_, _, _, rfl, by decide, Or.inl tw_40⟩
theorem fl_Bench_76 : mm_fl r_Bench 76 0 1 := ⟨_, _, _, rfl, by decide, Or.inl tw_41⟩
theorem fl_Program_9 : mm_fl r_Program 9 1 0 := ⟨_, _, _, rfl, by decide, Or.inl tw_54⟩
theorem fl_Matcher_163 : mm_fl r_Matcher 163 1 0 := ⟨_, _, _, rfl, by decide, Or.inl tw_55⟩
theorem fl_Program_15 : mm_fl r_Program 15 1 1 := ⟨_, _, _, rfl, by decide, Or.inl tw_56⟩
theorem fl_Matcher_169 : mm_fl r_Matcher 169 1 1 := ⟨_, _, _, rfl, by decide, Or.inl tw_57⟩
theorem fl_Program_18 : mm_fl r_Program 18 1 2 := ⟨_, _, _, rfl, by decide, Or.inl tw_58⟩
theorem fl_Matcher_131 : mm_fl r_Matcher 131 1 2 := ⟨_, _, _, rfl, by decide, Or.inl tw_59⟩
theorem fl_Reader_168 : mm_fl r_Reader 168 1 2 := ⟨_, _, _, rfl, by decide, Or.inl tw_60⟩
theorem fl_Program_21 : mm_fl r_Program 21 1 3 := ⟨_, _, _, rfl, by decide, Or.inl tw_61⟩
theorem fl_Matcher_149 : mm_fl r_Matcher 149 1 3 := ⟨_, _, _, rfl, by decide, Or.inl tw_62⟩
theorem fl_Reader_165 : mm_fl r_Reader 165 1 3 := ⟨_, _, _, rfl, by decide, Or.inl tw_63⟩
theorem fl_Program_24 : mm_fl r_Program 24 1 4 := ⟨_, _, _, rfl, by decide, Or.inl tw_64⟩
theorem fl_Matcher_137 : mm_fl r_Matcher 137 1 4 := ⟨_, _, _, rfl, by decide, Or.inl tw_65⟩
theorem fl_Reader_171 : mm_fl r_Reader 171 1 4 := ⟨_, _, _, rfl, by decide, Or.inl tw_66⟩
theorem fl_Program_27 : mm_fl r_Program 27 1 5 := ⟨_, _, _, rfl, by decide, Or.inl tw_67⟩
theorem fl_Reader_131 : mm_fl r_Reader 131 1 5 := ⟨_, _, _, rfl, by decide, Or.inl tw_68⟩
theorem fl_Matcher_200 : mm_fl r_Matcher 200 1 5 := ⟨_, _, _, rfl, by decide, Or.inl tw_69⟩
theorem fl_Program_30 : mm_fl r_Program 30 1 6 := ⟨_, _, _, rfl, by decide, Or.inl tw_70⟩
theorem fl_Matcher_134 : mm_fl r_Matcher 134 1 6 := ⟨_, _, _, rfl, by decide, Or.inl tw_71⟩
theorem fl_Reader_155 : mm_fl r_Reader 155 1 6 := ⟨_, _, _, rfl, by decide, Or.inl tw_72⟩
theorem fl_Program_33 : mm_fl r_Program 33 1 7 := ⟨_, _, _, rfl, by decide, Or.inl tw_73⟩
theorem fl_Matcher_128 : mm_fl r_Matcher 128 1 7 := ⟨_, _, _, rfl, by decide, Or.inl tw_74⟩
theorem fl_Reader_152 : mm_fl r_Reader 152 1 7 := ⟨_, _, _, rfl, by decide, Or.inl tw_75⟩
theorem fl_Program_36 : mm_fl r_Program 36 1 8 := ⟨_, _, _, rfl, by decide, Or.inl tw_76⟩
theorem fl_Matcher_121 : mm_fl r_Matcher 121 1 8 := ⟨_, _, _, rfl, by decide, Or.inl tw_77⟩
theorem fl_Reader_118 : mm_fl r_Reader 118 1 8 := ⟨_, _, _, rfl, by decide, Or.inl tw_78⟩
theorem fl_Program_39 : mm_fl r_Program 39 1 9 := ⟨_, _, _, rfl, by decide, Or.inl tw_79⟩
theorem fl_Reader_64 : mm_fl r_Reader 64 1 9 := ⟨_, _, _, rfl, by decide, Or.inl tw_80⟩
theorem fl_Matcher_84 : mm_fl r_Matcher 84 1 9 := ⟨_, _, _, rfl, by decide, Or.inl tw_81⟩
theorem fl_Program_42 : mm_fl r_Program 42 1 10 := ⟨_, _, _, rfl, by decide, Or.inl tw_82⟩
theorem fl_Program_46 : mm_fl r_Program 46 1 11 := ⟨_, _, _, rfl, by decide, Or.inl tw_83⟩
theorem fl_Program_49 : mm_fl r_Program 49 1 12 := ⟨_, _, _, rfl, by decide, Or.inl tw_84⟩
theorem fl_Reader_80 : mm_fl r_Reader 80 1 12 := ⟨_, _, _, rfl, by decide, Or.inl tw_85⟩
theorem fl_Bench_89 : mm_fl r_Bench 89 1 12 := ⟨_, _, _, rfl, by decide, Or.inl tw_86⟩
theorem fl_Program_52 : mm_fl r_Program 52 1 13 := ⟨_, _, _, rfl, by decide, Or.inl tw_87⟩
theorem fl_Reader_77 : mm_fl r_Reader 77 1 13 := ⟨_, _, _, rfl, by decide, Or.inl tw_88⟩
theorem fl_Bench_83 : mm_fl r_Bench 83 1 13 := ⟨_, _, _, rfl, by decide, Or.inl tw_89⟩
theorem fl_Reader_14 : mm_fl r_Reader 14 2 0 := ⟨_, _, _, rfl, by decide, Or.inl tw_119⟩
theorem fl_Bench_59 : mm_fl r_Bench 59 2 0 := ⟨_, _, _, rfl, by decide, Or.inl tw_120⟩
theorem fl_Reader_23 : mm_fl r_Reader 23 2 1 := ⟨_, _, _, rfl, by decide, Or.inl tw_121⟩
theorem fl_Bench_79 : mm_fl r_Bench 79 2 1 := ⟨_, _, _, rfl, by decide, Or.inl tw_122⟩
theorem fl_Reader_27 : mm_fl r_Reader 27 2 2 := ⟨_, _, _, rfl, by decide, Or.inl tw_123⟩
theorem fl_Reader_31 : mm_fl r_Reader 31 2 3 := ⟨_, _, _, rfl, by decide, Or.inl tw_124⟩
theorem fl_Reader_34 : mm_fl r_Reader 34 2 4 := ⟨_, _, _, rfl, by decide, Or.inl tw_125⟩
theorem fl_Reader_37 : mm_fl r_Reader 37 2 5 := ⟨_, _, _, rfl, by decide, Or.inl tw_126⟩
theorem fl_Reader_40 : mm_fl r_Reader 40 2 6 := ⟨_, _, _, rfl, by decide, Or.inl tw_127⟩
theorem fl_Reader_44 : mm_fl r_Reader 44 2 7 := ⟨_, _, _, rfl, by decide, Or.inl tw_128⟩
theorem fl_Reader_47 : mm_fl r_Reader 47 2 8 := ⟨_, _, _, rfl, by decide, Or.inl tw_129⟩
theorem fl_Reader_50 : mm_fl r_Reader 50 2 9 := ⟨_, _, _, rfl, by decide, Or.inl tw_130⟩
theorem fl_Reader_53 : mm_fl r_Reader 53 2 10 := ⟨_, _, _, rfl, by decide, Or.inl tw_131⟩
theorem fl_Frames_13 : mm_fl r_Frames 13 3 0 := ⟨_, _, _, rfl, by decide, Or.inl tw_177⟩
theorem fl_Matcher_209 : mm_fl r_Matcher 209 3 0 := ⟨_, _, _, rfl, by decide, Or.inl tw_178⟩
theorem fl_Frames_17 : mm_fl r_Frames 17 3 1 := ⟨_, _, _, rfl, by decide, Or.inl tw_179⟩
theorem fl_Matcher_203 : mm_fl r_Matcher 203 3 1 := ⟨_, _, _, rfl, by decide, Or.inl tw_180⟩
theorem fl_Frames_20 : mm_fl r_Frames 20 3 2 := ⟨_, _, _, rfl, by decide, Or.inl tw_181⟩
theorem fl_Matcher_218 : mm_fl r_Matcher 218 3 2 := ⟨_, _, _, rfl, by decide, Or.inl tw_182⟩
theorem fl_Frames_23 : mm_fl r_Frames 23 3 3 := ⟨_, _, _, rfl, by decide, Or.inl tw_183⟩
theorem fl_Matcher_214 : mm_fl r_Matcher 214 3 3 := ⟨_, _, _, rfl, by decide, Or.inl tw_184⟩
theorem fl_Frames_26 : mm_fl r_Frames 26 3 4 := ⟨_, _, _, rfl, by decide, Or.inl tw_185⟩
theorem fl_Matcher_213 : mm_fl r_Matcher 213 3 4 := ⟨_, _, _, rfl, by decide, Or.inl tw_186⟩
theorem fl_Frames_30 : mm_fl r_Frames 30 3 5 := ⟨_, _, _, rfl, by decide, Or.inl tw_187⟩
theorem fl_Matcher_206 : mm_fl r_Matcher 206 3 5 := ⟨_, _, _, rfl, by decide, Or.inl tw_188⟩
theorem fl_Frames_33 : mm_fl r_Frames 33 3 6 := ⟨_, _, _, rfl, by decide, Or.inl tw_189⟩
theorem fl_Matcher_197 : mm_fl r_Matcher 197 3 6 := ⟨_, _, _, rfl, by decide, Or.inl tw_190⟩
theorem fl_Frames_7 : mm_fl r_Frames 7 3 7 := ⟨_, _, _, rfl, by decide, Or.inl tw_191⟩
theorem fl_Choices_13 : mm_fl r_Choices 13 4 0 := ⟨_, _, _, rfl, by decide, Or.inl tw_216⟩
theorem fl_Matcher_159 : mm_fl r_Matcher 159 4 0 := ⟨_, _, _, rfl, by decide, Or.inl tw_217⟩
theorem fl_Choices_17 : mm_fl r_Choices 17 4 1 := ⟨_, _, _, rfl, by decide, Or.inl tw_218⟩
theorem fl_Matcher_161 : mm_fl r_Matcher 161 4 1 := ⟨_, _, _, rfl, by decide, Or.inl tw_219⟩
theorem fl_Choices_20 : mm_fl r_Choices 20 4 2 := ⟨_, _, _, rfl, by decide, Or.inl tw_220⟩
theorem fl_Matcher_152 : mm_fl r_Matcher 152 4 2 := ⟨_, _, _, rfl, by decide, Or.inl tw_221⟩
theorem fl_Choices_23 : mm_fl r_Choices 23 4 3 := ⟨_, _, _, rfl, by decide, Or.inl tw_222⟩
theorem fl_Matcher_154 : mm_fl r_Matcher 154 4 3 := ⟨_, _, _, rfl, by decide, Or.inl tw_223⟩
theorem fl_Choices_27 : mm_fl r_Choices 27 4 4 := ⟨_, _, _, rfl, by decide, Or.inl tw_224⟩
theorem fl_Matcher_157 : mm_fl r_Matcher 157 4 4 := ⟨_, _, _, rfl, by decide, Or.inl tw_225⟩
theorem fl_Choices_7 : mm_fl r_Choices 7 4 5 := ⟨_, _, _, rfl, by decide, Or.inl tw_226⟩
theorem fl_Matcher_140 : mm_fl r_Matcher 140 4 5 := ⟨_, _, _, rfl, by decide, Or.inl tw_227⟩
theorem fl_Matcher_14 : mm_fl r_Matcher 14 5 0 := ⟨_, _, _, rfl, by decide, Or.inl tw_241⟩
theorem fl_Bench_95 : mm_fl r_Bench 95 5 0 := ⟨_, _, _, rfl, by decide, Or.inl tw_242⟩
theorem fl_Matcher_23 : mm_fl r_Matcher 23 5 1 := ⟨_, _, _, rfl, by decide, Or.inl tw_243⟩
theorem fl_Bench_88 : mm_fl r_Bench 88 5 1 := ⟨_, _, _, rfl, by decide, Or.inl tw_244⟩
theorem fl_Matcher_47 : mm_fl r_Matcher 47 5 2 := ⟨_, _, _, rfl, by decide, Or.inl tw_245⟩
theorem fl_Matcher_53 : mm_fl r_Matcher 53 5 3 := ⟨_, _, _, rfl, by decide, Or.inl tw_246⟩
theorem fl_Matcher_60 : mm_fl r_Matcher 60 5 4 := ⟨_, _, _, rfl, by decide, Or.inl tw_247⟩
theorem fl_Matcher_27 : mm_fl r_Matcher 27 5 5 := ⟨_, _, _, rfl, by decide, Or.inl tw_248⟩
theorem fl_Matcher_31 : mm_fl r_Matcher 31 5 6 := ⟨_, _, _, rfl, by decide, Or.inl tw_249⟩
theorem fl_Matcher_34 : mm_fl r_Matcher 34 5 7 := ⟨_, _, _, rfl, by decide, Or.inl tw_250⟩
theorem fl_Matcher_37 : mm_fl r_Matcher 37 5 8 := ⟨_, _, _, rfl, by decide, Or.inl tw_251⟩
theorem fl_Bench_117 : mm_fl r_Bench 117 5 8 := ⟨_, _, _, rfl, by decide, Or.inl tw_252⟩
theorem fl_Matcher_40 : mm_fl r_Matcher 40 5 9 := ⟨_, _, _, rfl, by decide, Or.inl tw_253⟩
theorem fl_Bench_120 : mm_fl r_Bench 120 5 9 := ⟨_, _, _, rfl, by decide, Or.inl tw_254⟩
theorem fl_Matcher_44 : mm_fl r_Matcher 44 5 10 := ⟨_, _, _, rfl, by decide, Or.inl tw_255⟩
theorem fl_Bench_123 : mm_fl r_Bench 123 5 10 := ⟨_, _, _, rfl, by decide, Or.inl tw_256⟩
theorem fl_Bench_10 : mm_fl r_Bench 10 6 0 := ⟨_, _, _, rfl, by decide, Or.inl tw_280⟩
theorem fl_Bench_51 : mm_fl r_Bench 51 6 1 := ⟨_, _, _, rfl, by decide, Or.inl tw_281⟩
theorem fl_Bench_16 : mm_fl r_Bench 16 6 2 := ⟨_, _, _, rfl, by decide, Or.inl tw_282⟩
theorem fl_Bench_20 : mm_fl r_Bench 20 6 3 := ⟨_, _, _, rfl, by decide, Or.inl tw_283⟩
theorem fl_Bench_23 : mm_fl r_Bench 23 6 4 := ⟨_, _, _, rfl, by decide, Or.inl tw_284⟩
theorem fl_Bench_27 : mm_fl r_Bench 27 6 5 := ⟨_, _, _, rfl, by decide, Or.inl tw_285⟩
theorem fl_Bench_30 : mm_fl r_Bench 30 6 6 := ⟨_, _, _, rfl, by decide, Or.inl tw_286⟩
theorem fl_Bench_34 : mm_fl r_Bench 34 6 7 := ⟨_, _, _, rfl, by decide, Or.inl tw_287⟩
theorem ft_0_0 : mm_ft 0 0 (.array .int) := ⟨_, _, _, rfl, by decide +kernel⟩
theorem ft_0_1 : mm_ft 0 1 .int := ⟨_, _, _, rfl, by decide +kernel⟩
theorem ft_1_0 : mm_ft 1 0 (.array .int) := ⟨_, _, _, rfl, by decide +kernel⟩
theorem ft_1_1 : mm_ft 1 1 (.array .int) := ⟨_, _, _, rfl, by decide +kernel⟩
theorem ft_1_2 : mm_ft 1 2 (.array .int) := ⟨_, _, _, rfl, by decide +kernel⟩
theorem ft_1_3 : mm_ft 1 3 (.array .int) := ⟨_, _, _, rfl, by decide +kernel⟩
theorem ft_1_4 : mm_ft 1 4 (.array .int) := ⟨_, _, _, rfl, by decide +kernel⟩
theorem ft_1_5 : mm_ft 1 5 (.array .int) := ⟨_, _, _, rfl, by decide +kernel⟩
theorem ft_1_6 : mm_ft 1 6 (.array .int) := ⟨_, _, _, rfl, by decide +kernel⟩
theorem ft_1_7 : mm_ft 1 7 (.array .int) := ⟨_, _, _, rfl, by decide +kernel⟩
theorem ft_1_8 : mm_ft 1 8 (.array .int) := ⟨_, _, _, rfl, by decide +kernel⟩
theorem ft_1_9 : mm_ft 1 9 (.array .int) := ⟨_, _, _, rfl, by decide +kernel⟩
theorem ft_1_10 : mm_ft 1 10 .int := ⟨_, _, _, rfl, by decide +kernel⟩
theorem ft_1_11 : mm_ft 1 11 .int := ⟨_, _, _, rfl, by decide +kernel⟩
theorem ft_1_12 : mm_ft 1 12 .int := ⟨_, _, _, rfl, by decide +kernel⟩
theorem ft_1_13 : mm_ft 1 13 .int := ⟨_, _, _, rfl, by decide +kernel⟩
theorem ft_2_0 : mm_ft 2 0 (.object "PatternBench$Text") := ⟨_, _, _, rfl, by decide +kernel⟩
theorem ft_2_1 : mm_ft 2 1 (.object "PatternBench$Program") := ⟨_, _, _, rfl, by decide +kernel⟩
theorem ft_2_2 : mm_ft 2 2 (.array .int) := ⟨_, _, _, rfl, by decide +kernel⟩
theorem ft_2_3 : mm_ft 2 3 (.array .int) := ⟨_, _, _, rfl, by decide +kernel⟩
theorem ft_2_4 : mm_ft 2 4 (.array .int) := ⟨_, _, _, rfl, by decide +kernel⟩
theorem ft_2_5 : mm_ft 2 5 (.array .int) := ⟨_, _, _, rfl, by decide +kernel⟩
theorem ft_2_6 : mm_ft 2 6 .int := ⟨_, _, _, rfl, by decide +kernel⟩
theorem ft_2_7 : mm_ft 2 7 .int := ⟨_, _, _, rfl, by decide +kernel⟩
theorem ft_2_8 : mm_ft 2 8 .int := ⟨_, _, _, rfl, by decide +kernel⟩
theorem ft_2_9 : mm_ft 2 9 .int := ⟨_, _, _, rfl, by decide +kernel⟩
theorem ft_2_10 : mm_ft 2 10 .boolean := ⟨_, _, _, rfl, by decide +kernel⟩
theorem ft_3_0 : mm_ft 3 0 (.array .int) := ⟨_, _, _, rfl, by decide +kernel⟩
theorem ft_3_1 : mm_ft 3 1 (.array .int) := ⟨_, _, _, rfl, by decide +kernel⟩
theorem ft_3_2 : mm_ft 3 2 (.array .int) := ⟨_, _, _, rfl, by decide +kernel⟩
theorem ft_3_3 : mm_ft 3 3 (.array .int) := ⟨_, _, _, rfl, by decide +kernel⟩
theorem ft_3_4 : mm_ft 3 4 (.array .long) := ⟨_, _, _, rfl, by decide +kernel⟩
theorem ft_3_5 : mm_ft 3 5 (.array .int) := ⟨_, _, _, rfl, by decide +kernel⟩
theorem ft_3_6 : mm_ft 3 6 (.array .int) := ⟨_, _, _, rfl, by decide +kernel⟩
theorem ft_3_7 : mm_ft 3 7 .int := ⟨_, _, _, rfl, by decide +kernel⟩
theorem ft_4_0 : mm_ft 4 0 (.array .int) := ⟨_, _, _, rfl, by decide +kernel⟩
theorem ft_4_1 : mm_ft 4 1 (.array .int) := ⟨_, _, _, rfl, by decide +kernel⟩
theorem ft_4_2 : mm_ft 4 2 (.array .int) := ⟨_, _, _, rfl, by decide +kernel⟩
theorem ft_4_3 : mm_ft 4 3 (.array .long) := ⟨_, _, _, rfl, by decide +kernel⟩
theorem ft_4_4 : mm_ft 4 4 (.array .int) := ⟨_, _, _, rfl, by decide +kernel⟩
theorem ft_4_5 : mm_ft 4 5 .int := ⟨_, _, _, rfl, by decide +kernel⟩
theorem ft_5_0 : mm_ft 5 0 (.object "PatternBench$Text") := ⟨_, _, _, rfl, by decide +kernel⟩
theorem ft_5_1 : mm_ft 5 1 (.object "PatternBench$Program") := ⟨_, _, _, rfl, by decide +kernel⟩
theorem ft_5_2 : mm_ft 5 2 .int := ⟨_, _, _, rfl, by decide +kernel⟩
theorem ft_5_3 : mm_ft 5 3 (.object "PatternBench$Frames") := ⟨_, _, _, rfl, by decide +kernel⟩
theorem ft_5_4 : mm_ft 5 4 (.object "PatternBench$Choices") := ⟨_, _, _, rfl, by decide +kernel⟩
theorem ft_5_5 : mm_ft 5 5 .int := ⟨_, _, _, rfl, by decide +kernel⟩
theorem ft_5_6 : mm_ft 5 6 .int := ⟨_, _, _, rfl, by decide +kernel⟩
theorem ft_5_7 : mm_ft 5 7 .int := ⟨_, _, _, rfl, by decide +kernel⟩
theorem ft_5_8 : mm_ft 5 8 .int := ⟨_, _, _, rfl, by decide +kernel⟩
theorem ft_5_9 : mm_ft 5 9 .long := ⟨_, _, _, rfl, by decide +kernel⟩
theorem ft_5_10 : mm_ft 5 10 .int := ⟨_, _, _, rfl, by decide +kernel⟩
theorem ft_6_0 : mm_ft 6 0 (.object "PatternBench$Reader") := ⟨_, _, _, rfl, by decide +kernel⟩
theorem ft_6_1 : mm_ft 6 1 (.object "PatternBench$Matcher") := ⟨_, _, _, rfl, by decide +kernel⟩
theorem ft_6_2 : mm_ft 6 2 .boolean := ⟨_, _, _, rfl, by decide +kernel⟩
theorem ft_6_3 : mm_ft 6 3 .boolean := ⟨_, _, _, rfl, by decide +kernel⟩
theorem ft_6_4 : mm_ft 6 4 .int := ⟨_, _, _, rfl, by decide +kernel⟩
theorem ft_6_5 : mm_ft 6 5 .int := ⟨_, _, _, rfl, by decide +kernel⟩
theorem ft_6_6 : mm_ft 6 6 .long := ⟨_, _, _, rfl, by decide +kernel⟩
theorem ft_6_7 : mm_ft 6 7 .int := ⟨_, _, _, rfl, by decide +kernel⟩
def M_Bench_init : mm_M := (r_Bench, c_Bench_init, 2, true, none)
theorem ok_Bench_init : mm_okM y_Bench_init M_Bench_init 1 := ⟨tw_20, tw_1, by decide +kernel, by decide +kernel, by decide +kernel⟩
def M_Reader_init : mm_M := (r_Reader, c_Reader_init, 1, true, none)
theorem ok_Reader_init : mm_okM y_Reader_init M_Reader_init 0 := ⟨tw_28, tw_2, by decide +kernel, by decide +kernel, by decide +kernel⟩
def M_Text_init : mm_M := (r_Text, c_Text_init, 2, true, none)
theorem ok_Text_init : mm_okM y_Text_init M_Text_init 1 := ⟨tw_34, tw_3, by decide +kernel, by decide +kernel, by decide +kernel⟩
def M_Program_init : mm_M := (r_Program, c_Program_init, 1, true, none)
theorem ok_Program_init : mm_okM y_Program_init M_Program_init 0 := ⟨tw_52, tw_4, by decide +kernel, by decide +kernel, by decide +kernel⟩
def M_Matcher_init : mm_M := (r_Matcher, c_Matcher_init, 2, true, none)
theorem ok_Matcher_init : mm_okM y_Matcher_init M_Matcher_init 1 := ⟨tw_165, tw_5, by decide +kernel, by decide +kernel, by decide +kernel⟩
def M_Frames_init : mm_M := (r_Frames, c_Frames_init, 2, true, none)
theorem ok_Frames_init : mm_okM y_Frames_init M_Frames_init 1 := ⟨tw_175, tw_7, by decide +kernel, by decide +kernel, by decide +kernel⟩
def M_Choices_init : mm_M := (r_Choices, c_Choices_init, 2, true, none)
theorem ok_Choices_init : mm_okM y_Choices_init M_Choices_init 1 := ⟨tw_214, tw_8, by decide +kernel, by decide +kernel, by decide +kernel⟩
def M_Bench_write : mm_M := (r_Bench, c_Bench_write, 2, false, some .int)
theorem ok_Bench_write : mm_okM y_Bench_write M_Bench_write 1 := ⟨tw_308, tw_1, by decide +kernel, by decide +kernel, by decide +kernel⟩
def M_Bench_mayStandInPattern : mm_M := (r_Bench, c_Bench_mayStandInPattern, 1, false, some .boolean)
theorem ok_Bench_mayStandInPattern : mm_okM y_Bench_mayStandInPattern M_Bench_mayStandInPattern 1 := ⟨tw_311, tw_1, by decide +kernel, by decide +kernel, by decide +kernel⟩
def M_Bench_isLetter : mm_M := (r_Bench, c_Bench_isLetter, 1, false, some .boolean)
theorem ok_Bench_isLetter : mm_okM y_Bench_isLetter M_Bench_isLetter 1 := ⟨tw_314, tw_1, by decide +kernel, by decide +kernel, by decide +kernel⟩
def M_Bench_isDigit : mm_M := (r_Bench, c_Bench_isDigit, 1, false, some .boolean)
theorem ok_Bench_isDigit : mm_okM y_Bench_isDigit M_Bench_isDigit 1 := ⟨tw_317, tw_1, by decide +kernel, by decide +kernel, by decide +kernel⟩
def M_Text_isFull : mm_M := (r_Text, c_Text_isFull, 1, false, some .boolean)
theorem ok_Text_isFull : mm_okM y_Text_isFull M_Text_isFull 0 := ⟨tw_404, tw_3, by decide +kernel, by decide +kernel, by decide +kernel⟩
def M_Text_add : mm_M := (r_Text, c_Text_add, 2, false, some .int)
theorem ok_Text_add : mm_okM y_Text_add M_Text_add 1 := ⟨tw_408, tw_3, by decide +kernel, by decide +kernel, by decide +kernel⟩
def M_Bench_compile : mm_M := (r_Bench, c_Bench_compile, 3, false, some .int)
theorem ok_Bench_compile : mm_okM y_Bench_compile M_Bench_compile 0 := ⟨tw_414, tw_1, by decide +kernel, by decide +kernel, by decide +kernel⟩
def M_Reader_read : mm_M := (r_Reader, c_Reader_read, 3, false, some .boolean)
theorem ok_Reader_read : mm_okM y_Reader_read M_Reader_read 0 := ⟨tw_418, tw_2, by decide +kernel, by decide +kernel, by decide +kernel⟩
def M_Program_empty : mm_M := (r_Program, c_Program_empty, 1, false, none)
theorem ok_Program_empty : mm_okM y_Program_empty M_Program_empty 0 := ⟨tw_422, tw_4, by decide +kernel, by decide +kernel, by decide +kernel⟩
def M_Reader_openLevel : mm_M := (r_Reader, c_Reader_openLevel, 3, false, none)
theorem ok_Reader_openLevel : mm_okM y_Reader_openLevel M_Reader_openLevel 2 := ⟨tw_426, tw_2, by decide +kernel, by decide +kernel, by decide +kernel⟩
def M_Program_addRow : mm_M := (r_Program, c_Program_addRow, 2, false, some .int)
theorem ok_Program_addRow : mm_okM y_Program_addRow M_Program_addRow 0 := ⟨tw_430, tw_4, by decide +kernel, by decide +kernel, by decide +kernel⟩
def M_Reader_readPart : mm_M := (r_Reader, c_Reader_readPart, 1, false, some .int)
theorem ok_Reader_readPart : mm_okM y_Reader_readPart M_Reader_readPart 0 := ⟨tw_434, tw_2, by decide +kernel, by decide +kernel, by decide +kernel⟩
def M_Reader_ahead : mm_M := (r_Reader, c_Reader_ahead, 2, false, some .int)
theorem ok_Reader_ahead : mm_okM y_Reader_ahead M_Reader_ahead 1 := ⟨tw_438, tw_2, by decide +kernel, by decide +kernel, by decide +kernel⟩
def M_Text_codeAt : mm_M := (r_Text, c_Text_codeAt, 2, false, some .int)
theorem ok_Text_codeAt : mm_okM y_Text_codeAt M_Text_codeAt 1 := ⟨tw_442, tw_3, by decide +kernel, by decide +kernel, by decide +kernel⟩
def M_Reader_openNextRow : mm_M := (r_Reader, c_Reader_openNextRow, 2, false, some .int)
theorem ok_Reader_openNextRow : mm_okM y_Reader_openNextRow M_Reader_openNextRow 0 := ⟨tw_446, tw_2, by decide +kernel, by decide +kernel, by decide +kernel⟩
def M_Reader_closeChoice : mm_M := (r_Reader, c_Reader_closeChoice, 2, false, some .int)
theorem ok_Reader_closeChoice : mm_okM y_Reader_closeChoice M_Reader_closeChoice 0 := ⟨tw_450, tw_2, by decide +kernel, by decide +kernel, by decide +kernel⟩
def M_Reader_refuse : mm_M := (r_Reader, c_Reader_refuse, 1, false, some .int)
theorem ok_Reader_refuse : mm_okM y_Reader_refuse M_Reader_refuse 0 := ⟨tw_454, tw_2, by decide +kernel, by decide +kernel, by decide +kernel⟩
def M_Reader_readCall : mm_M := (r_Reader, c_Reader_readCall, 2, false, some .int)
theorem ok_Reader_readCall : mm_okM y_Reader_readCall M_Reader_readCall 0 := ⟨tw_459, tw_2, by decide +kernel, by decide +kernel, by decide +kernel⟩
def M_Reader_appendItem : mm_M := (r_Reader, c_Reader_appendItem, 4, false, some .int)
theorem ok_Reader_appendItem : mm_okM y_Reader_appendItem M_Reader_appendItem 2 := ⟨tw_464, tw_2, by decide +kernel, by decide +kernel, by decide +kernel⟩
def M_Program_addItem : mm_M := (r_Program, c_Program_addItem, 4, false, some .int)
theorem ok_Program_addItem : mm_okM y_Program_addItem M_Program_addItem 2 := ⟨tw_468, tw_4, by decide +kernel, by decide +kernel, by decide +kernel⟩
def M_Reader_openChoice : mm_M := (r_Reader, c_Reader_openChoice, 4, false, some .int)
theorem ok_Reader_openChoice : mm_okM y_Reader_openChoice M_Reader_openChoice 0 := ⟨tw_472, tw_2, by decide +kernel, by decide +kernel, by decide +kernel⟩
def M_Reader_kindOfChoice : mm_M := (r_Reader, c_Reader_kindOfChoice, 1, false, some .int)
theorem ok_Reader_kindOfChoice : mm_okM y_Reader_kindOfChoice M_Reader_kindOfChoice 0 := ⟨tw_476, tw_2, by decide +kernel, by decide +kernel, by decide +kernel⟩
def M_Reader_readClass : mm_M := (r_Reader, c_Reader_readClass, 4, false, some .int)
theorem ok_Reader_readClass : mm_okM y_Reader_readClass M_Reader_readClass 0 := ⟨tw_480, tw_2, by decide +kernel, by decide +kernel, by decide +kernel⟩
def M_Reader_readClassPart : mm_M := (r_Reader, c_Reader_readClassPart, 3, false, some .int)
theorem ok_Reader_readClassPart : mm_okM y_Reader_readClassPart M_Reader_readClassPart 0 := ⟨tw_485, tw_2, by decide +kernel, by decide +kernel, by decide +kernel⟩
def M_Reader_lettersBetween : mm_M := (r_Reader, c_Reader_lettersBetween, 2, false, some .int)
theorem ok_Reader_lettersBetween : mm_okM y_Reader_lettersBetween M_Reader_lettersBetween 2 := ⟨tw_488, tw_2, by decide +kernel, by decide +kernel, by decide +kernel⟩
def M_Reader_readReference : mm_M := (r_Reader, c_Reader_readReference, 2, false, some .int)
theorem ok_Reader_readReference : mm_okM y_Reader_readReference M_Reader_readReference 0 := ⟨tw_493, tw_2, by decide +kernel, by decide +kernel, by decide +kernel⟩
def M_Reader_readSign : mm_M := (r_Reader, c_Reader_readSign, 2, false, some .int)
theorem ok_Reader_readSign : mm_okM y_Reader_readSign M_Reader_readSign 0 := ⟨tw_497, tw_2, by decide +kernel, by decide +kernel, by decide +kernel⟩
def M_Reader_readRepeat : mm_M := (r_Reader, c_Reader_readRepeat, 2, false, none)
theorem ok_Reader_readRepeat : mm_okM y_Reader_readRepeat M_Reader_readRepeat 1 := ⟨tw_501, tw_2, by decide +kernel, by decide +kernel, by decide +kernel⟩
def M_Reader_setRepeat : mm_M := (r_Reader, c_Reader_setRepeat, 5, false, none)
theorem ok_Reader_setRepeat : mm_okM y_Reader_setRepeat M_Reader_setRepeat 4 := ⟨tw_505, tw_2, by decide +kernel, by decide +kernel, by decide +kernel⟩
def M_Reader_readTimes : mm_M := (r_Reader, c_Reader_readTimes, 3, false, none)
theorem ok_Reader_readTimes : mm_okM y_Reader_readTimes M_Reader_readTimes 1 := ⟨tw_509, tw_2, by decide +kernel, by decide +kernel, by decide +kernel⟩
def M_Bench_feed : mm_M := (r_Bench, c_Bench_feed, 2, false, some .int)
theorem ok_Bench_feed : mm_okM y_Bench_feed M_Bench_feed 1 := ⟨tw_513, tw_1, by decide +kernel, by decide +kernel, by decide +kernel⟩
def M_Bench_clear : mm_M := (r_Bench, c_Bench_clear, 2, false, some .int)
theorem ok_Bench_clear : mm_okM y_Bench_clear M_Bench_clear 0 := ⟨tw_517, tw_1, by decide +kernel, by decide +kernel, by decide +kernel⟩
def M_Bench_search : mm_M := (r_Bench, c_Bench_search, 2, false, some .int)
theorem ok_Bench_search : mm_okM y_Bench_search M_Bench_search 1 := ⟨tw_521, tw_1, by decide +kernel, by decide +kernel, by decide +kernel⟩
def M_Bench_searchFrom : mm_M := (r_Bench, c_Bench_searchFrom, 3, false, some .int)
theorem ok_Bench_searchFrom : mm_okM y_Bench_searchFrom M_Bench_searchFrom 1 := ⟨tw_525, tw_1, by decide +kernel, by decide +kernel, by decide +kernel⟩
def M_Matcher_find : mm_M := (r_Matcher, c_Matcher_find, 4, false, some .int)
theorem ok_Matcher_find : mm_okM y_Matcher_find M_Matcher_find 1 := ⟨tw_529, tw_5, by decide +kernel, by decide +kernel, by decide +kernel⟩
def M_Matcher_beginAt : mm_M := (r_Matcher, c_Matcher_beginAt, 2, false, none)
theorem ok_Matcher_beginAt : mm_okM y_Matcher_beginAt M_Matcher_beginAt 1 := ⟨tw_533, tw_5, by decide +kernel, by decide +kernel, by decide +kernel⟩
def M_Frames_empty : mm_M := (r_Frames, c_Frames_empty, 1, false, none)
theorem ok_Frames_empty : mm_okM y_Frames_empty M_Frames_empty 0 := ⟨tw_537, tw_7, by decide +kernel, by decide +kernel, by decide +kernel⟩
def M_Choices_cutTo : mm_M := (r_Choices, c_Choices_cutTo, 2, false, none)
theorem ok_Choices_cutTo : mm_okM y_Choices_cutTo M_Choices_cutTo 1 := ⟨tw_541, tw_8, by decide +kernel, by decide +kernel, by decide +kernel⟩
def M_Matcher_go : mm_M := (r_Matcher, c_Matcher_go, 3, false, none)
theorem ok_Matcher_go : mm_okM y_Matcher_go M_Matcher_go 2 := ⟨tw_545, tw_5, by decide +kernel, by decide +kernel, by decide +kernel⟩
def M_Matcher_goesOn : mm_M := (r_Matcher, c_Matcher_goesOn, 1, false, some .boolean)
theorem ok_Matcher_goesOn : mm_okM y_Matcher_goesOn M_Matcher_goesOn 0 := ⟨tw_550, tw_5, by decide +kernel, by decide +kernel, by decide +kernel⟩
def M_Frames_hasRoom : mm_M := (r_Frames, c_Frames_hasRoom, 2, false, some .boolean)
theorem ok_Frames_hasRoom : mm_okM y_Frames_hasRoom M_Frames_hasRoom 1 := ⟨tw_554, tw_7, by decide +kernel, by decide +kernel, by decide +kernel⟩
def M_Choices_hasRoom : mm_M := (r_Choices, c_Choices_hasRoom, 2, false, some .boolean)
theorem ok_Choices_hasRoom : mm_okM y_Choices_hasRoom M_Choices_hasRoom 1 := ⟨tw_558, tw_8, by decide +kernel, by decide +kernel, by decide +kernel⟩
def M_Matcher_takeTurn : mm_M := (r_Matcher, c_Matcher_takeTurn, 1, false, none)
theorem ok_Matcher_takeTurn : mm_okM y_Matcher_takeTurn M_Matcher_takeTurn 0 := ⟨tw_562, tw_5, by decide +kernel, by decide +kernel, by decide +kernel⟩
def M_Matcher_enterRow : mm_M := (r_Matcher, c_Matcher_enterRow, 3, false, none)
theorem ok_Matcher_enterRow : mm_okM y_Matcher_enterRow M_Matcher_enterRow 1 := ⟨tw_566, tw_5, by decide +kernel, by decide +kernel, by decide +kernel⟩
def M_Choices_add : mm_M := (r_Choices, c_Choices_add, 7, false, none)
theorem ok_Choices_add : mm_okM y_Choices_add M_Choices_add 5 := ⟨tw_570, tw_8, by decide +kernel, by decide +kernel, by decide +kernel⟩
def M_Matcher_enterItem : mm_M := (r_Matcher, c_Matcher_enterItem, 3, false, none)
theorem ok_Matcher_enterItem : mm_okM y_Matcher_enterItem M_Matcher_enterItem 1 := ⟨tw_574, tw_5, by decide +kernel, by decide +kernel, by decide +kernel⟩
def M_Frames_add : mm_M := (r_Frames, c_Frames_add, 9, false, some .int)
theorem ok_Frames_add : mm_okM y_Frames_add M_Frames_add 6 := ⟨tw_578, tw_7, by decide +kernel, by decide +kernel, by decide +kernel⟩
def M_Matcher_fork : mm_M := (r_Matcher, c_Matcher_fork, 3, false, none)
theorem ok_Matcher_fork : mm_okM y_Matcher_fork M_Matcher_fork 1 := ⟨tw_582, tw_5, by decide +kernel, by decide +kernel, by decide +kernel⟩
def M_Matcher_tryAtom : mm_M := (r_Matcher, c_Matcher_tryAtom, 2, false, none)
theorem ok_Matcher_tryAtom : mm_okM y_Matcher_tryAtom M_Matcher_tryAtom 1 := ⟨tw_586, tw_5, by decide +kernel, by decide +kernel, by decide +kernel⟩
def M_Matcher_ask : mm_M := (r_Matcher, c_Matcher_ask, 2, false, none)
theorem ok_Matcher_ask : mm_okM y_Matcher_ask M_Matcher_ask 1 := ⟨tw_590, tw_5, by decide +kernel, by decide +kernel, by decide +kernel⟩
def M_Matcher_askLetter : mm_M := (r_Matcher, c_Matcher_askLetter, 2, false, none)
theorem ok_Matcher_askLetter : mm_okM y_Matcher_askLetter M_Matcher_askLetter 1 := ⟨tw_594, tw_5, by decide +kernel, by decide +kernel, by decide +kernel⟩
def M_Matcher_askSame : mm_M := (r_Matcher, c_Matcher_askSame, 4, false, none)
theorem ok_Matcher_askSame : mm_okM y_Matcher_askSame M_Matcher_askSame 1 := ⟨tw_598, tw_5, by decide +kernel, by decide +kernel, by decide +kernel⟩
def M_Captures_from : mm_M := (r_Captures, c_Captures_from, 4, false, some .int)
theorem ok_Captures_from : mm_okM y_Captures_from M_Captures_from 2 := ⟨tw_601, tw_15, by decide +kernel, by decide +kernel, by decide +kernel⟩
def M_Captures_to : mm_M := (r_Captures, c_Captures_to, 4, false, some .int)
theorem ok_Captures_to : mm_okM y_Captures_to M_Captures_to 2 := ⟨tw_604, tw_15, by decide +kernel, by decide +kernel, by decide +kernel⟩
def M_Matcher_standsHere : mm_M := (r_Matcher, c_Matcher_standsHere, 4, false, some .boolean)
theorem ok_Matcher_standsHere : mm_okM y_Matcher_standsHere M_Matcher_standsHere 2 := ⟨tw_608, tw_5, by decide +kernel, by decide +kernel, by decide +kernel⟩
def M_Matcher_askCall : mm_M := (r_Matcher, c_Matcher_askCall, 2, false, none)
theorem ok_Matcher_askCall : mm_okM y_Matcher_askCall M_Matcher_askCall 1 := ⟨tw_612, tw_5, by decide +kernel, by decide +kernel, by decide +kernel⟩
def M_Matcher_askBody : mm_M := (r_Matcher, c_Matcher_askBody, 3, false, none)
theorem ok_Matcher_askBody : mm_okM y_Matcher_askBody M_Matcher_askBody 1 := ⟨tw_616, tw_5, by decide +kernel, by decide +kernel, by decide +kernel⟩
def M_Matcher_goAfterAtom : mm_M := (r_Matcher, c_Matcher_goAfterAtom, 3, false, none)
theorem ok_Matcher_goAfterAtom : mm_okM y_Matcher_goAfterAtom M_Matcher_goAfterAtom 1 := ⟨tw_620, tw_5, by decide +kernel, by decide +kernel, by decide +kernel⟩
def M_Matcher_goAfterItem : mm_M := (r_Matcher, c_Matcher_goAfterItem, 2, false, none)
theorem ok_Matcher_goAfterItem : mm_okM y_Matcher_goAfterItem M_Matcher_goAfterItem 1 := ⟨tw_624, tw_5, by decide +kernel, by decide +kernel, by decide +kernel⟩
def M_Matcher_resume : mm_M := (r_Matcher, c_Matcher_resume, 3, false, none)
theorem ok_Matcher_resume : mm_okM y_Matcher_resume M_Matcher_resume 1 := ⟨tw_628, tw_5, by decide +kernel, by decide +kernel, by decide +kernel⟩
def M_Matcher_leaveBody : mm_M := (r_Matcher, c_Matcher_leaveBody, 4, false, none)
theorem ok_Matcher_leaveBody : mm_okM y_Matcher_leaveBody M_Matcher_leaveBody 2 := ⟨tw_632, tw_5, by decide +kernel, by decide +kernel, by decide +kernel⟩
def M_Captures_with : mm_M := (r_Captures, c_Captures_with, 8, false, some .long)
theorem ok_Captures_with : mm_okM y_Captures_with M_Captures_with 4 := ⟨tw_635, tw_15, by decide +kernel, by decide +kernel, by decide +kernel⟩
def M_Matcher_leaveTimesTurn : mm_M := (r_Matcher, c_Matcher_leaveTimesTurn, 4, false, none)
theorem ok_Matcher_leaveTimesTurn : mm_okM y_Matcher_leaveTimesTurn M_Matcher_leaveTimesTurn 2 := ⟨tw_641, tw_5, by decide +kernel, by decide +kernel, by decide +kernel⟩
def M_Matcher_takeChoice : mm_M := (r_Matcher, c_Matcher_takeChoice, 2, false, none)
theorem ok_Matcher_takeChoice : mm_okM y_Matcher_takeChoice M_Matcher_takeChoice 0 := ⟨tw_645, tw_5, by decide +kernel, by decide +kernel, by decide +kernel⟩
def M_Bench_again : mm_M := (r_Bench, c_Bench_again, 2, false, some .int)
theorem ok_Bench_again : mm_okM y_Bench_again M_Bench_again 0 := ⟨tw_649, tw_1, by decide +kernel, by decide +kernel, by decide +kernel⟩
def M_Bench_placeBehindMatch : mm_M := (r_Bench, c_Bench_placeBehindMatch, 1, false, some .int)
theorem ok_Bench_placeBehindMatch : mm_okM y_Bench_placeBehindMatch M_Bench_placeBehindMatch 0 := ⟨tw_653, tw_1, by decide +kernel, by decide +kernel, by decide +kernel⟩
def M_Bench_start : mm_M := (r_Bench, c_Bench_start, 2, false, some .int)
theorem ok_Bench_start : mm_okM y_Bench_start M_Bench_start 1 := ⟨tw_657, tw_1, by decide +kernel, by decide +kernel, by decide +kernel⟩
def M_Bench_end : mm_M := (r_Bench, c_Bench_end, 2, false, some .int)
theorem ok_Bench_end : mm_okM y_Bench_end M_Bench_end 1 := ⟨tw_662, tw_1, by decide +kernel, by decide +kernel, by decide +kernel⟩
def M_Bench_steps : mm_M := (r_Bench, c_Bench_steps, 1, false, some .int)
theorem ok_Bench_steps : mm_okM y_Bench_steps M_Bench_steps 0 := ⟨tw_667, tw_1, by decide +kernel, by decide +kernel, by decide +kernel⟩
def M_Bench_matches : mm_M := (r_Bench, c_Bench_matches, 5, false, some .int)
theorem ok_Bench_matches : mm_okM y_Bench_matches M_Bench_matches 0 := ⟨tw_671, tw_1, by decide +kernel, by decide +kernel, by decide +kernel⟩
def M_Bench_count : mm_M := (r_Bench, c_Bench_count, 2, false, some .int)
theorem ok_Bench_count : mm_okM y_Bench_count M_Bench_count 1 := ⟨tw_675, tw_1, by decide +kernel, by decide +kernel, by decide +kernel⟩
theorem fp_Text_15 : mm_fp M_Text_init 15 0 0 := ⟨_, _, _, rfl, Or.inr ⟨⟨rfl, rfl⟩, tw_36⟩⟩
theorem fp_Text_9 {M : mm_M} : mm_fp M 9 0 1 := ⟨_, _, _, rfl, Or.inl rfl⟩
theorem fp_Matcher_64 {M : mm_M} : mm_fp M 64 0 1 := ⟨_, _, _, rfl, Or.inl rfl⟩
theorem fp_Reader_67 {M : mm_M} : mm_fp M 67 0 1 := ⟨_, _, _, rfl, Or.inl rfl⟩
theorem fp_Bench_76 {M : mm_M} : mm_fp M 76 0 1 := ⟨_, _, _, rfl, Or.inl rfl⟩
theorem fp_Program_9 : mm_fp M_Program_init 9 1 0 := ⟨_, _, _, rfl, Or.inr ⟨⟨rfl, rfl⟩, tw_54⟩⟩
theorem fp_Program_15 : mm_fp M_Program_init 15 1 1 := ⟨_, _, _, rfl, Or.inr ⟨⟨rfl, rfl⟩, tw_56⟩⟩
theorem fp_Program_18 : mm_fp M_Program_init 18 1 2 := ⟨_, _, _, rfl, Or.inr ⟨⟨rfl, rfl⟩, tw_58⟩⟩
theorem fp_Program_21 : mm_fp M_Program_init 21 1 3 := ⟨_, _, _, rfl, Or.inr ⟨⟨rfl, rfl⟩, tw_61⟩⟩
theorem fp_Program_24 : mm_fp M_Program_init 24 1 4 := ⟨_, _, _, rfl, Or.inr ⟨⟨rfl, rfl⟩, tw_64⟩⟩
theorem fp_Program_27 : mm_fp M_Program_init 27 1 5 := ⟨_, _, _, rfl, Or.inr ⟨⟨rfl, rfl⟩, tw_67⟩⟩
theorem fp_Program_30 : mm_fp M_Program_init 30 1 6 := ⟨_, _, _, rfl, Or.inr ⟨⟨rfl, rfl⟩, tw_70⟩⟩
theorem fp_Program_33 : mm_fp M_Program_init 33 1 7 := ⟨_, _, _, rfl, Or.inr ⟨⟨rfl, rfl⟩, tw_73⟩⟩
theorem fp_Program_36 : mm_fp M_Program_init 36 1 8 := ⟨_, _, _, rfl, Or.inr ⟨⟨rfl, rfl⟩, tw_76⟩⟩
theorem fp_Program_39 : mm_fp M_Program_init 39 1 9 := ⟨_, _, _, rfl, Or.inr ⟨⟨rfl, rfl⟩, tw_79⟩⟩
theorem fp_Program_42 {M : mm_M} : mm_fp M 42 1 10 := ⟨_, _, _, rfl, Or.inl rfl⟩
theorem fp_Program_46 {M : mm_M} : mm_fp M 46 1 11 := ⟨_, _, _, rfl, Or.inl rfl⟩
theorem fp_Program_49 {M : mm_M} : mm_fp M 49 1 12 := ⟨_, _, _, rfl, Or.inl rfl⟩
theorem fp_Reader_80 {M : mm_M} : mm_fp M 80 1 12 := ⟨_, _, _, rfl, Or.inl rfl⟩
theorem fp_Bench_89 {M : mm_M} : mm_fp M 89 1 12 := ⟨_, _, _, rfl, Or.inl rfl⟩
theorem fp_Program_52 {M : mm_M} : mm_fp M 52 1 13 := ⟨_, _, _, rfl, Or.inl rfl⟩
theorem fp_Reader_77 {M : mm_M} : mm_fp M 77 1 13 := ⟨_, _, _, rfl, Or.inl rfl⟩
theorem fp_Bench_83 {M : mm_M} : mm_fp M 83 1 13 := ⟨_, _, _, rfl, Or.inl rfl⟩
theorem fp_Reader_14 : mm_fp M_Reader_init 14 2 0 := ⟨_, _, _, rfl, Or.inr ⟨⟨rfl, rfl⟩, tw_119⟩⟩
theorem fp_Reader_23 {M : mm_M} : mm_fp M 23 2 1 := ⟨_, _, _, rfl, Or.inl rfl⟩
theorem fp_Bench_79 {M : mm_M} : mm_fp M 79 2 1 := ⟨_, _, _, rfl, Or.inl rfl⟩
theorem fp_Reader_27 : mm_fp M_Reader_init 27 2 2 := ⟨_, _, _, rfl, Or.inr ⟨⟨rfl, rfl⟩, tw_123⟩⟩
theorem fp_Reader_31 : mm_fp M_Reader_init 31 2 3 := ⟨_, _, _, rfl, Or.inr ⟨⟨rfl, rfl⟩, tw_124⟩⟩
theorem fp_Reader_34 : mm_fp M_Reader_init 34 2 4 := ⟨_, _, _, rfl, Or.inr ⟨⟨rfl, rfl⟩, tw_125⟩⟩
theorem fp_Reader_37 : mm_fp M_Reader_init 37 2 5 := ⟨_, _, _, rfl, Or.inr ⟨⟨rfl, rfl⟩, tw_126⟩⟩
theorem fp_Reader_40 {M : mm_M} : mm_fp M 40 2 6 := ⟨_, _, _, rfl, Or.inl rfl⟩
theorem fp_Reader_44 {M : mm_M} : mm_fp M 44 2 7 := ⟨_, _, _, rfl, Or.inl rfl⟩
theorem fp_Reader_47 {M : mm_M} : mm_fp M 47 2 8 := ⟨_, _, _, rfl, Or.inl rfl⟩
theorem fp_Reader_50 {M : mm_M} : mm_fp M 50 2 9 := ⟨_, _, _, rfl, Or.inl rfl⟩
theorem fp_Reader_53 {M : mm_M} : mm_fp M 53 2 10 := ⟨_, _, _, rfl, Or.inl rfl⟩
theorem fp_Frames_13 : mm_fp M_Frames_init 13 3 0 := ⟨_, _, _, rfl, Or.inr ⟨⟨rfl, rfl⟩, tw_177⟩⟩
theorem fp_Frames_17 : mm_fp M_Frames_init 17 3 1 := ⟨_, _, _, rfl, Or.inr ⟨⟨rfl, rfl⟩, tw_179⟩⟩
theorem fp_Frames_20 : mm_fp M_Frames_init 20 3 2 := ⟨_, _, _, rfl, Or.inr ⟨⟨rfl, rfl⟩, tw_181⟩⟩
theorem fp_Frames_23 : mm_fp M_Frames_init 23 3 3 := ⟨_, _, _, rfl, Or.inr ⟨⟨rfl, rfl⟩, tw_183⟩⟩
theorem fp_Frames_26 : mm_fp M_Frames_init 26 3 4 := ⟨_, _, _, rfl, Or.inr ⟨⟨rfl, rfl⟩, tw_185⟩⟩
theorem fp_Frames_30 : mm_fp M_Frames_init 30 3 5 := ⟨_, _, _, rfl, Or.inr ⟨⟨rfl, rfl⟩, tw_187⟩⟩
theorem fp_Frames_33 : mm_fp M_Frames_init 33 3 6 := ⟨_, _, _, rfl, Or.inr ⟨⟨rfl, rfl⟩, tw_189⟩⟩
theorem fp_Frames_7 {M : mm_M} : mm_fp M 7 3 7 := ⟨_, _, _, rfl, Or.inl rfl⟩
theorem fp_Choices_13 : mm_fp M_Choices_init 13 4 0 := ⟨_, _, _, rfl, Or.inr ⟨⟨rfl, rfl⟩, tw_216⟩⟩
theorem fp_Choices_17 : mm_fp M_Choices_init 17 4 1 := ⟨_, _, _, rfl, Or.inr ⟨⟨rfl, rfl⟩, tw_218⟩⟩
theorem fp_Choices_20 : mm_fp M_Choices_init 20 4 2 := ⟨_, _, _, rfl, Or.inr ⟨⟨rfl, rfl⟩, tw_220⟩⟩
theorem fp_Choices_23 : mm_fp M_Choices_init 23 4 3 := ⟨_, _, _, rfl, Or.inr ⟨⟨rfl, rfl⟩, tw_222⟩⟩
theorem fp_Choices_27 : mm_fp M_Choices_init 27 4 4 := ⟨_, _, _, rfl, Or.inr ⟨⟨rfl, rfl⟩, tw_224⟩⟩
theorem fp_Choices_7 {M : mm_M} : mm_fp M 7 4 5 := ⟨_, _, _, rfl, Or.inl rfl⟩
theorem fp_Matcher_140 {M : mm_M} : mm_fp M 140 4 5 := ⟨_, _, _, rfl, Or.inl rfl⟩
theorem fp_Matcher_14 : mm_fp M_Matcher_init 14 5 0 := ⟨_, _, _, rfl, Or.inr ⟨⟨rfl, rfl⟩, tw_241⟩⟩
theorem fp_Matcher_23 {M : mm_M} : mm_fp M 23 5 1 := ⟨_, _, _, rfl, Or.inl rfl⟩
theorem fp_Bench_88 {M : mm_M} : mm_fp M 88 5 1 := ⟨_, _, _, rfl, Or.inl rfl⟩
theorem fp_Matcher_47 : mm_fp M_Matcher_init 47 5 2 := ⟨_, _, _, rfl, Or.inr ⟨⟨rfl, rfl⟩, tw_245⟩⟩
theorem fp_Matcher_53 : mm_fp M_Matcher_init 53 5 3 := ⟨_, _, _, rfl, Or.inr ⟨⟨rfl, rfl⟩, tw_246⟩⟩
theorem fp_Matcher_60 : mm_fp M_Matcher_init 60 5 4 := ⟨_, _, _, rfl, Or.inr ⟨⟨rfl, rfl⟩, tw_247⟩⟩
theorem fp_Matcher_27 {M : mm_M} : mm_fp M 27 5 5 := ⟨_, _, _, rfl, Or.inl rfl⟩
theorem fp_Matcher_31 {M : mm_M} : mm_fp M 31 5 6 := ⟨_, _, _, rfl, Or.inl rfl⟩
theorem fp_Matcher_34 {M : mm_M} : mm_fp M 34 5 7 := ⟨_, _, _, rfl, Or.inl rfl⟩
theorem fp_Matcher_37 {M : mm_M} : mm_fp M 37 5 8 := ⟨_, _, _, rfl, Or.inl rfl⟩
theorem fp_Bench_117 {M : mm_M} : mm_fp M 117 5 8 := ⟨_, _, _, rfl, Or.inl rfl⟩
theorem fp_Matcher_40 {M : mm_M} : mm_fp M 40 5 9 := ⟨_, _, _, rfl, Or.inl rfl⟩
theorem fp_Bench_120 {M : mm_M} : mm_fp M 120 5 9 := ⟨_, _, _, rfl, Or.inl rfl⟩
theorem fp_Matcher_44 {M : mm_M} : mm_fp M 44 5 10 := ⟨_, _, _, rfl, Or.inl rfl⟩
theorem fp_Bench_123 {M : mm_M} : mm_fp M 123 5 10 := ⟨_, _, _, rfl, Or.inl rfl⟩
theorem fp_Bench_10 : mm_fp M_Bench_init 10 6 0 := ⟨_, _, _, rfl, Or.inr ⟨⟨rfl, rfl⟩, tw_280⟩⟩
theorem fp_Bench_51 : mm_fp M_Bench_init 51 6 1 := ⟨_, _, _, rfl, Or.inr ⟨⟨rfl, rfl⟩, tw_281⟩⟩
theorem fp_Bench_16 {M : mm_M} : mm_fp M 16 6 2 := ⟨_, _, _, rfl, Or.inl rfl⟩
theorem fp_Bench_20 {M : mm_M} : mm_fp M 20 6 3 := ⟨_, _, _, rfl, Or.inl rfl⟩
theorem fp_Bench_23 {M : mm_M} : mm_fp M 23 6 4 := ⟨_, _, _, rfl, Or.inl rfl⟩
theorem fp_Bench_27 {M : mm_M} : mm_fp M 27 6 5 := ⟨_, _, _, rfl, Or.inl rfl⟩
theorem fp_Bench_30 {M : mm_M} : mm_fp M 30 6 6 := ⟨_, _, _, rfl, Or.inl rfl⟩
theorem fp_Bench_34 {M : mm_M} : mm_fp M 34 6 7 := ⟨_, _, _, rfl, Or.inl rfl⟩
theorem ml_Bench_9 : mm_ml r_Bench 9 y_Reader_init := Or.inr ⟨_, tw_26⟩
theorem ml_Reader_11 : mm_ml r_Reader 11 y_Text_init := Or.inl tw_32
theorem ml_Reader_22 : mm_ml r_Reader 22 y_Program_init := Or.inr ⟨_, tw_50⟩
theorem ml_Bench_48 : mm_ml r_Bench 48 y_Matcher_init := Or.inl tw_163
theorem ml_Matcher_11 : mm_ml r_Matcher 11 y_Text_init := Or.inl tw_168
theorem ml_Matcher_22 : mm_ml r_Matcher 22 y_Program_init := Or.inr ⟨_, tw_170⟩
theorem ml_Matcher_52 : mm_ml r_Matcher 52 y_Frames_init := Or.inl tw_173
theorem ml_Matcher_59 : mm_ml r_Matcher 59 y_Choices_init := Or.inl tw_212
theorem ml_Bench_55 : mm_ml r_Bench 55 y_Bench_mayStandInPattern := Or.inl tw_309
theorem ml_Bench_92 : mm_ml r_Bench 92 y_Bench_isLetter := Or.inl tw_312
theorem ml_Bench_126 : mm_ml r_Bench 126 y_Bench_isDigit := Or.inl tw_315
theorem ml_Bench_63 : mm_ml r_Bench 63 y_Text_isFull := Or.inl tw_401
theorem ml_Bench_69 : mm_ml r_Bench 69 y_Text_add := Or.inl tw_405
theorem ml_Text_19 : mm_ml r_Text 19 y_Text_isFull := Or.inl tw_409
theorem ml_Bench_73 : mm_ml r_Bench 73 y_Reader_read := Or.inl tw_415
theorem ml_Reader_57 : mm_ml r_Reader 57 y_Program_empty := Or.inl tw_419
theorem ml_Reader_60 : mm_ml r_Reader 60 y_Reader_openLevel := Or.inl tw_423
theorem ml_Reader_115 : mm_ml r_Reader 115 y_Program_addRow := Or.inl tw_427
theorem ml_Reader_70 : mm_ml r_Reader 70 y_Reader_readPart := Or.inl tw_431
theorem ml_Reader_83 : mm_ml r_Reader 83 y_Reader_ahead := Or.inl tw_435
theorem ml_Reader_112 : mm_ml r_Reader 112 y_Text_codeAt := Or.inl tw_439
theorem ml_Reader_87 : mm_ml r_Reader 87 y_Reader_openNextRow := Or.inl tw_443
theorem ml_Reader_90 : mm_ml r_Reader 90 y_Reader_closeChoice := Or.inl tw_447
theorem ml_Reader_124 : mm_ml r_Reader 124 y_Reader_refuse := Or.inl tw_451
theorem ml_Reader_93 : mm_ml r_Reader 93 y_Bench_isDigit := Or.inr ⟨_, tw_455⟩
theorem ml_Reader_97 : mm_ml r_Reader 97 y_Reader_readCall := Or.inl tw_456
theorem ml_Reader_127 : mm_ml r_Reader 127 y_Reader_appendItem := Or.inl tw_461
theorem ml_Reader_149 : mm_ml r_Reader 149 y_Program_addItem := Or.inl tw_465
theorem ml_Reader_100 : mm_ml r_Reader 100 y_Reader_openChoice := Or.inl tw_469
theorem ml_Reader_121 : mm_ml r_Reader 121 y_Reader_kindOfChoice := Or.inl tw_473
theorem ml_Reader_103 : mm_ml r_Reader 103 y_Reader_readClass := Or.inl tw_477
theorem ml_Reader_139 : mm_ml r_Reader 139 y_Bench_isLetter := Or.inr ⟨_, tw_481⟩
theorem ml_Reader_146 : mm_ml r_Reader 146 y_Reader_readClassPart := Or.inl tw_482
theorem ml_Reader_142 : mm_ml r_Reader 142 y_Reader_lettersBetween := Or.inl tw_486
theorem ml_Reader_106 : mm_ml r_Reader 106 y_Reader_readReference := Or.inl tw_490
theorem ml_Reader_109 : mm_ml r_Reader 109 y_Reader_readSign := Or.inl tw_494
theorem ml_Reader_74 : mm_ml r_Reader 74 y_Reader_readRepeat := Or.inl tw_498
theorem ml_Reader_158 : mm_ml r_Reader 158 y_Reader_setRepeat := Or.inl tw_502
theorem ml_Reader_162 : mm_ml r_Reader 162 y_Reader_readTimes := Or.inl tw_506
theorem ml_Bench_98 : mm_ml r_Bench 98 y_Bench_searchFrom := Or.inl tw_522
theorem ml_Bench_114 : mm_ml r_Bench 114 y_Matcher_find := Or.inl tw_526
theorem ml_Matcher_67 : mm_ml r_Matcher 67 y_Matcher_beginAt := Or.inl tw_530
theorem ml_Matcher_78 : mm_ml r_Matcher 78 y_Frames_empty := Or.inl tw_534
theorem ml_Matcher_81 : mm_ml r_Matcher 81 y_Choices_cutTo := Or.inl tw_538
theorem ml_Matcher_88 : mm_ml r_Matcher 88 y_Matcher_go := Or.inl tw_542
theorem ml_Matcher_71 : mm_ml r_Matcher 71 y_Matcher_goesOn := Or.inl tw_547
theorem ml_Matcher_92 : mm_ml r_Matcher 92 y_Frames_hasRoom := Or.inl tw_551
theorem ml_Matcher_96 : mm_ml r_Matcher 96 y_Choices_hasRoom := Or.inl tw_555
theorem ml_Matcher_75 : mm_ml r_Matcher 75 y_Matcher_takeTurn := Or.inl tw_559
theorem ml_Matcher_97 : mm_ml r_Matcher 97 y_Matcher_enterRow := Or.inl tw_563
theorem ml_Matcher_124 : mm_ml r_Matcher 124 y_Choices_add := Or.inl tw_567
theorem ml_Matcher_100 : mm_ml r_Matcher 100 y_Matcher_enterItem := Or.inl tw_571
theorem ml_Matcher_143 : mm_ml r_Matcher 143 y_Frames_add := Or.inl tw_575
theorem ml_Matcher_146 : mm_ml r_Matcher 146 y_Matcher_fork := Or.inl tw_579
theorem ml_Matcher_103 : mm_ml r_Matcher 103 y_Matcher_tryAtom := Or.inl tw_583
theorem ml_Matcher_106 : mm_ml r_Matcher 106 y_Matcher_ask := Or.inl tw_587
theorem ml_Matcher_166 : mm_ml r_Matcher 166 y_Matcher_askLetter := Or.inl tw_591
theorem ml_Matcher_172 : mm_ml r_Matcher 172 y_Matcher_askSame := Or.inl tw_595
theorem ml_Matcher_184 : mm_ml r_Matcher 184 y_Captures_from := Or.inl tw_599
theorem ml_Matcher_190 : mm_ml r_Matcher 190 y_Captures_to := Or.inl tw_602
theorem ml_Matcher_193 : mm_ml r_Matcher 193 y_Matcher_standsHere := Or.inl tw_605
theorem ml_Matcher_175 : mm_ml r_Matcher 175 y_Matcher_askCall := Or.inl tw_609
theorem ml_Matcher_178 : mm_ml r_Matcher 178 y_Matcher_askBody := Or.inl tw_613
theorem ml_Matcher_109 : mm_ml r_Matcher 109 y_Matcher_goAfterAtom := Or.inl tw_617
theorem ml_Matcher_112 : mm_ml r_Matcher 112 y_Matcher_goAfterItem := Or.inl tw_621
theorem ml_Matcher_115 : mm_ml r_Matcher 115 y_Matcher_resume := Or.inl tw_625
theorem ml_Matcher_210 : mm_ml r_Matcher 210 y_Matcher_leaveBody := Or.inl tw_629
theorem ml_Matcher_221 : mm_ml r_Matcher 221 y_Captures_with := Or.inl tw_633
theorem ml_Matcher_215 : mm_ml r_Matcher 215 y_Matcher_leaveTimesTurn := Or.inl tw_638
theorem ml_Matcher_118 : mm_ml r_Matcher 118 y_Matcher_takeChoice := Or.inl tw_642
theorem ml_Bench_101 : mm_ml r_Bench 101 y_Bench_placeBehindMatch := Or.inl tw_650
theorem ml_Bench_105 : mm_ml r_Bench 105 y_Captures_from := Or.inl tw_658
theorem ml_Bench_111 : mm_ml r_Bench 111 y_Captures_to := Or.inl tw_663
/-- the class's world: p and q are where reader and matcher have their programs -/
def Wd (p q n1 n2 : Nat) (i : mm_i) (l : mm_j) (a : mm_a) (b : mm_b) : mm_H :=
  [.inr (6, [.ref 1, .ref 19, .int (i 2), .int (i 3), .int (i 4), .int (i 5), .long (l 6), .int (i 7)]),
  .inr (2, [.ref 2, .ref p, .ref 15, .ref 16, .ref 17, .ref 18, .int (i 22), .int (i 23), .int (i 24), .int (i 25), .int (i 26)]),
  .inr (0, [.ref 3, .int (i 33)]),
  .inl (.int, (32, .inl (a 3))),
  .inr (1, [.ref 5, .ref 6, .ref 7, .ref 8, .ref 9, .ref 10, .ref 11, .ref 12, .ref 13, .ref 14, .int (i 74), .int (i 75), .int (i 76), .int (i 77)]),
  .inl (.int, (32, .inl (a 5))),
  .inl (.int, (32, .inl (a 6))),
  .inl (.int, (32, .inl (a 7))),
  .inl (.int, (32, .inl (a 8))),
  .inl (.int, (32, .inl (a 9))),
  .inl (.int, (32, .inl (a 10))),
  .inl (.int, (32, .inl (a 11))),
  .inl (.int, (33, .inl (a 12))),
  .inl (.int, (33, .inl (a 13))),
  .inl (.int, (5, .inl (a 14))),
  .inl (.int, (7, .inl (a 15))),
  .inl (.int, (7, .inl (a 16))),
  .inl (.int, (7, .inl (a 17))),
  .inl (.int, (7, .inl (a 18))),
  .inr (5, [.ref 20, .ref q, .int (i 306), .ref 33, .ref 41, .int (i 309), .int (i 310), .int (i 311), .int (i 312), .long (l 313), .int (i 314)]),
  .inr (0, [.ref 21, .int (i 321)]),
  .inl (.int, (40, .inl (a 21))),
  .inr (1, [.ref 23, .ref 24, .ref 25, .ref 26, .ref 27, .ref 28, .ref 29, .ref 30, .ref 31, .ref 32, .int (i 362), .int (i 363), .int (i 364), .int (i 365)]),
  .inl (.int, (32, .inl (a 23))),
  .inl (.int, (32, .inl (a 24))),
  .inl (.int, (32, .inl (a 25))),
  .inl (.int, (32, .inl (a 26))),
  .inl (.int, (32, .inl (a 27))),
  .inl (.int, (32, .inl (a 28))),
  .inl (.int, (32, .inl (a 29))),
  .inl (.int, (33, .inl (a 30))),
  .inl (.int, (33, .inl (a 31))),
  .inl (.int, (5, .inl (a 32))),
  .inr (3, [.ref 34, .ref 35, .ref 36, .ref 37, .ref 38, .ref 39, .ref 40, .int (i 535)]),
  .inl (.int, (n1, .inl (a 34))),
  .inl (.int, (n1, .inl (a 35))),
  .inl (.int, (n1, .inl (a 36))),
  .inl (.int, (n1, .inl (a 37))),
  .inl (.long, (n1, .inr (.inl (b 38)))),
  .inl (.int, (n1, .inl (a 39))),
  .inl (.int, (n1, .inl (a 40))),
  .inr (4, [.ref 42, .ref 43, .ref 44, .ref 45, .ref 46, .int (i 661)]),
  .inl (.int, (n2, .inl (a 42))),
  .inl (.int, (n2, .inl (a 43))),
  .inl (.int, (n2, .inl (a 44))),
  .inl (.long, (n2, .inr (.inl (b 45)))),
  .inl (.int, (n2, .inl (a 46)))]
def mm_PV (n1 n2 : Nat) (t : mm_H) (K : mm_i → mm_j → mm_a → mm_b → Prop) : Option Value → mm_H → Prop := fun v w => ∃ i l a b, v = none ∧ w = Wd 4 22 n1 n2 i l a b ++ t ∧ K i l a b
def mm_PI (n1 n2 : Nat) (t : mm_H) (K : Int32 → mm_i → mm_j → mm_a → mm_b → Prop) : Option Value → mm_H → Prop := fun v w => ∃ r i l a b, v = some (.int r) ∧ w = Wd 4 22 n1 n2 i l a b ++ t ∧ K r i l a b
def mm_PJ (n1 n2 : Nat) (t : mm_H) (K : Int64 → mm_i → mm_j → mm_a → mm_b → Prop) : Option Value → mm_H → Prop := fun v w => ∃ r i l a b, v = some (.long r) ∧ w = Wd 4 22 n1 n2 i l a b ++ t ∧ K r i l a b
theorem wg_0 {p q n1 n2 : Nat} {i : mm_i} {l : mm_j} {a : mm_a} {b : mm_b} {t : mm_H} : (Wd p q n1 n2 i l a b ++ t)[0]? = some (.inr (6, [.ref 1, .ref 19, .int (i 2), .int (i 3), .int (i 4), .int (i 5), .long (l 6), .int (i 7)])) := rfl
theorem ws_2 {p q n1 n2 : Nat} {i : mm_i} {l : mm_j} {a : mm_a} {b : mm_b} {t : mm_H} {v : Int32} : (Wd p q n1 n2 i l a b ++ t).set 0 (.inr (6, List.set [.ref 1, .ref 19, .int (i 2), .int (i 3), .int (i 4), .int (i 5), .long (l 6), .int (i 7)] 2 (.int v))) = Wd p q n1 n2 (upd i 2 v) l a b ++ t := rfl
theorem ws_3 {p q n1 n2 : Nat} {i : mm_i} {l : mm_j} {a : mm_a} {b : mm_b} {t : mm_H} {v : Int32} : (Wd p q n1 n2 i l a b ++ t).set 0 (.inr (6, List.set [.ref 1, .ref 19, .int (i 2), .int (i 3), .int (i 4), .int (i 5), .long (l 6), .int (i 7)] 3 (.int v))) = Wd p q n1 n2 (upd i 3 v) l a b ++ t := rfl
theorem ws_4 {p q n1 n2 : Nat} {i : mm_i} {l : mm_j} {a : mm_a} {b : mm_b} {t : mm_H} {v : Int32} : (Wd p q n1 n2 i l a b ++ t).set 0 (.inr (6, List.set [.ref 1, .ref 19, .int (i 2), .int (i 3), .int (i 4), .int (i 5), .long (l 6), .int (i 7)] 4 (.int v))) = Wd p q n1 n2 (upd i 4 v) l a b ++ t := rfl
theorem ws_5 {p q n1 n2 : Nat} {i : mm_i} {l : mm_j} {a : mm_a} {b : mm_b} {t : mm_H} {v : Int32} : (Wd p q n1 n2 i l a b ++ t).set 0 (.inr (6, List.set [.ref 1, .ref 19, .int (i 2), .int (i 3), .int (i 4), .int (i 5), .long (l 6), .int (i 7)] 5 (.int v))) = Wd p q n1 n2 (upd i 5 v) l a b ++ t := rfl
theorem ws_6 {p q n1 n2 : Nat} {i : mm_i} {l : mm_j} {a : mm_a} {b : mm_b} {t : mm_H} {v : Int64} : (Wd p q n1 n2 i l a b ++ t).set 0 (.inr (6, List.set [.ref 1, .ref 19, .int (i 2), .int (i 3), .int (i 4), .int (i 5), .long (l 6), .int (i 7)] 6 (.long v))) = Wd p q n1 n2 i (vp_updL l 6 v) a b ++ t := rfl
theorem ws_7 {p q n1 n2 : Nat} {i : mm_i} {l : mm_j} {a : mm_a} {b : mm_b} {t : mm_H} {v : Int32} : (Wd p q n1 n2 i l a b ++ t).set 0 (.inr (6, List.set [.ref 1, .ref 19, .int (i 2), .int (i 3), .int (i 4), .int (i 5), .long (l 6), .int (i 7)] 7 (.int v))) = Wd p q n1 n2 (upd i 7 v) l a b ++ t := rfl
theorem wg_1 {p q n1 n2 : Nat} {i : mm_i} {l : mm_j} {a : mm_a} {b : mm_b} {t : mm_H} : (Wd p q n1 n2 i l a b ++ t)[1]? = some (.inr (2, [.ref 2, .ref p, .ref 15, .ref 16, .ref 17, .ref 18, .int (i 22), .int (i 23), .int (i 24), .int (i 25), .int (i 26)])) := rfl
theorem ws_17 {p q n1 n2 : Nat} {i : mm_i} {l : mm_j} {a : mm_a} {b : mm_b} {t : mm_H} {v : Nat} : (Wd p q n1 n2 i l a b ++ t).set 1 (.inr (2, List.set [.ref 2, .ref p, .ref 15, .ref 16, .ref 17, .ref 18, .int (i 22), .int (i 23), .int (i 24), .int (i 25), .int (i 26)] 1 (.ref v))) = Wd v q n1 n2 i l a b ++ t := rfl
theorem ws_22 {p q n1 n2 : Nat} {i : mm_i} {l : mm_j} {a : mm_a} {b : mm_b} {t : mm_H} {v : Int32} : (Wd p q n1 n2 i l a b ++ t).set 1 (.inr (2, List.set [.ref 2, .ref p, .ref 15, .ref 16, .ref 17, .ref 18, .int (i 22), .int (i 23), .int (i 24), .int (i 25), .int (i 26)] 6 (.int v))) = Wd p q n1 n2 (upd i 22 v) l a b ++ t := rfl
theorem ws_23 {p q n1 n2 : Nat} {i : mm_i} {l : mm_j} {a : mm_a} {b : mm_b} {t : mm_H} {v : Int32} : (Wd p q n1 n2 i l a b ++ t).set 1 (.inr (2, List.set [.ref 2, .ref p, .ref 15, .ref 16, .ref 17, .ref 18, .int (i 22), .int (i 23), .int (i 24), .int (i 25), .int (i 26)] 7 (.int v))) = Wd p q n1 n2 (upd i 23 v) l a b ++ t := rfl
theorem ws_24 {p q n1 n2 : Nat} {i : mm_i} {l : mm_j} {a : mm_a} {b : mm_b} {t : mm_H} {v : Int32} : (Wd p q n1 n2 i l a b ++ t).set 1 (.inr (2, List.set [.ref 2, .ref p, .ref 15, .ref 16, .ref 17, .ref 18, .int (i 22), .int (i 23), .int (i 24), .int (i 25), .int (i 26)] 8 (.int v))) = Wd p q n1 n2 (upd i 24 v) l a b ++ t := rfl
theorem ws_25 {p q n1 n2 : Nat} {i : mm_i} {l : mm_j} {a : mm_a} {b : mm_b} {t : mm_H} {v : Int32} : (Wd p q n1 n2 i l a b ++ t).set 1 (.inr (2, List.set [.ref 2, .ref p, .ref 15, .ref 16, .ref 17, .ref 18, .int (i 22), .int (i 23), .int (i 24), .int (i 25), .int (i 26)] 9 (.int v))) = Wd p q n1 n2 (upd i 25 v) l a b ++ t := rfl
theorem ws_26 {p q n1 n2 : Nat} {i : mm_i} {l : mm_j} {a : mm_a} {b : mm_b} {t : mm_H} {v : Int32} : (Wd p q n1 n2 i l a b ++ t).set 1 (.inr (2, List.set [.ref 2, .ref p, .ref 15, .ref 16, .ref 17, .ref 18, .int (i 22), .int (i 23), .int (i 24), .int (i 25), .int (i 26)] 10 (.int v))) = Wd p q n1 n2 (upd i 26 v) l a b ++ t := rfl
theorem wg_2 {p q n1 n2 : Nat} {i : mm_i} {l : mm_j} {a : mm_a} {b : mm_b} {t : mm_H} : (Wd p q n1 n2 i l a b ++ t)[2]? = some (.inr (0, [.ref 3, .int (i 33)])) := rfl
theorem ws_33 {p q n1 n2 : Nat} {i : mm_i} {l : mm_j} {a : mm_a} {b : mm_b} {t : mm_H} {v : Int32} : (Wd p q n1 n2 i l a b ++ t).set 2 (.inr (0, List.set [.ref 3, .int (i 33)] 1 (.int v))) = Wd p q n1 n2 (upd i 33 v) l a b ++ t := rfl
theorem wg_3 {p q n1 n2 : Nat} {i : mm_i} {l : mm_j} {a : mm_a} {b : mm_b} {t : mm_H} : (Wd p q n1 n2 i l a b ++ t)[3]? = some (.inl (.int, (32, .inl (a 3)))) := rfl
theorem wa_3 {p q n1 n2 : Nat} {i : mm_i} {l : mm_j} {a : mm_a} {b : mm_b} {t : mm_H} {f : Nat → Int32} : (Wd p q n1 n2 i l a b ++ t).set 3 (.inl (.int, (32, .inl f))) = Wd p q n1 n2 i l (mm_ua a 3 f) b ++ t := rfl
theorem wg_4 {p q n1 n2 : Nat} {i : mm_i} {l : mm_j} {a : mm_a} {b : mm_b} {t : mm_H} : (Wd p q n1 n2 i l a b ++ t)[4]? = some (.inr (1, [.ref 5, .ref 6, .ref 7, .ref 8, .ref 9, .ref 10, .ref 11, .ref 12, .ref 13, .ref 14, .int (i 74), .int (i 75), .int (i 76), .int (i 77)])) := rfl
theorem ws_74 {p q n1 n2 : Nat} {i : mm_i} {l : mm_j} {a : mm_a} {b : mm_b} {t : mm_H} {v : Int32} : (Wd p q n1 n2 i l a b ++ t).set 4 (.inr (1, List.set [.ref 5, .ref 6, .ref 7, .ref 8, .ref 9, .ref 10, .ref 11, .ref 12, .ref 13, .ref 14, .int (i 74), .int (i 75), .int (i 76), .int (i 77)] 10 (.int v))) = Wd p q n1 n2 (upd i 74 v) l a b ++ t := rfl
theorem ws_75 {p q n1 n2 : Nat} {i : mm_i} {l : mm_j} {a : mm_a} {b : mm_b} {t : mm_H} {v : Int32} : (Wd p q n1 n2 i l a b ++ t).set 4 (.inr (1, List.set [.ref 5, .ref 6, .ref 7, .ref 8, .ref 9, .ref 10, .ref 11, .ref 12, .ref 13, .ref 14, .int (i 74), .int (i 75), .int (i 76), .int (i 77)] 11 (.int v))) = Wd p q n1 n2 (upd i 75 v) l a b ++ t := rfl
theorem ws_76 {p q n1 n2 : Nat} {i : mm_i} {l : mm_j} {a : mm_a} {b : mm_b} {t : mm_H} {v : Int32} : (Wd p q n1 n2 i l a b ++ t).set 4 (.inr (1, List.set [.ref 5, .ref 6, .ref 7, .ref 8, .ref 9, .ref 10, .ref 11, .ref 12, .ref 13, .ref 14, .int (i 74), .int (i 75), .int (i 76), .int (i 77)] 12 (.int v))) = Wd p q n1 n2 (upd i 76 v) l a b ++ t := rfl
theorem ws_77 {p q n1 n2 : Nat} {i : mm_i} {l : mm_j} {a : mm_a} {b : mm_b} {t : mm_H} {v : Int32} : (Wd p q n1 n2 i l a b ++ t).set 4 (.inr (1, List.set [.ref 5, .ref 6, .ref 7, .ref 8, .ref 9, .ref 10, .ref 11, .ref 12, .ref 13, .ref 14, .int (i 74), .int (i 75), .int (i 76), .int (i 77)] 13 (.int v))) = Wd p q n1 n2 (upd i 77 v) l a b ++ t := rfl
theorem wg_5 {p q n1 n2 : Nat} {i : mm_i} {l : mm_j} {a : mm_a} {b : mm_b} {t : mm_H} : (Wd p q n1 n2 i l a b ++ t)[5]? = some (.inl (.int, (32, .inl (a 5)))) := rfl
theorem wa_5 {p q n1 n2 : Nat} {i : mm_i} {l : mm_j} {a : mm_a} {b : mm_b} {t : mm_H} {f : Nat → Int32} : (Wd p q n1 n2 i l a b ++ t).set 5 (.inl (.int, (32, .inl f))) = Wd p q n1 n2 i l (mm_ua a 5 f) b ++ t := rfl
theorem wg_6 {p q n1 n2 : Nat} {i : mm_i} {l : mm_j} {a : mm_a} {b : mm_b} {t : mm_H} : (Wd p q n1 n2 i l a b ++ t)[6]? = some (.inl (.int, (32, .inl (a 6)))) := rfl
theorem wa_6 {p q n1 n2 : Nat} {i : mm_i} {l : mm_j} {a : mm_a} {b : mm_b} {t : mm_H} {f : Nat → Int32} : (Wd p q n1 n2 i l a b ++ t).set 6 (.inl (.int, (32, .inl f))) = Wd p q n1 n2 i l (mm_ua a 6 f) b ++ t := rfl
theorem wg_7 {p q n1 n2 : Nat} {i : mm_i} {l : mm_j} {a : mm_a} {b : mm_b} {t : mm_H} : (Wd p q n1 n2 i l a b ++ t)[7]? = some (.inl (.int, (32, .inl (a 7)))) := rfl
theorem wa_7 {p q n1 n2 : Nat} {i : mm_i} {l : mm_j} {a : mm_a} {b : mm_b} {t : mm_H} {f : Nat → Int32} : (Wd p q n1 n2 i l a b ++ t).set 7 (.inl (.int, (32, .inl f))) = Wd p q n1 n2 i l (mm_ua a 7 f) b ++ t := rfl
theorem wg_8 {p q n1 n2 : Nat} {i : mm_i} {l : mm_j} {a : mm_a} {b : mm_b} {t : mm_H} : (Wd p q n1 n2 i l a b ++ t)[8]? = some (.inl (.int, (32, .inl (a 8)))) := rfl
theorem wa_8 {p q n1 n2 : Nat} {i : mm_i} {l : mm_j} {a : mm_a} {b : mm_b} {t : mm_H} {f : Nat → Int32} : (Wd p q n1 n2 i l a b ++ t).set 8 (.inl (.int, (32, .inl f))) = Wd p q n1 n2 i l (mm_ua a 8 f) b ++ t := rfl
theorem wg_9 {p q n1 n2 : Nat} {i : mm_i} {l : mm_j} {a : mm_a} {b : mm_b} {t : mm_H} : (Wd p q n1 n2 i l a b ++ t)[9]? = some (.inl (.int, (32, .inl (a 9)))) := rfl
theorem wa_9 {p q n1 n2 : Nat} {i : mm_i} {l : mm_j} {a : mm_a} {b : mm_b} {t : mm_H} {f : Nat → Int32} : (Wd p q n1 n2 i l a b ++ t).set 9 (.inl (.int, (32, .inl f))) = Wd p q n1 n2 i l (mm_ua a 9 f) b ++ t := rfl
theorem wg_10 {p q n1 n2 : Nat} {i : mm_i} {l : mm_j} {a : mm_a} {b : mm_b} {t : mm_H} : (Wd p q n1 n2 i l a b ++ t)[10]? = some (.inl (.int, (32, .inl (a 10)))) := rfl
theorem wa_10 {p q n1 n2 : Nat} {i : mm_i} {l : mm_j} {a : mm_a} {b : mm_b} {t : mm_H} {f : Nat → Int32} : (Wd p q n1 n2 i l a b ++ t).set 10 (.inl (.int, (32, .inl f))) = Wd p q n1 n2 i l (mm_ua a 10 f) b ++ t := rfl
theorem wg_11 {p q n1 n2 : Nat} {i : mm_i} {l : mm_j} {a : mm_a} {b : mm_b} {t : mm_H} : (Wd p q n1 n2 i l a b ++ t)[11]? = some (.inl (.int, (32, .inl (a 11)))) := rfl
theorem wa_11 {p q n1 n2 : Nat} {i : mm_i} {l : mm_j} {a : mm_a} {b : mm_b} {t : mm_H} {f : Nat → Int32} : (Wd p q n1 n2 i l a b ++ t).set 11 (.inl (.int, (32, .inl f))) = Wd p q n1 n2 i l (mm_ua a 11 f) b ++ t := rfl
theorem wg_12 {p q n1 n2 : Nat} {i : mm_i} {l : mm_j} {a : mm_a} {b : mm_b} {t : mm_H} : (Wd p q n1 n2 i l a b ++ t)[12]? = some (.inl (.int, (33, .inl (a 12)))) := rfl
theorem wa_12 {p q n1 n2 : Nat} {i : mm_i} {l : mm_j} {a : mm_a} {b : mm_b} {t : mm_H} {f : Nat → Int32} : (Wd p q n1 n2 i l a b ++ t).set 12 (.inl (.int, (33, .inl f))) = Wd p q n1 n2 i l (mm_ua a 12 f) b ++ t := rfl
theorem wg_13 {p q n1 n2 : Nat} {i : mm_i} {l : mm_j} {a : mm_a} {b : mm_b} {t : mm_H} : (Wd p q n1 n2 i l a b ++ t)[13]? = some (.inl (.int, (33, .inl (a 13)))) := rfl
theorem wa_13 {p q n1 n2 : Nat} {i : mm_i} {l : mm_j} {a : mm_a} {b : mm_b} {t : mm_H} {f : Nat → Int32} : (Wd p q n1 n2 i l a b ++ t).set 13 (.inl (.int, (33, .inl f))) = Wd p q n1 n2 i l (mm_ua a 13 f) b ++ t := rfl
theorem wg_14 {p q n1 n2 : Nat} {i : mm_i} {l : mm_j} {a : mm_a} {b : mm_b} {t : mm_H} : (Wd p q n1 n2 i l a b ++ t)[14]? = some (.inl (.int, (5, .inl (a 14)))) := rfl
theorem wa_14 {p q n1 n2 : Nat} {i : mm_i} {l : mm_j} {a : mm_a} {b : mm_b} {t : mm_H} {f : Nat → Int32} : (Wd p q n1 n2 i l a b ++ t).set 14 (.inl (.int, (5, .inl f))) = Wd p q n1 n2 i l (mm_ua a 14 f) b ++ t := rfl
theorem wg_15 {p q n1 n2 : Nat} {i : mm_i} {l : mm_j} {a : mm_a} {b : mm_b} {t : mm_H} : (Wd p q n1 n2 i l a b ++ t)[15]? = some (.inl (.int, (7, .inl (a 15)))) := rfl
theorem wa_15 {p q n1 n2 : Nat} {i : mm_i} {l : mm_j} {a : mm_a} {b : mm_b} {t : mm_H} {f : Nat → Int32} : (Wd p q n1 n2 i l a b ++ t).set 15 (.inl (.int, (7, .inl f))) = Wd p q n1 n2 i l (mm_ua a 15 f) b ++ t := rfl
theorem wg_16 {p q n1 n2 : Nat} {i : mm_i} {l : mm_j} {a : mm_a} {b : mm_b} {t : mm_H} : (Wd p q n1 n2 i l a b ++ t)[16]? = some (.inl (.int, (7, .inl (a 16)))) := rfl
theorem wa_16 {p q n1 n2 : Nat} {i : mm_i} {l : mm_j} {a : mm_a} {b : mm_b} {t : mm_H} {f : Nat → Int32} : (Wd p q n1 n2 i l a b ++ t).set 16 (.inl (.int, (7, .inl f))) = Wd p q n1 n2 i l (mm_ua a 16 f) b ++ t := rfl
theorem wg_17 {p q n1 n2 : Nat} {i : mm_i} {l : mm_j} {a : mm_a} {b : mm_b} {t : mm_H} : (Wd p q n1 n2 i l a b ++ t)[17]? = some (.inl (.int, (7, .inl (a 17)))) := rfl
theorem wa_17 {p q n1 n2 : Nat} {i : mm_i} {l : mm_j} {a : mm_a} {b : mm_b} {t : mm_H} {f : Nat → Int32} : (Wd p q n1 n2 i l a b ++ t).set 17 (.inl (.int, (7, .inl f))) = Wd p q n1 n2 i l (mm_ua a 17 f) b ++ t := rfl
theorem wg_18 {p q n1 n2 : Nat} {i : mm_i} {l : mm_j} {a : mm_a} {b : mm_b} {t : mm_H} : (Wd p q n1 n2 i l a b ++ t)[18]? = some (.inl (.int, (7, .inl (a 18)))) := rfl
theorem wa_18 {p q n1 n2 : Nat} {i : mm_i} {l : mm_j} {a : mm_a} {b : mm_b} {t : mm_H} {f : Nat → Int32} : (Wd p q n1 n2 i l a b ++ t).set 18 (.inl (.int, (7, .inl f))) = Wd p q n1 n2 i l (mm_ua a 18 f) b ++ t := rfl
theorem wg_19 {p q n1 n2 : Nat} {i : mm_i} {l : mm_j} {a : mm_a} {b : mm_b} {t : mm_H} : (Wd p q n1 n2 i l a b ++ t)[19]? = some (.inr (5, [.ref 20, .ref q, .int (i 306), .ref 33, .ref 41, .int (i 309), .int (i 310), .int (i 311), .int (i 312), .long (l 313), .int (i 314)])) := rfl
theorem ws_305 {p q n1 n2 : Nat} {i : mm_i} {l : mm_j} {a : mm_a} {b : mm_b} {t : mm_H} {v : Nat} : (Wd p q n1 n2 i l a b ++ t).set 19 (.inr (5, List.set [.ref 20, .ref q, .int (i 306), .ref 33, .ref 41, .int (i 309), .int (i 310), .int (i 311), .int (i 312), .long (l 313), .int (i 314)] 1 (.ref v))) = Wd p v n1 n2 i l a b ++ t := rfl
theorem ws_306 {p q n1 n2 : Nat} {i : mm_i} {l : mm_j} {a : mm_a} {b : mm_b} {t : mm_H} {v : Int32} : (Wd p q n1 n2 i l a b ++ t).set 19 (.inr (5, List.set [.ref 20, .ref q, .int (i 306), .ref 33, .ref 41, .int (i 309), .int (i 310), .int (i 311), .int (i 312), .long (l 313), .int (i 314)] 2 (.int v))) = Wd p q n1 n2 (upd i 306 v) l a b ++ t := rfl
theorem ws_309 {p q n1 n2 : Nat} {i : mm_i} {l : mm_j} {a : mm_a} {b : mm_b} {t : mm_H} {v : Int32} : (Wd p q n1 n2 i l a b ++ t).set 19 (.inr (5, List.set [.ref 20, .ref q, .int (i 306), .ref 33, .ref 41, .int (i 309), .int (i 310), .int (i 311), .int (i 312), .long (l 313), .int (i 314)] 5 (.int v))) = Wd p q n1 n2 (upd i 309 v) l a b ++ t := rfl
theorem ws_310 {p q n1 n2 : Nat} {i : mm_i} {l : mm_j} {a : mm_a} {b : mm_b} {t : mm_H} {v : Int32} : (Wd p q n1 n2 i l a b ++ t).set 19 (.inr (5, List.set [.ref 20, .ref q, .int (i 306), .ref 33, .ref 41, .int (i 309), .int (i 310), .int (i 311), .int (i 312), .long (l 313), .int (i 314)] 6 (.int v))) = Wd p q n1 n2 (upd i 310 v) l a b ++ t := rfl
theorem ws_311 {p q n1 n2 : Nat} {i : mm_i} {l : mm_j} {a : mm_a} {b : mm_b} {t : mm_H} {v : Int32} : (Wd p q n1 n2 i l a b ++ t).set 19 (.inr (5, List.set [.ref 20, .ref q, .int (i 306), .ref 33, .ref 41, .int (i 309), .int (i 310), .int (i 311), .int (i 312), .long (l 313), .int (i 314)] 7 (.int v))) = Wd p q n1 n2 (upd i 311 v) l a b ++ t := rfl
theorem ws_312 {p q n1 n2 : Nat} {i : mm_i} {l : mm_j} {a : mm_a} {b : mm_b} {t : mm_H} {v : Int32} : (Wd p q n1 n2 i l a b ++ t).set 19 (.inr (5, List.set [.ref 20, .ref q, .int (i 306), .ref 33, .ref 41, .int (i 309), .int (i 310), .int (i 311), .int (i 312), .long (l 313), .int (i 314)] 8 (.int v))) = Wd p q n1 n2 (upd i 312 v) l a b ++ t := rfl
theorem ws_313 {p q n1 n2 : Nat} {i : mm_i} {l : mm_j} {a : mm_a} {b : mm_b} {t : mm_H} {v : Int64} : (Wd p q n1 n2 i l a b ++ t).set 19 (.inr (5, List.set [.ref 20, .ref q, .int (i 306), .ref 33, .ref 41, .int (i 309), .int (i 310), .int (i 311), .int (i 312), .long (l 313), .int (i 314)] 9 (.long v))) = Wd p q n1 n2 i (vp_updL l 313 v) a b ++ t := rfl
theorem ws_314 {p q n1 n2 : Nat} {i : mm_i} {l : mm_j} {a : mm_a} {b : mm_b} {t : mm_H} {v : Int32} : (Wd p q n1 n2 i l a b ++ t).set 19 (.inr (5, List.set [.ref 20, .ref q, .int (i 306), .ref 33, .ref 41, .int (i 309), .int (i 310), .int (i 311), .int (i 312), .long (l 313), .int (i 314)] 10 (.int v))) = Wd p q n1 n2 (upd i 314 v) l a b ++ t := rfl
theorem wg_20 {p q n1 n2 : Nat} {i : mm_i} {l : mm_j} {a : mm_a} {b : mm_b} {t : mm_H} : (Wd p q n1 n2 i l a b ++ t)[20]? = some (.inr (0, [.ref 21, .int (i 321)])) := rfl
theorem ws_321 {p q n1 n2 : Nat} {i : mm_i} {l : mm_j} {a : mm_a} {b : mm_b} {t : mm_H} {v : Int32} : (Wd p q n1 n2 i l a b ++ t).set 20 (.inr (0, List.set [.ref 21, .int (i 321)] 1 (.int v))) = Wd p q n1 n2 (upd i 321 v) l a b ++ t := rfl
theorem wg_21 {p q n1 n2 : Nat} {i : mm_i} {l : mm_j} {a : mm_a} {b : mm_b} {t : mm_H} : (Wd p q n1 n2 i l a b ++ t)[21]? = some (.inl (.int, (40, .inl (a 21)))) := rfl
theorem wa_21 {p q n1 n2 : Nat} {i : mm_i} {l : mm_j} {a : mm_a} {b : mm_b} {t : mm_H} {f : Nat → Int32} : (Wd p q n1 n2 i l a b ++ t).set 21 (.inl (.int, (40, .inl f))) = Wd p q n1 n2 i l (mm_ua a 21 f) b ++ t := rfl
theorem wg_22 {p q n1 n2 : Nat} {i : mm_i} {l : mm_j} {a : mm_a} {b : mm_b} {t : mm_H} : (Wd p q n1 n2 i l a b ++ t)[22]? = some (.inr (1, [.ref 23, .ref 24, .ref 25, .ref 26, .ref 27, .ref 28, .ref 29, .ref 30, .ref 31, .ref 32, .int (i 362), .int (i 363), .int (i 364), .int (i 365)])) := rfl
theorem ws_362 {p q n1 n2 : Nat} {i : mm_i} {l : mm_j} {a : mm_a} {b : mm_b} {t : mm_H} {v : Int32} : (Wd p q n1 n2 i l a b ++ t).set 22 (.inr (1, List.set [.ref 23, .ref 24, .ref 25, .ref 26, .ref 27, .ref 28, .ref 29, .ref 30, .ref 31, .ref 32, .int (i 362), .int (i 363), .int (i 364), .int (i 365)] 10 (.int v))) = Wd p q n1 n2 (upd i 362 v) l a b ++ t := rfl
theorem ws_363 {p q n1 n2 : Nat} {i : mm_i} {l : mm_j} {a : mm_a} {b : mm_b} {t : mm_H} {v : Int32} : (Wd p q n1 n2 i l a b ++ t).set 22 (.inr (1, List.set [.ref 23, .ref 24, .ref 25, .ref 26, .ref 27, .ref 28, .ref 29, .ref 30, .ref 31, .ref 32, .int (i 362), .int (i 363), .int (i 364), .int (i 365)] 11 (.int v))) = Wd p q n1 n2 (upd i 363 v) l a b ++ t := rfl
theorem ws_364 {p q n1 n2 : Nat} {i : mm_i} {l : mm_j} {a : mm_a} {b : mm_b} {t : mm_H} {v : Int32} : (Wd p q n1 n2 i l a b ++ t).set 22 (.inr (1, List.set [.ref 23, .ref 24, .ref 25, .ref 26, .ref 27, .ref 28, .ref 29, .ref 30, .ref 31, .ref 32, .int (i 362), .int (i 363), .int (i 364), .int (i 365)] 12 (.int v))) = Wd p q n1 n2 (upd i 364 v) l a b ++ t := rfl
theorem ws_365 {p q n1 n2 : Nat} {i : mm_i} {l : mm_j} {a : mm_a} {b : mm_b} {t : mm_H} {v : Int32} : (Wd p q n1 n2 i l a b ++ t).set 22 (.inr (1, List.set [.ref 23, .ref 24, .ref 25, .ref 26, .ref 27, .ref 28, .ref 29, .ref 30, .ref 31, .ref 32, .int (i 362), .int (i 363), .int (i 364), .int (i 365)] 13 (.int v))) = Wd p q n1 n2 (upd i 365 v) l a b ++ t := rfl
theorem wg_23 {p q n1 n2 : Nat} {i : mm_i} {l : mm_j} {a : mm_a} {b : mm_b} {t : mm_H} : (Wd p q n1 n2 i l a b ++ t)[23]? = some (.inl (.int, (32, .inl (a 23)))) := rfl
theorem wa_23 {p q n1 n2 : Nat} {i : mm_i} {l : mm_j} {a : mm_a} {b : mm_b} {t : mm_H} {f : Nat → Int32} : (Wd p q n1 n2 i l a b ++ t).set 23 (.inl (.int, (32, .inl f))) = Wd p q n1 n2 i l (mm_ua a 23 f) b ++ t := rfl
theorem wg_24 {p q n1 n2 : Nat} {i : mm_i} {l : mm_j} {a : mm_a} {b : mm_b} {t : mm_H} : (Wd p q n1 n2 i l a b ++ t)[24]? = some (.inl (.int, (32, .inl (a 24)))) := rfl
theorem wa_24 {p q n1 n2 : Nat} {i : mm_i} {l : mm_j} {a : mm_a} {b : mm_b} {t : mm_H} {f : Nat → Int32} : (Wd p q n1 n2 i l a b ++ t).set 24 (.inl (.int, (32, .inl f))) = Wd p q n1 n2 i l (mm_ua a 24 f) b ++ t := rfl
theorem wg_25 {p q n1 n2 : Nat} {i : mm_i} {l : mm_j} {a : mm_a} {b : mm_b} {t : mm_H} : (Wd p q n1 n2 i l a b ++ t)[25]? = some (.inl (.int, (32, .inl (a 25)))) := rfl
theorem wa_25 {p q n1 n2 : Nat} {i : mm_i} {l : mm_j} {a : mm_a} {b : mm_b} {t : mm_H} {f : Nat → Int32} : (Wd p q n1 n2 i l a b ++ t).set 25 (.inl (.int, (32, .inl f))) = Wd p q n1 n2 i l (mm_ua a 25 f) b ++ t := rfl
theorem wg_26 {p q n1 n2 : Nat} {i : mm_i} {l : mm_j} {a : mm_a} {b : mm_b} {t : mm_H} : (Wd p q n1 n2 i l a b ++ t)[26]? = some (.inl (.int, (32, .inl (a 26)))) := rfl
theorem wa_26 {p q n1 n2 : Nat} {i : mm_i} {l : mm_j} {a : mm_a} {b : mm_b} {t : mm_H} {f : Nat → Int32} : (Wd p q n1 n2 i l a b ++ t).set 26 (.inl (.int, (32, .inl f))) = Wd p q n1 n2 i l (mm_ua a 26 f) b ++ t := rfl
theorem wg_27 {p q n1 n2 : Nat} {i : mm_i} {l : mm_j} {a : mm_a} {b : mm_b} {t : mm_H} : (Wd p q n1 n2 i l a b ++ t)[27]? = some (.inl (.int, (32, .inl (a 27)))) := rfl
theorem wa_27 {p q n1 n2 : Nat} {i : mm_i} {l : mm_j} {a : mm_a} {b : mm_b} {t : mm_H} {f : Nat → Int32} : (Wd p q n1 n2 i l a b ++ t).set 27 (.inl (.int, (32, .inl f))) = Wd p q n1 n2 i l (mm_ua a 27 f) b ++ t := rfl
theorem wg_28 {p q n1 n2 : Nat} {i : mm_i} {l : mm_j} {a : mm_a} {b : mm_b} {t : mm_H} : (Wd p q n1 n2 i l a b ++ t)[28]? = some (.inl (.int, (32, .inl (a 28)))) := rfl
theorem wa_28 {p q n1 n2 : Nat} {i : mm_i} {l : mm_j} {a : mm_a} {b : mm_b} {t : mm_H} {f : Nat → Int32} : (Wd p q n1 n2 i l a b ++ t).set 28 (.inl (.int, (32, .inl f))) = Wd p q n1 n2 i l (mm_ua a 28 f) b ++ t := rfl
theorem wg_29 {p q n1 n2 : Nat} {i : mm_i} {l : mm_j} {a : mm_a} {b : mm_b} {t : mm_H} : (Wd p q n1 n2 i l a b ++ t)[29]? = some (.inl (.int, (32, .inl (a 29)))) := rfl
theorem wa_29 {p q n1 n2 : Nat} {i : mm_i} {l : mm_j} {a : mm_a} {b : mm_b} {t : mm_H} {f : Nat → Int32} : (Wd p q n1 n2 i l a b ++ t).set 29 (.inl (.int, (32, .inl f))) = Wd p q n1 n2 i l (mm_ua a 29 f) b ++ t := rfl
theorem wg_30 {p q n1 n2 : Nat} {i : mm_i} {l : mm_j} {a : mm_a} {b : mm_b} {t : mm_H} : (Wd p q n1 n2 i l a b ++ t)[30]? = some (.inl (.int, (33, .inl (a 30)))) := rfl
theorem wa_30 {p q n1 n2 : Nat} {i : mm_i} {l : mm_j} {a : mm_a} {b : mm_b} {t : mm_H} {f : Nat → Int32} : (Wd p q n1 n2 i l a b ++ t).set 30 (.inl (.int, (33, .inl f))) = Wd p q n1 n2 i l (mm_ua a 30 f) b ++ t := rfl
theorem wg_31 {p q n1 n2 : Nat} {i : mm_i} {l : mm_j} {a : mm_a} {b : mm_b} {t : mm_H} : (Wd p q n1 n2 i l a b ++ t)[31]? = some (.inl (.int, (33, .inl (a 31)))) := rfl
theorem wa_31 {p q n1 n2 : Nat} {i : mm_i} {l : mm_j} {a : mm_a} {b : mm_b} {t : mm_H} {f : Nat → Int32} : (Wd p q n1 n2 i l a b ++ t).set 31 (.inl (.int, (33, .inl f))) = Wd p q n1 n2 i l (mm_ua a 31 f) b ++ t := rfl
theorem wg_32 {p q n1 n2 : Nat} {i : mm_i} {l : mm_j} {a : mm_a} {b : mm_b} {t : mm_H} : (Wd p q n1 n2 i l a b ++ t)[32]? = some (.inl (.int, (5, .inl (a 32)))) := rfl
theorem wa_32 {p q n1 n2 : Nat} {i : mm_i} {l : mm_j} {a : mm_a} {b : mm_b} {t : mm_H} {f : Nat → Int32} : (Wd p q n1 n2 i l a b ++ t).set 32 (.inl (.int, (5, .inl f))) = Wd p q n1 n2 i l (mm_ua a 32 f) b ++ t := rfl
theorem wg_33 {p q n1 n2 : Nat} {i : mm_i} {l : mm_j} {a : mm_a} {b : mm_b} {t : mm_H} : (Wd p q n1 n2 i l a b ++ t)[33]? = some (.inr (3, [.ref 34, .ref 35, .ref 36, .ref 37, .ref 38, .ref 39, .ref 40, .int (i 535)])) := rfl
theorem ws_535 {p q n1 n2 : Nat} {i : mm_i} {l : mm_j} {a : mm_a} {b : mm_b} {t : mm_H} {v : Int32} : (Wd p q n1 n2 i l a b ++ t).set 33 (.inr (3, List.set [.ref 34, .ref 35, .ref 36, .ref 37, .ref 38, .ref 39, .ref 40, .int (i 535)] 7 (.int v))) = Wd p q n1 n2 (upd i 535 v) l a b ++ t := rfl
theorem wg_34 {p q n1 n2 : Nat} {i : mm_i} {l : mm_j} {a : mm_a} {b : mm_b} {t : mm_H} : (Wd p q n1 n2 i l a b ++ t)[34]? = some (.inl (.int, (n1, .inl (a 34)))) := rfl
theorem wa_34 {p q n1 n2 : Nat} {i : mm_i} {l : mm_j} {a : mm_a} {b : mm_b} {t : mm_H} {f : Nat → Int32} : (Wd p q n1 n2 i l a b ++ t).set 34 (.inl (.int, (n1, .inl f))) = Wd p q n1 n2 i l (mm_ua a 34 f) b ++ t := rfl
theorem wg_35 {p q n1 n2 : Nat} {i : mm_i} {l : mm_j} {a : mm_a} {b : mm_b} {t : mm_H} : (Wd p q n1 n2 i l a b ++ t)[35]? = some (.inl (.int, (n1, .inl (a 35)))) := rfl
theorem wa_35 {p q n1 n2 : Nat} {i : mm_i} {l : mm_j} {a : mm_a} {b : mm_b} {t : mm_H} {f : Nat → Int32} : (Wd p q n1 n2 i l a b ++ t).set 35 (.inl (.int, (n1, .inl f))) = Wd p q n1 n2 i l (mm_ua a 35 f) b ++ t := rfl
theorem wg_36 {p q n1 n2 : Nat} {i : mm_i} {l : mm_j} {a : mm_a} {b : mm_b} {t : mm_H} : (Wd p q n1 n2 i l a b ++ t)[36]? = some (.inl (.int, (n1, .inl (a 36)))) := rfl
theorem wa_36 {p q n1 n2 : Nat} {i : mm_i} {l : mm_j} {a : mm_a} {b : mm_b} {t : mm_H} {f : Nat → Int32} : (Wd p q n1 n2 i l a b ++ t).set 36 (.inl (.int, (n1, .inl f))) = Wd p q n1 n2 i l (mm_ua a 36 f) b ++ t := rfl
theorem wg_37 {p q n1 n2 : Nat} {i : mm_i} {l : mm_j} {a : mm_a} {b : mm_b} {t : mm_H} : (Wd p q n1 n2 i l a b ++ t)[37]? = some (.inl (.int, (n1, .inl (a 37)))) := rfl
theorem wa_37 {p q n1 n2 : Nat} {i : mm_i} {l : mm_j} {a : mm_a} {b : mm_b} {t : mm_H} {f : Nat → Int32} : (Wd p q n1 n2 i l a b ++ t).set 37 (.inl (.int, (n1, .inl f))) = Wd p q n1 n2 i l (mm_ua a 37 f) b ++ t := rfl
theorem wg_38 {p q n1 n2 : Nat} {i : mm_i} {l : mm_j} {a : mm_a} {b : mm_b} {t : mm_H} : (Wd p q n1 n2 i l a b ++ t)[38]? = some (.inl (.long, (n1, .inr (.inl (b 38))))) := rfl
theorem wa_38 {p q n1 n2 : Nat} {i : mm_i} {l : mm_j} {a : mm_a} {b : mm_b} {t : mm_H} {f : Nat → Int64} : (Wd p q n1 n2 i l a b ++ t).set 38 (.inl (.long, (n1, .inr (.inl f)))) = Wd p q n1 n2 i l a (mm_ub b 38 f) ++ t := rfl
theorem wg_39 {p q n1 n2 : Nat} {i : mm_i} {l : mm_j} {a : mm_a} {b : mm_b} {t : mm_H} : (Wd p q n1 n2 i l a b ++ t)[39]? = some (.inl (.int, (n1, .inl (a 39)))) := rfl
theorem wa_39 {p q n1 n2 : Nat} {i : mm_i} {l : mm_j} {a : mm_a} {b : mm_b} {t : mm_H} {f : Nat → Int32} : (Wd p q n1 n2 i l a b ++ t).set 39 (.inl (.int, (n1, .inl f))) = Wd p q n1 n2 i l (mm_ua a 39 f) b ++ t := rfl
theorem wg_40 {p q n1 n2 : Nat} {i : mm_i} {l : mm_j} {a : mm_a} {b : mm_b} {t : mm_H} : (Wd p q n1 n2 i l a b ++ t)[40]? = some (.inl (.int, (n1, .inl (a 40)))) := rfl
theorem wa_40 {p q n1 n2 : Nat} {i : mm_i} {l : mm_j} {a : mm_a} {b : mm_b} {t : mm_H} {f : Nat → Int32} : (Wd p q n1 n2 i l a b ++ t).set 40 (.inl (.int, (n1, .inl f))) = Wd p q n1 n2 i l (mm_ua a 40 f) b ++ t := rfl
theorem wg_41 {p q n1 n2 : Nat} {i : mm_i} {l : mm_j} {a : mm_a} {b : mm_b} {t : mm_H} : (Wd p q n1 n2 i l a b ++ t)[41]? = some (.inr (4, [.ref 42, .ref 43, .ref 44, .ref 45, .ref 46, .int (i 661)])) := rfl
theorem ws_661 {p q n1 n2 : Nat} {i : mm_i} {l : mm_j} {a : mm_a} {b : mm_b} {t : mm_H} {v : Int32} : (Wd p q n1 n2 i l a b ++ t).set 41 (.inr (4, List.set [.ref 42, .ref 43, .ref 44, .ref 45, .ref 46, .int (i 661)] 5 (.int v))) = Wd p q n1 n2 (upd i 661 v) l a b ++ t := rfl
theorem wg_42 {p q n1 n2 : Nat} {i : mm_i} {l : mm_j} {a : mm_a} {b : mm_b} {t : mm_H} : (Wd p q n1 n2 i l a b ++ t)[42]? = some (.inl (.int, (n2, .inl (a 42)))) := rfl
theorem wa_42 {p q n1 n2 : Nat} {i : mm_i} {l : mm_j} {a : mm_a} {b : mm_b} {t : mm_H} {f : Nat → Int32} : (Wd p q n1 n2 i l a b ++ t).set 42 (.inl (.int, (n2, .inl f))) = Wd p q n1 n2 i l (mm_ua a 42 f) b ++ t := rfl
theorem wg_43 {p q n1 n2 : Nat} {i : mm_i} {l : mm_j} {a : mm_a} {b : mm_b} {t : mm_H} : (Wd p q n1 n2 i l a b ++ t)[43]? = some (.inl (.int, (n2, .inl (a 43)))) := rfl
theorem wa_43 {p q n1 n2 : Nat} {i : mm_i} {l : mm_j} {a : mm_a} {b : mm_b} {t : mm_H} {f : Nat → Int32} : (Wd p q n1 n2 i l a b ++ t).set 43 (.inl (.int, (n2, .inl f))) = Wd p q n1 n2 i l (mm_ua a 43 f) b ++ t := rfl
theorem wg_44 {p q n1 n2 : Nat} {i : mm_i} {l : mm_j} {a : mm_a} {b : mm_b} {t : mm_H} : (Wd p q n1 n2 i l a b ++ t)[44]? = some (.inl (.int, (n2, .inl (a 44)))) := rfl
theorem wa_44 {p q n1 n2 : Nat} {i : mm_i} {l : mm_j} {a : mm_a} {b : mm_b} {t : mm_H} {f : Nat → Int32} : (Wd p q n1 n2 i l a b ++ t).set 44 (.inl (.int, (n2, .inl f))) = Wd p q n1 n2 i l (mm_ua a 44 f) b ++ t := rfl
theorem wg_45 {p q n1 n2 : Nat} {i : mm_i} {l : mm_j} {a : mm_a} {b : mm_b} {t : mm_H} : (Wd p q n1 n2 i l a b ++ t)[45]? = some (.inl (.long, (n2, .inr (.inl (b 45))))) := rfl
theorem wa_45 {p q n1 n2 : Nat} {i : mm_i} {l : mm_j} {a : mm_a} {b : mm_b} {t : mm_H} {f : Nat → Int64} : (Wd p q n1 n2 i l a b ++ t).set 45 (.inl (.long, (n2, .inr (.inl f)))) = Wd p q n1 n2 i l a (mm_ub b 45 f) ++ t := rfl
theorem wg_46 {p q n1 n2 : Nat} {i : mm_i} {l : mm_j} {a : mm_a} {b : mm_b} {t : mm_H} : (Wd p q n1 n2 i l a b ++ t)[46]? = some (.inl (.int, (n2, .inl (a 46)))) := rfl
theorem wa_46 {p q n1 n2 : Nat} {i : mm_i} {l : mm_j} {a : mm_a} {b : mm_b} {t : mm_H} {f : Nat → Int32} : (Wd p q n1 n2 i l a b ++ t).set 46 (.inl (.int, (n2, .inl f))) = Wd p q n1 n2 i l (mm_ua a 46 f) b ++ t := rfl
end
section
theorem d_Bench_init_0 : decode c_Bench_init 0 = .ok (.aload_n 0, 1) := by decide +kernel
theorem d_Bench_init_1 : decode c_Bench_init 1 = .ok (.invokespecial 1, 3) := by decide +kernel
theorem d_Bench_init_4 : decode c_Bench_init 4 = .ok (.aload_n 0, 1) := by decide +kernel
theorem d_Bench_init_5 : decode c_Bench_init 5 = .ok (.new 7, 3) := by decide +kernel
theorem d_Bench_init_8 : decode c_Bench_init 8 = .ok (.dup, 1) := by decide +kernel
theorem d_Bench_init_9 : decode c_Bench_init 9 = .ok (.invokespecial 9, 3) := by decide +kernel
theorem d_Bench_init_12 : decode c_Bench_init 12 = .ok (.putfield 10, 3) := by decide +kernel
theorem d_Bench_init_15 : decode c_Bench_init 15 = .ok (.aload_n 0, 1) := by decide +kernel
theorem d_Bench_init_16 : decode c_Bench_init 16 = .ok (.iconst 0, 1) := by decide +kernel
theorem d_Bench_init_17 : decode c_Bench_init 17 = .ok (.putfield 16, 3) := by decide +kernel
theorem d_Bench_init_20 : decode c_Bench_init 20 = .ok (.aload_n 0, 1) := by decide +kernel
theorem d_Bench_init_21 : decode c_Bench_init 21 = .ok (.iconst 0, 1) := by decide +kernel
theorem d_Bench_init_22 : decode c_Bench_init 22 = .ok (.putfield 20, 3) := by decide +kernel
theorem d_Bench_init_25 : decode c_Bench_init 25 = .ok (.aload_n 0, 1) := by decide +kernel
theorem d_Bench_init_26 : decode c_Bench_init 26 = .ok (.iconst 0, 1) := by decide +kernel
theorem d_Bench_init_27 : decode c_Bench_init 27 = .ok (.putfield 23, 3) := by decide +kernel
theorem d_Bench_init_30 : decode c_Bench_init 30 = .ok (.aload_n 0, 1) := by decide +kernel
theorem d_Bench_init_31 : decode c_Bench_init 31 = .ok (.iconst 0, 1) := by decide +kernel
theorem d_Bench_init_32 : decode c_Bench_init 32 = .ok (.putfield 27, 3) := by decide +kernel
theorem d_Bench_init_35 : decode c_Bench_init 35 = .ok (.aload_n 0, 1) := by decide +kernel
theorem d_Bench_init_36 : decode c_Bench_init 36 = .ok (.lconst 0, 1) := by decide +kernel
theorem d_Bench_init_37 : decode c_Bench_init 37 = .ok (.putfield 30, 3) := by decide +kernel
theorem d_Bench_init_40 : decode c_Bench_init 40 = .ok (.aload_n 0, 1) := by decide +kernel
theorem d_Bench_init_41 : decode c_Bench_init 41 = .ok (.iconst 0, 1) := by decide +kernel
theorem d_Bench_init_42 : decode c_Bench_init 42 = .ok (.putfield 34, 3) := by decide +kernel
theorem d_Bench_init_45 : decode c_Bench_init 45 = .ok (.aload_n 0, 1) := by decide +kernel
theorem d_Bench_init_46 : decode c_Bench_init 46 = .ok (.new 37, 3) := by decide +kernel
theorem d_Bench_init_49 : decode c_Bench_init 49 = .ok (.dup, 1) := by decide +kernel
theorem d_Bench_init_50 : decode c_Bench_init 50 = .ok (.bipush 20, 2) := by decide +kernel
theorem d_Bench_init_52 : decode c_Bench_init 52 = .ok (.sipush 300, 3) := by decide +kernel
theorem d_Bench_init_55 : decode c_Bench_init 55 = .ok (.iload_n 1, 1) := by decide +kernel
theorem d_Bench_init_56 : decode c_Bench_init 56 = .ok (.invokestatic 39, 3) := by decide +kernel
theorem d_Bench_init_59 : decode c_Bench_init 59 = .ok (.invokestatic 45, 3) := by decide +kernel
theorem d_Bench_init_62 : decode c_Bench_init 62 = .ok (.invokespecial 48, 3) := by decide +kernel
theorem d_Bench_init_65 : decode c_Bench_init 65 = .ok (.putfield 51, 3) := by decide +kernel
theorem d_Bench_init_68 : decode c_Bench_init 68 = .ok (.return_, 1) := by decide +kernel
theorem d_Bench_write_0 : decode c_Bench_write 0 = .ok (.iload_n 1, 1) := by decide +kernel
theorem d_Bench_write_1 : decode c_Bench_write 1 = .ok (.invokestatic 55, 3) := by decide +kernel
theorem d_Bench_write_4 : decode c_Bench_write 4 = .ok (.ifCond .ne 5, 3) := by decide +kernel
theorem d_Bench_write_7 : decode c_Bench_write 7 = .ok (.iconst (-1), 1) := by decide +kernel
theorem d_Bench_write_8 : decode c_Bench_write 8 = .ok (.ireturn, 1) := by decide +kernel
theorem d_Bench_write_9 : decode c_Bench_write 9 = .ok (.aload_n 0, 1) := by decide +kernel
theorem d_Bench_write_10 : decode c_Bench_write 10 = .ok (.getfield 10, 3) := by decide +kernel
theorem d_Bench_write_13 : decode c_Bench_write 13 = .ok (.getfield 59, 3) := by decide +kernel
theorem d_Bench_write_16 : decode c_Bench_write 16 = .ok (.invokevirtual 63, 3) := by decide +kernel
theorem d_Bench_write_19 : decode c_Bench_write 19 = .ok (.ifCond .eq 8, 3) := by decide +kernel
theorem d_Bench_write_22 : decode c_Bench_write 22 = .ok (.bipush (-2), 2) := by decide +kernel
theorem d_Bench_write_24 : decode c_Bench_write 24 = .ok (.goto 14, 3) := by decide +kernel
theorem d_Bench_write_27 : decode c_Bench_write 27 = .ok (.aload_n 0, 1) := by decide +kernel
theorem d_Bench_write_28 : decode c_Bench_write 28 = .ok (.getfield 10, 3) := by decide +kernel
theorem d_Bench_write_31 : decode c_Bench_write 31 = .ok (.getfield 59, 3) := by decide +kernel
theorem d_Bench_write_34 : decode c_Bench_write 34 = .ok (.iload_n 1, 1) := by decide +kernel
theorem d_Bench_write_35 : decode c_Bench_write 35 = .ok (.invokevirtual 69, 3) := by decide +kernel
theorem d_Bench_write_38 : decode c_Bench_write 38 = .ok (.ireturn, 1) := by decide +kernel
theorem d_Bench_compile_0 : decode c_Bench_compile 0 = .ok (.aload_n 0, 1) := by decide +kernel
theorem d_Bench_compile_1 : decode c_Bench_compile 1 = .ok (.getfield 10, 3) := by decide +kernel
theorem d_Bench_compile_4 : decode c_Bench_compile 4 = .ok (.invokevirtual 73, 3) := by decide +kernel
theorem d_Bench_compile_7 : decode c_Bench_compile 7 = .ok (.istore_n 1, 1) := by decide +kernel
theorem d_Bench_compile_8 : decode c_Bench_compile 8 = .ok (.aload_n 0, 1) := by decide +kernel
theorem d_Bench_compile_9 : decode c_Bench_compile 9 = .ok (.getfield 10, 3) := by decide +kernel
theorem d_Bench_compile_12 : decode c_Bench_compile 12 = .ok (.getfield 59, 3) := by decide +kernel
theorem d_Bench_compile_15 : decode c_Bench_compile 15 = .ok (.iconst 0, 1) := by decide +kernel
theorem d_Bench_compile_16 : decode c_Bench_compile 16 = .ok (.putfield 76, 3) := by decide +kernel
theorem d_Bench_compile_19 : decode c_Bench_compile 19 = .ok (.iload_n 1, 1) := by decide +kernel
theorem d_Bench_compile_20 : decode c_Bench_compile 20 = .ok (.ifCond .ne 6, 3) := by decide +kernel
theorem d_Bench_compile_23 : decode c_Bench_compile 23 = .ok (.bipush (-3), 2) := by decide +kernel
theorem d_Bench_compile_25 : decode c_Bench_compile 25 = .ok (.ireturn, 1) := by decide +kernel
theorem d_Bench_compile_26 : decode c_Bench_compile 26 = .ok (.aload_n 0, 1) := by decide +kernel
theorem d_Bench_compile_27 : decode c_Bench_compile 27 = .ok (.getfield 10, 3) := by decide +kernel
theorem d_Bench_compile_30 : decode c_Bench_compile 30 = .ok (.getfield 79, 3) := by decide +kernel
theorem d_Bench_compile_33 : decode c_Bench_compile 33 = .ok (.getfield 83, 3) := by decide +kernel
theorem d_Bench_compile_36 : decode c_Bench_compile 36 = .ok (.bipush 60, 2) := by decide +kernel
theorem d_Bench_compile_38 : decode c_Bench_compile 38 = .ok (.if_icmp .le 6, 3) := by decide +kernel
theorem d_Bench_compile_41 : decode c_Bench_compile 41 = .ok (.bipush (-2), 2) := by decide +kernel
theorem d_Bench_compile_43 : decode c_Bench_compile 43 = .ok (.ireturn, 1) := by decide +kernel
theorem d_Bench_compile_44 : decode c_Bench_compile 44 = .ok (.aload_n 0, 1) := by decide +kernel
theorem d_Bench_compile_45 : decode c_Bench_compile 45 = .ok (.getfield 10, 3) := by decide +kernel
theorem d_Bench_compile_48 : decode c_Bench_compile 48 = .ok (.getfield 79, 3) := by decide +kernel
theorem d_Bench_compile_51 : decode c_Bench_compile 51 = .ok (.astore_n 2, 1) := by decide +kernel
theorem d_Bench_compile_52 : decode c_Bench_compile 52 = .ok (.aload_n 0, 1) := by decide +kernel
theorem d_Bench_compile_53 : decode c_Bench_compile 53 = .ok (.getfield 10, 3) := by decide +kernel
theorem d_Bench_compile_56 : decode c_Bench_compile 56 = .ok (.aload_n 0, 1) := by decide +kernel
theorem d_Bench_compile_57 : decode c_Bench_compile 57 = .ok (.getfield 51, 3) := by decide +kernel
theorem d_Bench_compile_60 : decode c_Bench_compile 60 = .ok (.getfield 88, 3) := by decide +kernel
theorem d_Bench_compile_63 : decode c_Bench_compile 63 = .ok (.putfield 79, 3) := by decide +kernel
theorem d_Bench_compile_66 : decode c_Bench_compile 66 = .ok (.aload_n 0, 1) := by decide +kernel
theorem d_Bench_compile_67 : decode c_Bench_compile 67 = .ok (.getfield 51, 3) := by decide +kernel
theorem d_Bench_compile_70 : decode c_Bench_compile 70 = .ok (.aload_n 2, 1) := by decide +kernel
theorem d_Bench_compile_71 : decode c_Bench_compile 71 = .ok (.putfield 88, 3) := by decide +kernel
theorem d_Bench_compile_74 : decode c_Bench_compile 74 = .ok (.aload_n 0, 1) := by decide +kernel
theorem d_Bench_compile_75 : decode c_Bench_compile 75 = .ok (.iconst 1, 1) := by decide +kernel
theorem d_Bench_compile_76 : decode c_Bench_compile 76 = .ok (.putfield 16, 3) := by decide +kernel
theorem d_Bench_compile_79 : decode c_Bench_compile 79 = .ok (.aload_n 0, 1) := by decide +kernel
theorem d_Bench_compile_80 : decode c_Bench_compile 80 = .ok (.iconst 0, 1) := by decide +kernel
theorem d_Bench_compile_81 : decode c_Bench_compile 81 = .ok (.putfield 20, 3) := by decide +kernel
theorem d_Bench_compile_84 : decode c_Bench_compile 84 = .ok (.aload_n 2, 1) := by decide +kernel
theorem d_Bench_compile_85 : decode c_Bench_compile 85 = .ok (.getfield 89, 3) := by decide +kernel
theorem d_Bench_compile_88 : decode c_Bench_compile 88 = .ok (.ireturn, 1) := by decide +kernel
theorem d_Bench_feed_0 : decode c_Bench_feed 0 = .ok (.iload_n 1, 1) := by decide +kernel
theorem d_Bench_feed_1 : decode c_Bench_feed 1 = .ok (.invokestatic 92, 3) := by decide +kernel
theorem d_Bench_feed_4 : decode c_Bench_feed 4 = .ok (.ifCond .ne 5, 3) := by decide +kernel
theorem d_Bench_feed_7 : decode c_Bench_feed 7 = .ok (.iconst (-1), 1) := by decide +kernel
theorem d_Bench_feed_8 : decode c_Bench_feed 8 = .ok (.ireturn, 1) := by decide +kernel
theorem d_Bench_feed_9 : decode c_Bench_feed 9 = .ok (.aload_n 0, 1) := by decide +kernel
theorem d_Bench_feed_10 : decode c_Bench_feed 10 = .ok (.getfield 51, 3) := by decide +kernel
theorem d_Bench_feed_13 : decode c_Bench_feed 13 = .ok (.getfield 95, 3) := by decide +kernel
theorem d_Bench_feed_16 : decode c_Bench_feed 16 = .ok (.invokevirtual 63, 3) := by decide +kernel
theorem d_Bench_feed_19 : decode c_Bench_feed 19 = .ok (.ifCond .eq 6, 3) := by decide +kernel
theorem d_Bench_feed_22 : decode c_Bench_feed 22 = .ok (.bipush (-2), 2) := by decide +kernel
theorem d_Bench_feed_24 : decode c_Bench_feed 24 = .ok (.ireturn, 1) := by decide +kernel
theorem d_Bench_feed_25 : decode c_Bench_feed 25 = .ok (.aload_n 0, 1) := by decide +kernel
theorem d_Bench_feed_26 : decode c_Bench_feed 26 = .ok (.iconst 0, 1) := by decide +kernel
theorem d_Bench_feed_27 : decode c_Bench_feed 27 = .ok (.putfield 20, 3) := by decide +kernel
theorem d_Bench_feed_30 : decode c_Bench_feed 30 = .ok (.aload_n 0, 1) := by decide +kernel
theorem d_Bench_feed_31 : decode c_Bench_feed 31 = .ok (.getfield 51, 3) := by decide +kernel
theorem d_Bench_feed_34 : decode c_Bench_feed 34 = .ok (.getfield 95, 3) := by decide +kernel
theorem d_Bench_feed_37 : decode c_Bench_feed 37 = .ok (.iload_n 1, 1) := by decide +kernel
theorem d_Bench_feed_38 : decode c_Bench_feed 38 = .ok (.invokevirtual 69, 3) := by decide +kernel
theorem d_Bench_feed_41 : decode c_Bench_feed 41 = .ok (.ireturn, 1) := by decide +kernel
theorem d_Bench_clear_0 : decode c_Bench_clear 0 = .ok (.aload_n 0, 1) := by decide +kernel
theorem d_Bench_clear_1 : decode c_Bench_clear 1 = .ok (.getfield 51, 3) := by decide +kernel
theorem d_Bench_clear_4 : decode c_Bench_clear 4 = .ok (.getfield 95, 3) := by decide +kernel
theorem d_Bench_clear_7 : decode c_Bench_clear 7 = .ok (.getfield 76, 3) := by decide +kernel
theorem d_Bench_clear_10 : decode c_Bench_clear 10 = .ok (.istore_n 1, 1) := by decide +kernel
theorem d_Bench_clear_11 : decode c_Bench_clear 11 = .ok (.aload_n 0, 1) := by decide +kernel
theorem d_Bench_clear_12 : decode c_Bench_clear 12 = .ok (.getfield 51, 3) := by decide +kernel
theorem d_Bench_clear_15 : decode c_Bench_clear 15 = .ok (.getfield 95, 3) := by decide +kernel
theorem d_Bench_clear_18 : decode c_Bench_clear 18 = .ok (.iconst 0, 1) := by decide +kernel
theorem d_Bench_clear_19 : decode c_Bench_clear 19 = .ok (.putfield 76, 3) := by decide +kernel
theorem d_Bench_clear_22 : decode c_Bench_clear 22 = .ok (.aload_n 0, 1) := by decide +kernel
theorem d_Bench_clear_23 : decode c_Bench_clear 23 = .ok (.iconst 0, 1) := by decide +kernel
theorem d_Bench_clear_24 : decode c_Bench_clear 24 = .ok (.putfield 20, 3) := by decide +kernel
theorem d_Bench_clear_27 : decode c_Bench_clear 27 = .ok (.iload_n 1, 1) := by decide +kernel
theorem d_Bench_clear_28 : decode c_Bench_clear 28 = .ok (.ireturn, 1) := by decide +kernel
theorem d_Bench_search_0 : decode c_Bench_search 0 = .ok (.iload_n 1, 1) := by decide +kernel
theorem d_Bench_search_1 : decode c_Bench_search 1 = .ok (.ifCond .lt 24, 3) := by decide +kernel
theorem d_Bench_search_4 : decode c_Bench_search 4 = .ok (.iload_n 1, 1) := by decide +kernel
theorem d_Bench_search_5 : decode c_Bench_search 5 = .ok (.aload_n 0, 1) := by decide +kernel
theorem d_Bench_search_6 : decode c_Bench_search 6 = .ok (.getfield 51, 3) := by decide +kernel
theorem d_Bench_search_9 : decode c_Bench_search 9 = .ok (.getfield 95, 3) := by decide +kernel
theorem d_Bench_search_12 : decode c_Bench_search 12 = .ok (.getfield 76, 3) := by decide +kernel
theorem d_Bench_search_15 : decode c_Bench_search 15 = .ok (.if_icmp .gt 10, 3) := by decide +kernel
theorem d_Bench_search_18 : decode c_Bench_search 18 = .ok (.aload_n 0, 1) := by decide +kernel
theorem d_Bench_search_19 : decode c_Bench_search 19 = .ok (.getfield 16, 3) := by decide +kernel
theorem d_Bench_search_22 : decode c_Bench_search 22 = .ok (.ifCond .ne 5, 3) := by decide +kernel
theorem d_Bench_search_25 : decode c_Bench_search 25 = .ok (.iconst (-1), 1) := by decide +kernel
theorem d_Bench_search_26 : decode c_Bench_search 26 = .ok (.ireturn, 1) := by decide +kernel
theorem d_Bench_search_27 : decode c_Bench_search 27 = .ok (.aload_n 0, 1) := by decide +kernel
theorem d_Bench_search_28 : decode c_Bench_search 28 = .ok (.iload_n 1, 1) := by decide +kernel
theorem d_Bench_search_29 : decode c_Bench_search 29 = .ok (.invokevirtual 98, 3) := by decide +kernel
theorem d_Bench_search_32 : decode c_Bench_search 32 = .ok (.ireturn, 1) := by decide +kernel
theorem d_Bench_again_0 : decode c_Bench_again 0 = .ok (.aload_n 0, 1) := by decide +kernel
theorem d_Bench_again_1 : decode c_Bench_again 1 = .ok (.invokevirtual 101, 3) := by decide +kernel
theorem d_Bench_again_4 : decode c_Bench_again 4 = .ok (.istore_n 1, 1) := by decide +kernel
theorem d_Bench_again_5 : decode c_Bench_again 5 = .ok (.aload_n 0, 1) := by decide +kernel
theorem d_Bench_again_6 : decode c_Bench_again 6 = .ok (.getfield 20, 3) := by decide +kernel
theorem d_Bench_again_9 : decode c_Bench_again 9 = .ok (.ifCond .eq 17, 3) := by decide +kernel
theorem d_Bench_again_12 : decode c_Bench_again 12 = .ok (.iload_n 1, 1) := by decide +kernel
theorem d_Bench_again_13 : decode c_Bench_again 13 = .ok (.aload_n 0, 1) := by decide +kernel
theorem d_Bench_again_14 : decode c_Bench_again 14 = .ok (.getfield 51, 3) := by decide +kernel
theorem d_Bench_again_17 : decode c_Bench_again 17 = .ok (.getfield 95, 3) := by decide +kernel
theorem d_Bench_again_20 : decode c_Bench_again 20 = .ok (.getfield 76, 3) := by decide +kernel
theorem d_Bench_again_23 : decode c_Bench_again 23 = .ok (.if_icmp .le 16, 3) := by decide +kernel
theorem d_Bench_again_26 : decode c_Bench_again 26 = .ok (.aload_n 0, 1) := by decide +kernel
theorem d_Bench_again_27 : decode c_Bench_again 27 = .ok (.iconst 0, 1) := by decide +kernel
theorem d_Bench_again_28 : decode c_Bench_again 28 = .ok (.putfield 20, 3) := by decide +kernel
theorem d_Bench_again_31 : decode c_Bench_again 31 = .ok (.aload_n 0, 1) := by decide +kernel
theorem d_Bench_again_32 : decode c_Bench_again 32 = .ok (.iconst 0, 1) := by decide +kernel
theorem d_Bench_again_33 : decode c_Bench_again 33 = .ok (.putfield 34, 3) := by decide +kernel
theorem d_Bench_again_36 : decode c_Bench_again 36 = .ok (.bipush (-4), 2) := by decide +kernel
theorem d_Bench_again_38 : decode c_Bench_again 38 = .ok (.ireturn, 1) := by decide +kernel
theorem d_Bench_again_39 : decode c_Bench_again 39 = .ok (.aload_n 0, 1) := by decide +kernel
theorem d_Bench_again_40 : decode c_Bench_again 40 = .ok (.iload_n 1, 1) := by decide +kernel
theorem d_Bench_again_41 : decode c_Bench_again 41 = .ok (.invokevirtual 98, 3) := by decide +kernel
theorem d_Bench_again_44 : decode c_Bench_again 44 = .ok (.ireturn, 1) := by decide +kernel
theorem d_Bench_start_0 : decode c_Bench_start 0 = .ok (.iload_n 1, 1) := by decide +kernel
theorem d_Bench_start_1 : decode c_Bench_start 1 = .ok (.ifCond .lt 8, 3) := by decide +kernel
theorem d_Bench_start_4 : decode c_Bench_start 4 = .ok (.iload_n 1, 1) := by decide +kernel
theorem d_Bench_start_5 : decode c_Bench_start 5 = .ok (.iconst 4, 1) := by decide +kernel
theorem d_Bench_start_6 : decode c_Bench_start 6 = .ok (.if_icmp .le 5, 3) := by decide +kernel
theorem d_Bench_start_9 : decode c_Bench_start 9 = .ok (.iconst (-1), 1) := by decide +kernel
theorem d_Bench_start_10 : decode c_Bench_start 10 = .ok (.ireturn, 1) := by decide +kernel
theorem d_Bench_start_11 : decode c_Bench_start 11 = .ok (.aload_n 0, 1) := by decide +kernel
theorem d_Bench_start_12 : decode c_Bench_start 12 = .ok (.getfield 20, 3) := by decide +kernel
theorem d_Bench_start_15 : decode c_Bench_start 15 = .ok (.ifCond .ne 6, 3) := by decide +kernel
theorem d_Bench_start_18 : decode c_Bench_start 18 = .ok (.bipush (-6), 2) := by decide +kernel
theorem d_Bench_start_20 : decode c_Bench_start 20 = .ok (.ireturn, 1) := by decide +kernel
theorem d_Bench_start_21 : decode c_Bench_start 21 = .ok (.iload_n 1, 1) := by decide +kernel
theorem d_Bench_start_22 : decode c_Bench_start 22 = .ok (.ifCond .ne 10, 3) := by decide +kernel
theorem d_Bench_start_25 : decode c_Bench_start 25 = .ok (.aload_n 0, 1) := by decide +kernel
theorem d_Bench_start_26 : decode c_Bench_start 26 = .ok (.getfield 23, 3) := by decide +kernel
theorem d_Bench_start_29 : decode c_Bench_start 29 = .ok (.goto 11, 3) := by decide +kernel
theorem d_Bench_start_32 : decode c_Bench_start 32 = .ok (.aload_n 0, 1) := by decide +kernel
theorem d_Bench_start_33 : decode c_Bench_start 33 = .ok (.getfield 30, 3) := by decide +kernel
theorem d_Bench_start_36 : decode c_Bench_start 36 = .ok (.iload_n 1, 1) := by decide +kernel
theorem d_Bench_start_37 : decode c_Bench_start 37 = .ok (.invokestatic 105, 3) := by decide +kernel
theorem d_Bench_start_40 : decode c_Bench_start 40 = .ok (.ireturn, 1) := by decide +kernel
theorem d_Bench_end_0 : decode c_Bench_end 0 = .ok (.iload_n 1, 1) := by decide +kernel
theorem d_Bench_end_1 : decode c_Bench_end 1 = .ok (.ifCond .lt 8, 3) := by decide +kernel
theorem d_Bench_end_4 : decode c_Bench_end 4 = .ok (.iload_n 1, 1) := by decide +kernel
theorem d_Bench_end_5 : decode c_Bench_end 5 = .ok (.iconst 4, 1) := by decide +kernel
theorem d_Bench_end_6 : decode c_Bench_end 6 = .ok (.if_icmp .le 5, 3) := by decide +kernel
theorem d_Bench_end_9 : decode c_Bench_end 9 = .ok (.iconst (-1), 1) := by decide +kernel
theorem d_Bench_end_10 : decode c_Bench_end 10 = .ok (.ireturn, 1) := by decide +kernel
theorem d_Bench_end_11 : decode c_Bench_end 11 = .ok (.aload_n 0, 1) := by decide +kernel
theorem d_Bench_end_12 : decode c_Bench_end 12 = .ok (.getfield 20, 3) := by decide +kernel
theorem d_Bench_end_15 : decode c_Bench_end 15 = .ok (.ifCond .ne 6, 3) := by decide +kernel
theorem d_Bench_end_18 : decode c_Bench_end 18 = .ok (.bipush (-6), 2) := by decide +kernel
theorem d_Bench_end_20 : decode c_Bench_end 20 = .ok (.ireturn, 1) := by decide +kernel
theorem d_Bench_end_21 : decode c_Bench_end 21 = .ok (.iload_n 1, 1) := by decide +kernel
theorem d_Bench_end_22 : decode c_Bench_end 22 = .ok (.ifCond .ne 10, 3) := by decide +kernel
theorem d_Bench_end_25 : decode c_Bench_end 25 = .ok (.aload_n 0, 1) := by decide +kernel
theorem d_Bench_end_26 : decode c_Bench_end 26 = .ok (.getfield 27, 3) := by decide +kernel
theorem d_Bench_end_29 : decode c_Bench_end 29 = .ok (.goto 11, 3) := by decide +kernel
theorem d_Bench_end_32 : decode c_Bench_end 32 = .ok (.aload_n 0, 1) := by decide +kernel
theorem d_Bench_end_33 : decode c_Bench_end 33 = .ok (.getfield 30, 3) := by decide +kernel
theorem d_Bench_end_36 : decode c_Bench_end 36 = .ok (.iload_n 1, 1) := by decide +kernel
theorem d_Bench_end_37 : decode c_Bench_end 37 = .ok (.invokestatic 111, 3) := by decide +kernel
theorem d_Bench_end_40 : decode c_Bench_end 40 = .ok (.ireturn, 1) := by decide +kernel
theorem d_Bench_steps_0 : decode c_Bench_steps 0 = .ok (.aload_n 0, 1) := by decide +kernel
theorem d_Bench_steps_1 : decode c_Bench_steps 1 = .ok (.getfield 34, 3) := by decide +kernel
theorem d_Bench_steps_4 : decode c_Bench_steps 4 = .ok (.ireturn, 1) := by decide +kernel
theorem d_Bench_matches_0 : decode c_Bench_matches 0 = .ok (.aload_n 0, 1) := by decide +kernel
theorem d_Bench_matches_1 : decode c_Bench_matches 1 = .ok (.getfield 16, 3) := by decide +kernel
theorem d_Bench_matches_4 : decode c_Bench_matches 4 = .ok (.ifCond .ne 5, 3) := by decide +kernel
theorem d_Bench_matches_7 : decode c_Bench_matches 7 = .ok (.iconst (-1), 1) := by decide +kernel
theorem d_Bench_matches_8 : decode c_Bench_matches 8 = .ok (.ireturn, 1) := by decide +kernel
theorem d_Bench_matches_9 : decode c_Bench_matches 9 = .ok (.iconst 0, 1) := by decide +kernel
theorem d_Bench_matches_10 : decode c_Bench_matches 10 = .ok (.istore_n 1, 1) := by decide +kernel
theorem d_Bench_matches_11 : decode c_Bench_matches 11 = .ok (.iconst 0, 1) := by decide +kernel
theorem d_Bench_matches_12 : decode c_Bench_matches 12 = .ok (.istore_n 2, 1) := by decide +kernel
theorem d_Bench_matches_13 : decode c_Bench_matches 13 = .ok (.bipush (-4), 2) := by decide +kernel
theorem d_Bench_matches_15 : decode c_Bench_matches 15 = .ok (.istore_n 3, 1) := by decide +kernel
theorem d_Bench_matches_16 : decode c_Bench_matches 16 = .ok (.iconst 0, 1) := by decide +kernel
theorem d_Bench_matches_17 : decode c_Bench_matches 17 = .ok (.istore 4, 2) := by decide +kernel
theorem d_Bench_matches_19 : decode c_Bench_matches 19 = .ok (.iload 4, 2) := by decide +kernel
theorem d_Bench_matches_21 : decode c_Bench_matches 21 = .ok (.bipush 40, 2) := by decide +kernel
theorem d_Bench_matches_23 : decode c_Bench_matches 23 = .ok (.if_icmp .gt 44, 3) := by decide +kernel
theorem d_Bench_matches_26 : decode c_Bench_matches 26 = .ok (.iload_n 2, 1) := by decide +kernel
theorem d_Bench_matches_27 : decode c_Bench_matches 27 = .ok (.aload_n 0, 1) := by decide +kernel
theorem d_Bench_matches_28 : decode c_Bench_matches 28 = .ok (.getfield 51, 3) := by decide +kernel
theorem d_Bench_matches_31 : decode c_Bench_matches 31 = .ok (.getfield 95, 3) := by decide +kernel
theorem d_Bench_matches_34 : decode c_Bench_matches 34 = .ok (.getfield 76, 3) := by decide +kernel
theorem d_Bench_matches_37 : decode c_Bench_matches 37 = .ok (.if_icmp .gt 30, 3) := by decide +kernel
theorem d_Bench_matches_40 : decode c_Bench_matches 40 = .ok (.aload_n 0, 1) := by decide +kernel
theorem d_Bench_matches_41 : decode c_Bench_matches 41 = .ok (.iload_n 2, 1) := by decide +kernel
theorem d_Bench_matches_42 : decode c_Bench_matches 42 = .ok (.invokevirtual 98, 3) := by decide +kernel
theorem d_Bench_matches_45 : decode c_Bench_matches 45 = .ok (.istore_n 3, 1) := by decide +kernel
theorem d_Bench_matches_46 : decode c_Bench_matches 46 = .ok (.iload_n 3, 1) := by decide +kernel
theorem d_Bench_matches_47 : decode c_Bench_matches 47 = .ok (.ifCond .ge 6, 3) := by decide +kernel
theorem d_Bench_matches_50 : decode c_Bench_matches 50 = .ok (.goto 17, 3) := by decide +kernel
theorem d_Bench_matches_53 : decode c_Bench_matches 53 = .ok (.iinc 1 1, 3) := by decide +kernel
theorem d_Bench_matches_56 : decode c_Bench_matches 56 = .ok (.aload_n 0, 1) := by decide +kernel
theorem d_Bench_matches_57 : decode c_Bench_matches 57 = .ok (.invokevirtual 101, 3) := by decide +kernel
theorem d_Bench_matches_60 : decode c_Bench_matches 60 = .ok (.istore_n 2, 1) := by decide +kernel
theorem d_Bench_matches_61 : decode c_Bench_matches 61 = .ok (.iinc 4 1, 3) := by decide +kernel
theorem d_Bench_matches_64 : decode c_Bench_matches 64 = .ok (.goto (-45), 3) := by decide +kernel
theorem d_Bench_matches_67 : decode c_Bench_matches 67 = .ok (.aload_n 0, 1) := by decide +kernel
theorem d_Bench_matches_68 : decode c_Bench_matches 68 = .ok (.iconst 0, 1) := by decide +kernel
theorem d_Bench_matches_69 : decode c_Bench_matches 69 = .ok (.putfield 20, 3) := by decide +kernel
theorem d_Bench_matches_72 : decode c_Bench_matches 72 = .ok (.iload_n 3, 1) := by decide +kernel
theorem d_Bench_matches_73 : decode c_Bench_matches 73 = .ok (.bipush (-5), 2) := by decide +kernel
theorem d_Bench_matches_75 : decode c_Bench_matches 75 = .ok (.if_icmp .ne 8, 3) := by decide +kernel
theorem d_Bench_matches_78 : decode c_Bench_matches 78 = .ok (.bipush (-5), 2) := by decide +kernel
theorem d_Bench_matches_80 : decode c_Bench_matches 80 = .ok (.goto 4, 3) := by decide +kernel
theorem d_Bench_matches_83 : decode c_Bench_matches 83 = .ok (.iload_n 1, 1) := by decide +kernel
theorem d_Bench_matches_84 : decode c_Bench_matches 84 = .ok (.ireturn, 1) := by decide +kernel
theorem d_Bench_count_0 : decode c_Bench_count 0 = .ok (.iload_n 1, 1) := by decide +kernel
theorem d_Bench_count_1 : decode c_Bench_count 1 = .ok (.tableswitch 99 0 3 #[31, 42, 53, 76], 31) := by decide +kernel
theorem d_Bench_count_32 : decode c_Bench_count 32 = .ok (.aload_n 0, 1) := by decide +kernel
theorem d_Bench_count_33 : decode c_Bench_count 33 = .ok (.getfield 10, 3) := by decide +kernel
theorem d_Bench_count_36 : decode c_Bench_count 36 = .ok (.getfield 59, 3) := by decide +kernel
theorem d_Bench_count_39 : decode c_Bench_count 39 = .ok (.getfield 76, 3) := by decide +kernel
theorem d_Bench_count_42 : decode c_Bench_count 42 = .ok (.ireturn, 1) := by decide +kernel
theorem d_Bench_count_43 : decode c_Bench_count 43 = .ok (.aload_n 0, 1) := by decide +kernel
theorem d_Bench_count_44 : decode c_Bench_count 44 = .ok (.getfield 51, 3) := by decide +kernel
theorem d_Bench_count_47 : decode c_Bench_count 47 = .ok (.getfield 95, 3) := by decide +kernel
theorem d_Bench_count_50 : decode c_Bench_count 50 = .ok (.getfield 76, 3) := by decide +kernel
theorem d_Bench_count_53 : decode c_Bench_count 53 = .ok (.ireturn, 1) := by decide +kernel
theorem d_Bench_count_54 : decode c_Bench_count 54 = .ok (.aload_n 0, 1) := by decide +kernel
theorem d_Bench_count_55 : decode c_Bench_count 55 = .ok (.getfield 16, 3) := by decide +kernel
theorem d_Bench_count_58 : decode c_Bench_count 58 = .ok (.ifCond .eq 16, 3) := by decide +kernel
theorem d_Bench_count_61 : decode c_Bench_count 61 = .ok (.aload_n 0, 1) := by decide +kernel
theorem d_Bench_count_62 : decode c_Bench_count 62 = .ok (.getfield 51, 3) := by decide +kernel
theorem d_Bench_count_65 : decode c_Bench_count 65 = .ok (.getfield 88, 3) := by decide +kernel
theorem d_Bench_count_68 : decode c_Bench_count 68 = .ok (.getfield 89, 3) := by decide +kernel
theorem d_Bench_count_71 : decode c_Bench_count 71 = .ok (.goto 5, 3) := by decide +kernel
theorem d_Bench_count_74 : decode c_Bench_count 74 = .ok (.bipush (-4), 2) := by decide +kernel
theorem d_Bench_count_76 : decode c_Bench_count 76 = .ok (.ireturn, 1) := by decide +kernel
theorem d_Bench_count_77 : decode c_Bench_count 77 = .ok (.aload_n 0, 1) := by decide +kernel
theorem d_Bench_count_78 : decode c_Bench_count 78 = .ok (.getfield 16, 3) := by decide +kernel
theorem d_Bench_count_81 : decode c_Bench_count 81 = .ok (.ifCond .eq 16, 3) := by decide +kernel
theorem d_Bench_count_84 : decode c_Bench_count 84 = .ok (.aload_n 0, 1) := by decide +kernel
theorem d_Bench_count_85 : decode c_Bench_count 85 = .ok (.getfield 51, 3) := by decide +kernel
theorem d_Bench_count_88 : decode c_Bench_count 88 = .ok (.getfield 88, 3) := by decide +kernel
theorem d_Bench_count_91 : decode c_Bench_count 91 = .ok (.getfield 83, 3) := by decide +kernel
theorem d_Bench_count_94 : decode c_Bench_count 94 = .ok (.goto 5, 3) := by decide +kernel
theorem d_Bench_count_97 : decode c_Bench_count 97 = .ok (.bipush (-4), 2) := by decide +kernel
theorem d_Bench_count_99 : decode c_Bench_count 99 = .ok (.ireturn, 1) := by decide +kernel
theorem d_Bench_count_100 : decode c_Bench_count 100 = .ok (.iconst (-1), 1) := by decide +kernel
theorem d_Bench_count_101 : decode c_Bench_count 101 = .ok (.ireturn, 1) := by decide +kernel
theorem d_Bench_searchFrom_0 : decode c_Bench_searchFrom 0 = .ok (.aload_n 0, 1) := by decide +kernel
theorem d_Bench_searchFrom_1 : decode c_Bench_searchFrom 1 = .ok (.getfield 51, 3) := by decide +kernel
theorem d_Bench_searchFrom_4 : decode c_Bench_searchFrom 4 = .ok (.iload_n 1, 1) := by decide +kernel
theorem d_Bench_searchFrom_5 : decode c_Bench_searchFrom 5 = .ok (.invokevirtual 114, 3) := by decide +kernel
theorem d_Bench_searchFrom_8 : decode c_Bench_searchFrom 8 = .ok (.istore_n 2, 1) := by decide +kernel
theorem d_Bench_searchFrom_9 : decode c_Bench_searchFrom 9 = .ok (.aload_n 0, 1) := by decide +kernel
theorem d_Bench_searchFrom_10 : decode c_Bench_searchFrom 10 = .ok (.iload_n 2, 1) := by decide +kernel
theorem d_Bench_searchFrom_11 : decode c_Bench_searchFrom 11 = .ok (.ifCond .lt 7, 3) := by decide +kernel
theorem d_Bench_searchFrom_14 : decode c_Bench_searchFrom 14 = .ok (.iconst 1, 1) := by decide +kernel
theorem d_Bench_searchFrom_15 : decode c_Bench_searchFrom 15 = .ok (.goto 4, 3) := by decide +kernel
theorem d_Bench_searchFrom_18 : decode c_Bench_searchFrom 18 = .ok (.iconst 0, 1) := by decide +kernel
theorem d_Bench_searchFrom_19 : decode c_Bench_searchFrom 19 = .ok (.putfield 20, 3) := by decide +kernel
theorem d_Bench_searchFrom_22 : decode c_Bench_searchFrom 22 = .ok (.aload_n 0, 1) := by decide +kernel
theorem d_Bench_searchFrom_23 : decode c_Bench_searchFrom 23 = .ok (.iload_n 2, 1) := by decide +kernel
theorem d_Bench_searchFrom_24 : decode c_Bench_searchFrom 24 = .ok (.putfield 23, 3) := by decide +kernel
theorem d_Bench_searchFrom_27 : decode c_Bench_searchFrom 27 = .ok (.aload_n 0, 1) := by decide +kernel
theorem d_Bench_searchFrom_28 : decode c_Bench_searchFrom 28 = .ok (.aload_n 0, 1) := by decide +kernel
theorem d_Bench_searchFrom_29 : decode c_Bench_searchFrom 29 = .ok (.getfield 51, 3) := by decide +kernel
theorem d_Bench_searchFrom_32 : decode c_Bench_searchFrom 32 = .ok (.getfield 117, 3) := by decide +kernel
theorem d_Bench_searchFrom_35 : decode c_Bench_searchFrom 35 = .ok (.putfield 27, 3) := by decide +kernel
theorem d_Bench_searchFrom_38 : decode c_Bench_searchFrom 38 = .ok (.aload_n 0, 1) := by decide +kernel
theorem d_Bench_searchFrom_39 : decode c_Bench_searchFrom 39 = .ok (.aload_n 0, 1) := by decide +kernel
theorem d_Bench_searchFrom_40 : decode c_Bench_searchFrom 40 = .ok (.getfield 51, 3) := by decide +kernel
theorem d_Bench_searchFrom_43 : decode c_Bench_searchFrom 43 = .ok (.getfield 120, 3) := by decide +kernel
theorem d_Bench_searchFrom_46 : decode c_Bench_searchFrom 46 = .ok (.putfield 30, 3) := by decide +kernel
theorem d_Bench_searchFrom_49 : decode c_Bench_searchFrom 49 = .ok (.aload_n 0, 1) := by decide +kernel
theorem d_Bench_searchFrom_50 : decode c_Bench_searchFrom 50 = .ok (.aload_n 0, 1) := by decide +kernel
theorem d_Bench_searchFrom_51 : decode c_Bench_searchFrom 51 = .ok (.getfield 51, 3) := by decide +kernel
theorem d_Bench_searchFrom_54 : decode c_Bench_searchFrom 54 = .ok (.getfield 123, 3) := by decide +kernel
theorem d_Bench_searchFrom_57 : decode c_Bench_searchFrom 57 = .ok (.putfield 34, 3) := by decide +kernel
theorem d_Bench_searchFrom_60 : decode c_Bench_searchFrom 60 = .ok (.iload_n 2, 1) := by decide +kernel
theorem d_Bench_searchFrom_61 : decode c_Bench_searchFrom 61 = .ok (.ireturn, 1) := by decide +kernel
theorem d_Bench_placeBehindMatch_0 : decode c_Bench_placeBehindMatch 0 = .ok (.aload_n 0, 1) := by decide +kernel
theorem d_Bench_placeBehindMatch_1 : decode c_Bench_placeBehindMatch 1 = .ok (.getfield 27, 3) := by decide +kernel
theorem d_Bench_placeBehindMatch_4 : decode c_Bench_placeBehindMatch 4 = .ok (.aload_n 0, 1) := by decide +kernel
theorem d_Bench_placeBehindMatch_5 : decode c_Bench_placeBehindMatch 5 = .ok (.getfield 23, 3) := by decide +kernel
theorem d_Bench_placeBehindMatch_8 : decode c_Bench_placeBehindMatch 8 = .ok (.if_icmp .ne 12, 3) := by decide +kernel
theorem d_Bench_placeBehindMatch_11 : decode c_Bench_placeBehindMatch 11 = .ok (.aload_n 0, 1) := by decide +kernel
theorem d_Bench_placeBehindMatch_12 : decode c_Bench_placeBehindMatch 12 = .ok (.getfield 27, 3) := by decide +kernel
theorem d_Bench_placeBehindMatch_15 : decode c_Bench_placeBehindMatch 15 = .ok (.iconst 1, 1) := by decide +kernel
theorem d_Bench_placeBehindMatch_16 : decode c_Bench_placeBehindMatch 16 = .ok (.iadd, 1) := by decide +kernel
theorem d_Bench_placeBehindMatch_17 : decode c_Bench_placeBehindMatch 17 = .ok (.goto 7, 3) := by decide +kernel
theorem d_Bench_placeBehindMatch_20 : decode c_Bench_placeBehindMatch 20 = .ok (.aload_n 0, 1) := by decide +kernel
theorem d_Bench_placeBehindMatch_21 : decode c_Bench_placeBehindMatch 21 = .ok (.getfield 27, 3) := by decide +kernel
theorem d_Bench_placeBehindMatch_24 : decode c_Bench_placeBehindMatch 24 = .ok (.ireturn, 1) := by decide +kernel
theorem d_Bench_isLetter_0 : decode c_Bench_isLetter 0 = .ok (.iload_n 0, 1) := by decide +kernel
theorem d_Bench_isLetter_1 : decode c_Bench_isLetter 1 = .ok (.bipush 97, 2) := by decide +kernel
theorem d_Bench_isLetter_3 : decode c_Bench_isLetter 3 = .ok (.if_icmp .lt 13, 3) := by decide +kernel
theorem d_Bench_isLetter_6 : decode c_Bench_isLetter 6 = .ok (.iload_n 0, 1) := by decide +kernel
theorem d_Bench_isLetter_7 : decode c_Bench_isLetter 7 = .ok (.bipush 122, 2) := by decide +kernel
theorem d_Bench_isLetter_9 : decode c_Bench_isLetter 9 = .ok (.if_icmp .gt 7, 3) := by decide +kernel
theorem d_Bench_isLetter_12 : decode c_Bench_isLetter 12 = .ok (.iconst 1, 1) := by decide +kernel
theorem d_Bench_isLetter_13 : decode c_Bench_isLetter 13 = .ok (.goto 4, 3) := by decide +kernel
theorem d_Bench_isLetter_16 : decode c_Bench_isLetter 16 = .ok (.iconst 0, 1) := by decide +kernel
theorem d_Bench_isLetter_17 : decode c_Bench_isLetter 17 = .ok (.ireturn, 1) := by decide +kernel
theorem d_Bench_isDigit_0 : decode c_Bench_isDigit 0 = .ok (.iload_n 0, 1) := by decide +kernel
theorem d_Bench_isDigit_1 : decode c_Bench_isDigit 1 = .ok (.bipush 48, 2) := by decide +kernel
theorem d_Bench_isDigit_3 : decode c_Bench_isDigit 3 = .ok (.if_icmp .lt 13, 3) := by decide +kernel
theorem d_Bench_isDigit_6 : decode c_Bench_isDigit 6 = .ok (.iload_n 0, 1) := by decide +kernel
theorem d_Bench_isDigit_7 : decode c_Bench_isDigit 7 = .ok (.bipush 57, 2) := by decide +kernel
theorem d_Bench_isDigit_9 : decode c_Bench_isDigit 9 = .ok (.if_icmp .gt 7, 3) := by decide +kernel
theorem d_Bench_isDigit_12 : decode c_Bench_isDigit 12 = .ok (.iconst 1, 1) := by decide +kernel
theorem d_Bench_isDigit_13 : decode c_Bench_isDigit 13 = .ok (.goto 4, 3) := by decide +kernel
theorem d_Bench_isDigit_16 : decode c_Bench_isDigit 16 = .ok (.iconst 0, 1) := by decide +kernel
theorem d_Bench_isDigit_17 : decode c_Bench_isDigit 17 = .ok (.ireturn, 1) := by decide +kernel
theorem d_Bench_mayStandInPattern_0 : decode c_Bench_mayStandInPattern 0 = .ok (.iload_n 0, 1) := by decide +kernel
theorem d_Bench_mayStandInPattern_1 : decode c_Bench_mayStandInPattern 1 = .ok (.invokestatic 92, 3) := by decide +kernel
theorem d_Bench_mayStandInPattern_4 : decode c_Bench_mayStandInPattern 4 = .ok (.ifCond .ne 10, 3) := by decide +kernel
theorem d_Bench_mayStandInPattern_7 : decode c_Bench_mayStandInPattern 7 = .ok (.iload_n 0, 1) := by decide +kernel
theorem d_Bench_mayStandInPattern_8 : decode c_Bench_mayStandInPattern 8 = .ok (.invokestatic 126, 3) := by decide +kernel
theorem d_Bench_mayStandInPattern_11 : decode c_Bench_mayStandInPattern 11 = .ok (.ifCond .eq 5, 3) := by decide +kernel
theorem d_Bench_mayStandInPattern_14 : decode c_Bench_mayStandInPattern 14 = .ok (.iconst 1, 1) := by decide +kernel
theorem d_Bench_mayStandInPattern_15 : decode c_Bench_mayStandInPattern 15 = .ok (.ireturn, 1) := by decide +kernel
theorem d_Bench_mayStandInPattern_16 : decode c_Bench_mayStandInPattern 16 = .ok (.iload_n 0, 1) := by decide +kernel
theorem d_Bench_mayStandInPattern_17 : decode c_Bench_mayStandInPattern 17 = .ok (.ifCond .le 24, 3) := by decide +kernel
theorem d_Bench_mayStandInPattern_20 : decode c_Bench_mayStandInPattern 20 = .ok (.iload_n 0, 1) := by decide +kernel
theorem d_Bench_mayStandInPattern_21 : decode c_Bench_mayStandInPattern 21 = .ok (.sipush 128, 3) := by decide +kernel
theorem d_Bench_mayStandInPattern_24 : decode c_Bench_mayStandInPattern 24 = .ok (.if_icmp .ge 17, 3) := by decide +kernel
theorem d_Bench_mayStandInPattern_27 : decode c_Bench_mayStandInPattern 27 = .ok (.ldc 129, 2) := by decide +kernel
theorem d_Bench_mayStandInPattern_29 : decode c_Bench_mayStandInPattern 29 = .ok (.iload_n 0, 1) := by decide +kernel
theorem d_Bench_mayStandInPattern_30 : decode c_Bench_mayStandInPattern 30 = .ok (.i2c, 1) := by decide +kernel
theorem d_Bench_mayStandInPattern_31 : decode c_Bench_mayStandInPattern 31 = .ok (.invokevirtual 131, 3) := by decide +kernel
theorem d_Bench_mayStandInPattern_34 : decode c_Bench_mayStandInPattern 34 = .ok (.ifCond .lt 7, 3) := by decide +kernel
theorem d_Bench_mayStandInPattern_37 : decode c_Bench_mayStandInPattern 37 = .ok (.iconst 1, 1) := by decide +kernel
theorem d_Bench_mayStandInPattern_38 : decode c_Bench_mayStandInPattern 38 = .ok (.goto 4, 3) := by decide +kernel
theorem d_Bench_mayStandInPattern_41 : decode c_Bench_mayStandInPattern 41 = .ok (.iconst 0, 1) := by decide +kernel
theorem d_Bench_mayStandInPattern_42 : decode c_Bench_mayStandInPattern 42 = .ok (.ireturn, 1) := by decide +kernel
theorem d_Captures_with_0 : decode c_Captures_with 0 = .ok (.iload_n 2, 1) := by decide +kernel
theorem d_Captures_with_1 : decode c_Captures_with 1 = .ok (.iconst 1, 1) := by decide +kernel
theorem d_Captures_with_2 : decode c_Captures_with 2 = .ok (.isub, 1) := by decide +kernel
theorem d_Captures_with_3 : decode c_Captures_with 3 = .ok (.bipush 12, 2) := by decide +kernel
theorem d_Captures_with_5 : decode c_Captures_with 5 = .ok (.imul, 1) := by decide +kernel
theorem d_Captures_with_6 : decode c_Captures_with 6 = .ok (.istore 5, 2) := by decide +kernel
theorem d_Captures_with_8 : decode c_Captures_with 8 = .ok (.iload_n 3, 1) := by decide +kernel
theorem d_Captures_with_9 : decode c_Captures_with 9 = .ok (.iconst 1, 1) := by decide +kernel
theorem d_Captures_with_10 : decode c_Captures_with 10 = .ok (.iadd, 1) := by decide +kernel
theorem d_Captures_with_11 : decode c_Captures_with 11 = .ok (.iload 4, 2) := by decide +kernel
theorem d_Captures_with_13 : decode c_Captures_with 13 = .ok (.iconst 1, 1) := by decide +kernel
theorem d_Captures_with_14 : decode c_Captures_with 14 = .ok (.iadd, 1) := by decide +kernel
theorem d_Captures_with_15 : decode c_Captures_with 15 = .ok (.bipush 6, 2) := by decide +kernel
theorem d_Captures_with_17 : decode c_Captures_with 17 = .ok (.ishl, 1) := by decide +kernel
theorem d_Captures_with_18 : decode c_Captures_with 18 = .ok (.ior, 1) := by decide +kernel
theorem d_Captures_with_19 : decode c_Captures_with 19 = .ok (.i2l, 1) := by decide +kernel
theorem d_Captures_with_20 : decode c_Captures_with 20 = .ok (.lstore 6, 2) := by decide +kernel
theorem d_Captures_with_22 : decode c_Captures_with 22 = .ok (.lload_n 0, 1) := by decide +kernel
theorem d_Captures_with_23 : decode c_Captures_with 23 = .ok (.ldc2_w 11, 3) := by decide +kernel
theorem d_Captures_with_26 : decode c_Captures_with 26 = .ok (.iload 5, 2) := by decide +kernel
theorem d_Captures_with_28 : decode c_Captures_with 28 = .ok (.lshl, 1) := by decide +kernel
theorem d_Captures_with_29 : decode c_Captures_with 29 = .ok (.ldc2_w 13, 3) := by decide +kernel
theorem d_Captures_with_32 : decode c_Captures_with 32 = .ok (.lxor, 1) := by decide +kernel
theorem d_Captures_with_33 : decode c_Captures_with 33 = .ok (.land, 1) := by decide +kernel
theorem d_Captures_with_34 : decode c_Captures_with 34 = .ok (.lload 6, 2) := by decide +kernel
theorem d_Captures_with_36 : decode c_Captures_with 36 = .ok (.iload 5, 2) := by decide +kernel
theorem d_Captures_with_38 : decode c_Captures_with 38 = .ok (.lshl, 1) := by decide +kernel
theorem d_Captures_with_39 : decode c_Captures_with 39 = .ok (.lor, 1) := by decide +kernel
theorem d_Captures_with_40 : decode c_Captures_with 40 = .ok (.lreturn, 1) := by decide +kernel
theorem d_Captures_from_0 : decode c_Captures_from 0 = .ok (.lload_n 0, 1) := by decide +kernel
theorem d_Captures_from_1 : decode c_Captures_from 1 = .ok (.iload_n 2, 1) := by decide +kernel
theorem d_Captures_from_2 : decode c_Captures_from 2 = .ok (.iconst 1, 1) := by decide +kernel
theorem d_Captures_from_3 : decode c_Captures_from 3 = .ok (.isub, 1) := by decide +kernel
theorem d_Captures_from_4 : decode c_Captures_from 4 = .ok (.bipush 12, 2) := by decide +kernel
theorem d_Captures_from_6 : decode c_Captures_from 6 = .ok (.imul, 1) := by decide +kernel
theorem d_Captures_from_7 : decode c_Captures_from 7 = .ok (.lushr, 1) := by decide +kernel
theorem d_Captures_from_8 : decode c_Captures_from 8 = .ok (.l2i, 1) := by decide +kernel
theorem d_Captures_from_9 : decode c_Captures_from 9 = .ok (.bipush 63, 2) := by decide +kernel
theorem d_Captures_from_11 : decode c_Captures_from 11 = .ok (.iand, 1) := by decide +kernel
theorem d_Captures_from_12 : decode c_Captures_from 12 = .ok (.istore_n 3, 1) := by decide +kernel
theorem d_Captures_from_13 : decode c_Captures_from 13 = .ok (.iload_n 3, 1) := by decide +kernel
theorem d_Captures_from_14 : decode c_Captures_from 14 = .ok (.ifCond .ne 8, 3) := by decide +kernel
theorem d_Captures_from_17 : decode c_Captures_from 17 = .ok (.bipush (-6), 2) := by decide +kernel
theorem d_Captures_from_19 : decode c_Captures_from 19 = .ok (.goto 6, 3) := by decide +kernel
theorem d_Captures_from_22 : decode c_Captures_from 22 = .ok (.iload_n 3, 1) := by decide +kernel
theorem d_Captures_from_23 : decode c_Captures_from 23 = .ok (.iconst 1, 1) := by decide +kernel
theorem d_Captures_from_24 : decode c_Captures_from 24 = .ok (.isub, 1) := by decide +kernel
theorem d_Captures_from_25 : decode c_Captures_from 25 = .ok (.ireturn, 1) := by decide +kernel
theorem d_Captures_to_0 : decode c_Captures_to 0 = .ok (.lload_n 0, 1) := by decide +kernel
theorem d_Captures_to_1 : decode c_Captures_to 1 = .ok (.iload_n 2, 1) := by decide +kernel
theorem d_Captures_to_2 : decode c_Captures_to 2 = .ok (.iconst 1, 1) := by decide +kernel
theorem d_Captures_to_3 : decode c_Captures_to 3 = .ok (.isub, 1) := by decide +kernel
theorem d_Captures_to_4 : decode c_Captures_to 4 = .ok (.bipush 12, 2) := by decide +kernel
theorem d_Captures_to_6 : decode c_Captures_to 6 = .ok (.imul, 1) := by decide +kernel
theorem d_Captures_to_7 : decode c_Captures_to 7 = .ok (.bipush 6, 2) := by decide +kernel
theorem d_Captures_to_9 : decode c_Captures_to 9 = .ok (.iadd, 1) := by decide +kernel
theorem d_Captures_to_10 : decode c_Captures_to 10 = .ok (.lushr, 1) := by decide +kernel
theorem d_Captures_to_11 : decode c_Captures_to 11 = .ok (.l2i, 1) := by decide +kernel
theorem d_Captures_to_12 : decode c_Captures_to 12 = .ok (.bipush 63, 2) := by decide +kernel
theorem d_Captures_to_14 : decode c_Captures_to 14 = .ok (.iand, 1) := by decide +kernel
theorem d_Captures_to_15 : decode c_Captures_to 15 = .ok (.istore_n 3, 1) := by decide +kernel
theorem d_Captures_to_16 : decode c_Captures_to 16 = .ok (.iload_n 3, 1) := by decide +kernel
theorem d_Captures_to_17 : decode c_Captures_to 17 = .ok (.ifCond .ne 8, 3) := by decide +kernel
theorem d_Captures_to_20 : decode c_Captures_to 20 = .ok (.bipush (-6), 2) := by decide +kernel
theorem d_Captures_to_22 : decode c_Captures_to 22 = .ok (.goto 6, 3) := by decide +kernel
theorem d_Captures_to_25 : decode c_Captures_to 25 = .ok (.iload_n 3, 1) := by decide +kernel
theorem d_Captures_to_26 : decode c_Captures_to 26 = .ok (.iconst 1, 1) := by decide +kernel
theorem d_Captures_to_27 : decode c_Captures_to 27 = .ok (.isub, 1) := by decide +kernel
theorem d_Captures_to_28 : decode c_Captures_to 28 = .ok (.ireturn, 1) := by decide +kernel
theorem d_Choices_init_0 : decode c_Choices_init 0 = .ok (.aload_n 0, 1) := by decide +kernel
theorem d_Choices_init_1 : decode c_Choices_init 1 = .ok (.invokespecial 1, 3) := by decide +kernel
theorem d_Choices_init_4 : decode c_Choices_init 4 = .ok (.aload_n 0, 1) := by decide +kernel
theorem d_Choices_init_5 : decode c_Choices_init 5 = .ok (.iconst 0, 1) := by decide +kernel
theorem d_Choices_init_6 : decode c_Choices_init 6 = .ok (.putfield 7, 3) := by decide +kernel
theorem d_Choices_init_9 : decode c_Choices_init 9 = .ok (.aload_n 0, 1) := by decide +kernel
theorem d_Choices_init_10 : decode c_Choices_init 10 = .ok (.iload_n 1, 1) := by decide +kernel
theorem d_Choices_init_11 : decode c_Choices_init 11 = .ok (.newarray .int, 2) := by decide +kernel
theorem d_Choices_init_13 : decode c_Choices_init 13 = .ok (.putfield 13, 3) := by decide +kernel
theorem d_Choices_init_16 : decode c_Choices_init 16 = .ok (.aload_n 0, 1) := by decide +kernel
theorem d_Choices_init_17 : decode c_Choices_init 17 = .ok (.iload_n 1, 1) := by decide +kernel
theorem d_Choices_init_18 : decode c_Choices_init 18 = .ok (.newarray .int, 2) := by decide +kernel
theorem d_Choices_init_20 : decode c_Choices_init 20 = .ok (.putfield 17, 3) := by decide +kernel
theorem d_Choices_init_23 : decode c_Choices_init 23 = .ok (.aload_n 0, 1) := by decide +kernel
theorem d_Choices_init_24 : decode c_Choices_init 24 = .ok (.iload_n 1, 1) := by decide +kernel
theorem d_Choices_init_25 : decode c_Choices_init 25 = .ok (.newarray .int, 2) := by decide +kernel
theorem d_Choices_init_27 : decode c_Choices_init 27 = .ok (.putfield 20, 3) := by decide +kernel
theorem d_Choices_init_30 : decode c_Choices_init 30 = .ok (.aload_n 0, 1) := by decide +kernel
theorem d_Choices_init_31 : decode c_Choices_init 31 = .ok (.iload_n 1, 1) := by decide +kernel
theorem d_Choices_init_32 : decode c_Choices_init 32 = .ok (.newarray .long, 2) := by decide +kernel
theorem d_Choices_init_34 : decode c_Choices_init 34 = .ok (.putfield 23, 3) := by decide +kernel
theorem d_Choices_init_37 : decode c_Choices_init 37 = .ok (.aload_n 0, 1) := by decide +kernel
theorem d_Choices_init_38 : decode c_Choices_init 38 = .ok (.iload_n 1, 1) := by decide +kernel
theorem d_Choices_init_39 : decode c_Choices_init 39 = .ok (.newarray .int, 2) := by decide +kernel
theorem d_Choices_init_41 : decode c_Choices_init 41 = .ok (.putfield 27, 3) := by decide +kernel
theorem d_Choices_init_44 : decode c_Choices_init 44 = .ok (.return_, 1) := by decide +kernel
theorem d_Choices_hasRoom_0 : decode c_Choices_hasRoom 0 = .ok (.aload_n 0, 1) := by decide +kernel
theorem d_Choices_hasRoom_1 : decode c_Choices_hasRoom 1 = .ok (.getfield 7, 3) := by decide +kernel
theorem d_Choices_hasRoom_4 : decode c_Choices_hasRoom 4 = .ok (.iload_n 1, 1) := by decide +kernel
theorem d_Choices_hasRoom_5 : decode c_Choices_hasRoom 5 = .ok (.iadd, 1) := by decide +kernel
theorem d_Choices_hasRoom_6 : decode c_Choices_hasRoom 6 = .ok (.aload_n 0, 1) := by decide +kernel
theorem d_Choices_hasRoom_7 : decode c_Choices_hasRoom 7 = .ok (.getfield 13, 3) := by decide +kernel
theorem d_Choices_hasRoom_10 : decode c_Choices_hasRoom 10 = .ok (.arraylength, 1) := by decide +kernel
theorem d_Choices_hasRoom_11 : decode c_Choices_hasRoom 11 = .ok (.if_icmp .gt 7, 3) := by decide +kernel
theorem d_Choices_hasRoom_14 : decode c_Choices_hasRoom 14 = .ok (.iconst 1, 1) := by decide +kernel
theorem d_Choices_hasRoom_15 : decode c_Choices_hasRoom 15 = .ok (.goto 4, 3) := by decide +kernel
theorem d_Choices_hasRoom_18 : decode c_Choices_hasRoom 18 = .ok (.iconst 0, 1) := by decide +kernel
theorem d_Choices_hasRoom_19 : decode c_Choices_hasRoom 19 = .ok (.ireturn, 1) := by decide +kernel
theorem d_Choices_add_0 : decode c_Choices_add 0 = .ok (.aload_n 0, 1) := by decide +kernel
theorem d_Choices_add_1 : decode c_Choices_add 1 = .ok (.getfield 13, 3) := by decide +kernel
theorem d_Choices_add_4 : decode c_Choices_add 4 = .ok (.aload_n 0, 1) := by decide +kernel
theorem d_Choices_add_5 : decode c_Choices_add 5 = .ok (.getfield 7, 3) := by decide +kernel
theorem d_Choices_add_8 : decode c_Choices_add 8 = .ok (.iload_n 1, 1) := by decide +kernel
theorem d_Choices_add_9 : decode c_Choices_add 9 = .ok (.iastore, 1) := by decide +kernel
theorem d_Choices_add_10 : decode c_Choices_add 10 = .ok (.aload_n 0, 1) := by decide +kernel
theorem d_Choices_add_11 : decode c_Choices_add 11 = .ok (.getfield 17, 3) := by decide +kernel
theorem d_Choices_add_14 : decode c_Choices_add 14 = .ok (.aload_n 0, 1) := by decide +kernel
theorem d_Choices_add_15 : decode c_Choices_add 15 = .ok (.getfield 7, 3) := by decide +kernel
theorem d_Choices_add_18 : decode c_Choices_add 18 = .ok (.iload_n 2, 1) := by decide +kernel
theorem d_Choices_add_19 : decode c_Choices_add 19 = .ok (.iastore, 1) := by decide +kernel
theorem d_Choices_add_20 : decode c_Choices_add 20 = .ok (.aload_n 0, 1) := by decide +kernel
theorem d_Choices_add_21 : decode c_Choices_add 21 = .ok (.getfield 20, 3) := by decide +kernel
theorem d_Choices_add_24 : decode c_Choices_add 24 = .ok (.aload_n 0, 1) := by decide +kernel
theorem d_Choices_add_25 : decode c_Choices_add 25 = .ok (.getfield 7, 3) := by decide +kernel
theorem d_Choices_add_28 : decode c_Choices_add 28 = .ok (.iload_n 3, 1) := by decide +kernel
theorem d_Choices_add_29 : decode c_Choices_add 29 = .ok (.iastore, 1) := by decide +kernel
theorem d_Choices_add_30 : decode c_Choices_add 30 = .ok (.aload_n 0, 1) := by decide +kernel
theorem d_Choices_add_31 : decode c_Choices_add 31 = .ok (.getfield 23, 3) := by decide +kernel
theorem d_Choices_add_34 : decode c_Choices_add 34 = .ok (.aload_n 0, 1) := by decide +kernel
theorem d_Choices_add_35 : decode c_Choices_add 35 = .ok (.getfield 7, 3) := by decide +kernel
theorem d_Choices_add_38 : decode c_Choices_add 38 = .ok (.lload 4, 2) := by decide +kernel
theorem d_Choices_add_40 : decode c_Choices_add 40 = .ok (.lastore, 1) := by decide +kernel
theorem d_Choices_add_41 : decode c_Choices_add 41 = .ok (.aload_n 0, 1) := by decide +kernel
theorem d_Choices_add_42 : decode c_Choices_add 42 = .ok (.getfield 27, 3) := by decide +kernel
theorem d_Choices_add_45 : decode c_Choices_add 45 = .ok (.aload_n 0, 1) := by decide +kernel
theorem d_Choices_add_46 : decode c_Choices_add 46 = .ok (.getfield 7, 3) := by decide +kernel
theorem d_Choices_add_49 : decode c_Choices_add 49 = .ok (.iload 6, 2) := by decide +kernel
theorem d_Choices_add_51 : decode c_Choices_add 51 = .ok (.iastore, 1) := by decide +kernel
theorem d_Choices_add_52 : decode c_Choices_add 52 = .ok (.aload_n 0, 1) := by decide +kernel
theorem d_Choices_add_53 : decode c_Choices_add 53 = .ok (.dup, 1) := by decide +kernel
theorem d_Choices_add_54 : decode c_Choices_add 54 = .ok (.getfield 7, 3) := by decide +kernel
theorem d_Choices_add_57 : decode c_Choices_add 57 = .ok (.iconst 1, 1) := by decide +kernel
theorem d_Choices_add_58 : decode c_Choices_add 58 = .ok (.iadd, 1) := by decide +kernel
theorem d_Choices_add_59 : decode c_Choices_add 59 = .ok (.putfield 7, 3) := by decide +kernel
theorem d_Choices_add_62 : decode c_Choices_add 62 = .ok (.return_, 1) := by decide +kernel
theorem d_Choices_cutTo_0 : decode c_Choices_cutTo 0 = .ok (.iload_n 1, 1) := by decide +kernel
theorem d_Choices_cutTo_1 : decode c_Choices_cutTo 1 = .ok (.aload_n 0, 1) := by decide +kernel
theorem d_Choices_cutTo_2 : decode c_Choices_cutTo 2 = .ok (.getfield 7, 3) := by decide +kernel
theorem d_Choices_cutTo_5 : decode c_Choices_cutTo 5 = .ok (.if_icmp .ge 8, 3) := by decide +kernel
theorem d_Choices_cutTo_8 : decode c_Choices_cutTo 8 = .ok (.aload_n 0, 1) := by decide +kernel
theorem d_Choices_cutTo_9 : decode c_Choices_cutTo 9 = .ok (.iload_n 1, 1) := by decide +kernel
theorem d_Choices_cutTo_10 : decode c_Choices_cutTo 10 = .ok (.putfield 7, 3) := by decide +kernel
theorem d_Choices_cutTo_13 : decode c_Choices_cutTo 13 = .ok (.return_, 1) := by decide +kernel
theorem d_Frames_init_0 : decode c_Frames_init 0 = .ok (.aload_n 0, 1) := by decide +kernel
theorem d_Frames_init_1 : decode c_Frames_init 1 = .ok (.invokespecial 1, 3) := by decide +kernel
theorem d_Frames_init_4 : decode c_Frames_init 4 = .ok (.aload_n 0, 1) := by decide +kernel
theorem d_Frames_init_5 : decode c_Frames_init 5 = .ok (.iconst 1, 1) := by decide +kernel
theorem d_Frames_init_6 : decode c_Frames_init 6 = .ok (.putfield 7, 3) := by decide +kernel
theorem d_Frames_init_9 : decode c_Frames_init 9 = .ok (.aload_n 0, 1) := by decide +kernel
theorem d_Frames_init_10 : decode c_Frames_init 10 = .ok (.iload_n 1, 1) := by decide +kernel
theorem d_Frames_init_11 : decode c_Frames_init 11 = .ok (.newarray .int, 2) := by decide +kernel
theorem d_Frames_init_13 : decode c_Frames_init 13 = .ok (.putfield 13, 3) := by decide +kernel
theorem d_Frames_init_16 : decode c_Frames_init 16 = .ok (.aload_n 0, 1) := by decide +kernel
theorem d_Frames_init_17 : decode c_Frames_init 17 = .ok (.iload_n 1, 1) := by decide +kernel
theorem d_Frames_init_18 : decode c_Frames_init 18 = .ok (.newarray .int, 2) := by decide +kernel
theorem d_Frames_init_20 : decode c_Frames_init 20 = .ok (.putfield 17, 3) := by decide +kernel
theorem d_Frames_init_23 : decode c_Frames_init 23 = .ok (.aload_n 0, 1) := by decide +kernel
theorem d_Frames_init_24 : decode c_Frames_init 24 = .ok (.iload_n 1, 1) := by decide +kernel
theorem d_Frames_init_25 : decode c_Frames_init 25 = .ok (.newarray .int, 2) := by decide +kernel
theorem d_Frames_init_27 : decode c_Frames_init 27 = .ok (.putfield 20, 3) := by decide +kernel
theorem d_Frames_init_30 : decode c_Frames_init 30 = .ok (.aload_n 0, 1) := by decide +kernel
theorem d_Frames_init_31 : decode c_Frames_init 31 = .ok (.iload_n 1, 1) := by decide +kernel
theorem d_Frames_init_32 : decode c_Frames_init 32 = .ok (.newarray .int, 2) := by decide +kernel
theorem d_Frames_init_34 : decode c_Frames_init 34 = .ok (.putfield 23, 3) := by decide +kernel
theorem d_Frames_init_37 : decode c_Frames_init 37 = .ok (.aload_n 0, 1) := by decide +kernel
theorem d_Frames_init_38 : decode c_Frames_init 38 = .ok (.iload_n 1, 1) := by decide +kernel
theorem d_Frames_init_39 : decode c_Frames_init 39 = .ok (.newarray .long, 2) := by decide +kernel
theorem d_Frames_init_41 : decode c_Frames_init 41 = .ok (.putfield 26, 3) := by decide +kernel
theorem d_Frames_init_44 : decode c_Frames_init 44 = .ok (.aload_n 0, 1) := by decide +kernel
theorem d_Frames_init_45 : decode c_Frames_init 45 = .ok (.iload_n 1, 1) := by decide +kernel
theorem d_Frames_init_46 : decode c_Frames_init 46 = .ok (.newarray .int, 2) := by decide +kernel
theorem d_Frames_init_48 : decode c_Frames_init 48 = .ok (.putfield 30, 3) := by decide +kernel
theorem d_Frames_init_51 : decode c_Frames_init 51 = .ok (.aload_n 0, 1) := by decide +kernel
theorem d_Frames_init_52 : decode c_Frames_init 52 = .ok (.iload_n 1, 1) := by decide +kernel
theorem d_Frames_init_53 : decode c_Frames_init 53 = .ok (.newarray .int, 2) := by decide +kernel
theorem d_Frames_init_55 : decode c_Frames_init 55 = .ok (.putfield 33, 3) := by decide +kernel
theorem d_Frames_init_58 : decode c_Frames_init 58 = .ok (.return_, 1) := by decide +kernel
theorem d_Frames_empty_0 : decode c_Frames_empty 0 = .ok (.aload_n 0, 1) := by decide +kernel
theorem d_Frames_empty_1 : decode c_Frames_empty 1 = .ok (.iconst 1, 1) := by decide +kernel
theorem d_Frames_empty_2 : decode c_Frames_empty 2 = .ok (.putfield 7, 3) := by decide +kernel
theorem d_Frames_empty_5 : decode c_Frames_empty 5 = .ok (.return_, 1) := by decide +kernel
theorem d_Frames_hasRoom_0 : decode c_Frames_hasRoom 0 = .ok (.aload_n 0, 1) := by decide +kernel
theorem d_Frames_hasRoom_1 : decode c_Frames_hasRoom 1 = .ok (.getfield 7, 3) := by decide +kernel
theorem d_Frames_hasRoom_4 : decode c_Frames_hasRoom 4 = .ok (.iload_n 1, 1) := by decide +kernel
theorem d_Frames_hasRoom_5 : decode c_Frames_hasRoom 5 = .ok (.iadd, 1) := by decide +kernel
theorem d_Frames_hasRoom_6 : decode c_Frames_hasRoom 6 = .ok (.aload_n 0, 1) := by decide +kernel
theorem d_Frames_hasRoom_7 : decode c_Frames_hasRoom 7 = .ok (.getfield 13, 3) := by decide +kernel
theorem d_Frames_hasRoom_10 : decode c_Frames_hasRoom 10 = .ok (.arraylength, 1) := by decide +kernel
theorem d_Frames_hasRoom_11 : decode c_Frames_hasRoom 11 = .ok (.if_icmp .gt 7, 3) := by decide +kernel
theorem d_Frames_hasRoom_14 : decode c_Frames_hasRoom 14 = .ok (.iconst 1, 1) := by decide +kernel
theorem d_Frames_hasRoom_15 : decode c_Frames_hasRoom 15 = .ok (.goto 4, 3) := by decide +kernel
theorem d_Frames_hasRoom_18 : decode c_Frames_hasRoom 18 = .ok (.iconst 0, 1) := by decide +kernel
theorem d_Frames_hasRoom_19 : decode c_Frames_hasRoom 19 = .ok (.ireturn, 1) := by decide +kernel
theorem d_Frames_add_0 : decode c_Frames_add 0 = .ok (.aload_n 0, 1) := by decide +kernel
theorem d_Frames_add_1 : decode c_Frames_add 1 = .ok (.getfield 7, 3) := by decide +kernel
theorem d_Frames_add_4 : decode c_Frames_add 4 = .ok (.istore 8, 2) := by decide +kernel
theorem d_Frames_add_6 : decode c_Frames_add 6 = .ok (.aload_n 0, 1) := by decide +kernel
theorem d_Frames_add_7 : decode c_Frames_add 7 = .ok (.getfield 13, 3) := by decide +kernel
theorem d_Frames_add_10 : decode c_Frames_add 10 = .ok (.iload 8, 2) := by decide +kernel
theorem d_Frames_add_12 : decode c_Frames_add 12 = .ok (.iload_n 1, 1) := by decide +kernel
theorem d_Frames_add_13 : decode c_Frames_add 13 = .ok (.iastore, 1) := by decide +kernel
theorem d_Frames_add_14 : decode c_Frames_add 14 = .ok (.aload_n 0, 1) := by decide +kernel
theorem d_Frames_add_15 : decode c_Frames_add 15 = .ok (.getfield 17, 3) := by decide +kernel
theorem d_Frames_add_18 : decode c_Frames_add 18 = .ok (.iload 8, 2) := by decide +kernel
theorem d_Frames_add_20 : decode c_Frames_add 20 = .ok (.iload_n 2, 1) := by decide +kernel
theorem d_Frames_add_21 : decode c_Frames_add 21 = .ok (.iastore, 1) := by decide +kernel
theorem d_Frames_add_22 : decode c_Frames_add 22 = .ok (.aload_n 0, 1) := by decide +kernel
theorem d_Frames_add_23 : decode c_Frames_add 23 = .ok (.getfield 20, 3) := by decide +kernel
theorem d_Frames_add_26 : decode c_Frames_add 26 = .ok (.iload 8, 2) := by decide +kernel
theorem d_Frames_add_28 : decode c_Frames_add 28 = .ok (.iload_n 3, 1) := by decide +kernel
theorem d_Frames_add_29 : decode c_Frames_add 29 = .ok (.iastore, 1) := by decide +kernel
theorem d_Frames_add_30 : decode c_Frames_add 30 = .ok (.aload_n 0, 1) := by decide +kernel
theorem d_Frames_add_31 : decode c_Frames_add 31 = .ok (.getfield 23, 3) := by decide +kernel
theorem d_Frames_add_34 : decode c_Frames_add 34 = .ok (.iload 8, 2) := by decide +kernel
theorem d_Frames_add_36 : decode c_Frames_add 36 = .ok (.iload 4, 2) := by decide +kernel
theorem d_Frames_add_38 : decode c_Frames_add 38 = .ok (.iastore, 1) := by decide +kernel
theorem d_Frames_add_39 : decode c_Frames_add 39 = .ok (.aload_n 0, 1) := by decide +kernel
theorem d_Frames_add_40 : decode c_Frames_add 40 = .ok (.getfield 26, 3) := by decide +kernel
theorem d_Frames_add_43 : decode c_Frames_add 43 = .ok (.iload 8, 2) := by decide +kernel
theorem d_Frames_add_45 : decode c_Frames_add 45 = .ok (.lload 5, 2) := by decide +kernel
theorem d_Frames_add_47 : decode c_Frames_add 47 = .ok (.lastore, 1) := by decide +kernel
theorem d_Frames_add_48 : decode c_Frames_add 48 = .ok (.aload_n 0, 1) := by decide +kernel
theorem d_Frames_add_49 : decode c_Frames_add 49 = .ok (.getfield 30, 3) := by decide +kernel
theorem d_Frames_add_52 : decode c_Frames_add 52 = .ok (.iload 8, 2) := by decide +kernel
theorem d_Frames_add_54 : decode c_Frames_add 54 = .ok (.iload 7, 2) := by decide +kernel
theorem d_Frames_add_56 : decode c_Frames_add 56 = .ok (.iastore, 1) := by decide +kernel
theorem d_Frames_add_57 : decode c_Frames_add 57 = .ok (.aload_n 0, 1) := by decide +kernel
theorem d_Frames_add_58 : decode c_Frames_add 58 = .ok (.getfield 33, 3) := by decide +kernel
theorem d_Frames_add_61 : decode c_Frames_add 61 = .ok (.iload 8, 2) := by decide +kernel
theorem d_Frames_add_63 : decode c_Frames_add 63 = .ok (.iload_n 1, 1) := by decide +kernel
theorem d_Frames_add_64 : decode c_Frames_add 64 = .ok (.iconst 2, 1) := by decide +kernel
theorem d_Frames_add_65 : decode c_Frames_add 65 = .ok (.if_icmp .ne 15, 3) := by decide +kernel
theorem d_Frames_add_68 : decode c_Frames_add 68 = .ok (.aload_n 0, 1) := by decide +kernel
theorem d_Frames_add_69 : decode c_Frames_add 69 = .ok (.getfield 33, 3) := by decide +kernel
theorem d_Frames_add_72 : decode c_Frames_add 72 = .ok (.iload 7, 2) := by decide +kernel
theorem d_Frames_add_74 : decode c_Frames_add 74 = .ok (.iaload, 1) := by decide +kernel
theorem d_Frames_add_75 : decode c_Frames_add 75 = .ok (.iconst 1, 1) := by decide +kernel
theorem d_Frames_add_76 : decode c_Frames_add 76 = .ok (.iadd, 1) := by decide +kernel
theorem d_Frames_add_77 : decode c_Frames_add 77 = .ok (.goto 10, 3) := by decide +kernel
theorem d_Frames_add_80 : decode c_Frames_add 80 = .ok (.aload_n 0, 1) := by decide +kernel
theorem d_Frames_add_81 : decode c_Frames_add 81 = .ok (.getfield 33, 3) := by decide +kernel
theorem d_Frames_add_84 : decode c_Frames_add 84 = .ok (.iload 7, 2) := by decide +kernel
theorem d_Frames_add_86 : decode c_Frames_add 86 = .ok (.iaload, 1) := by decide +kernel
theorem d_Frames_add_87 : decode c_Frames_add 87 = .ok (.iastore, 1) := by decide +kernel
theorem d_Frames_add_88 : decode c_Frames_add 88 = .ok (.aload_n 0, 1) := by decide +kernel
theorem d_Frames_add_89 : decode c_Frames_add 89 = .ok (.dup, 1) := by decide +kernel
theorem d_Frames_add_90 : decode c_Frames_add 90 = .ok (.getfield 7, 3) := by decide +kernel
theorem d_Frames_add_93 : decode c_Frames_add 93 = .ok (.iconst 1, 1) := by decide +kernel
theorem d_Frames_add_94 : decode c_Frames_add 94 = .ok (.iadd, 1) := by decide +kernel
theorem d_Frames_add_95 : decode c_Frames_add 95 = .ok (.putfield 7, 3) := by decide +kernel
theorem d_Frames_add_98 : decode c_Frames_add 98 = .ok (.iload 8, 2) := by decide +kernel
theorem d_Frames_add_100 : decode c_Frames_add 100 = .ok (.ireturn, 1) := by decide +kernel
theorem d_Matcher_init_0 : decode c_Matcher_init 0 = .ok (.aload_n 0, 1) := by decide +kernel
theorem d_Matcher_init_1 : decode c_Matcher_init 1 = .ok (.invokespecial 3, 3) := by decide +kernel
theorem d_Matcher_init_4 : decode c_Matcher_init 4 = .ok (.aload_n 0, 1) := by decide +kernel
theorem d_Matcher_init_5 : decode c_Matcher_init 5 = .ok (.new 9, 3) := by decide +kernel
theorem d_Matcher_init_8 : decode c_Matcher_init 8 = .ok (.dup, 1) := by decide +kernel
theorem d_Matcher_init_9 : decode c_Matcher_init 9 = .ok (.bipush 40, 2) := by decide +kernel
theorem d_Matcher_init_11 : decode c_Matcher_init 11 = .ok (.invokespecial 11, 3) := by decide +kernel
theorem d_Matcher_init_14 : decode c_Matcher_init 14 = .ok (.putfield 14, 3) := by decide +kernel
theorem d_Matcher_init_17 : decode c_Matcher_init 17 = .ok (.aload_n 0, 1) := by decide +kernel
theorem d_Matcher_init_18 : decode c_Matcher_init 18 = .ok (.new 20, 3) := by decide +kernel
theorem d_Matcher_init_21 : decode c_Matcher_init 21 = .ok (.dup, 1) := by decide +kernel
theorem d_Matcher_init_22 : decode c_Matcher_init 22 = .ok (.invokespecial 22, 3) := by decide +kernel
theorem d_Matcher_init_25 : decode c_Matcher_init 25 = .ok (.putfield 23, 3) := by decide +kernel
theorem d_Matcher_init_28 : decode c_Matcher_init 28 = .ok (.aload_n 0, 1) := by decide +kernel
theorem d_Matcher_init_29 : decode c_Matcher_init 29 = .ok (.bipush 9, 2) := by decide +kernel
theorem d_Matcher_init_31 : decode c_Matcher_init 31 = .ok (.putfield 27, 3) := by decide +kernel
theorem d_Matcher_init_34 : decode c_Matcher_init 34 = .ok (.aload_n 0, 1) := by decide +kernel
theorem d_Matcher_init_35 : decode c_Matcher_init 35 = .ok (.iconst (-1), 1) := by decide +kernel
theorem d_Matcher_init_36 : decode c_Matcher_init 36 = .ok (.putfield 31, 3) := by decide +kernel
theorem d_Matcher_init_39 : decode c_Matcher_init 39 = .ok (.aload_n 0, 1) := by decide +kernel
theorem d_Matcher_init_40 : decode c_Matcher_init 40 = .ok (.iconst 0, 1) := by decide +kernel
theorem d_Matcher_init_41 : decode c_Matcher_init 41 = .ok (.putfield 34, 3) := by decide +kernel
theorem d_Matcher_init_44 : decode c_Matcher_init 44 = .ok (.aload_n 0, 1) := by decide +kernel
theorem d_Matcher_init_45 : decode c_Matcher_init 45 = .ok (.iconst 0, 1) := by decide +kernel
theorem d_Matcher_init_46 : decode c_Matcher_init 46 = .ok (.putfield 37, 3) := by decide +kernel
theorem d_Matcher_init_49 : decode c_Matcher_init 49 = .ok (.aload_n 0, 1) := by decide +kernel
theorem d_Matcher_init_50 : decode c_Matcher_init 50 = .ok (.lconst 0, 1) := by decide +kernel
theorem d_Matcher_init_51 : decode c_Matcher_init 51 = .ok (.putfield 40, 3) := by decide +kernel
theorem d_Matcher_init_54 : decode c_Matcher_init 54 = .ok (.aload_n 0, 1) := by decide +kernel
theorem d_Matcher_init_55 : decode c_Matcher_init 55 = .ok (.iconst 0, 1) := by decide +kernel
theorem d_Matcher_init_56 : decode c_Matcher_init 56 = .ok (.putfield 44, 3) := by decide +kernel
theorem d_Matcher_init_59 : decode c_Matcher_init 59 = .ok (.aload_n 0, 1) := by decide +kernel
theorem d_Matcher_init_60 : decode c_Matcher_init 60 = .ok (.iload_n 1, 1) := by decide +kernel
theorem d_Matcher_init_61 : decode c_Matcher_init 61 = .ok (.putfield 47, 3) := by decide +kernel
theorem d_Matcher_init_64 : decode c_Matcher_init 64 = .ok (.aload_n 0, 1) := by decide +kernel
theorem d_Matcher_init_65 : decode c_Matcher_init 65 = .ok (.new 50, 3) := by decide +kernel
theorem d_Matcher_init_68 : decode c_Matcher_init 68 = .ok (.dup, 1) := by decide +kernel
theorem d_Matcher_init_69 : decode c_Matcher_init 69 = .ok (.iconst 3, 1) := by decide +kernel
theorem d_Matcher_init_70 : decode c_Matcher_init 70 = .ok (.iload_n 1, 1) := by decide +kernel
theorem d_Matcher_init_71 : decode c_Matcher_init 71 = .ok (.iconst 1, 1) := by decide +kernel
theorem d_Matcher_init_72 : decode c_Matcher_init 72 = .ok (.iadd, 1) := by decide +kernel
theorem d_Matcher_init_73 : decode c_Matcher_init 73 = .ok (.imul, 1) := by decide +kernel
theorem d_Matcher_init_74 : decode c_Matcher_init 74 = .ok (.iconst 4, 1) := by decide +kernel
theorem d_Matcher_init_75 : decode c_Matcher_init 75 = .ok (.iadd, 1) := by decide +kernel
theorem d_Matcher_init_76 : decode c_Matcher_init 76 = .ok (.invokespecial 52, 3) := by decide +kernel
theorem d_Matcher_init_79 : decode c_Matcher_init 79 = .ok (.putfield 53, 3) := by decide +kernel
theorem d_Matcher_init_82 : decode c_Matcher_init 82 = .ok (.aload_n 0, 1) := by decide +kernel
theorem d_Matcher_init_83 : decode c_Matcher_init 83 = .ok (.new 57, 3) := by decide +kernel
theorem d_Matcher_init_86 : decode c_Matcher_init 86 = .ok (.dup, 1) := by decide +kernel
theorem d_Matcher_init_87 : decode c_Matcher_init 87 = .ok (.bipush 13, 2) := by decide +kernel
theorem d_Matcher_init_89 : decode c_Matcher_init 89 = .ok (.iload_n 1, 1) := by decide +kernel
theorem d_Matcher_init_90 : decode c_Matcher_init 90 = .ok (.iconst 1, 1) := by decide +kernel
theorem d_Matcher_init_91 : decode c_Matcher_init 91 = .ok (.iadd, 1) := by decide +kernel
theorem d_Matcher_init_92 : decode c_Matcher_init 92 = .ok (.imul, 1) := by decide +kernel
theorem d_Matcher_init_93 : decode c_Matcher_init 93 = .ok (.iconst 4, 1) := by decide +kernel
theorem d_Matcher_init_94 : decode c_Matcher_init 94 = .ok (.iadd, 1) := by decide +kernel
theorem d_Matcher_init_95 : decode c_Matcher_init 95 = .ok (.invokespecial 59, 3) := by decide +kernel
theorem d_Matcher_init_98 : decode c_Matcher_init 98 = .ok (.putfield 60, 3) := by decide +kernel
theorem d_Matcher_init_101 : decode c_Matcher_init 101 = .ok (.return_, 1) := by decide +kernel
theorem d_Matcher_find_0 : decode c_Matcher_find 0 = .ok (.aload_n 0, 1) := by decide +kernel
theorem d_Matcher_find_1 : decode c_Matcher_find 1 = .ok (.iconst 0, 1) := by decide +kernel
theorem d_Matcher_find_2 : decode c_Matcher_find 2 = .ok (.putfield 44, 3) := by decide +kernel
theorem d_Matcher_find_5 : decode c_Matcher_find 5 = .ok (.iload_n 1, 1) := by decide +kernel
theorem d_Matcher_find_6 : decode c_Matcher_find 6 = .ok (.istore_n 2, 1) := by decide +kernel
theorem d_Matcher_find_7 : decode c_Matcher_find 7 = .ok (.iload_n 2, 1) := by decide +kernel
theorem d_Matcher_find_8 : decode c_Matcher_find 8 = .ok (.aload_n 0, 1) := by decide +kernel
theorem d_Matcher_find_9 : decode c_Matcher_find 9 = .ok (.getfield 14, 3) := by decide +kernel
theorem d_Matcher_find_12 : decode c_Matcher_find 12 = .ok (.getfield 64, 3) := by decide +kernel
theorem d_Matcher_find_15 : decode c_Matcher_find 15 = .ok (.if_icmp .gt 64, 3) := by decide +kernel
theorem d_Matcher_find_18 : decode c_Matcher_find 18 = .ok (.aload_n 0, 1) := by decide +kernel
theorem d_Matcher_find_19 : decode c_Matcher_find 19 = .ok (.iload_n 2, 1) := by decide +kernel
theorem d_Matcher_find_20 : decode c_Matcher_find 20 = .ok (.invokevirtual 67, 3) := by decide +kernel
theorem d_Matcher_find_23 : decode c_Matcher_find 23 = .ok (.iconst 0, 1) := by decide +kernel
theorem d_Matcher_find_24 : decode c_Matcher_find 24 = .ok (.istore_n 3, 1) := by decide +kernel
theorem d_Matcher_find_25 : decode c_Matcher_find 25 = .ok (.iload_n 3, 1) := by decide +kernel
theorem d_Matcher_find_26 : decode c_Matcher_find 26 = .ok (.ldc 70, 2) := by decide +kernel
theorem d_Matcher_find_28 : decode c_Matcher_find 28 = .ok (.if_icmp .ge 20, 3) := by decide +kernel
theorem d_Matcher_find_31 : decode c_Matcher_find 31 = .ok (.aload_n 0, 1) := by decide +kernel
theorem d_Matcher_find_32 : decode c_Matcher_find 32 = .ok (.invokevirtual 71, 3) := by decide +kernel
theorem d_Matcher_find_35 : decode c_Matcher_find 35 = .ok (.ifCond .eq 13, 3) := by decide +kernel
theorem d_Matcher_find_38 : decode c_Matcher_find 38 = .ok (.aload_n 0, 1) := by decide +kernel
theorem d_Matcher_find_39 : decode c_Matcher_find 39 = .ok (.invokevirtual 75, 3) := by decide +kernel
theorem d_Matcher_find_42 : decode c_Matcher_find 42 = .ok (.iinc 3 1, 3) := by decide +kernel
theorem d_Matcher_find_45 : decode c_Matcher_find 45 = .ok (.goto (-20), 3) := by decide +kernel
theorem d_Matcher_find_48 : decode c_Matcher_find 48 = .ok (.aload_n 0, 1) := by decide +kernel
theorem d_Matcher_find_49 : decode c_Matcher_find 49 = .ok (.getfield 27, 3) := by decide +kernel
theorem d_Matcher_find_52 : decode c_Matcher_find 52 = .ok (.bipush 9, 2) := by decide +kernel
theorem d_Matcher_find_54 : decode c_Matcher_find 54 = .ok (.if_icmp .eq 19, 3) := by decide +kernel
theorem d_Matcher_find_57 : decode c_Matcher_find 57 = .ok (.aload_n 0, 1) := by decide +kernel
theorem d_Matcher_find_58 : decode c_Matcher_find 58 = .ok (.getfield 27, 3) := by decide +kernel
theorem d_Matcher_find_61 : decode c_Matcher_find 61 = .ok (.bipush 8, 2) := by decide +kernel
theorem d_Matcher_find_63 : decode c_Matcher_find 63 = .ok (.if_icmp .ne 7, 3) := by decide +kernel
theorem d_Matcher_find_66 : decode c_Matcher_find 66 = .ok (.iload_n 2, 1) := by decide +kernel
theorem d_Matcher_find_67 : decode c_Matcher_find 67 = .ok (.goto 5, 3) := by decide +kernel
theorem d_Matcher_find_70 : decode c_Matcher_find 70 = .ok (.bipush (-5), 2) := by decide +kernel
theorem d_Matcher_find_72 : decode c_Matcher_find 72 = .ok (.ireturn, 1) := by decide +kernel
theorem d_Matcher_find_73 : decode c_Matcher_find 73 = .ok (.iinc 2 1, 3) := by decide +kernel
theorem d_Matcher_find_76 : decode c_Matcher_find 76 = .ok (.goto (-69), 3) := by decide +kernel
theorem d_Matcher_find_79 : decode c_Matcher_find 79 = .ok (.bipush (-4), 2) := by decide +kernel
theorem d_Matcher_find_81 : decode c_Matcher_find 81 = .ok (.ireturn, 1) := by decide +kernel
theorem d_Matcher_beginAt_0 : decode c_Matcher_beginAt 0 = .ok (.aload_n 0, 1) := by decide +kernel
theorem d_Matcher_beginAt_1 : decode c_Matcher_beginAt 1 = .ok (.getfield 53, 3) := by decide +kernel
theorem d_Matcher_beginAt_4 : decode c_Matcher_beginAt 4 = .ok (.invokevirtual 78, 3) := by decide +kernel
theorem d_Matcher_beginAt_7 : decode c_Matcher_beginAt 7 = .ok (.aload_n 0, 1) := by decide +kernel
theorem d_Matcher_beginAt_8 : decode c_Matcher_beginAt 8 = .ok (.getfield 60, 3) := by decide +kernel
theorem d_Matcher_beginAt_11 : decode c_Matcher_beginAt 11 = .ok (.iconst 0, 1) := by decide +kernel
theorem d_Matcher_beginAt_12 : decode c_Matcher_beginAt 12 = .ok (.invokevirtual 81, 3) := by decide +kernel
theorem d_Matcher_beginAt_15 : decode c_Matcher_beginAt 15 = .ok (.aload_n 0, 1) := by decide +kernel
theorem d_Matcher_beginAt_16 : decode c_Matcher_beginAt 16 = .ok (.iconst 0, 1) := by decide +kernel
theorem d_Matcher_beginAt_17 : decode c_Matcher_beginAt 17 = .ok (.putfield 34, 3) := by decide +kernel
theorem d_Matcher_beginAt_20 : decode c_Matcher_beginAt 20 = .ok (.aload_n 0, 1) := by decide +kernel
theorem d_Matcher_beginAt_21 : decode c_Matcher_beginAt 21 = .ok (.iload_n 1, 1) := by decide +kernel
theorem d_Matcher_beginAt_22 : decode c_Matcher_beginAt 22 = .ok (.putfield 37, 3) := by decide +kernel
theorem d_Matcher_beginAt_25 : decode c_Matcher_beginAt 25 = .ok (.aload_n 0, 1) := by decide +kernel
theorem d_Matcher_beginAt_26 : decode c_Matcher_beginAt 26 = .ok (.lconst 0, 1) := by decide +kernel
theorem d_Matcher_beginAt_27 : decode c_Matcher_beginAt 27 = .ok (.putfield 40, 3) := by decide +kernel
theorem d_Matcher_beginAt_30 : decode c_Matcher_beginAt 30 = .ok (.aload_n 0, 1) := by decide +kernel
theorem d_Matcher_beginAt_31 : decode c_Matcher_beginAt 31 = .ok (.iconst 0, 1) := by decide +kernel
theorem d_Matcher_beginAt_32 : decode c_Matcher_beginAt 32 = .ok (.aload_n 0, 1) := by decide +kernel
theorem d_Matcher_beginAt_33 : decode c_Matcher_beginAt 33 = .ok (.getfield 23, 3) := by decide +kernel
theorem d_Matcher_beginAt_36 : decode c_Matcher_beginAt 36 = .ok (.getfield 84, 3) := by decide +kernel
theorem d_Matcher_beginAt_39 : decode c_Matcher_beginAt 39 = .ok (.iconst 0, 1) := by decide +kernel
theorem d_Matcher_beginAt_40 : decode c_Matcher_beginAt 40 = .ok (.iaload, 1) := by decide +kernel
theorem d_Matcher_beginAt_41 : decode c_Matcher_beginAt 41 = .ok (.invokevirtual 88, 3) := by decide +kernel
theorem d_Matcher_beginAt_44 : decode c_Matcher_beginAt 44 = .ok (.return_, 1) := by decide +kernel
theorem d_Matcher_goesOn_0 : decode c_Matcher_goesOn 0 = .ok (.aload_n 0, 1) := by decide +kernel
theorem d_Matcher_goesOn_1 : decode c_Matcher_goesOn 1 = .ok (.getfield 27, 3) := by decide +kernel
theorem d_Matcher_goesOn_4 : decode c_Matcher_goesOn 4 = .ok (.bipush 8, 2) := by decide +kernel
theorem d_Matcher_goesOn_6 : decode c_Matcher_goesOn 6 = .ok (.if_icmp .ge 29, 3) := by decide +kernel
theorem d_Matcher_goesOn_9 : decode c_Matcher_goesOn 9 = .ok (.aload_n 0, 1) := by decide +kernel
theorem d_Matcher_goesOn_10 : decode c_Matcher_goesOn 10 = .ok (.getfield 53, 3) := by decide +kernel
theorem d_Matcher_goesOn_13 : decode c_Matcher_goesOn 13 = .ok (.iconst 2, 1) := by decide +kernel
theorem d_Matcher_goesOn_14 : decode c_Matcher_goesOn 14 = .ok (.invokevirtual 92, 3) := by decide +kernel
theorem d_Matcher_goesOn_17 : decode c_Matcher_goesOn 17 = .ok (.ifCond .eq 18, 3) := by decide +kernel
theorem d_Matcher_goesOn_20 : decode c_Matcher_goesOn 20 = .ok (.aload_n 0, 1) := by decide +kernel
theorem d_Matcher_goesOn_21 : decode c_Matcher_goesOn 21 = .ok (.getfield 60, 3) := by decide +kernel
theorem d_Matcher_goesOn_24 : decode c_Matcher_goesOn 24 = .ok (.iconst 1, 1) := by decide +kernel
theorem d_Matcher_goesOn_25 : decode c_Matcher_goesOn 25 = .ok (.invokevirtual 96, 3) := by decide +kernel
theorem d_Matcher_goesOn_28 : decode c_Matcher_goesOn 28 = .ok (.ifCond .eq 7, 3) := by decide +kernel
theorem d_Matcher_goesOn_31 : decode c_Matcher_goesOn 31 = .ok (.iconst 1, 1) := by decide +kernel
theorem d_Matcher_goesOn_32 : decode c_Matcher_goesOn 32 = .ok (.goto 4, 3) := by decide +kernel
theorem d_Matcher_goesOn_35 : decode c_Matcher_goesOn 35 = .ok (.iconst 0, 1) := by decide +kernel
theorem d_Matcher_goesOn_36 : decode c_Matcher_goesOn 36 = .ok (.ireturn, 1) := by decide +kernel
theorem d_Matcher_go_0 : decode c_Matcher_go 0 = .ok (.aload_n 0, 1) := by decide +kernel
theorem d_Matcher_go_1 : decode c_Matcher_go 1 = .ok (.iload_n 1, 1) := by decide +kernel
theorem d_Matcher_go_2 : decode c_Matcher_go 2 = .ok (.putfield 27, 3) := by decide +kernel
theorem d_Matcher_go_5 : decode c_Matcher_go 5 = .ok (.aload_n 0, 1) := by decide +kernel
theorem d_Matcher_go_6 : decode c_Matcher_go 6 = .ok (.iload_n 2, 1) := by decide +kernel
theorem d_Matcher_go_7 : decode c_Matcher_go 7 = .ok (.putfield 31, 3) := by decide +kernel
theorem d_Matcher_go_10 : decode c_Matcher_go 10 = .ok (.return_, 1) := by decide +kernel
theorem d_Matcher_takeTurn_0 : decode c_Matcher_takeTurn 0 = .ok (.aload_n 0, 1) := by decide +kernel
theorem d_Matcher_takeTurn_1 : decode c_Matcher_takeTurn 1 = .ok (.getfield 27, 3) := by decide +kernel
theorem d_Matcher_takeTurn_4 : decode c_Matcher_takeTurn 4 = .ok (.tableswitch 121 0 6 #[44, 55, 66, 77, 88, 99, 110], 44) := by decide +kernel
theorem d_Matcher_takeTurn_48 : decode c_Matcher_takeTurn 48 = .ok (.aload_n 0, 1) := by decide +kernel
theorem d_Matcher_takeTurn_49 : decode c_Matcher_takeTurn 49 = .ok (.aload_n 0, 1) := by decide +kernel
theorem d_Matcher_takeTurn_50 : decode c_Matcher_takeTurn 50 = .ok (.getfield 31, 3) := by decide +kernel
theorem d_Matcher_takeTurn_53 : decode c_Matcher_takeTurn 53 = .ok (.invokevirtual 97, 3) := by decide +kernel
theorem d_Matcher_takeTurn_56 : decode c_Matcher_takeTurn 56 = .ok (.goto 73, 3) := by decide +kernel
theorem d_Matcher_takeTurn_59 : decode c_Matcher_takeTurn 59 = .ok (.aload_n 0, 1) := by decide +kernel
theorem d_Matcher_takeTurn_60 : decode c_Matcher_takeTurn 60 = .ok (.aload_n 0, 1) := by decide +kernel
theorem d_Matcher_takeTurn_61 : decode c_Matcher_takeTurn 61 = .ok (.getfield 31, 3) := by decide +kernel
theorem d_Matcher_takeTurn_64 : decode c_Matcher_takeTurn 64 = .ok (.invokevirtual 100, 3) := by decide +kernel
theorem d_Matcher_takeTurn_67 : decode c_Matcher_takeTurn 67 = .ok (.goto 62, 3) := by decide +kernel
theorem d_Matcher_takeTurn_70 : decode c_Matcher_takeTurn 70 = .ok (.aload_n 0, 1) := by decide +kernel
theorem d_Matcher_takeTurn_71 : decode c_Matcher_takeTurn 71 = .ok (.aload_n 0, 1) := by decide +kernel
theorem d_Matcher_takeTurn_72 : decode c_Matcher_takeTurn 72 = .ok (.getfield 31, 3) := by decide +kernel
theorem d_Matcher_takeTurn_75 : decode c_Matcher_takeTurn 75 = .ok (.invokevirtual 103, 3) := by decide +kernel
theorem d_Matcher_takeTurn_78 : decode c_Matcher_takeTurn 78 = .ok (.goto 51, 3) := by decide +kernel
theorem d_Matcher_takeTurn_81 : decode c_Matcher_takeTurn 81 = .ok (.aload_n 0, 1) := by decide +kernel
theorem d_Matcher_takeTurn_82 : decode c_Matcher_takeTurn 82 = .ok (.aload_n 0, 1) := by decide +kernel
theorem d_Matcher_takeTurn_83 : decode c_Matcher_takeTurn 83 = .ok (.getfield 31, 3) := by decide +kernel
theorem d_Matcher_takeTurn_86 : decode c_Matcher_takeTurn 86 = .ok (.invokevirtual 106, 3) := by decide +kernel
theorem d_Matcher_takeTurn_89 : decode c_Matcher_takeTurn 89 = .ok (.goto 40, 3) := by decide +kernel
theorem d_Matcher_takeTurn_92 : decode c_Matcher_takeTurn 92 = .ok (.aload_n 0, 1) := by decide +kernel
theorem d_Matcher_takeTurn_93 : decode c_Matcher_takeTurn 93 = .ok (.aload_n 0, 1) := by decide +kernel
theorem d_Matcher_takeTurn_94 : decode c_Matcher_takeTurn 94 = .ok (.getfield 31, 3) := by decide +kernel
theorem d_Matcher_takeTurn_97 : decode c_Matcher_takeTurn 97 = .ok (.invokevirtual 109, 3) := by decide +kernel
theorem d_Matcher_takeTurn_100 : decode c_Matcher_takeTurn 100 = .ok (.goto 29, 3) := by decide +kernel
theorem d_Matcher_takeTurn_103 : decode c_Matcher_takeTurn 103 = .ok (.aload_n 0, 1) := by decide +kernel
theorem d_Matcher_takeTurn_104 : decode c_Matcher_takeTurn 104 = .ok (.aload_n 0, 1) := by decide +kernel
theorem d_Matcher_takeTurn_105 : decode c_Matcher_takeTurn 105 = .ok (.getfield 31, 3) := by decide +kernel
theorem d_Matcher_takeTurn_108 : decode c_Matcher_takeTurn 108 = .ok (.invokevirtual 112, 3) := by decide +kernel
theorem d_Matcher_takeTurn_111 : decode c_Matcher_takeTurn 111 = .ok (.goto 18, 3) := by decide +kernel
theorem d_Matcher_takeTurn_114 : decode c_Matcher_takeTurn 114 = .ok (.aload_n 0, 1) := by decide +kernel
theorem d_Matcher_takeTurn_115 : decode c_Matcher_takeTurn 115 = .ok (.aload_n 0, 1) := by decide +kernel
theorem d_Matcher_takeTurn_116 : decode c_Matcher_takeTurn 116 = .ok (.getfield 34, 3) := by decide +kernel
theorem d_Matcher_takeTurn_119 : decode c_Matcher_takeTurn 119 = .ok (.invokevirtual 115, 3) := by decide +kernel
theorem d_Matcher_takeTurn_122 : decode c_Matcher_takeTurn 122 = .ok (.goto 7, 3) := by decide +kernel
theorem d_Matcher_takeTurn_125 : decode c_Matcher_takeTurn 125 = .ok (.aload_n 0, 1) := by decide +kernel
theorem d_Matcher_takeTurn_126 : decode c_Matcher_takeTurn 126 = .ok (.invokevirtual 118, 3) := by decide +kernel
theorem d_Matcher_takeTurn_129 : decode c_Matcher_takeTurn 129 = .ok (.return_, 1) := by decide +kernel
theorem d_Matcher_enterRow_0 : decode c_Matcher_enterRow 0 = .ok (.aload_n 0, 1) := by decide +kernel
theorem d_Matcher_enterRow_1 : decode c_Matcher_enterRow 1 = .ok (.getfield 23, 3) := by decide +kernel
theorem d_Matcher_enterRow_4 : decode c_Matcher_enterRow 4 = .ok (.getfield 121, 3) := by decide +kernel
theorem d_Matcher_enterRow_7 : decode c_Matcher_enterRow 7 = .ok (.iload_n 1, 1) := by decide +kernel
theorem d_Matcher_enterRow_8 : decode c_Matcher_enterRow 8 = .ok (.iaload, 1) := by decide +kernel
theorem d_Matcher_enterRow_9 : decode c_Matcher_enterRow 9 = .ok (.istore_n 2, 1) := by decide +kernel
theorem d_Matcher_enterRow_10 : decode c_Matcher_enterRow 10 = .ok (.iload_n 2, 1) := by decide +kernel
theorem d_Matcher_enterRow_11 : decode c_Matcher_enterRow 11 = .ok (.iconst (-1), 1) := by decide +kernel
theorem d_Matcher_enterRow_12 : decode c_Matcher_enterRow 12 = .ok (.if_icmp .eq 24, 3) := by decide +kernel
theorem d_Matcher_enterRow_15 : decode c_Matcher_enterRow 15 = .ok (.aload_n 0, 1) := by decide +kernel
theorem d_Matcher_enterRow_16 : decode c_Matcher_enterRow 16 = .ok (.getfield 60, 3) := by decide +kernel
theorem d_Matcher_enterRow_19 : decode c_Matcher_enterRow 19 = .ok (.iconst 0, 1) := by decide +kernel
theorem d_Matcher_enterRow_20 : decode c_Matcher_enterRow 20 = .ok (.iload_n 2, 1) := by decide +kernel
theorem d_Matcher_enterRow_21 : decode c_Matcher_enterRow 21 = .ok (.aload_n 0, 1) := by decide +kernel
theorem d_Matcher_enterRow_22 : decode c_Matcher_enterRow 22 = .ok (.getfield 37, 3) := by decide +kernel
theorem d_Matcher_enterRow_25 : decode c_Matcher_enterRow 25 = .ok (.aload_n 0, 1) := by decide +kernel
theorem d_Matcher_enterRow_26 : decode c_Matcher_enterRow 26 = .ok (.getfield 40, 3) := by decide +kernel
theorem d_Matcher_enterRow_29 : decode c_Matcher_enterRow 29 = .ok (.aload_n 0, 1) := by decide +kernel
theorem d_Matcher_enterRow_30 : decode c_Matcher_enterRow 30 = .ok (.getfield 34, 3) := by decide +kernel
theorem d_Matcher_enterRow_33 : decode c_Matcher_enterRow 33 = .ok (.invokevirtual 124, 3) := by decide +kernel
theorem d_Matcher_enterRow_36 : decode c_Matcher_enterRow 36 = .ok (.aload_n 0, 1) := by decide +kernel
theorem d_Matcher_enterRow_37 : decode c_Matcher_enterRow 37 = .ok (.iconst 1, 1) := by decide +kernel
theorem d_Matcher_enterRow_38 : decode c_Matcher_enterRow 38 = .ok (.aload_n 0, 1) := by decide +kernel
theorem d_Matcher_enterRow_39 : decode c_Matcher_enterRow 39 = .ok (.getfield 23, 3) := by decide +kernel
theorem d_Matcher_enterRow_42 : decode c_Matcher_enterRow 42 = .ok (.getfield 128, 3) := by decide +kernel
theorem d_Matcher_enterRow_45 : decode c_Matcher_enterRow 45 = .ok (.iload_n 1, 1) := by decide +kernel
theorem d_Matcher_enterRow_46 : decode c_Matcher_enterRow 46 = .ok (.iaload, 1) := by decide +kernel
theorem d_Matcher_enterRow_47 : decode c_Matcher_enterRow 47 = .ok (.invokevirtual 88, 3) := by decide +kernel
theorem d_Matcher_enterRow_50 : decode c_Matcher_enterRow 50 = .ok (.return_, 1) := by decide +kernel
theorem d_Matcher_enterItem_0 : decode c_Matcher_enterItem 0 = .ok (.iload_n 1, 1) := by decide +kernel
theorem d_Matcher_enterItem_1 : decode c_Matcher_enterItem 1 = .ok (.iconst (-1), 1) := by decide +kernel
theorem d_Matcher_enterItem_2 : decode c_Matcher_enterItem 2 = .ok (.if_icmp .ne 10, 3) := by decide +kernel
theorem d_Matcher_enterItem_5 : decode c_Matcher_enterItem 5 = .ok (.aload_n 0, 1) := by decide +kernel
theorem d_Matcher_enterItem_6 : decode c_Matcher_enterItem 6 = .ok (.bipush 6, 2) := by decide +kernel
theorem d_Matcher_enterItem_8 : decode c_Matcher_enterItem 8 = .ok (.putfield 27, 3) := by decide +kernel
theorem d_Matcher_enterItem_11 : decode c_Matcher_enterItem 11 = .ok (.return_, 1) := by decide +kernel
theorem d_Matcher_enterItem_12 : decode c_Matcher_enterItem 12 = .ok (.aload_n 0, 1) := by decide +kernel
theorem d_Matcher_enterItem_13 : decode c_Matcher_enterItem 13 = .ok (.getfield 23, 3) := by decide +kernel
theorem d_Matcher_enterItem_16 : decode c_Matcher_enterItem 16 = .ok (.getfield 131, 3) := by decide +kernel
theorem d_Matcher_enterItem_19 : decode c_Matcher_enterItem 19 = .ok (.iload_n 1, 1) := by decide +kernel
theorem d_Matcher_enterItem_20 : decode c_Matcher_enterItem 20 = .ok (.iaload, 1) := by decide +kernel
theorem d_Matcher_enterItem_21 : decode c_Matcher_enterItem 21 = .ok (.istore_n 2, 1) := by decide +kernel
theorem d_Matcher_enterItem_22 : decode c_Matcher_enterItem 22 = .ok (.iload_n 2, 1) := by decide +kernel
theorem d_Matcher_enterItem_23 : decode c_Matcher_enterItem 23 = .ok (.iconst 1, 1) := by decide +kernel
theorem d_Matcher_enterItem_24 : decode c_Matcher_enterItem 24 = .ok (.if_icmp .ne 18, 3) := by decide +kernel
theorem d_Matcher_enterItem_27 : decode c_Matcher_enterItem 27 = .ok (.aload_n 0, 1) := by decide +kernel
theorem d_Matcher_enterItem_28 : decode c_Matcher_enterItem 28 = .ok (.iconst 1, 1) := by decide +kernel
theorem d_Matcher_enterItem_29 : decode c_Matcher_enterItem 29 = .ok (.aload_n 0, 1) := by decide +kernel
theorem d_Matcher_enterItem_30 : decode c_Matcher_enterItem 30 = .ok (.getfield 23, 3) := by decide +kernel
theorem d_Matcher_enterItem_33 : decode c_Matcher_enterItem 33 = .ok (.getfield 134, 3) := by decide +kernel
theorem d_Matcher_enterItem_36 : decode c_Matcher_enterItem 36 = .ok (.iload_n 1, 1) := by decide +kernel
theorem d_Matcher_enterItem_37 : decode c_Matcher_enterItem 37 = .ok (.iaload, 1) := by decide +kernel
theorem d_Matcher_enterItem_38 : decode c_Matcher_enterItem 38 = .ok (.invokevirtual 88, 3) := by decide +kernel
theorem d_Matcher_enterItem_41 : decode c_Matcher_enterItem 41 = .ok (.return_, 1) := by decide +kernel
theorem d_Matcher_enterItem_42 : decode c_Matcher_enterItem 42 = .ok (.aload_n 0, 1) := by decide +kernel
theorem d_Matcher_enterItem_43 : decode c_Matcher_enterItem 43 = .ok (.getfield 23, 3) := by decide +kernel
theorem d_Matcher_enterItem_46 : decode c_Matcher_enterItem 46 = .ok (.getfield 137, 3) := by decide +kernel
theorem d_Matcher_enterItem_49 : decode c_Matcher_enterItem 49 = .ok (.iload_n 1, 1) := by decide +kernel
theorem d_Matcher_enterItem_50 : decode c_Matcher_enterItem 50 = .ok (.iaload, 1) := by decide +kernel
theorem d_Matcher_enterItem_51 : decode c_Matcher_enterItem 51 = .ok (.iconst 2, 1) := by decide +kernel
theorem d_Matcher_enterItem_52 : decode c_Matcher_enterItem 52 = .ok (.if_icmp .ne 36, 3) := by decide +kernel
theorem d_Matcher_enterItem_55 : decode c_Matcher_enterItem 55 = .ok (.aload_n 0, 1) := by decide +kernel
theorem d_Matcher_enterItem_56 : decode c_Matcher_enterItem 56 = .ok (.aload_n 0, 1) := by decide +kernel
theorem d_Matcher_enterItem_57 : decode c_Matcher_enterItem 57 = .ok (.getfield 53, 3) := by decide +kernel
theorem d_Matcher_enterItem_60 : decode c_Matcher_enterItem 60 = .ok (.bipush 6, 2) := by decide +kernel
theorem d_Matcher_enterItem_62 : decode c_Matcher_enterItem 62 = .ok (.iload_n 1, 1) := by decide +kernel
theorem d_Matcher_enterItem_63 : decode c_Matcher_enterItem 63 = .ok (.aload_n 0, 1) := by decide +kernel
theorem d_Matcher_enterItem_64 : decode c_Matcher_enterItem 64 = .ok (.getfield 60, 3) := by decide +kernel
theorem d_Matcher_enterItem_67 : decode c_Matcher_enterItem 67 = .ok (.getfield 140, 3) := by decide +kernel
theorem d_Matcher_enterItem_70 : decode c_Matcher_enterItem 70 = .ok (.aload_n 0, 1) := by decide +kernel
theorem d_Matcher_enterItem_71 : decode c_Matcher_enterItem 71 = .ok (.getfield 37, 3) := by decide +kernel
theorem d_Matcher_enterItem_74 : decode c_Matcher_enterItem 74 = .ok (.aload_n 0, 1) := by decide +kernel
theorem d_Matcher_enterItem_75 : decode c_Matcher_enterItem 75 = .ok (.getfield 40, 3) := by decide +kernel
theorem d_Matcher_enterItem_78 : decode c_Matcher_enterItem 78 = .ok (.aload_n 0, 1) := by decide +kernel
theorem d_Matcher_enterItem_79 : decode c_Matcher_enterItem 79 = .ok (.getfield 34, 3) := by decide +kernel
theorem d_Matcher_enterItem_82 : decode c_Matcher_enterItem 82 = .ok (.invokevirtual 143, 3) := by decide +kernel
theorem d_Matcher_enterItem_85 : decode c_Matcher_enterItem 85 = .ok (.putfield 34, 3) := by decide +kernel
theorem d_Matcher_enterItem_88 : decode c_Matcher_enterItem 88 = .ok (.iload_n 2, 1) := by decide +kernel
theorem d_Matcher_enterItem_89 : decode c_Matcher_enterItem 89 = .ok (.iconst 2, 1) := by decide +kernel
theorem d_Matcher_enterItem_90 : decode c_Matcher_enterItem 90 = .ok (.if_icmp .eq 8, 3) := by decide +kernel
theorem d_Matcher_enterItem_93 : decode c_Matcher_enterItem 93 = .ok (.iload_n 2, 1) := by decide +kernel
theorem d_Matcher_enterItem_94 : decode c_Matcher_enterItem 94 = .ok (.iconst 3, 1) := by decide +kernel
theorem d_Matcher_enterItem_95 : decode c_Matcher_enterItem 95 = .ok (.if_icmp .ne 9, 3) := by decide +kernel
theorem d_Matcher_enterItem_98 : decode c_Matcher_enterItem 98 = .ok (.aload_n 0, 1) := by decide +kernel
theorem d_Matcher_enterItem_99 : decode c_Matcher_enterItem 99 = .ok (.iload_n 1, 1) := by decide +kernel
theorem d_Matcher_enterItem_100 : decode c_Matcher_enterItem 100 = .ok (.invokevirtual 146, 3) := by decide +kernel
theorem d_Matcher_enterItem_103 : decode c_Matcher_enterItem 103 = .ok (.return_, 1) := by decide +kernel
theorem d_Matcher_enterItem_104 : decode c_Matcher_enterItem 104 = .ok (.iload_n 2, 1) := by decide +kernel
theorem d_Matcher_enterItem_105 : decode c_Matcher_enterItem 105 = .ok (.iconst 4, 1) := by decide +kernel
theorem d_Matcher_enterItem_106 : decode c_Matcher_enterItem 106 = .ok (.if_icmp .ne 32, 3) := by decide +kernel
theorem d_Matcher_enterItem_109 : decode c_Matcher_enterItem 109 = .ok (.aload_n 0, 1) := by decide +kernel
theorem d_Matcher_enterItem_110 : decode c_Matcher_enterItem 110 = .ok (.aload_n 0, 1) := by decide +kernel
theorem d_Matcher_enterItem_111 : decode c_Matcher_enterItem 111 = .ok (.getfield 53, 3) := by decide +kernel
theorem d_Matcher_enterItem_114 : decode c_Matcher_enterItem 114 = .ok (.iconst 4, 1) := by decide +kernel
theorem d_Matcher_enterItem_115 : decode c_Matcher_enterItem 115 = .ok (.iload_n 1, 1) := by decide +kernel
theorem d_Matcher_enterItem_116 : decode c_Matcher_enterItem 116 = .ok (.iconst 0, 1) := by decide +kernel
theorem d_Matcher_enterItem_117 : decode c_Matcher_enterItem 117 = .ok (.aload_n 0, 1) := by decide +kernel
theorem d_Matcher_enterItem_118 : decode c_Matcher_enterItem 118 = .ok (.getfield 37, 3) := by decide +kernel
theorem d_Matcher_enterItem_121 : decode c_Matcher_enterItem 121 = .ok (.aload_n 0, 1) := by decide +kernel
theorem d_Matcher_enterItem_122 : decode c_Matcher_enterItem 122 = .ok (.getfield 40, 3) := by decide +kernel
theorem d_Matcher_enterItem_125 : decode c_Matcher_enterItem 125 = .ok (.aload_n 0, 1) := by decide +kernel
theorem d_Matcher_enterItem_126 : decode c_Matcher_enterItem 126 = .ok (.getfield 34, 3) := by decide +kernel
theorem d_Matcher_enterItem_129 : decode c_Matcher_enterItem 129 = .ok (.invokevirtual 143, 3) := by decide +kernel
theorem d_Matcher_enterItem_132 : decode c_Matcher_enterItem 132 = .ok (.putfield 34, 3) := by decide +kernel
theorem d_Matcher_enterItem_135 : decode c_Matcher_enterItem 135 = .ok (.goto 42, 3) := by decide +kernel
theorem d_Matcher_enterItem_138 : decode c_Matcher_enterItem 138 = .ok (.iload_n 2, 1) := by decide +kernel
theorem d_Matcher_enterItem_139 : decode c_Matcher_enterItem 139 = .ok (.iconst 5, 1) := by decide +kernel
theorem d_Matcher_enterItem_140 : decode c_Matcher_enterItem 140 = .ok (.if_icmp .ne 37, 3) := by decide +kernel
theorem d_Matcher_enterItem_143 : decode c_Matcher_enterItem 143 = .ok (.aload_n 0, 1) := by decide +kernel
theorem d_Matcher_enterItem_144 : decode c_Matcher_enterItem 144 = .ok (.aload_n 0, 1) := by decide +kernel
theorem d_Matcher_enterItem_145 : decode c_Matcher_enterItem 145 = .ok (.getfield 53, 3) := by decide +kernel
theorem d_Matcher_enterItem_148 : decode c_Matcher_enterItem 148 = .ok (.iconst 5, 1) := by decide +kernel
theorem d_Matcher_enterItem_149 : decode c_Matcher_enterItem 149 = .ok (.iload_n 1, 1) := by decide +kernel
theorem d_Matcher_enterItem_150 : decode c_Matcher_enterItem 150 = .ok (.aload_n 0, 1) := by decide +kernel
theorem d_Matcher_enterItem_151 : decode c_Matcher_enterItem 151 = .ok (.getfield 23, 3) := by decide +kernel
theorem d_Matcher_enterItem_154 : decode c_Matcher_enterItem 154 = .ok (.getfield 149, 3) := by decide +kernel
theorem d_Matcher_enterItem_157 : decode c_Matcher_enterItem 157 = .ok (.iload_n 1, 1) := by decide +kernel
theorem d_Matcher_enterItem_158 : decode c_Matcher_enterItem 158 = .ok (.iaload, 1) := by decide +kernel
theorem d_Matcher_enterItem_159 : decode c_Matcher_enterItem 159 = .ok (.aload_n 0, 1) := by decide +kernel
theorem d_Matcher_enterItem_160 : decode c_Matcher_enterItem 160 = .ok (.getfield 37, 3) := by decide +kernel
theorem d_Matcher_enterItem_163 : decode c_Matcher_enterItem 163 = .ok (.aload_n 0, 1) := by decide +kernel
theorem d_Matcher_enterItem_164 : decode c_Matcher_enterItem 164 = .ok (.getfield 40, 3) := by decide +kernel
theorem d_Matcher_enterItem_167 : decode c_Matcher_enterItem 167 = .ok (.aload_n 0, 1) := by decide +kernel
theorem d_Matcher_enterItem_168 : decode c_Matcher_enterItem 168 = .ok (.getfield 34, 3) := by decide +kernel
theorem d_Matcher_enterItem_171 : decode c_Matcher_enterItem 171 = .ok (.invokevirtual 143, 3) := by decide +kernel
theorem d_Matcher_enterItem_174 : decode c_Matcher_enterItem 174 = .ok (.putfield 34, 3) := by decide +kernel
theorem d_Matcher_enterItem_177 : decode c_Matcher_enterItem 177 = .ok (.aload_n 0, 1) := by decide +kernel
theorem d_Matcher_enterItem_178 : decode c_Matcher_enterItem 178 = .ok (.iconst 3, 1) := by decide +kernel
theorem d_Matcher_enterItem_179 : decode c_Matcher_enterItem 179 = .ok (.iload_n 1, 1) := by decide +kernel
theorem d_Matcher_enterItem_180 : decode c_Matcher_enterItem 180 = .ok (.invokevirtual 88, 3) := by decide +kernel
theorem d_Matcher_enterItem_183 : decode c_Matcher_enterItem 183 = .ok (.return_, 1) := by decide +kernel
theorem d_Matcher_fork_0 : decode c_Matcher_fork 0 = .ok (.aload_n 0, 1) := by decide +kernel
theorem d_Matcher_fork_1 : decode c_Matcher_fork 1 = .ok (.getfield 23, 3) := by decide +kernel
theorem d_Matcher_fork_4 : decode c_Matcher_fork 4 = .ok (.getfield 137, 3) := by decide +kernel
theorem d_Matcher_fork_7 : decode c_Matcher_fork 7 = .ok (.iload_n 1, 1) := by decide +kernel
theorem d_Matcher_fork_8 : decode c_Matcher_fork 8 = .ok (.iaload, 1) := by decide +kernel
theorem d_Matcher_fork_9 : decode c_Matcher_fork 9 = .ok (.iconst 1, 1) := by decide +kernel
theorem d_Matcher_fork_10 : decode c_Matcher_fork 10 = .ok (.if_icmp .ne 7, 3) := by decide +kernel
theorem d_Matcher_fork_13 : decode c_Matcher_fork 13 = .ok (.iconst 1, 1) := by decide +kernel
theorem d_Matcher_fork_14 : decode c_Matcher_fork 14 = .ok (.goto 4, 3) := by decide +kernel
theorem d_Matcher_fork_17 : decode c_Matcher_fork 17 = .ok (.iconst 0, 1) := by decide +kernel
theorem d_Matcher_fork_18 : decode c_Matcher_fork 18 = .ok (.istore_n 2, 1) := by decide +kernel
theorem d_Matcher_fork_19 : decode c_Matcher_fork 19 = .ok (.aload_n 0, 1) := by decide +kernel
theorem d_Matcher_fork_20 : decode c_Matcher_fork 20 = .ok (.getfield 60, 3) := by decide +kernel
theorem d_Matcher_fork_23 : decode c_Matcher_fork 23 = .ok (.iload_n 2, 1) := by decide +kernel
theorem d_Matcher_fork_24 : decode c_Matcher_fork 24 = .ok (.ifCond .eq 7, 3) := by decide +kernel
theorem d_Matcher_fork_27 : decode c_Matcher_fork 27 = .ok (.iconst 2, 1) := by decide +kernel
theorem d_Matcher_fork_28 : decode c_Matcher_fork 28 = .ok (.goto 4, 3) := by decide +kernel
theorem d_Matcher_fork_31 : decode c_Matcher_fork 31 = .ok (.iconst 5, 1) := by decide +kernel
theorem d_Matcher_fork_32 : decode c_Matcher_fork 32 = .ok (.iload_n 1, 1) := by decide +kernel
theorem d_Matcher_fork_33 : decode c_Matcher_fork 33 = .ok (.aload_n 0, 1) := by decide +kernel
theorem d_Matcher_fork_34 : decode c_Matcher_fork 34 = .ok (.getfield 37, 3) := by decide +kernel
theorem d_Matcher_fork_37 : decode c_Matcher_fork 37 = .ok (.aload_n 0, 1) := by decide +kernel
theorem d_Matcher_fork_38 : decode c_Matcher_fork 38 = .ok (.getfield 40, 3) := by decide +kernel
theorem d_Matcher_fork_41 : decode c_Matcher_fork 41 = .ok (.aload_n 0, 1) := by decide +kernel
theorem d_Matcher_fork_42 : decode c_Matcher_fork 42 = .ok (.getfield 34, 3) := by decide +kernel
theorem d_Matcher_fork_45 : decode c_Matcher_fork 45 = .ok (.invokevirtual 124, 3) := by decide +kernel
theorem d_Matcher_fork_48 : decode c_Matcher_fork 48 = .ok (.aload_n 0, 1) := by decide +kernel
theorem d_Matcher_fork_49 : decode c_Matcher_fork 49 = .ok (.iload_n 2, 1) := by decide +kernel
theorem d_Matcher_fork_50 : decode c_Matcher_fork 50 = .ok (.ifCond .eq 7, 3) := by decide +kernel
theorem d_Matcher_fork_53 : decode c_Matcher_fork 53 = .ok (.iconst 5, 1) := by decide +kernel
theorem d_Matcher_fork_54 : decode c_Matcher_fork 54 = .ok (.goto 4, 3) := by decide +kernel
theorem d_Matcher_fork_57 : decode c_Matcher_fork 57 = .ok (.iconst 2, 1) := by decide +kernel
theorem d_Matcher_fork_58 : decode c_Matcher_fork 58 = .ok (.iload_n 1, 1) := by decide +kernel
theorem d_Matcher_fork_59 : decode c_Matcher_fork 59 = .ok (.invokevirtual 88, 3) := by decide +kernel
theorem d_Matcher_fork_62 : decode c_Matcher_fork 62 = .ok (.return_, 1) := by decide +kernel
theorem d_Matcher_tryAtom_0 : decode c_Matcher_tryAtom 0 = .ok (.aload_n 0, 1) := by decide +kernel
theorem d_Matcher_tryAtom_1 : decode c_Matcher_tryAtom 1 = .ok (.getfield 23, 3) := by decide +kernel
theorem d_Matcher_tryAtom_4 : decode c_Matcher_tryAtom 4 = .ok (.getfield 131, 3) := by decide +kernel
theorem d_Matcher_tryAtom_7 : decode c_Matcher_tryAtom 7 = .ok (.iload_n 1, 1) := by decide +kernel
theorem d_Matcher_tryAtom_8 : decode c_Matcher_tryAtom 8 = .ok (.iaload, 1) := by decide +kernel
theorem d_Matcher_tryAtom_9 : decode c_Matcher_tryAtom 9 = .ok (.iconst 2, 1) := by decide +kernel
theorem d_Matcher_tryAtom_10 : decode c_Matcher_tryAtom 10 = .ok (.if_icmp .eq 29, 3) := by decide +kernel
theorem d_Matcher_tryAtom_13 : decode c_Matcher_tryAtom 13 = .ok (.aload_n 0, 1) := by decide +kernel
theorem d_Matcher_tryAtom_14 : decode c_Matcher_tryAtom 14 = .ok (.aload_n 0, 1) := by decide +kernel
theorem d_Matcher_tryAtom_15 : decode c_Matcher_tryAtom 15 = .ok (.getfield 53, 3) := by decide +kernel
theorem d_Matcher_tryAtom_18 : decode c_Matcher_tryAtom 18 = .ok (.iconst 3, 1) := by decide +kernel
theorem d_Matcher_tryAtom_19 : decode c_Matcher_tryAtom 19 = .ok (.iload_n 1, 1) := by decide +kernel
theorem d_Matcher_tryAtom_20 : decode c_Matcher_tryAtom 20 = .ok (.iconst 0, 1) := by decide +kernel
theorem d_Matcher_tryAtom_21 : decode c_Matcher_tryAtom 21 = .ok (.aload_n 0, 1) := by decide +kernel
theorem d_Matcher_tryAtom_22 : decode c_Matcher_tryAtom 22 = .ok (.getfield 37, 3) := by decide +kernel
theorem d_Matcher_tryAtom_25 : decode c_Matcher_tryAtom 25 = .ok (.aload_n 0, 1) := by decide +kernel
theorem d_Matcher_tryAtom_26 : decode c_Matcher_tryAtom 26 = .ok (.getfield 40, 3) := by decide +kernel
theorem d_Matcher_tryAtom_29 : decode c_Matcher_tryAtom 29 = .ok (.aload_n 0, 1) := by decide +kernel
theorem d_Matcher_tryAtom_30 : decode c_Matcher_tryAtom 30 = .ok (.getfield 34, 3) := by decide +kernel
theorem d_Matcher_tryAtom_33 : decode c_Matcher_tryAtom 33 = .ok (.invokevirtual 143, 3) := by decide +kernel
theorem d_Matcher_tryAtom_36 : decode c_Matcher_tryAtom 36 = .ok (.putfield 34, 3) := by decide +kernel
theorem d_Matcher_tryAtom_39 : decode c_Matcher_tryAtom 39 = .ok (.aload_n 0, 1) := by decide +kernel
theorem d_Matcher_tryAtom_40 : decode c_Matcher_tryAtom 40 = .ok (.iconst 3, 1) := by decide +kernel
theorem d_Matcher_tryAtom_41 : decode c_Matcher_tryAtom 41 = .ok (.iload_n 1, 1) := by decide +kernel
theorem d_Matcher_tryAtom_42 : decode c_Matcher_tryAtom 42 = .ok (.invokevirtual 88, 3) := by decide +kernel
theorem d_Matcher_tryAtom_45 : decode c_Matcher_tryAtom 45 = .ok (.return_, 1) := by decide +kernel
theorem d_Matcher_goAfterAtom_0 : decode c_Matcher_goAfterAtom 0 = .ok (.aload_n 0, 1) := by decide +kernel
theorem d_Matcher_goAfterAtom_1 : decode c_Matcher_goAfterAtom 1 = .ok (.getfield 23, 3) := by decide +kernel
theorem d_Matcher_goAfterAtom_4 : decode c_Matcher_goAfterAtom 4 = .ok (.getfield 131, 3) := by decide +kernel
theorem d_Matcher_goAfterAtom_7 : decode c_Matcher_goAfterAtom 7 = .ok (.iload_n 1, 1) := by decide +kernel
theorem d_Matcher_goAfterAtom_8 : decode c_Matcher_goAfterAtom 8 = .ok (.iaload, 1) := by decide +kernel
theorem d_Matcher_goAfterAtom_9 : decode c_Matcher_goAfterAtom 9 = .ok (.istore_n 2, 1) := by decide +kernel
theorem d_Matcher_goAfterAtom_10 : decode c_Matcher_goAfterAtom 10 = .ok (.iload_n 2, 1) := by decide +kernel
theorem d_Matcher_goAfterAtom_11 : decode c_Matcher_goAfterAtom 11 = .ok (.ifCond .eq 8, 3) := by decide +kernel
theorem d_Matcher_goAfterAtom_14 : decode c_Matcher_goAfterAtom 14 = .ok (.iload_n 2, 1) := by decide +kernel
theorem d_Matcher_goAfterAtom_15 : decode c_Matcher_goAfterAtom 15 = .ok (.iconst 2, 1) := by decide +kernel
theorem d_Matcher_goAfterAtom_16 : decode c_Matcher_goAfterAtom 16 = .ok (.if_icmp .ne 11, 3) := by decide +kernel
theorem d_Matcher_goAfterAtom_19 : decode c_Matcher_goAfterAtom 19 = .ok (.aload_n 0, 1) := by decide +kernel
theorem d_Matcher_goAfterAtom_20 : decode c_Matcher_goAfterAtom 20 = .ok (.iload_n 1, 1) := by decide +kernel
theorem d_Matcher_goAfterAtom_21 : decode c_Matcher_goAfterAtom 21 = .ok (.invokevirtual 112, 3) := by decide +kernel
theorem d_Matcher_goAfterAtom_24 : decode c_Matcher_goAfterAtom 24 = .ok (.goto 9, 3) := by decide +kernel
theorem d_Matcher_goAfterAtom_27 : decode c_Matcher_goAfterAtom 27 = .ok (.aload_n 0, 1) := by decide +kernel
theorem d_Matcher_goAfterAtom_28 : decode c_Matcher_goAfterAtom 28 = .ok (.bipush 6, 2) := by decide +kernel
theorem d_Matcher_goAfterAtom_30 : decode c_Matcher_goAfterAtom 30 = .ok (.putfield 27, 3) := by decide +kernel
theorem d_Matcher_goAfterAtom_33 : decode c_Matcher_goAfterAtom 33 = .ok (.return_, 1) := by decide +kernel
theorem d_Matcher_goAfterItem_0 : decode c_Matcher_goAfterItem 0 = .ok (.aload_n 0, 1) := by decide +kernel
theorem d_Matcher_goAfterItem_1 : decode c_Matcher_goAfterItem 1 = .ok (.getfield 23, 3) := by decide +kernel
theorem d_Matcher_goAfterItem_4 : decode c_Matcher_goAfterItem 4 = .ok (.getfield 137, 3) := by decide +kernel
theorem d_Matcher_goAfterItem_7 : decode c_Matcher_goAfterItem 7 = .ok (.iload_n 1, 1) := by decide +kernel
theorem d_Matcher_goAfterItem_8 : decode c_Matcher_goAfterItem 8 = .ok (.iaload, 1) := by decide +kernel
theorem d_Matcher_goAfterItem_9 : decode c_Matcher_goAfterItem 9 = .ok (.iconst 2, 1) := by decide +kernel
theorem d_Matcher_goAfterItem_10 : decode c_Matcher_goAfterItem 10 = .ok (.if_icmp .ne 12, 3) := by decide +kernel
theorem d_Matcher_goAfterItem_13 : decode c_Matcher_goAfterItem 13 = .ok (.aload_n 0, 1) := by decide +kernel
theorem d_Matcher_goAfterItem_14 : decode c_Matcher_goAfterItem 14 = .ok (.bipush 6, 2) := by decide +kernel
theorem d_Matcher_goAfterItem_16 : decode c_Matcher_goAfterItem 16 = .ok (.putfield 27, 3) := by decide +kernel
theorem d_Matcher_goAfterItem_19 : decode c_Matcher_goAfterItem 19 = .ok (.goto 17, 3) := by decide +kernel
theorem d_Matcher_goAfterItem_22 : decode c_Matcher_goAfterItem 22 = .ok (.aload_n 0, 1) := by decide +kernel
theorem d_Matcher_goAfterItem_23 : decode c_Matcher_goAfterItem 23 = .ok (.iconst 1, 1) := by decide +kernel
theorem d_Matcher_goAfterItem_24 : decode c_Matcher_goAfterItem 24 = .ok (.aload_n 0, 1) := by decide +kernel
theorem d_Matcher_goAfterItem_25 : decode c_Matcher_goAfterItem 25 = .ok (.getfield 23, 3) := by decide +kernel
theorem d_Matcher_goAfterItem_28 : decode c_Matcher_goAfterItem 28 = .ok (.getfield 134, 3) := by decide +kernel
theorem d_Matcher_goAfterItem_31 : decode c_Matcher_goAfterItem 31 = .ok (.iload_n 1, 1) := by decide +kernel
theorem d_Matcher_goAfterItem_32 : decode c_Matcher_goAfterItem 32 = .ok (.iaload, 1) := by decide +kernel
theorem d_Matcher_goAfterItem_33 : decode c_Matcher_goAfterItem 33 = .ok (.invokevirtual 88, 3) := by decide +kernel
theorem d_Matcher_goAfterItem_36 : decode c_Matcher_goAfterItem 36 = .ok (.return_, 1) := by decide +kernel
theorem d_Matcher_takeChoice_0 : decode c_Matcher_takeChoice 0 = .ok (.aload_n 0, 1) := by decide +kernel
theorem d_Matcher_takeChoice_1 : decode c_Matcher_takeChoice 1 = .ok (.getfield 60, 3) := by decide +kernel
theorem d_Matcher_takeChoice_4 : decode c_Matcher_takeChoice 4 = .ok (.getfield 140, 3) := by decide +kernel
theorem d_Matcher_takeChoice_7 : decode c_Matcher_takeChoice 7 = .ok (.ifCond .ne 10, 3) := by decide +kernel
theorem d_Matcher_takeChoice_10 : decode c_Matcher_takeChoice 10 = .ok (.aload_n 0, 1) := by decide +kernel
theorem d_Matcher_takeChoice_11 : decode c_Matcher_takeChoice 11 = .ok (.bipush 9, 2) := by decide +kernel
theorem d_Matcher_takeChoice_13 : decode c_Matcher_takeChoice 13 = .ok (.putfield 27, 3) := by decide +kernel
theorem d_Matcher_takeChoice_16 : decode c_Matcher_takeChoice 16 = .ok (.return_, 1) := by decide +kernel
theorem d_Matcher_takeChoice_17 : decode c_Matcher_takeChoice 17 = .ok (.aload_n 0, 1) := by decide +kernel
theorem d_Matcher_takeChoice_18 : decode c_Matcher_takeChoice 18 = .ok (.getfield 60, 3) := by decide +kernel
theorem d_Matcher_takeChoice_21 : decode c_Matcher_takeChoice 21 = .ok (.getfield 140, 3) := by decide +kernel
theorem d_Matcher_takeChoice_24 : decode c_Matcher_takeChoice 24 = .ok (.iconst 1, 1) := by decide +kernel
theorem d_Matcher_takeChoice_25 : decode c_Matcher_takeChoice 25 = .ok (.isub, 1) := by decide +kernel
theorem d_Matcher_takeChoice_26 : decode c_Matcher_takeChoice 26 = .ok (.istore_n 1, 1) := by decide +kernel
theorem d_Matcher_takeChoice_27 : decode c_Matcher_takeChoice 27 = .ok (.aload_n 0, 1) := by decide +kernel
theorem d_Matcher_takeChoice_28 : decode c_Matcher_takeChoice 28 = .ok (.getfield 60, 3) := by decide +kernel
theorem d_Matcher_takeChoice_31 : decode c_Matcher_takeChoice 31 = .ok (.iload_n 1, 1) := by decide +kernel
theorem d_Matcher_takeChoice_32 : decode c_Matcher_takeChoice 32 = .ok (.invokevirtual 81, 3) := by decide +kernel
theorem d_Matcher_takeChoice_35 : decode c_Matcher_takeChoice 35 = .ok (.aload_n 0, 1) := by decide +kernel
theorem d_Matcher_takeChoice_36 : decode c_Matcher_takeChoice 36 = .ok (.aload_n 0, 1) := by decide +kernel
theorem d_Matcher_takeChoice_37 : decode c_Matcher_takeChoice 37 = .ok (.getfield 60, 3) := by decide +kernel
theorem d_Matcher_takeChoice_40 : decode c_Matcher_takeChoice 40 = .ok (.getfield 152, 3) := by decide +kernel
theorem d_Matcher_takeChoice_43 : decode c_Matcher_takeChoice 43 = .ok (.iload_n 1, 1) := by decide +kernel
theorem d_Matcher_takeChoice_44 : decode c_Matcher_takeChoice 44 = .ok (.iaload, 1) := by decide +kernel
theorem d_Matcher_takeChoice_45 : decode c_Matcher_takeChoice 45 = .ok (.putfield 37, 3) := by decide +kernel
theorem d_Matcher_takeChoice_48 : decode c_Matcher_takeChoice 48 = .ok (.aload_n 0, 1) := by decide +kernel
theorem d_Matcher_takeChoice_49 : decode c_Matcher_takeChoice 49 = .ok (.aload_n 0, 1) := by decide +kernel
theorem d_Matcher_takeChoice_50 : decode c_Matcher_takeChoice 50 = .ok (.getfield 60, 3) := by decide +kernel
theorem d_Matcher_takeChoice_53 : decode c_Matcher_takeChoice 53 = .ok (.getfield 154, 3) := by decide +kernel
theorem d_Matcher_takeChoice_56 : decode c_Matcher_takeChoice 56 = .ok (.iload_n 1, 1) := by decide +kernel
theorem d_Matcher_takeChoice_57 : decode c_Matcher_takeChoice 57 = .ok (.laload, 1) := by decide +kernel
theorem d_Matcher_takeChoice_58 : decode c_Matcher_takeChoice 58 = .ok (.putfield 40, 3) := by decide +kernel
theorem d_Matcher_takeChoice_61 : decode c_Matcher_takeChoice 61 = .ok (.aload_n 0, 1) := by decide +kernel
theorem d_Matcher_takeChoice_62 : decode c_Matcher_takeChoice 62 = .ok (.aload_n 0, 1) := by decide +kernel
theorem d_Matcher_takeChoice_63 : decode c_Matcher_takeChoice 63 = .ok (.getfield 60, 3) := by decide +kernel
theorem d_Matcher_takeChoice_66 : decode c_Matcher_takeChoice 66 = .ok (.getfield 157, 3) := by decide +kernel
theorem d_Matcher_takeChoice_69 : decode c_Matcher_takeChoice 69 = .ok (.iload_n 1, 1) := by decide +kernel
theorem d_Matcher_takeChoice_70 : decode c_Matcher_takeChoice 70 = .ok (.iaload, 1) := by decide +kernel
theorem d_Matcher_takeChoice_71 : decode c_Matcher_takeChoice 71 = .ok (.putfield 34, 3) := by decide +kernel
theorem d_Matcher_takeChoice_74 : decode c_Matcher_takeChoice 74 = .ok (.aload_n 0, 1) := by decide +kernel
theorem d_Matcher_takeChoice_75 : decode c_Matcher_takeChoice 75 = .ok (.aload_n 0, 1) := by decide +kernel
theorem d_Matcher_takeChoice_76 : decode c_Matcher_takeChoice 76 = .ok (.getfield 60, 3) := by decide +kernel
theorem d_Matcher_takeChoice_79 : decode c_Matcher_takeChoice 79 = .ok (.getfield 159, 3) := by decide +kernel
theorem d_Matcher_takeChoice_82 : decode c_Matcher_takeChoice 82 = .ok (.iload_n 1, 1) := by decide +kernel
theorem d_Matcher_takeChoice_83 : decode c_Matcher_takeChoice 83 = .ok (.iaload, 1) := by decide +kernel
theorem d_Matcher_takeChoice_84 : decode c_Matcher_takeChoice 84 = .ok (.aload_n 0, 1) := by decide +kernel
theorem d_Matcher_takeChoice_85 : decode c_Matcher_takeChoice 85 = .ok (.getfield 60, 3) := by decide +kernel
theorem d_Matcher_takeChoice_88 : decode c_Matcher_takeChoice 88 = .ok (.getfield 161, 3) := by decide +kernel
theorem d_Matcher_takeChoice_91 : decode c_Matcher_takeChoice 91 = .ok (.iload_n 1, 1) := by decide +kernel
theorem d_Matcher_takeChoice_92 : decode c_Matcher_takeChoice 92 = .ok (.iaload, 1) := by decide +kernel
theorem d_Matcher_takeChoice_93 : decode c_Matcher_takeChoice 93 = .ok (.invokevirtual 88, 3) := by decide +kernel
theorem d_Matcher_takeChoice_96 : decode c_Matcher_takeChoice 96 = .ok (.return_, 1) := by decide +kernel
theorem d_Matcher_ask_0 : decode c_Matcher_ask 0 = .ok (.aload_n 0, 1) := by decide +kernel
theorem d_Matcher_ask_1 : decode c_Matcher_ask 1 = .ok (.getfield 44, 3) := by decide +kernel
theorem d_Matcher_ask_4 : decode c_Matcher_ask 4 = .ok (.aload_n 0, 1) := by decide +kernel
theorem d_Matcher_ask_5 : decode c_Matcher_ask 5 = .ok (.getfield 47, 3) := by decide +kernel
theorem d_Matcher_ask_8 : decode c_Matcher_ask 8 = .ok (.if_icmp .lt 10, 3) := by decide +kernel
theorem d_Matcher_ask_11 : decode c_Matcher_ask 11 = .ok (.aload_n 0, 1) := by decide +kernel
theorem d_Matcher_ask_12 : decode c_Matcher_ask 12 = .ok (.bipush 10, 2) := by decide +kernel
theorem d_Matcher_ask_14 : decode c_Matcher_ask 14 = .ok (.putfield 27, 3) := by decide +kernel
theorem d_Matcher_ask_17 : decode c_Matcher_ask 17 = .ok (.return_, 1) := by decide +kernel
theorem d_Matcher_ask_18 : decode c_Matcher_ask 18 = .ok (.aload_n 0, 1) := by decide +kernel
theorem d_Matcher_ask_19 : decode c_Matcher_ask 19 = .ok (.dup, 1) := by decide +kernel
theorem d_Matcher_ask_20 : decode c_Matcher_ask 20 = .ok (.getfield 44, 3) := by decide +kernel
theorem d_Matcher_ask_23 : decode c_Matcher_ask 23 = .ok (.iconst 1, 1) := by decide +kernel
theorem d_Matcher_ask_24 : decode c_Matcher_ask 24 = .ok (.iadd, 1) := by decide +kernel
theorem d_Matcher_ask_25 : decode c_Matcher_ask 25 = .ok (.putfield 44, 3) := by decide +kernel
theorem d_Matcher_ask_28 : decode c_Matcher_ask 28 = .ok (.aload_n 0, 1) := by decide +kernel
theorem d_Matcher_ask_29 : decode c_Matcher_ask 29 = .ok (.getfield 23, 3) := by decide +kernel
theorem d_Matcher_ask_32 : decode c_Matcher_ask 32 = .ok (.getfield 163, 3) := by decide +kernel
theorem d_Matcher_ask_35 : decode c_Matcher_ask 35 = .ok (.iload_n 1, 1) := by decide +kernel
theorem d_Matcher_ask_36 : decode c_Matcher_ask 36 = .ok (.iaload, 1) := by decide +kernel
theorem d_Matcher_ask_37 : decode c_Matcher_ask 37 = .ok (.tableswitch 114 0 4 #[35, 43, 63, 90, 106], 35) := by decide +kernel
theorem d_Matcher_ask_72 : decode c_Matcher_ask 72 = .ok (.aload_n 0, 1) := by decide +kernel
theorem d_Matcher_ask_73 : decode c_Matcher_ask 73 = .ok (.iload_n 1, 1) := by decide +kernel
theorem d_Matcher_ask_74 : decode c_Matcher_ask 74 = .ok (.invokevirtual 166, 3) := by decide +kernel
theorem d_Matcher_ask_77 : decode c_Matcher_ask 77 = .ok (.goto 79, 3) := by decide +kernel
theorem d_Matcher_ask_80 : decode c_Matcher_ask 80 = .ok (.aload_n 0, 1) := by decide +kernel
theorem d_Matcher_ask_81 : decode c_Matcher_ask 81 = .ok (.aload_n 0, 1) := by decide +kernel
theorem d_Matcher_ask_82 : decode c_Matcher_ask 82 = .ok (.getfield 37, 3) := by decide +kernel
theorem d_Matcher_ask_85 : decode c_Matcher_ask 85 = .ok (.ifCond .ne 7, 3) := by decide +kernel
theorem d_Matcher_ask_88 : decode c_Matcher_ask 88 = .ok (.iconst 4, 1) := by decide +kernel
theorem d_Matcher_ask_89 : decode c_Matcher_ask 89 = .ok (.goto 5, 3) := by decide +kernel
theorem d_Matcher_ask_92 : decode c_Matcher_ask 92 = .ok (.bipush 7, 2) := by decide +kernel
theorem d_Matcher_ask_94 : decode c_Matcher_ask 94 = .ok (.putfield 27, 3) := by decide +kernel
theorem d_Matcher_ask_97 : decode c_Matcher_ask 97 = .ok (.goto 59, 3) := by decide +kernel
theorem d_Matcher_ask_100 : decode c_Matcher_ask 100 = .ok (.aload_n 0, 1) := by decide +kernel
theorem d_Matcher_ask_101 : decode c_Matcher_ask 101 = .ok (.aload_n 0, 1) := by decide +kernel
theorem d_Matcher_ask_102 : decode c_Matcher_ask 102 = .ok (.getfield 37, 3) := by decide +kernel
theorem d_Matcher_ask_105 : decode c_Matcher_ask 105 = .ok (.aload_n 0, 1) := by decide +kernel
theorem d_Matcher_ask_106 : decode c_Matcher_ask 106 = .ok (.getfield 14, 3) := by decide +kernel
theorem d_Matcher_ask_109 : decode c_Matcher_ask 109 = .ok (.getfield 64, 3) := by decide +kernel
theorem d_Matcher_ask_112 : decode c_Matcher_ask 112 = .ok (.if_icmp .ne 7, 3) := by decide +kernel
theorem d_Matcher_ask_115 : decode c_Matcher_ask 115 = .ok (.iconst 4, 1) := by decide +kernel
theorem d_Matcher_ask_116 : decode c_Matcher_ask 116 = .ok (.goto 5, 3) := by decide +kernel
theorem d_Matcher_ask_119 : decode c_Matcher_ask 119 = .ok (.bipush 7, 2) := by decide +kernel
theorem d_Matcher_ask_121 : decode c_Matcher_ask 121 = .ok (.putfield 27, 3) := by decide +kernel
theorem d_Matcher_ask_124 : decode c_Matcher_ask 124 = .ok (.goto 32, 3) := by decide +kernel
theorem d_Matcher_ask_127 : decode c_Matcher_ask 127 = .ok (.aload_n 0, 1) := by decide +kernel
theorem d_Matcher_ask_128 : decode c_Matcher_ask 128 = .ok (.aload_n 0, 1) := by decide +kernel
theorem d_Matcher_ask_129 : decode c_Matcher_ask 129 = .ok (.getfield 23, 3) := by decide +kernel
theorem d_Matcher_ask_132 : decode c_Matcher_ask 132 = .ok (.getfield 169, 3) := by decide +kernel
theorem d_Matcher_ask_135 : decode c_Matcher_ask 135 = .ok (.iload_n 1, 1) := by decide +kernel
theorem d_Matcher_ask_136 : decode c_Matcher_ask 136 = .ok (.iaload, 1) := by decide +kernel
theorem d_Matcher_ask_137 : decode c_Matcher_ask 137 = .ok (.invokevirtual 172, 3) := by decide +kernel
theorem d_Matcher_ask_140 : decode c_Matcher_ask 140 = .ok (.goto 16, 3) := by decide +kernel
theorem d_Matcher_ask_143 : decode c_Matcher_ask 143 = .ok (.aload_n 0, 1) := by decide +kernel
theorem d_Matcher_ask_144 : decode c_Matcher_ask 144 = .ok (.iload_n 1, 1) := by decide +kernel
theorem d_Matcher_ask_145 : decode c_Matcher_ask 145 = .ok (.invokevirtual 175, 3) := by decide +kernel
theorem d_Matcher_ask_148 : decode c_Matcher_ask 148 = .ok (.goto 8, 3) := by decide +kernel
theorem d_Matcher_ask_151 : decode c_Matcher_ask 151 = .ok (.aload_n 0, 1) := by decide +kernel
theorem d_Matcher_ask_152 : decode c_Matcher_ask 152 = .ok (.iload_n 1, 1) := by decide +kernel
theorem d_Matcher_ask_153 : decode c_Matcher_ask 153 = .ok (.invokevirtual 178, 3) := by decide +kernel
theorem d_Matcher_ask_156 : decode c_Matcher_ask 156 = .ok (.return_, 1) := by decide +kernel
theorem d_Matcher_askLetter_0 : decode c_Matcher_askLetter 0 = .ok (.aload_n 0, 1) := by decide +kernel
theorem d_Matcher_askLetter_1 : decode c_Matcher_askLetter 1 = .ok (.getfield 37, 3) := by decide +kernel
theorem d_Matcher_askLetter_4 : decode c_Matcher_askLetter 4 = .ok (.aload_n 0, 1) := by decide +kernel
theorem d_Matcher_askLetter_5 : decode c_Matcher_askLetter 5 = .ok (.getfield 14, 3) := by decide +kernel
theorem d_Matcher_askLetter_8 : decode c_Matcher_askLetter 8 = .ok (.getfield 64, 3) := by decide +kernel
theorem d_Matcher_askLetter_11 : decode c_Matcher_askLetter 11 = .ok (.if_icmp .ge 51, 3) := by decide +kernel
theorem d_Matcher_askLetter_14 : decode c_Matcher_askLetter 14 = .ok (.aload_n 0, 1) := by decide +kernel
theorem d_Matcher_askLetter_15 : decode c_Matcher_askLetter 15 = .ok (.getfield 23, 3) := by decide +kernel
theorem d_Matcher_askLetter_18 : decode c_Matcher_askLetter 18 = .ok (.getfield 169, 3) := by decide +kernel
theorem d_Matcher_askLetter_21 : decode c_Matcher_askLetter 21 = .ok (.iload_n 1, 1) := by decide +kernel
theorem d_Matcher_askLetter_22 : decode c_Matcher_askLetter 22 = .ok (.iaload, 1) := by decide +kernel
theorem d_Matcher_askLetter_23 : decode c_Matcher_askLetter 23 = .ok (.aload_n 0, 1) := by decide +kernel
theorem d_Matcher_askLetter_24 : decode c_Matcher_askLetter 24 = .ok (.getfield 14, 3) := by decide +kernel
theorem d_Matcher_askLetter_27 : decode c_Matcher_askLetter 27 = .ok (.getfield 181, 3) := by decide +kernel
theorem d_Matcher_askLetter_30 : decode c_Matcher_askLetter 30 = .ok (.aload_n 0, 1) := by decide +kernel
theorem d_Matcher_askLetter_31 : decode c_Matcher_askLetter 31 = .ok (.getfield 37, 3) := by decide +kernel
theorem d_Matcher_askLetter_34 : decode c_Matcher_askLetter 34 = .ok (.iaload, 1) := by decide +kernel
theorem d_Matcher_askLetter_35 : decode c_Matcher_askLetter 35 = .ok (.bipush 97, 2) := by decide +kernel
theorem d_Matcher_askLetter_37 : decode c_Matcher_askLetter 37 = .ok (.isub, 1) := by decide +kernel
theorem d_Matcher_askLetter_38 : decode c_Matcher_askLetter 38 = .ok (.ishr, 1) := by decide +kernel
theorem d_Matcher_askLetter_39 : decode c_Matcher_askLetter 39 = .ok (.iconst 1, 1) := by decide +kernel
theorem d_Matcher_askLetter_40 : decode c_Matcher_askLetter 40 = .ok (.iand, 1) := by decide +kernel
theorem d_Matcher_askLetter_41 : decode c_Matcher_askLetter 41 = .ok (.ifCond .eq 21, 3) := by decide +kernel
theorem d_Matcher_askLetter_44 : decode c_Matcher_askLetter 44 = .ok (.aload_n 0, 1) := by decide +kernel
theorem d_Matcher_askLetter_45 : decode c_Matcher_askLetter 45 = .ok (.dup, 1) := by decide +kernel
theorem d_Matcher_askLetter_46 : decode c_Matcher_askLetter 46 = .ok (.getfield 37, 3) := by decide +kernel
theorem d_Matcher_askLetter_49 : decode c_Matcher_askLetter 49 = .ok (.iconst 1, 1) := by decide +kernel
theorem d_Matcher_askLetter_50 : decode c_Matcher_askLetter 50 = .ok (.iadd, 1) := by decide +kernel
theorem d_Matcher_askLetter_51 : decode c_Matcher_askLetter 51 = .ok (.putfield 37, 3) := by decide +kernel
theorem d_Matcher_askLetter_54 : decode c_Matcher_askLetter 54 = .ok (.aload_n 0, 1) := by decide +kernel
theorem d_Matcher_askLetter_55 : decode c_Matcher_askLetter 55 = .ok (.iconst 4, 1) := by decide +kernel
theorem d_Matcher_askLetter_56 : decode c_Matcher_askLetter 56 = .ok (.putfield 27, 3) := by decide +kernel
theorem d_Matcher_askLetter_59 : decode c_Matcher_askLetter 59 = .ok (.goto 9, 3) := by decide +kernel
theorem d_Matcher_askLetter_62 : decode c_Matcher_askLetter 62 = .ok (.aload_n 0, 1) := by decide +kernel
theorem d_Matcher_askLetter_63 : decode c_Matcher_askLetter 63 = .ok (.bipush 7, 2) := by decide +kernel
theorem d_Matcher_askLetter_65 : decode c_Matcher_askLetter 65 = .ok (.putfield 27, 3) := by decide +kernel
theorem d_Matcher_askLetter_68 : decode c_Matcher_askLetter 68 = .ok (.return_, 1) := by decide +kernel
theorem d_Matcher_askSame_0 : decode c_Matcher_askSame 0 = .ok (.aload_n 0, 1) := by decide +kernel
theorem d_Matcher_askSame_1 : decode c_Matcher_askSame 1 = .ok (.getfield 40, 3) := by decide +kernel
theorem d_Matcher_askSame_4 : decode c_Matcher_askSame 4 = .ok (.iload_n 1, 1) := by decide +kernel
theorem d_Matcher_askSame_5 : decode c_Matcher_askSame 5 = .ok (.invokestatic 184, 3) := by decide +kernel
theorem d_Matcher_askSame_8 : decode c_Matcher_askSame 8 = .ok (.istore_n 2, 1) := by decide +kernel
theorem d_Matcher_askSame_9 : decode c_Matcher_askSame 9 = .ok (.aload_n 0, 1) := by decide +kernel
theorem d_Matcher_askSame_10 : decode c_Matcher_askSame 10 = .ok (.getfield 40, 3) := by decide +kernel
theorem d_Matcher_askSame_13 : decode c_Matcher_askSame 13 = .ok (.iload_n 1, 1) := by decide +kernel
theorem d_Matcher_askSame_14 : decode c_Matcher_askSame 14 = .ok (.invokestatic 190, 3) := by decide +kernel
theorem d_Matcher_askSame_17 : decode c_Matcher_askSame 17 = .ok (.iload_n 2, 1) := by decide +kernel
theorem d_Matcher_askSame_18 : decode c_Matcher_askSame 18 = .ok (.isub, 1) := by decide +kernel
theorem d_Matcher_askSame_19 : decode c_Matcher_askSame 19 = .ok (.istore_n 3, 1) := by decide +kernel
theorem d_Matcher_askSame_20 : decode c_Matcher_askSame 20 = .ok (.iload_n 2, 1) := by decide +kernel
theorem d_Matcher_askSame_21 : decode c_Matcher_askSame 21 = .ok (.bipush (-6), 2) := by decide +kernel
theorem d_Matcher_askSame_23 : decode c_Matcher_askSame 23 = .ok (.if_icmp .eq 30, 3) := by decide +kernel
theorem d_Matcher_askSame_26 : decode c_Matcher_askSame 26 = .ok (.aload_n 0, 1) := by decide +kernel
theorem d_Matcher_askSame_27 : decode c_Matcher_askSame 27 = .ok (.iload_n 2, 1) := by decide +kernel
theorem d_Matcher_askSame_28 : decode c_Matcher_askSame 28 = .ok (.iload_n 3, 1) := by decide +kernel
theorem d_Matcher_askSame_29 : decode c_Matcher_askSame 29 = .ok (.invokevirtual 193, 3) := by decide +kernel
theorem d_Matcher_askSame_32 : decode c_Matcher_askSame 32 = .ok (.ifCond .eq 21, 3) := by decide +kernel
theorem d_Matcher_askSame_35 : decode c_Matcher_askSame 35 = .ok (.aload_n 0, 1) := by decide +kernel
theorem d_Matcher_askSame_36 : decode c_Matcher_askSame 36 = .ok (.dup, 1) := by decide +kernel
theorem d_Matcher_askSame_37 : decode c_Matcher_askSame 37 = .ok (.getfield 37, 3) := by decide +kernel
theorem d_Matcher_askSame_40 : decode c_Matcher_askSame 40 = .ok (.iload_n 3, 1) := by decide +kernel
theorem d_Matcher_askSame_41 : decode c_Matcher_askSame 41 = .ok (.iadd, 1) := by decide +kernel
theorem d_Matcher_askSame_42 : decode c_Matcher_askSame 42 = .ok (.putfield 37, 3) := by decide +kernel
theorem d_Matcher_askSame_45 : decode c_Matcher_askSame 45 = .ok (.aload_n 0, 1) := by decide +kernel
theorem d_Matcher_askSame_46 : decode c_Matcher_askSame 46 = .ok (.iconst 4, 1) := by decide +kernel
theorem d_Matcher_askSame_47 : decode c_Matcher_askSame 47 = .ok (.putfield 27, 3) := by decide +kernel
theorem d_Matcher_askSame_50 : decode c_Matcher_askSame 50 = .ok (.goto 9, 3) := by decide +kernel
theorem d_Matcher_askSame_53 : decode c_Matcher_askSame 53 = .ok (.aload_n 0, 1) := by decide +kernel
theorem d_Matcher_askSame_54 : decode c_Matcher_askSame 54 = .ok (.bipush 7, 2) := by decide +kernel
theorem d_Matcher_askSame_56 : decode c_Matcher_askSame 56 = .ok (.putfield 27, 3) := by decide +kernel
theorem d_Matcher_askSame_59 : decode c_Matcher_askSame 59 = .ok (.return_, 1) := by decide +kernel
theorem d_Matcher_standsHere_0 : decode c_Matcher_standsHere 0 = .ok (.aload_n 0, 1) := by decide +kernel
theorem d_Matcher_standsHere_1 : decode c_Matcher_standsHere 1 = .ok (.getfield 37, 3) := by decide +kernel
theorem d_Matcher_standsHere_4 : decode c_Matcher_standsHere 4 = .ok (.iload_n 2, 1) := by decide +kernel
theorem d_Matcher_standsHere_5 : decode c_Matcher_standsHere 5 = .ok (.iadd, 1) := by decide +kernel
theorem d_Matcher_standsHere_6 : decode c_Matcher_standsHere 6 = .ok (.aload_n 0, 1) := by decide +kernel
theorem d_Matcher_standsHere_7 : decode c_Matcher_standsHere 7 = .ok (.getfield 14, 3) := by decide +kernel
theorem d_Matcher_standsHere_10 : decode c_Matcher_standsHere 10 = .ok (.getfield 64, 3) := by decide +kernel
theorem d_Matcher_standsHere_13 : decode c_Matcher_standsHere 13 = .ok (.if_icmp .le 5, 3) := by decide +kernel
theorem d_Matcher_standsHere_16 : decode c_Matcher_standsHere 16 = .ok (.iconst 0, 1) := by decide +kernel
theorem d_Matcher_standsHere_17 : decode c_Matcher_standsHere 17 = .ok (.ireturn, 1) := by decide +kernel
theorem d_Matcher_standsHere_18 : decode c_Matcher_standsHere 18 = .ok (.iconst 0, 1) := by decide +kernel
theorem d_Matcher_standsHere_19 : decode c_Matcher_standsHere 19 = .ok (.istore_n 3, 1) := by decide +kernel
theorem d_Matcher_standsHere_20 : decode c_Matcher_standsHere 20 = .ok (.iload_n 3, 1) := by decide +kernel
theorem d_Matcher_standsHere_21 : decode c_Matcher_standsHere 21 = .ok (.iload_n 2, 1) := by decide +kernel
theorem d_Matcher_standsHere_22 : decode c_Matcher_standsHere 22 = .ok (.if_icmp .ge 39, 3) := by decide +kernel
theorem d_Matcher_standsHere_25 : decode c_Matcher_standsHere 25 = .ok (.aload_n 0, 1) := by decide +kernel
theorem d_Matcher_standsHere_26 : decode c_Matcher_standsHere 26 = .ok (.getfield 14, 3) := by decide +kernel
theorem d_Matcher_standsHere_29 : decode c_Matcher_standsHere 29 = .ok (.getfield 181, 3) := by decide +kernel
theorem d_Matcher_standsHere_32 : decode c_Matcher_standsHere 32 = .ok (.iload_n 1, 1) := by decide +kernel
theorem d_Matcher_standsHere_33 : decode c_Matcher_standsHere 33 = .ok (.iload_n 3, 1) := by decide +kernel
theorem d_Matcher_standsHere_34 : decode c_Matcher_standsHere 34 = .ok (.iadd, 1) := by decide +kernel
theorem d_Matcher_standsHere_35 : decode c_Matcher_standsHere 35 = .ok (.iaload, 1) := by decide +kernel
theorem d_Matcher_standsHere_36 : decode c_Matcher_standsHere 36 = .ok (.aload_n 0, 1) := by decide +kernel
theorem d_Matcher_standsHere_37 : decode c_Matcher_standsHere 37 = .ok (.getfield 14, 3) := by decide +kernel
theorem d_Matcher_standsHere_40 : decode c_Matcher_standsHere 40 = .ok (.getfield 181, 3) := by decide +kernel
theorem d_Matcher_standsHere_43 : decode c_Matcher_standsHere 43 = .ok (.aload_n 0, 1) := by decide +kernel
theorem d_Matcher_standsHere_44 : decode c_Matcher_standsHere 44 = .ok (.getfield 37, 3) := by decide +kernel
theorem d_Matcher_standsHere_47 : decode c_Matcher_standsHere 47 = .ok (.iload_n 3, 1) := by decide +kernel
theorem d_Matcher_standsHere_48 : decode c_Matcher_standsHere 48 = .ok (.iadd, 1) := by decide +kernel
theorem d_Matcher_standsHere_49 : decode c_Matcher_standsHere 49 = .ok (.iaload, 1) := by decide +kernel
theorem d_Matcher_standsHere_50 : decode c_Matcher_standsHere 50 = .ok (.if_icmp .eq 5, 3) := by decide +kernel
theorem d_Matcher_standsHere_53 : decode c_Matcher_standsHere 53 = .ok (.iconst 0, 1) := by decide +kernel
theorem d_Matcher_standsHere_54 : decode c_Matcher_standsHere 54 = .ok (.ireturn, 1) := by decide +kernel
theorem d_Matcher_standsHere_55 : decode c_Matcher_standsHere 55 = .ok (.iinc 3 1, 3) := by decide +kernel
theorem d_Matcher_standsHere_58 : decode c_Matcher_standsHere 58 = .ok (.goto (-38), 3) := by decide +kernel
theorem d_Matcher_standsHere_61 : decode c_Matcher_standsHere 61 = .ok (.iconst 1, 1) := by decide +kernel
theorem d_Matcher_standsHere_62 : decode c_Matcher_standsHere 62 = .ok (.ireturn, 1) := by decide +kernel
theorem d_Matcher_askCall_0 : decode c_Matcher_askCall 0 = .ok (.aload_n 0, 1) := by decide +kernel
theorem d_Matcher_askCall_1 : decode c_Matcher_askCall 1 = .ok (.getfield 53, 3) := by decide +kernel
theorem d_Matcher_askCall_4 : decode c_Matcher_askCall 4 = .ok (.getfield 197, 3) := by decide +kernel
theorem d_Matcher_askCall_7 : decode c_Matcher_askCall 7 = .ok (.aload_n 0, 1) := by decide +kernel
theorem d_Matcher_askCall_8 : decode c_Matcher_askCall 8 = .ok (.getfield 34, 3) := by decide +kernel
theorem d_Matcher_askCall_11 : decode c_Matcher_askCall 11 = .ok (.iaload, 1) := by decide +kernel
theorem d_Matcher_askCall_12 : decode c_Matcher_askCall 12 = .ok (.bipush 12, 2) := by decide +kernel
theorem d_Matcher_askCall_14 : decode c_Matcher_askCall 14 = .ok (.if_icmp .lt 10, 3) := by decide +kernel
theorem d_Matcher_askCall_17 : decode c_Matcher_askCall 17 = .ok (.aload_n 0, 1) := by decide +kernel
theorem d_Matcher_askCall_18 : decode c_Matcher_askCall 18 = .ok (.bipush 7, 2) := by decide +kernel
theorem d_Matcher_askCall_20 : decode c_Matcher_askCall 20 = .ok (.putfield 27, 3) := by decide +kernel
theorem d_Matcher_askCall_23 : decode c_Matcher_askCall 23 = .ok (.return_, 1) := by decide +kernel
theorem d_Matcher_askCall_24 : decode c_Matcher_askCall 24 = .ok (.aload_n 0, 1) := by decide +kernel
theorem d_Matcher_askCall_25 : decode c_Matcher_askCall 25 = .ok (.aload_n 0, 1) := by decide +kernel
theorem d_Matcher_askCall_26 : decode c_Matcher_askCall 26 = .ok (.getfield 53, 3) := by decide +kernel
theorem d_Matcher_askCall_29 : decode c_Matcher_askCall 29 = .ok (.iconst 2, 1) := by decide +kernel
theorem d_Matcher_askCall_30 : decode c_Matcher_askCall 30 = .ok (.iload_n 1, 1) := by decide +kernel
theorem d_Matcher_askCall_31 : decode c_Matcher_askCall 31 = .ok (.iconst 0, 1) := by decide +kernel
theorem d_Matcher_askCall_32 : decode c_Matcher_askCall 32 = .ok (.aload_n 0, 1) := by decide +kernel
theorem d_Matcher_askCall_33 : decode c_Matcher_askCall 33 = .ok (.getfield 37, 3) := by decide +kernel
theorem d_Matcher_askCall_36 : decode c_Matcher_askCall 36 = .ok (.aload_n 0, 1) := by decide +kernel
theorem d_Matcher_askCall_37 : decode c_Matcher_askCall 37 = .ok (.getfield 40, 3) := by decide +kernel
theorem d_Matcher_askCall_40 : decode c_Matcher_askCall 40 = .ok (.aload_n 0, 1) := by decide +kernel
theorem d_Matcher_askCall_41 : decode c_Matcher_askCall 41 = .ok (.getfield 34, 3) := by decide +kernel
theorem d_Matcher_askCall_44 : decode c_Matcher_askCall 44 = .ok (.invokevirtual 143, 3) := by decide +kernel
theorem d_Matcher_askCall_47 : decode c_Matcher_askCall 47 = .ok (.putfield 34, 3) := by decide +kernel
theorem d_Matcher_askCall_50 : decode c_Matcher_askCall 50 = .ok (.aload_n 0, 1) := by decide +kernel
theorem d_Matcher_askCall_51 : decode c_Matcher_askCall 51 = .ok (.iconst 0, 1) := by decide +kernel
theorem d_Matcher_askCall_52 : decode c_Matcher_askCall 52 = .ok (.aload_n 0, 1) := by decide +kernel
theorem d_Matcher_askCall_53 : decode c_Matcher_askCall 53 = .ok (.getfield 23, 3) := by decide +kernel
theorem d_Matcher_askCall_56 : decode c_Matcher_askCall 56 = .ok (.getfield 84, 3) := by decide +kernel
theorem d_Matcher_askCall_59 : decode c_Matcher_askCall 59 = .ok (.aload_n 0, 1) := by decide +kernel
theorem d_Matcher_askCall_60 : decode c_Matcher_askCall 60 = .ok (.getfield 23, 3) := by decide +kernel
theorem d_Matcher_askCall_63 : decode c_Matcher_askCall 63 = .ok (.getfield 169, 3) := by decide +kernel
theorem d_Matcher_askCall_66 : decode c_Matcher_askCall 66 = .ok (.iload_n 1, 1) := by decide +kernel
theorem d_Matcher_askCall_67 : decode c_Matcher_askCall 67 = .ok (.iaload, 1) := by decide +kernel
theorem d_Matcher_askCall_68 : decode c_Matcher_askCall 68 = .ok (.iaload, 1) := by decide +kernel
theorem d_Matcher_askCall_69 : decode c_Matcher_askCall 69 = .ok (.invokevirtual 88, 3) := by decide +kernel
theorem d_Matcher_askCall_72 : decode c_Matcher_askCall 72 = .ok (.return_, 1) := by decide +kernel
theorem d_Matcher_askBody_0 : decode c_Matcher_askBody 0 = .ok (.aload_n 0, 1) := by decide +kernel
theorem d_Matcher_askBody_1 : decode c_Matcher_askBody 1 = .ok (.getfield 60, 3) := by decide +kernel
theorem d_Matcher_askBody_4 : decode c_Matcher_askBody 4 = .ok (.getfield 140, 3) := by decide +kernel
theorem d_Matcher_askBody_7 : decode c_Matcher_askBody 7 = .ok (.istore_n 2, 1) := by decide +kernel
theorem d_Matcher_askBody_8 : decode c_Matcher_askBody 8 = .ok (.aload_n 0, 1) := by decide +kernel
theorem d_Matcher_askBody_9 : decode c_Matcher_askBody 9 = .ok (.getfield 23, 3) := by decide +kernel
theorem d_Matcher_askBody_12 : decode c_Matcher_askBody 12 = .ok (.getfield 163, 3) := by decide +kernel
theorem d_Matcher_askBody_15 : decode c_Matcher_askBody 15 = .ok (.iload_n 1, 1) := by decide +kernel
theorem d_Matcher_askBody_16 : decode c_Matcher_askBody 16 = .ok (.iaload, 1) := by decide +kernel
theorem d_Matcher_askBody_17 : decode c_Matcher_askBody 17 = .ok (.bipush 8, 2) := by decide +kernel
theorem d_Matcher_askBody_19 : decode c_Matcher_askBody 19 = .ok (.if_icmp .ne 24, 3) := by decide +kernel
theorem d_Matcher_askBody_22 : decode c_Matcher_askBody 22 = .ok (.aload_n 0, 1) := by decide +kernel
theorem d_Matcher_askBody_23 : decode c_Matcher_askBody 23 = .ok (.getfield 60, 3) := by decide +kernel
theorem d_Matcher_askBody_26 : decode c_Matcher_askBody 26 = .ok (.iconst 4, 1) := by decide +kernel
theorem d_Matcher_askBody_27 : decode c_Matcher_askBody 27 = .ok (.iload_n 1, 1) := by decide +kernel
theorem d_Matcher_askBody_28 : decode c_Matcher_askBody 28 = .ok (.aload_n 0, 1) := by decide +kernel
theorem d_Matcher_askBody_29 : decode c_Matcher_askBody 29 = .ok (.getfield 37, 3) := by decide +kernel
theorem d_Matcher_askBody_32 : decode c_Matcher_askBody 32 = .ok (.aload_n 0, 1) := by decide +kernel
theorem d_Matcher_askBody_33 : decode c_Matcher_askBody 33 = .ok (.getfield 40, 3) := by decide +kernel
theorem d_Matcher_askBody_36 : decode c_Matcher_askBody 36 = .ok (.aload_n 0, 1) := by decide +kernel
theorem d_Matcher_askBody_37 : decode c_Matcher_askBody 37 = .ok (.getfield 34, 3) := by decide +kernel
theorem d_Matcher_askBody_40 : decode c_Matcher_askBody 40 = .ok (.invokevirtual 124, 3) := by decide +kernel
theorem d_Matcher_askBody_43 : decode c_Matcher_askBody 43 = .ok (.aload_n 0, 1) := by decide +kernel
theorem d_Matcher_askBody_44 : decode c_Matcher_askBody 44 = .ok (.aload_n 0, 1) := by decide +kernel
theorem d_Matcher_askBody_45 : decode c_Matcher_askBody 45 = .ok (.getfield 53, 3) := by decide +kernel
theorem d_Matcher_askBody_48 : decode c_Matcher_askBody 48 = .ok (.iconst 1, 1) := by decide +kernel
theorem d_Matcher_askBody_49 : decode c_Matcher_askBody 49 = .ok (.iload_n 1, 1) := by decide +kernel
theorem d_Matcher_askBody_50 : decode c_Matcher_askBody 50 = .ok (.iload_n 2, 1) := by decide +kernel
theorem d_Matcher_askBody_51 : decode c_Matcher_askBody 51 = .ok (.aload_n 0, 1) := by decide +kernel
theorem d_Matcher_askBody_52 : decode c_Matcher_askBody 52 = .ok (.getfield 37, 3) := by decide +kernel
theorem d_Matcher_askBody_55 : decode c_Matcher_askBody 55 = .ok (.aload_n 0, 1) := by decide +kernel
theorem d_Matcher_askBody_56 : decode c_Matcher_askBody 56 = .ok (.getfield 40, 3) := by decide +kernel
theorem d_Matcher_askBody_59 : decode c_Matcher_askBody 59 = .ok (.aload_n 0, 1) := by decide +kernel
theorem d_Matcher_askBody_60 : decode c_Matcher_askBody 60 = .ok (.getfield 34, 3) := by decide +kernel
theorem d_Matcher_askBody_63 : decode c_Matcher_askBody 63 = .ok (.invokevirtual 143, 3) := by decide +kernel
theorem d_Matcher_askBody_66 : decode c_Matcher_askBody 66 = .ok (.putfield 34, 3) := by decide +kernel
theorem d_Matcher_askBody_69 : decode c_Matcher_askBody 69 = .ok (.aload_n 0, 1) := by decide +kernel
theorem d_Matcher_askBody_70 : decode c_Matcher_askBody 70 = .ok (.iconst 0, 1) := by decide +kernel
theorem d_Matcher_askBody_71 : decode c_Matcher_askBody 71 = .ok (.aload_n 0, 1) := by decide +kernel
theorem d_Matcher_askBody_72 : decode c_Matcher_askBody 72 = .ok (.getfield 23, 3) := by decide +kernel
theorem d_Matcher_askBody_75 : decode c_Matcher_askBody 75 = .ok (.getfield 200, 3) := by decide +kernel
theorem d_Matcher_askBody_78 : decode c_Matcher_askBody 78 = .ok (.iload_n 1, 1) := by decide +kernel
theorem d_Matcher_askBody_79 : decode c_Matcher_askBody 79 = .ok (.iaload, 1) := by decide +kernel
theorem d_Matcher_askBody_80 : decode c_Matcher_askBody 80 = .ok (.invokevirtual 88, 3) := by decide +kernel
theorem d_Matcher_askBody_83 : decode c_Matcher_askBody 83 = .ok (.return_, 1) := by decide +kernel
theorem d_Matcher_resume_0 : decode c_Matcher_resume 0 = .ok (.aload_n 0, 1) := by decide +kernel
theorem d_Matcher_resume_1 : decode c_Matcher_resume 1 = .ok (.getfield 53, 3) := by decide +kernel
theorem d_Matcher_resume_4 : decode c_Matcher_resume 4 = .ok (.getfield 203, 3) := by decide +kernel
theorem d_Matcher_resume_7 : decode c_Matcher_resume 7 = .ok (.iload_n 1, 1) := by decide +kernel
theorem d_Matcher_resume_8 : decode c_Matcher_resume 8 = .ok (.iaload, 1) := by decide +kernel
theorem d_Matcher_resume_9 : decode c_Matcher_resume 9 = .ok (.istore_n 2, 1) := by decide +kernel
theorem d_Matcher_resume_10 : decode c_Matcher_resume 10 = .ok (.aload_n 0, 1) := by decide +kernel
theorem d_Matcher_resume_11 : decode c_Matcher_resume 11 = .ok (.aload_n 0, 1) := by decide +kernel
theorem d_Matcher_resume_12 : decode c_Matcher_resume 12 = .ok (.getfield 53, 3) := by decide +kernel
theorem d_Matcher_resume_15 : decode c_Matcher_resume 15 = .ok (.getfield 206, 3) := by decide +kernel
theorem d_Matcher_resume_18 : decode c_Matcher_resume 18 = .ok (.iload_n 1, 1) := by decide +kernel
theorem d_Matcher_resume_19 : decode c_Matcher_resume 19 = .ok (.iaload, 1) := by decide +kernel
theorem d_Matcher_resume_20 : decode c_Matcher_resume 20 = .ok (.putfield 34, 3) := by decide +kernel
theorem d_Matcher_resume_23 : decode c_Matcher_resume 23 = .ok (.aload_n 0, 1) := by decide +kernel
theorem d_Matcher_resume_24 : decode c_Matcher_resume 24 = .ok (.getfield 53, 3) := by decide +kernel
theorem d_Matcher_resume_27 : decode c_Matcher_resume 27 = .ok (.getfield 209, 3) := by decide +kernel
theorem d_Matcher_resume_30 : decode c_Matcher_resume 30 = .ok (.iload_n 1, 1) := by decide +kernel
theorem d_Matcher_resume_31 : decode c_Matcher_resume 31 = .ok (.iaload, 1) := by decide +kernel
theorem d_Matcher_resume_32 : decode c_Matcher_resume 32 = .ok (.tableswitch 154 1 6 #[40, 49, 71, 104, 112, 121], 40) := by decide +kernel
theorem d_Matcher_resume_72 : decode c_Matcher_resume 72 = .ok (.aload_n 0, 1) := by decide +kernel
theorem d_Matcher_resume_73 : decode c_Matcher_resume 73 = .ok (.iload_n 1, 1) := by decide +kernel
theorem d_Matcher_resume_74 : decode c_Matcher_resume 74 = .ok (.iload_n 2, 1) := by decide +kernel
theorem d_Matcher_resume_75 : decode c_Matcher_resume 75 = .ok (.invokevirtual 210, 3) := by decide +kernel
theorem d_Matcher_resume_78 : decode c_Matcher_resume 78 = .ok (.goto 114, 3) := by decide +kernel
theorem d_Matcher_resume_81 : decode c_Matcher_resume 81 = .ok (.aload_n 0, 1) := by decide +kernel
theorem d_Matcher_resume_82 : decode c_Matcher_resume 82 = .ok (.aload_n 0, 1) := by decide +kernel
theorem d_Matcher_resume_83 : decode c_Matcher_resume 83 = .ok (.getfield 53, 3) := by decide +kernel
theorem d_Matcher_resume_86 : decode c_Matcher_resume 86 = .ok (.getfield 213, 3) := by decide +kernel
theorem d_Matcher_resume_89 : decode c_Matcher_resume 89 = .ok (.iload_n 1, 1) := by decide +kernel
theorem d_Matcher_resume_90 : decode c_Matcher_resume 90 = .ok (.laload, 1) := by decide +kernel
theorem d_Matcher_resume_91 : decode c_Matcher_resume 91 = .ok (.putfield 40, 3) := by decide +kernel
theorem d_Matcher_resume_94 : decode c_Matcher_resume 94 = .ok (.aload_n 0, 1) := by decide +kernel
theorem d_Matcher_resume_95 : decode c_Matcher_resume 95 = .ok (.iconst 4, 1) := by decide +kernel
theorem d_Matcher_resume_96 : decode c_Matcher_resume 96 = .ok (.iload_n 2, 1) := by decide +kernel
theorem d_Matcher_resume_97 : decode c_Matcher_resume 97 = .ok (.invokevirtual 88, 3) := by decide +kernel
theorem d_Matcher_resume_100 : decode c_Matcher_resume 100 = .ok (.goto 92, 3) := by decide +kernel
theorem d_Matcher_resume_103 : decode c_Matcher_resume 103 = .ok (.aload_n 0, 1) := by decide +kernel
theorem d_Matcher_resume_104 : decode c_Matcher_resume 104 = .ok (.getfield 37, 3) := by decide +kernel
theorem d_Matcher_resume_107 : decode c_Matcher_resume 107 = .ok (.aload_n 0, 1) := by decide +kernel
theorem d_Matcher_resume_108 : decode c_Matcher_resume 108 = .ok (.getfield 53, 3) := by decide +kernel
theorem d_Matcher_resume_111 : decode c_Matcher_resume 111 = .ok (.getfield 214, 3) := by decide +kernel
theorem d_Matcher_resume_114 : decode c_Matcher_resume 114 = .ok (.iload_n 1, 1) := by decide +kernel
theorem d_Matcher_resume_115 : decode c_Matcher_resume 115 = .ok (.iaload, 1) := by decide +kernel
theorem d_Matcher_resume_116 : decode c_Matcher_resume 116 = .ok (.if_icmp .ne 12, 3) := by decide +kernel
theorem d_Matcher_resume_119 : decode c_Matcher_resume 119 = .ok (.aload_n 0, 1) := by decide +kernel
theorem d_Matcher_resume_120 : decode c_Matcher_resume 120 = .ok (.iconst 5, 1) := by decide +kernel
theorem d_Matcher_resume_121 : decode c_Matcher_resume 121 = .ok (.iload_n 2, 1) := by decide +kernel
theorem d_Matcher_resume_122 : decode c_Matcher_resume 122 = .ok (.invokevirtual 88, 3) := by decide +kernel
theorem d_Matcher_resume_125 : decode c_Matcher_resume 125 = .ok (.goto 67, 3) := by decide +kernel
theorem d_Matcher_resume_128 : decode c_Matcher_resume 128 = .ok (.aload_n 0, 1) := by decide +kernel
theorem d_Matcher_resume_129 : decode c_Matcher_resume 129 = .ok (.iload_n 2, 1) := by decide +kernel
theorem d_Matcher_resume_130 : decode c_Matcher_resume 130 = .ok (.invokevirtual 146, 3) := by decide +kernel
theorem d_Matcher_resume_133 : decode c_Matcher_resume 133 = .ok (.goto 59, 3) := by decide +kernel
theorem d_Matcher_resume_136 : decode c_Matcher_resume 136 = .ok (.aload_n 0, 1) := by decide +kernel
theorem d_Matcher_resume_137 : decode c_Matcher_resume 137 = .ok (.iload_n 2, 1) := by decide +kernel
theorem d_Matcher_resume_138 : decode c_Matcher_resume 138 = .ok (.invokevirtual 146, 3) := by decide +kernel
theorem d_Matcher_resume_141 : decode c_Matcher_resume 141 = .ok (.goto 51, 3) := by decide +kernel
theorem d_Matcher_resume_144 : decode c_Matcher_resume 144 = .ok (.aload_n 0, 1) := by decide +kernel
theorem d_Matcher_resume_145 : decode c_Matcher_resume 145 = .ok (.iload_n 1, 1) := by decide +kernel
theorem d_Matcher_resume_146 : decode c_Matcher_resume 146 = .ok (.iload_n 2, 1) := by decide +kernel
theorem d_Matcher_resume_147 : decode c_Matcher_resume 147 = .ok (.invokevirtual 215, 3) := by decide +kernel
theorem d_Matcher_resume_150 : decode c_Matcher_resume 150 = .ok (.goto 42, 3) := by decide +kernel
theorem d_Matcher_resume_153 : decode c_Matcher_resume 153 = .ok (.aload_n 0, 1) := by decide +kernel
theorem d_Matcher_resume_154 : decode c_Matcher_resume 154 = .ok (.getfield 60, 3) := by decide +kernel
theorem d_Matcher_resume_157 : decode c_Matcher_resume 157 = .ok (.aload_n 0, 1) := by decide +kernel
theorem d_Matcher_resume_158 : decode c_Matcher_resume 158 = .ok (.getfield 53, 3) := by decide +kernel
theorem d_Matcher_resume_161 : decode c_Matcher_resume 161 = .ok (.getfield 218, 3) := by decide +kernel
theorem d_Matcher_resume_164 : decode c_Matcher_resume 164 = .ok (.iload_n 1, 1) := by decide +kernel
theorem d_Matcher_resume_165 : decode c_Matcher_resume 165 = .ok (.iaload, 1) := by decide +kernel
theorem d_Matcher_resume_166 : decode c_Matcher_resume 166 = .ok (.invokevirtual 81, 3) := by decide +kernel
theorem d_Matcher_resume_169 : decode c_Matcher_resume 169 = .ok (.aload_n 0, 1) := by decide +kernel
theorem d_Matcher_resume_170 : decode c_Matcher_resume 170 = .ok (.iconst 1, 1) := by decide +kernel
theorem d_Matcher_resume_171 : decode c_Matcher_resume 171 = .ok (.aload_n 0, 1) := by decide +kernel
theorem d_Matcher_resume_172 : decode c_Matcher_resume 172 = .ok (.getfield 23, 3) := by decide +kernel
theorem d_Matcher_resume_175 : decode c_Matcher_resume 175 = .ok (.getfield 134, 3) := by decide +kernel
theorem d_Matcher_resume_178 : decode c_Matcher_resume 178 = .ok (.iload_n 2, 1) := by decide +kernel
theorem d_Matcher_resume_179 : decode c_Matcher_resume 179 = .ok (.iaload, 1) := by decide +kernel
theorem d_Matcher_resume_180 : decode c_Matcher_resume 180 = .ok (.invokevirtual 88, 3) := by decide +kernel
theorem d_Matcher_resume_183 : decode c_Matcher_resume 183 = .ok (.goto 9, 3) := by decide +kernel
theorem d_Matcher_resume_186 : decode c_Matcher_resume 186 = .ok (.aload_n 0, 1) := by decide +kernel
theorem d_Matcher_resume_187 : decode c_Matcher_resume 187 = .ok (.bipush 8, 2) := by decide +kernel
theorem d_Matcher_resume_189 : decode c_Matcher_resume 189 = .ok (.putfield 27, 3) := by decide +kernel
theorem d_Matcher_resume_192 : decode c_Matcher_resume 192 = .ok (.return_, 1) := by decide +kernel
theorem d_Matcher_leaveTimesTurn_0 : decode c_Matcher_leaveTimesTurn 0 = .ok (.aload_n 0, 1) := by decide +kernel
theorem d_Matcher_leaveTimesTurn_1 : decode c_Matcher_leaveTimesTurn 1 = .ok (.getfield 53, 3) := by decide +kernel
theorem d_Matcher_leaveTimesTurn_4 : decode c_Matcher_leaveTimesTurn 4 = .ok (.getfield 218, 3) := by decide +kernel
theorem d_Matcher_leaveTimesTurn_7 : decode c_Matcher_leaveTimesTurn 7 = .ok (.iload_n 1, 1) := by decide +kernel
theorem d_Matcher_leaveTimesTurn_8 : decode c_Matcher_leaveTimesTurn 8 = .ok (.iaload, 1) := by decide +kernel
theorem d_Matcher_leaveTimesTurn_9 : decode c_Matcher_leaveTimesTurn 9 = .ok (.iconst 1, 1) := by decide +kernel
theorem d_Matcher_leaveTimesTurn_10 : decode c_Matcher_leaveTimesTurn 10 = .ok (.isub, 1) := by decide +kernel
theorem d_Matcher_leaveTimesTurn_11 : decode c_Matcher_leaveTimesTurn 11 = .ok (.istore_n 3, 1) := by decide +kernel
theorem d_Matcher_leaveTimesTurn_12 : decode c_Matcher_leaveTimesTurn 12 = .ok (.iload_n 3, 1) := by decide +kernel
theorem d_Matcher_leaveTimesTurn_13 : decode c_Matcher_leaveTimesTurn 13 = .ok (.ifCond .gt 12, 3) := by decide +kernel
theorem d_Matcher_leaveTimesTurn_16 : decode c_Matcher_leaveTimesTurn 16 = .ok (.aload_n 0, 1) := by decide +kernel
theorem d_Matcher_leaveTimesTurn_17 : decode c_Matcher_leaveTimesTurn 17 = .ok (.iconst 5, 1) := by decide +kernel
theorem d_Matcher_leaveTimesTurn_18 : decode c_Matcher_leaveTimesTurn 18 = .ok (.iload_n 2, 1) := by decide +kernel
theorem d_Matcher_leaveTimesTurn_19 : decode c_Matcher_leaveTimesTurn 19 = .ok (.invokevirtual 88, 3) := by decide +kernel
theorem d_Matcher_leaveTimesTurn_22 : decode c_Matcher_leaveTimesTurn 22 = .ok (.goto 35, 3) := by decide +kernel
theorem d_Matcher_leaveTimesTurn_25 : decode c_Matcher_leaveTimesTurn 25 = .ok (.aload_n 0, 1) := by decide +kernel
theorem d_Matcher_leaveTimesTurn_26 : decode c_Matcher_leaveTimesTurn 26 = .ok (.aload_n 0, 1) := by decide +kernel
theorem d_Matcher_leaveTimesTurn_27 : decode c_Matcher_leaveTimesTurn 27 = .ok (.getfield 53, 3) := by decide +kernel
theorem d_Matcher_leaveTimesTurn_30 : decode c_Matcher_leaveTimesTurn 30 = .ok (.iconst 5, 1) := by decide +kernel
theorem d_Matcher_leaveTimesTurn_31 : decode c_Matcher_leaveTimesTurn 31 = .ok (.iload_n 2, 1) := by decide +kernel
theorem d_Matcher_leaveTimesTurn_32 : decode c_Matcher_leaveTimesTurn 32 = .ok (.iload_n 3, 1) := by decide +kernel
theorem d_Matcher_leaveTimesTurn_33 : decode c_Matcher_leaveTimesTurn 33 = .ok (.aload_n 0, 1) := by decide +kernel
theorem d_Matcher_leaveTimesTurn_34 : decode c_Matcher_leaveTimesTurn 34 = .ok (.getfield 37, 3) := by decide +kernel
theorem d_Matcher_leaveTimesTurn_37 : decode c_Matcher_leaveTimesTurn 37 = .ok (.aload_n 0, 1) := by decide +kernel
theorem d_Matcher_leaveTimesTurn_38 : decode c_Matcher_leaveTimesTurn 38 = .ok (.getfield 40, 3) := by decide +kernel
theorem d_Matcher_leaveTimesTurn_41 : decode c_Matcher_leaveTimesTurn 41 = .ok (.aload_n 0, 1) := by decide +kernel
theorem d_Matcher_leaveTimesTurn_42 : decode c_Matcher_leaveTimesTurn 42 = .ok (.getfield 34, 3) := by decide +kernel
theorem d_Matcher_leaveTimesTurn_45 : decode c_Matcher_leaveTimesTurn 45 = .ok (.invokevirtual 143, 3) := by decide +kernel
theorem d_Matcher_leaveTimesTurn_48 : decode c_Matcher_leaveTimesTurn 48 = .ok (.putfield 34, 3) := by decide +kernel
theorem d_Matcher_leaveTimesTurn_51 : decode c_Matcher_leaveTimesTurn 51 = .ok (.aload_n 0, 1) := by decide +kernel
theorem d_Matcher_leaveTimesTurn_52 : decode c_Matcher_leaveTimesTurn 52 = .ok (.iconst 3, 1) := by decide +kernel
theorem d_Matcher_leaveTimesTurn_53 : decode c_Matcher_leaveTimesTurn 53 = .ok (.iload_n 2, 1) := by decide +kernel
theorem d_Matcher_leaveTimesTurn_54 : decode c_Matcher_leaveTimesTurn 54 = .ok (.invokevirtual 88, 3) := by decide +kernel
theorem d_Matcher_leaveTimesTurn_57 : decode c_Matcher_leaveTimesTurn 57 = .ok (.return_, 1) := by decide +kernel
theorem d_Matcher_leaveBody_0 : decode c_Matcher_leaveBody 0 = .ok (.aload_n 0, 1) := by decide +kernel
theorem d_Matcher_leaveBody_1 : decode c_Matcher_leaveBody 1 = .ok (.getfield 23, 3) := by decide +kernel
theorem d_Matcher_leaveBody_4 : decode c_Matcher_leaveBody 4 = .ok (.getfield 163, 3) := by decide +kernel
theorem d_Matcher_leaveBody_7 : decode c_Matcher_leaveBody 7 = .ok (.iload_n 2, 1) := by decide +kernel
theorem d_Matcher_leaveBody_8 : decode c_Matcher_leaveBody 8 = .ok (.iaload, 1) := by decide +kernel
theorem d_Matcher_leaveBody_9 : decode c_Matcher_leaveBody 9 = .ok (.istore_n 3, 1) := by decide +kernel
theorem d_Matcher_leaveBody_10 : decode c_Matcher_leaveBody 10 = .ok (.iload_n 3, 1) := by decide +kernel
theorem d_Matcher_leaveBody_11 : decode c_Matcher_leaveBody 11 = .ok (.bipush 7, 2) := by decide +kernel
theorem d_Matcher_leaveBody_13 : decode c_Matcher_leaveBody 13 = .ok (.if_icmp .eq 15, 3) := by decide +kernel
theorem d_Matcher_leaveBody_16 : decode c_Matcher_leaveBody 16 = .ok (.iload_n 3, 1) := by decide +kernel
theorem d_Matcher_leaveBody_17 : decode c_Matcher_leaveBody 17 = .ok (.bipush 8, 2) := by decide +kernel
theorem d_Matcher_leaveBody_19 : decode c_Matcher_leaveBody 19 = .ok (.if_icmp .eq 9, 3) := by decide +kernel
theorem d_Matcher_leaveBody_22 : decode c_Matcher_leaveBody 22 = .ok (.iload_n 3, 1) := by decide +kernel
theorem d_Matcher_leaveBody_23 : decode c_Matcher_leaveBody 23 = .ok (.bipush 9, 2) := by decide +kernel
theorem d_Matcher_leaveBody_25 : decode c_Matcher_leaveBody 25 = .ok (.if_icmp .ne 19, 3) := by decide +kernel
theorem d_Matcher_leaveBody_28 : decode c_Matcher_leaveBody 28 = .ok (.aload_n 0, 1) := by decide +kernel
theorem d_Matcher_leaveBody_29 : decode c_Matcher_leaveBody 29 = .ok (.getfield 60, 3) := by decide +kernel
theorem d_Matcher_leaveBody_32 : decode c_Matcher_leaveBody 32 = .ok (.aload_n 0, 1) := by decide +kernel
theorem d_Matcher_leaveBody_33 : decode c_Matcher_leaveBody 33 = .ok (.getfield 53, 3) := by decide +kernel
theorem d_Matcher_leaveBody_36 : decode c_Matcher_leaveBody 36 = .ok (.getfield 218, 3) := by decide +kernel
theorem d_Matcher_leaveBody_39 : decode c_Matcher_leaveBody 39 = .ok (.iload_n 1, 1) := by decide +kernel
theorem d_Matcher_leaveBody_40 : decode c_Matcher_leaveBody 40 = .ok (.iaload, 1) := by decide +kernel
theorem d_Matcher_leaveBody_41 : decode c_Matcher_leaveBody 41 = .ok (.invokevirtual 81, 3) := by decide +kernel
theorem d_Matcher_leaveBody_44 : decode c_Matcher_leaveBody 44 = .ok (.iload_n 3, 1) := by decide +kernel
theorem d_Matcher_leaveBody_45 : decode c_Matcher_leaveBody 45 = .ok (.iconst 5, 1) := by decide +kernel
theorem d_Matcher_leaveBody_46 : decode c_Matcher_leaveBody 46 = .ok (.if_icmp .ne 39, 3) := by decide +kernel
theorem d_Matcher_leaveBody_49 : decode c_Matcher_leaveBody 49 = .ok (.aload_n 0, 1) := by decide +kernel
theorem d_Matcher_leaveBody_50 : decode c_Matcher_leaveBody 50 = .ok (.aload_n 0, 1) := by decide +kernel
theorem d_Matcher_leaveBody_51 : decode c_Matcher_leaveBody 51 = .ok (.getfield 40, 3) := by decide +kernel
theorem d_Matcher_leaveBody_54 : decode c_Matcher_leaveBody 54 = .ok (.aload_n 0, 1) := by decide +kernel
theorem d_Matcher_leaveBody_55 : decode c_Matcher_leaveBody 55 = .ok (.getfield 23, 3) := by decide +kernel
theorem d_Matcher_leaveBody_58 : decode c_Matcher_leaveBody 58 = .ok (.getfield 169, 3) := by decide +kernel
theorem d_Matcher_leaveBody_61 : decode c_Matcher_leaveBody 61 = .ok (.iload_n 2, 1) := by decide +kernel
theorem d_Matcher_leaveBody_62 : decode c_Matcher_leaveBody 62 = .ok (.iaload, 1) := by decide +kernel
theorem d_Matcher_leaveBody_63 : decode c_Matcher_leaveBody 63 = .ok (.aload_n 0, 1) := by decide +kernel
theorem d_Matcher_leaveBody_64 : decode c_Matcher_leaveBody 64 = .ok (.getfield 53, 3) := by decide +kernel
theorem d_Matcher_leaveBody_67 : decode c_Matcher_leaveBody 67 = .ok (.getfield 214, 3) := by decide +kernel
theorem d_Matcher_leaveBody_70 : decode c_Matcher_leaveBody 70 = .ok (.iload_n 1, 1) := by decide +kernel
theorem d_Matcher_leaveBody_71 : decode c_Matcher_leaveBody 71 = .ok (.iaload, 1) := by decide +kernel
theorem d_Matcher_leaveBody_72 : decode c_Matcher_leaveBody 72 = .ok (.aload_n 0, 1) := by decide +kernel
theorem d_Matcher_leaveBody_73 : decode c_Matcher_leaveBody 73 = .ok (.getfield 37, 3) := by decide +kernel
theorem d_Matcher_leaveBody_76 : decode c_Matcher_leaveBody 76 = .ok (.invokestatic 221, 3) := by decide +kernel
theorem d_Matcher_leaveBody_79 : decode c_Matcher_leaveBody 79 = .ok (.putfield 40, 3) := by decide +kernel
theorem d_Matcher_leaveBody_82 : decode c_Matcher_leaveBody 82 = .ok (.goto 22, 3) := by decide +kernel
theorem d_Matcher_leaveBody_85 : decode c_Matcher_leaveBody 85 = .ok (.iload_n 3, 1) := by decide +kernel
theorem d_Matcher_leaveBody_86 : decode c_Matcher_leaveBody 86 = .ok (.bipush 7, 2) := by decide +kernel
theorem d_Matcher_leaveBody_88 : decode c_Matcher_leaveBody 88 = .ok (.if_icmp .ne 16, 3) := by decide +kernel
theorem d_Matcher_leaveBody_91 : decode c_Matcher_leaveBody 91 = .ok (.aload_n 0, 1) := by decide +kernel
theorem d_Matcher_leaveBody_92 : decode c_Matcher_leaveBody 92 = .ok (.aload_n 0, 1) := by decide +kernel
theorem d_Matcher_leaveBody_93 : decode c_Matcher_leaveBody 93 = .ok (.getfield 53, 3) := by decide +kernel
theorem d_Matcher_leaveBody_96 : decode c_Matcher_leaveBody 96 = .ok (.getfield 214, 3) := by decide +kernel
theorem d_Matcher_leaveBody_99 : decode c_Matcher_leaveBody 99 = .ok (.iload_n 1, 1) := by decide +kernel
theorem d_Matcher_leaveBody_100 : decode c_Matcher_leaveBody 100 = .ok (.iaload, 1) := by decide +kernel
theorem d_Matcher_leaveBody_101 : decode c_Matcher_leaveBody 101 = .ok (.putfield 37, 3) := by decide +kernel
theorem d_Matcher_leaveBody_104 : decode c_Matcher_leaveBody 104 = .ok (.aload_n 0, 1) := by decide +kernel
theorem d_Matcher_leaveBody_105 : decode c_Matcher_leaveBody 105 = .ok (.iload_n 3, 1) := by decide +kernel
theorem d_Matcher_leaveBody_106 : decode c_Matcher_leaveBody 106 = .ok (.bipush 8, 2) := by decide +kernel
theorem d_Matcher_leaveBody_108 : decode c_Matcher_leaveBody 108 = .ok (.if_icmp .ne 8, 3) := by decide +kernel
theorem d_Matcher_leaveBody_111 : decode c_Matcher_leaveBody 111 = .ok (.bipush 7, 2) := by decide +kernel
theorem d_Matcher_leaveBody_113 : decode c_Matcher_leaveBody 113 = .ok (.goto 4, 3) := by decide +kernel
theorem d_Matcher_leaveBody_116 : decode c_Matcher_leaveBody 116 = .ok (.iconst 4, 1) := by decide +kernel
theorem d_Matcher_leaveBody_117 : decode c_Matcher_leaveBody 117 = .ok (.iload_n 2, 1) := by decide +kernel
theorem d_Matcher_leaveBody_118 : decode c_Matcher_leaveBody 118 = .ok (.invokevirtual 88, 3) := by decide +kernel
theorem d_Matcher_leaveBody_121 : decode c_Matcher_leaveBody 121 = .ok (.return_, 1) := by decide +kernel
theorem d_Program_init_0 : decode c_Program_init 0 = .ok (.aload_n 0, 1) := by decide +kernel
theorem d_Program_init_1 : decode c_Program_init 1 = .ok (.invokespecial 3, 3) := by decide +kernel
theorem d_Program_init_4 : decode c_Program_init 4 = .ok (.aload_n 0, 1) := by decide +kernel
theorem d_Program_init_5 : decode c_Program_init 5 = .ok (.bipush 32, 2) := by decide +kernel
theorem d_Program_init_7 : decode c_Program_init 7 = .ok (.newarray .int, 2) := by decide +kernel
theorem d_Program_init_9 : decode c_Program_init 9 = .ok (.putfield 9, 3) := by decide +kernel
theorem d_Program_init_12 : decode c_Program_init 12 = .ok (.aload_n 0, 1) := by decide +kernel
theorem d_Program_init_13 : decode c_Program_init 13 = .ok (.bipush 32, 2) := by decide +kernel
theorem d_Program_init_15 : decode c_Program_init 15 = .ok (.newarray .int, 2) := by decide +kernel
theorem d_Program_init_17 : decode c_Program_init 17 = .ok (.putfield 15, 3) := by decide +kernel
theorem d_Program_init_20 : decode c_Program_init 20 = .ok (.aload_n 0, 1) := by decide +kernel
theorem d_Program_init_21 : decode c_Program_init 21 = .ok (.bipush 32, 2) := by decide +kernel
theorem d_Program_init_23 : decode c_Program_init 23 = .ok (.newarray .int, 2) := by decide +kernel
theorem d_Program_init_25 : decode c_Program_init 25 = .ok (.putfield 18, 3) := by decide +kernel
theorem d_Program_init_28 : decode c_Program_init 28 = .ok (.aload_n 0, 1) := by decide +kernel
theorem d_Program_init_29 : decode c_Program_init 29 = .ok (.bipush 32, 2) := by decide +kernel
theorem d_Program_init_31 : decode c_Program_init 31 = .ok (.newarray .int, 2) := by decide +kernel
theorem d_Program_init_33 : decode c_Program_init 33 = .ok (.putfield 21, 3) := by decide +kernel
theorem d_Program_init_36 : decode c_Program_init 36 = .ok (.aload_n 0, 1) := by decide +kernel
theorem d_Program_init_37 : decode c_Program_init 37 = .ok (.bipush 32, 2) := by decide +kernel
theorem d_Program_init_39 : decode c_Program_init 39 = .ok (.newarray .int, 2) := by decide +kernel
theorem d_Program_init_41 : decode c_Program_init 41 = .ok (.putfield 24, 3) := by decide +kernel
theorem d_Program_init_44 : decode c_Program_init 44 = .ok (.aload_n 0, 1) := by decide +kernel
theorem d_Program_init_45 : decode c_Program_init 45 = .ok (.bipush 32, 2) := by decide +kernel
theorem d_Program_init_47 : decode c_Program_init 47 = .ok (.newarray .int, 2) := by decide +kernel
theorem d_Program_init_49 : decode c_Program_init 49 = .ok (.putfield 27, 3) := by decide +kernel
theorem d_Program_init_52 : decode c_Program_init 52 = .ok (.aload_n 0, 1) := by decide +kernel
theorem d_Program_init_53 : decode c_Program_init 53 = .ok (.bipush 32, 2) := by decide +kernel
theorem d_Program_init_55 : decode c_Program_init 55 = .ok (.newarray .int, 2) := by decide +kernel
theorem d_Program_init_57 : decode c_Program_init 57 = .ok (.putfield 30, 3) := by decide +kernel
theorem d_Program_init_60 : decode c_Program_init 60 = .ok (.aload_n 0, 1) := by decide +kernel
theorem d_Program_init_61 : decode c_Program_init 61 = .ok (.bipush 33, 2) := by decide +kernel
theorem d_Program_init_63 : decode c_Program_init 63 = .ok (.newarray .int, 2) := by decide +kernel
theorem d_Program_init_65 : decode c_Program_init 65 = .ok (.putfield 33, 3) := by decide +kernel
theorem d_Program_init_68 : decode c_Program_init 68 = .ok (.aload_n 0, 1) := by decide +kernel
theorem d_Program_init_69 : decode c_Program_init 69 = .ok (.bipush 33, 2) := by decide +kernel
theorem d_Program_init_71 : decode c_Program_init 71 = .ok (.newarray .int, 2) := by decide +kernel
theorem d_Program_init_73 : decode c_Program_init 73 = .ok (.putfield 36, 3) := by decide +kernel
theorem d_Program_init_76 : decode c_Program_init 76 = .ok (.aload_n 0, 1) := by decide +kernel
theorem d_Program_init_77 : decode c_Program_init 77 = .ok (.iconst 5, 1) := by decide +kernel
theorem d_Program_init_78 : decode c_Program_init 78 = .ok (.newarray .int, 2) := by decide +kernel
theorem d_Program_init_80 : decode c_Program_init 80 = .ok (.putfield 39, 3) := by decide +kernel
theorem d_Program_init_83 : decode c_Program_init 83 = .ok (.aload_n 0, 1) := by decide +kernel
theorem d_Program_init_84 : decode c_Program_init 84 = .ok (.iconst 0, 1) := by decide +kernel
theorem d_Program_init_85 : decode c_Program_init 85 = .ok (.putfield 42, 3) := by decide +kernel
theorem d_Program_init_88 : decode c_Program_init 88 = .ok (.aload_n 0, 1) := by decide +kernel
theorem d_Program_init_89 : decode c_Program_init 89 = .ok (.iconst 0, 1) := by decide +kernel
theorem d_Program_init_90 : decode c_Program_init 90 = .ok (.putfield 46, 3) := by decide +kernel
theorem d_Program_init_93 : decode c_Program_init 93 = .ok (.aload_n 0, 1) := by decide +kernel
theorem d_Program_init_94 : decode c_Program_init 94 = .ok (.iconst 0, 1) := by decide +kernel
theorem d_Program_init_95 : decode c_Program_init 95 = .ok (.putfield 49, 3) := by decide +kernel
theorem d_Program_init_98 : decode c_Program_init 98 = .ok (.aload_n 0, 1) := by decide +kernel
theorem d_Program_init_99 : decode c_Program_init 99 = .ok (.iconst 0, 1) := by decide +kernel
theorem d_Program_init_100 : decode c_Program_init 100 = .ok (.putfield 52, 3) := by decide +kernel
theorem d_Program_init_103 : decode c_Program_init 103 = .ok (.return_, 1) := by decide +kernel
theorem d_Program_empty_0 : decode c_Program_empty 0 = .ok (.aload_n 0, 1) := by decide +kernel
theorem d_Program_empty_1 : decode c_Program_empty 1 = .ok (.iconst 0, 1) := by decide +kernel
theorem d_Program_empty_2 : decode c_Program_empty 2 = .ok (.putfield 42, 3) := by decide +kernel
theorem d_Program_empty_5 : decode c_Program_empty 5 = .ok (.aload_n 0, 1) := by decide +kernel
theorem d_Program_empty_6 : decode c_Program_empty 6 = .ok (.iconst 0, 1) := by decide +kernel
theorem d_Program_empty_7 : decode c_Program_empty 7 = .ok (.putfield 46, 3) := by decide +kernel
theorem d_Program_empty_10 : decode c_Program_empty 10 = .ok (.aload_n 0, 1) := by decide +kernel
theorem d_Program_empty_11 : decode c_Program_empty 11 = .ok (.iconst 0, 1) := by decide +kernel
theorem d_Program_empty_12 : decode c_Program_empty 12 = .ok (.putfield 49, 3) := by decide +kernel
theorem d_Program_empty_15 : decode c_Program_empty 15 = .ok (.aload_n 0, 1) := by decide +kernel
theorem d_Program_empty_16 : decode c_Program_empty 16 = .ok (.iconst 0, 1) := by decide +kernel
theorem d_Program_empty_17 : decode c_Program_empty 17 = .ok (.putfield 52, 3) := by decide +kernel
theorem d_Program_empty_20 : decode c_Program_empty 20 = .ok (.return_, 1) := by decide +kernel
theorem d_Program_addRow_0 : decode c_Program_addRow 0 = .ok (.aload_n 0, 1) := by decide +kernel
theorem d_Program_addRow_1 : decode c_Program_addRow 1 = .ok (.getfield 46, 3) := by decide +kernel
theorem d_Program_addRow_4 : decode c_Program_addRow 4 = .ok (.istore_n 1, 1) := by decide +kernel
theorem d_Program_addRow_5 : decode c_Program_addRow 5 = .ok (.aload_n 0, 1) := by decide +kernel
theorem d_Program_addRow_6 : decode c_Program_addRow 6 = .ok (.getfield 33, 3) := by decide +kernel
theorem d_Program_addRow_9 : decode c_Program_addRow 9 = .ok (.iload_n 1, 1) := by decide +kernel
theorem d_Program_addRow_10 : decode c_Program_addRow 10 = .ok (.iconst (-1), 1) := by decide +kernel
theorem d_Program_addRow_11 : decode c_Program_addRow 11 = .ok (.iastore, 1) := by decide +kernel
theorem d_Program_addRow_12 : decode c_Program_addRow 12 = .ok (.aload_n 0, 1) := by decide +kernel
theorem d_Program_addRow_13 : decode c_Program_addRow 13 = .ok (.getfield 36, 3) := by decide +kernel
theorem d_Program_addRow_16 : decode c_Program_addRow 16 = .ok (.iload_n 1, 1) := by decide +kernel
theorem d_Program_addRow_17 : decode c_Program_addRow 17 = .ok (.iconst (-1), 1) := by decide +kernel
theorem d_Program_addRow_18 : decode c_Program_addRow 18 = .ok (.iastore, 1) := by decide +kernel
theorem d_Program_addRow_19 : decode c_Program_addRow 19 = .ok (.aload_n 0, 1) := by decide +kernel
theorem d_Program_addRow_20 : decode c_Program_addRow 20 = .ok (.dup, 1) := by decide +kernel
theorem d_Program_addRow_21 : decode c_Program_addRow 21 = .ok (.getfield 46, 3) := by decide +kernel
theorem d_Program_addRow_24 : decode c_Program_addRow 24 = .ok (.iconst 1, 1) := by decide +kernel
theorem d_Program_addRow_25 : decode c_Program_addRow 25 = .ok (.iadd, 1) := by decide +kernel
theorem d_Program_addRow_26 : decode c_Program_addRow 26 = .ok (.putfield 46, 3) := by decide +kernel
theorem d_Program_addRow_29 : decode c_Program_addRow 29 = .ok (.iload_n 1, 1) := by decide +kernel
theorem d_Program_addRow_30 : decode c_Program_addRow 30 = .ok (.ireturn, 1) := by decide +kernel
theorem d_Program_addItem_0 : decode c_Program_addItem 0 = .ok (.aload_n 0, 1) := by decide +kernel
theorem d_Program_addItem_1 : decode c_Program_addItem 1 = .ok (.getfield 42, 3) := by decide +kernel
theorem d_Program_addItem_4 : decode c_Program_addItem 4 = .ok (.istore_n 3, 1) := by decide +kernel
theorem d_Program_addItem_5 : decode c_Program_addItem 5 = .ok (.aload_n 0, 1) := by decide +kernel
theorem d_Program_addItem_6 : decode c_Program_addItem 6 = .ok (.getfield 9, 3) := by decide +kernel
theorem d_Program_addItem_9 : decode c_Program_addItem 9 = .ok (.iload_n 3, 1) := by decide +kernel
theorem d_Program_addItem_10 : decode c_Program_addItem 10 = .ok (.iload_n 1, 1) := by decide +kernel
theorem d_Program_addItem_11 : decode c_Program_addItem 11 = .ok (.iastore, 1) := by decide +kernel
theorem d_Program_addItem_12 : decode c_Program_addItem 12 = .ok (.aload_n 0, 1) := by decide +kernel
theorem d_Program_addItem_13 : decode c_Program_addItem 13 = .ok (.getfield 15, 3) := by decide +kernel
theorem d_Program_addItem_16 : decode c_Program_addItem 16 = .ok (.iload_n 3, 1) := by decide +kernel
theorem d_Program_addItem_17 : decode c_Program_addItem 17 = .ok (.iload_n 2, 1) := by decide +kernel
theorem d_Program_addItem_18 : decode c_Program_addItem 18 = .ok (.iastore, 1) := by decide +kernel
theorem d_Program_addItem_19 : decode c_Program_addItem 19 = .ok (.aload_n 0, 1) := by decide +kernel
theorem d_Program_addItem_20 : decode c_Program_addItem 20 = .ok (.getfield 18, 3) := by decide +kernel
theorem d_Program_addItem_23 : decode c_Program_addItem 23 = .ok (.iload_n 3, 1) := by decide +kernel
theorem d_Program_addItem_24 : decode c_Program_addItem 24 = .ok (.iconst 0, 1) := by decide +kernel
theorem d_Program_addItem_25 : decode c_Program_addItem 25 = .ok (.iastore, 1) := by decide +kernel
theorem d_Program_addItem_26 : decode c_Program_addItem 26 = .ok (.aload_n 0, 1) := by decide +kernel
theorem d_Program_addItem_27 : decode c_Program_addItem 27 = .ok (.getfield 21, 3) := by decide +kernel
theorem d_Program_addItem_30 : decode c_Program_addItem 30 = .ok (.iload_n 3, 1) := by decide +kernel
theorem d_Program_addItem_31 : decode c_Program_addItem 31 = .ok (.iconst 1, 1) := by decide +kernel
theorem d_Program_addItem_32 : decode c_Program_addItem 32 = .ok (.iastore, 1) := by decide +kernel
theorem d_Program_addItem_33 : decode c_Program_addItem 33 = .ok (.aload_n 0, 1) := by decide +kernel
theorem d_Program_addItem_34 : decode c_Program_addItem 34 = .ok (.getfield 24, 3) := by decide +kernel
theorem d_Program_addItem_37 : decode c_Program_addItem 37 = .ok (.iload_n 3, 1) := by decide +kernel
theorem d_Program_addItem_38 : decode c_Program_addItem 38 = .ok (.iconst 0, 1) := by decide +kernel
theorem d_Program_addItem_39 : decode c_Program_addItem 39 = .ok (.iastore, 1) := by decide +kernel
theorem d_Program_addItem_40 : decode c_Program_addItem 40 = .ok (.aload_n 0, 1) := by decide +kernel
theorem d_Program_addItem_41 : decode c_Program_addItem 41 = .ok (.getfield 27, 3) := by decide +kernel
theorem d_Program_addItem_44 : decode c_Program_addItem 44 = .ok (.iload_n 3, 1) := by decide +kernel
theorem d_Program_addItem_45 : decode c_Program_addItem 45 = .ok (.iconst (-1), 1) := by decide +kernel
theorem d_Program_addItem_46 : decode c_Program_addItem 46 = .ok (.iastore, 1) := by decide +kernel
theorem d_Program_addItem_47 : decode c_Program_addItem 47 = .ok (.aload_n 0, 1) := by decide +kernel
theorem d_Program_addItem_48 : decode c_Program_addItem 48 = .ok (.getfield 30, 3) := by decide +kernel
theorem d_Program_addItem_51 : decode c_Program_addItem 51 = .ok (.iload_n 3, 1) := by decide +kernel
theorem d_Program_addItem_52 : decode c_Program_addItem 52 = .ok (.iconst (-1), 1) := by decide +kernel
theorem d_Program_addItem_53 : decode c_Program_addItem 53 = .ok (.iastore, 1) := by decide +kernel
theorem d_Program_addItem_54 : decode c_Program_addItem 54 = .ok (.aload_n 0, 1) := by decide +kernel
theorem d_Program_addItem_55 : decode c_Program_addItem 55 = .ok (.dup, 1) := by decide +kernel
theorem d_Program_addItem_56 : decode c_Program_addItem 56 = .ok (.getfield 42, 3) := by decide +kernel
theorem d_Program_addItem_59 : decode c_Program_addItem 59 = .ok (.iconst 1, 1) := by decide +kernel
theorem d_Program_addItem_60 : decode c_Program_addItem 60 = .ok (.iadd, 1) := by decide +kernel
theorem d_Program_addItem_61 : decode c_Program_addItem 61 = .ok (.putfield 42, 3) := by decide +kernel
theorem d_Program_addItem_64 : decode c_Program_addItem 64 = .ok (.iload_n 3, 1) := by decide +kernel
theorem d_Program_addItem_65 : decode c_Program_addItem 65 = .ok (.ireturn, 1) := by decide +kernel
theorem d_Reader_init_0 : decode c_Reader_init 0 = .ok (.aload_n 0, 1) := by decide +kernel
theorem d_Reader_init_1 : decode c_Reader_init 1 = .ok (.invokespecial 3, 3) := by decide +kernel
theorem d_Reader_init_4 : decode c_Reader_init 4 = .ok (.aload_n 0, 1) := by decide +kernel
theorem d_Reader_init_5 : decode c_Reader_init 5 = .ok (.new 9, 3) := by decide +kernel
theorem d_Reader_init_8 : decode c_Reader_init 8 = .ok (.dup, 1) := by decide +kernel
theorem d_Reader_init_9 : decode c_Reader_init 9 = .ok (.bipush 32, 2) := by decide +kernel
theorem d_Reader_init_11 : decode c_Reader_init 11 = .ok (.invokespecial 11, 3) := by decide +kernel
theorem d_Reader_init_14 : decode c_Reader_init 14 = .ok (.putfield 14, 3) := by decide +kernel
theorem d_Reader_init_17 : decode c_Reader_init 17 = .ok (.aload_n 0, 1) := by decide +kernel
theorem d_Reader_init_18 : decode c_Reader_init 18 = .ok (.new 20, 3) := by decide +kernel
theorem d_Reader_init_21 : decode c_Reader_init 21 = .ok (.dup, 1) := by decide +kernel
theorem d_Reader_init_22 : decode c_Reader_init 22 = .ok (.invokespecial 22, 3) := by decide +kernel
theorem d_Reader_init_25 : decode c_Reader_init 25 = .ok (.putfield 23, 3) := by decide +kernel
theorem d_Reader_init_28 : decode c_Reader_init 28 = .ok (.aload_n 0, 1) := by decide +kernel
theorem d_Reader_init_29 : decode c_Reader_init 29 = .ok (.bipush 7, 2) := by decide +kernel
theorem d_Reader_init_31 : decode c_Reader_init 31 = .ok (.newarray .int, 2) := by decide +kernel
theorem d_Reader_init_33 : decode c_Reader_init 33 = .ok (.putfield 27, 3) := by decide +kernel
theorem d_Reader_init_36 : decode c_Reader_init 36 = .ok (.aload_n 0, 1) := by decide +kernel
theorem d_Reader_init_37 : decode c_Reader_init 37 = .ok (.bipush 7, 2) := by decide +kernel
theorem d_Reader_init_39 : decode c_Reader_init 39 = .ok (.newarray .int, 2) := by decide +kernel
theorem d_Reader_init_41 : decode c_Reader_init 41 = .ok (.putfield 31, 3) := by decide +kernel
theorem d_Reader_init_44 : decode c_Reader_init 44 = .ok (.aload_n 0, 1) := by decide +kernel
theorem d_Reader_init_45 : decode c_Reader_init 45 = .ok (.bipush 7, 2) := by decide +kernel
theorem d_Reader_init_47 : decode c_Reader_init 47 = .ok (.newarray .int, 2) := by decide +kernel
theorem d_Reader_init_49 : decode c_Reader_init 49 = .ok (.putfield 34, 3) := by decide +kernel
theorem d_Reader_init_52 : decode c_Reader_init 52 = .ok (.aload_n 0, 1) := by decide +kernel
theorem d_Reader_init_53 : decode c_Reader_init 53 = .ok (.bipush 7, 2) := by decide +kernel
theorem d_Reader_init_55 : decode c_Reader_init 55 = .ok (.newarray .int, 2) := by decide +kernel
theorem d_Reader_init_57 : decode c_Reader_init 57 = .ok (.putfield 37, 3) := by decide +kernel
theorem d_Reader_init_60 : decode c_Reader_init 60 = .ok (.aload_n 0, 1) := by decide +kernel
theorem d_Reader_init_61 : decode c_Reader_init 61 = .ok (.iconst 0, 1) := by decide +kernel
theorem d_Reader_init_62 : decode c_Reader_init 62 = .ok (.putfield 40, 3) := by decide +kernel
theorem d_Reader_init_65 : decode c_Reader_init 65 = .ok (.aload_n 0, 1) := by decide +kernel
theorem d_Reader_init_66 : decode c_Reader_init 66 = .ok (.iconst 0, 1) := by decide +kernel
theorem d_Reader_init_67 : decode c_Reader_init 67 = .ok (.putfield 44, 3) := by decide +kernel
theorem d_Reader_init_70 : decode c_Reader_init 70 = .ok (.aload_n 0, 1) := by decide +kernel
theorem d_Reader_init_71 : decode c_Reader_init 71 = .ok (.iconst 0, 1) := by decide +kernel
theorem d_Reader_init_72 : decode c_Reader_init 72 = .ok (.putfield 47, 3) := by decide +kernel
theorem d_Reader_init_75 : decode c_Reader_init 75 = .ok (.aload_n 0, 1) := by decide +kernel
theorem d_Reader_init_76 : decode c_Reader_init 76 = .ok (.iconst 0, 1) := by decide +kernel
theorem d_Reader_init_77 : decode c_Reader_init 77 = .ok (.putfield 50, 3) := by decide +kernel
theorem d_Reader_init_80 : decode c_Reader_init 80 = .ok (.aload_n 0, 1) := by decide +kernel
theorem d_Reader_init_81 : decode c_Reader_init 81 = .ok (.iconst 1, 1) := by decide +kernel
theorem d_Reader_init_82 : decode c_Reader_init 82 = .ok (.putfield 53, 3) := by decide +kernel
theorem d_Reader_init_85 : decode c_Reader_init 85 = .ok (.return_, 1) := by decide +kernel
theorem d_Reader_read_0 : decode c_Reader_read 0 = .ok (.aload_n 0, 1) := by decide +kernel
theorem d_Reader_read_1 : decode c_Reader_read 1 = .ok (.getfield 23, 3) := by decide +kernel
theorem d_Reader_read_4 : decode c_Reader_read 4 = .ok (.invokevirtual 57, 3) := by decide +kernel
theorem d_Reader_read_7 : decode c_Reader_read 7 = .ok (.aload_n 0, 1) := by decide +kernel
theorem d_Reader_read_8 : decode c_Reader_read 8 = .ok (.iconst 0, 1) := by decide +kernel
theorem d_Reader_read_9 : decode c_Reader_read 9 = .ok (.putfield 44, 3) := by decide +kernel
theorem d_Reader_read_12 : decode c_Reader_read 12 = .ok (.aload_n 0, 1) := by decide +kernel
theorem d_Reader_read_13 : decode c_Reader_read 13 = .ok (.iconst 0, 1) := by decide +kernel
theorem d_Reader_read_14 : decode c_Reader_read 14 = .ok (.putfield 50, 3) := by decide +kernel
theorem d_Reader_read_17 : decode c_Reader_read 17 = .ok (.aload_n 0, 1) := by decide +kernel
theorem d_Reader_read_18 : decode c_Reader_read 18 = .ok (.iconst 1, 1) := by decide +kernel
theorem d_Reader_read_19 : decode c_Reader_read 19 = .ok (.putfield 53, 3) := by decide +kernel
theorem d_Reader_read_22 : decode c_Reader_read 22 = .ok (.aload_n 0, 1) := by decide +kernel
theorem d_Reader_read_23 : decode c_Reader_read 23 = .ok (.iconst 0, 1) := by decide +kernel
theorem d_Reader_read_24 : decode c_Reader_read 24 = .ok (.iconst (-1), 1) := by decide +kernel
theorem d_Reader_read_25 : decode c_Reader_read 25 = .ok (.invokevirtual 60, 3) := by decide +kernel
theorem d_Reader_read_28 : decode c_Reader_read 28 = .ok (.aload_n 0, 1) := by decide +kernel
theorem d_Reader_read_29 : decode c_Reader_read 29 = .ok (.getfield 23, 3) := by decide +kernel
theorem d_Reader_read_32 : decode c_Reader_read 32 = .ok (.getfield 64, 3) := by decide +kernel
theorem d_Reader_read_35 : decode c_Reader_read 35 = .ok (.iconst 0, 1) := by decide +kernel
theorem d_Reader_read_36 : decode c_Reader_read 36 = .ok (.aload_n 0, 1) := by decide +kernel
theorem d_Reader_read_37 : decode c_Reader_read 37 = .ok (.getfield 31, 3) := by decide +kernel
theorem d_Reader_read_40 : decode c_Reader_read 40 = .ok (.iconst 0, 1) := by decide +kernel
theorem d_Reader_read_41 : decode c_Reader_read 41 = .ok (.iaload, 1) := by decide +kernel
theorem d_Reader_read_42 : decode c_Reader_read 42 = .ok (.iastore, 1) := by decide +kernel
theorem d_Reader_read_43 : decode c_Reader_read 43 = .ok (.iconst 0, 1) := by decide +kernel
theorem d_Reader_read_44 : decode c_Reader_read 44 = .ok (.istore_n 1, 1) := by decide +kernel
theorem d_Reader_read_45 : decode c_Reader_read 45 = .ok (.iload_n 1, 1) := by decide +kernel
theorem d_Reader_read_46 : decode c_Reader_read 46 = .ok (.bipush 32, 2) := by decide +kernel
theorem d_Reader_read_48 : decode c_Reader_read 48 = .ok (.if_icmp .ge 45, 3) := by decide +kernel
theorem d_Reader_read_51 : decode c_Reader_read 51 = .ok (.aload_n 0, 1) := by decide +kernel
theorem d_Reader_read_52 : decode c_Reader_read 52 = .ok (.getfield 53, 3) := by decide +kernel
theorem d_Reader_read_55 : decode c_Reader_read 55 = .ok (.ifCond .eq 38, 3) := by decide +kernel
theorem d_Reader_read_58 : decode c_Reader_read 58 = .ok (.aload_n 0, 1) := by decide +kernel
theorem d_Reader_read_59 : decode c_Reader_read 59 = .ok (.getfield 44, 3) := by decide +kernel
theorem d_Reader_read_62 : decode c_Reader_read 62 = .ok (.aload_n 0, 1) := by decide +kernel
theorem d_Reader_read_63 : decode c_Reader_read 63 = .ok (.getfield 14, 3) := by decide +kernel
theorem d_Reader_read_66 : decode c_Reader_read 66 = .ok (.getfield 67, 3) := by decide +kernel
theorem d_Reader_read_69 : decode c_Reader_read 69 = .ok (.if_icmp .ge 24, 3) := by decide +kernel
theorem d_Reader_read_72 : decode c_Reader_read 72 = .ok (.aload_n 0, 1) := by decide +kernel
theorem d_Reader_read_73 : decode c_Reader_read 73 = .ok (.invokevirtual 70, 3) := by decide +kernel
theorem d_Reader_read_76 : decode c_Reader_read 76 = .ok (.istore_n 2, 1) := by decide +kernel
theorem d_Reader_read_77 : decode c_Reader_read 77 = .ok (.iload_n 2, 1) := by decide +kernel
theorem d_Reader_read_78 : decode c_Reader_read 78 = .ok (.iconst (-1), 1) := by decide +kernel
theorem d_Reader_read_79 : decode c_Reader_read 79 = .ok (.if_icmp .eq 8, 3) := by decide +kernel
theorem d_Reader_read_82 : decode c_Reader_read 82 = .ok (.aload_n 0, 1) := by decide +kernel
theorem d_Reader_read_83 : decode c_Reader_read 83 = .ok (.iload_n 2, 1) := by decide +kernel
theorem d_Reader_read_84 : decode c_Reader_read 84 = .ok (.invokevirtual 74, 3) := by decide +kernel
theorem d_Reader_read_87 : decode c_Reader_read 87 = .ok (.iinc 1 1, 3) := by decide +kernel
theorem d_Reader_read_90 : decode c_Reader_read 90 = .ok (.goto (-45), 3) := by decide +kernel
theorem d_Reader_read_93 : decode c_Reader_read 93 = .ok (.aload_n 0, 1) := by decide +kernel
theorem d_Reader_read_94 : decode c_Reader_read 94 = .ok (.getfield 23, 3) := by decide +kernel
theorem d_Reader_read_97 : decode c_Reader_read 97 = .ok (.aload_n 0, 1) := by decide +kernel
theorem d_Reader_read_98 : decode c_Reader_read 98 = .ok (.getfield 37, 3) := by decide +kernel
theorem d_Reader_read_101 : decode c_Reader_read 101 = .ok (.iconst 0, 1) := by decide +kernel
theorem d_Reader_read_102 : decode c_Reader_read 102 = .ok (.iaload, 1) := by decide +kernel
theorem d_Reader_read_103 : decode c_Reader_read 103 = .ok (.putfield 77, 3) := by decide +kernel
theorem d_Reader_read_106 : decode c_Reader_read 106 = .ok (.aload_n 0, 1) := by decide +kernel
theorem d_Reader_read_107 : decode c_Reader_read 107 = .ok (.getfield 53, 3) := by decide +kernel
theorem d_Reader_read_110 : decode c_Reader_read 110 = .ok (.ifCond .eq 28, 3) := by decide +kernel
theorem d_Reader_read_113 : decode c_Reader_read 113 = .ok (.aload_n 0, 1) := by decide +kernel
theorem d_Reader_read_114 : decode c_Reader_read 114 = .ok (.getfield 40, 3) := by decide +kernel
theorem d_Reader_read_117 : decode c_Reader_read 117 = .ok (.ifCond .ne 21, 3) := by decide +kernel
theorem d_Reader_read_120 : decode c_Reader_read 120 = .ok (.aload_n 0, 1) := by decide +kernel
theorem d_Reader_read_121 : decode c_Reader_read 121 = .ok (.getfield 50, 3) := by decide +kernel
theorem d_Reader_read_124 : decode c_Reader_read 124 = .ok (.aload_n 0, 1) := by decide +kernel
theorem d_Reader_read_125 : decode c_Reader_read 125 = .ok (.getfield 23, 3) := by decide +kernel
theorem d_Reader_read_128 : decode c_Reader_read 128 = .ok (.getfield 80, 3) := by decide +kernel
theorem d_Reader_read_131 : decode c_Reader_read 131 = .ok (.if_icmp .gt 7, 3) := by decide +kernel
theorem d_Reader_read_134 : decode c_Reader_read 134 = .ok (.iconst 1, 1) := by decide +kernel
theorem d_Reader_read_135 : decode c_Reader_read 135 = .ok (.goto 4, 3) := by decide +kernel
theorem d_Reader_read_138 : decode c_Reader_read 138 = .ok (.iconst 0, 1) := by decide +kernel
theorem d_Reader_read_139 : decode c_Reader_read 139 = .ok (.ireturn, 1) := by decide +kernel
theorem d_Reader_readPart_0 : decode c_Reader_readPart 0 = .ok (.aload_n 0, 1) := by decide +kernel
theorem d_Reader_readPart_1 : decode c_Reader_readPart 1 = .ok (.iconst 0, 1) := by decide +kernel
theorem d_Reader_readPart_2 : decode c_Reader_readPart 2 = .ok (.invokevirtual 83, 3) := by decide +kernel
theorem d_Reader_readPart_5 : decode c_Reader_readPart 5 = .ok (.lookupswitch 104 #[(40, 61), (41, 56), (91, 94), (92, 99), (124, 51)], 51) := by decide +kernel
theorem d_Reader_readPart_56 : decode c_Reader_readPart 56 = .ok (.aload_n 0, 1) := by decide +kernel
theorem d_Reader_readPart_57 : decode c_Reader_readPart 57 = .ok (.invokevirtual 87, 3) := by decide +kernel
theorem d_Reader_readPart_60 : decode c_Reader_readPart 60 = .ok (.ireturn, 1) := by decide +kernel
theorem d_Reader_readPart_61 : decode c_Reader_readPart 61 = .ok (.aload_n 0, 1) := by decide +kernel
theorem d_Reader_readPart_62 : decode c_Reader_readPart 62 = .ok (.invokevirtual 90, 3) := by decide +kernel
theorem d_Reader_readPart_65 : decode c_Reader_readPart 65 = .ok (.ireturn, 1) := by decide +kernel
theorem d_Reader_readPart_66 : decode c_Reader_readPart 66 = .ok (.aload_n 0, 1) := by decide +kernel
theorem d_Reader_readPart_67 : decode c_Reader_readPart 67 = .ok (.iconst 1, 1) := by decide +kernel
theorem d_Reader_readPart_68 : decode c_Reader_readPart 68 = .ok (.invokevirtual 83, 3) := by decide +kernel
theorem d_Reader_readPart_71 : decode c_Reader_readPart 71 = .ok (.bipush 63, 2) := by decide +kernel
theorem d_Reader_readPart_73 : decode c_Reader_readPart 73 = .ok (.if_icmp .ne 21, 3) := by decide +kernel
theorem d_Reader_readPart_76 : decode c_Reader_readPart 76 = .ok (.aload_n 0, 1) := by decide +kernel
theorem d_Reader_readPart_77 : decode c_Reader_readPart 77 = .ok (.iconst 2, 1) := by decide +kernel
theorem d_Reader_readPart_78 : decode c_Reader_readPart 78 = .ok (.invokevirtual 83, 3) := by decide +kernel
theorem d_Reader_readPart_81 : decode c_Reader_readPart 81 = .ok (.invokestatic 93, 3) := by decide +kernel
theorem d_Reader_readPart_84 : decode c_Reader_readPart 84 = .ok (.ifCond .eq 10, 3) := by decide +kernel
theorem d_Reader_readPart_87 : decode c_Reader_readPart 87 = .ok (.aload_n 0, 1) := by decide +kernel
theorem d_Reader_readPart_88 : decode c_Reader_readPart 88 = .ok (.invokevirtual 97, 3) := by decide +kernel
theorem d_Reader_readPart_91 : decode c_Reader_readPart 91 = .ok (.goto 7, 3) := by decide +kernel
theorem d_Reader_readPart_94 : decode c_Reader_readPart 94 = .ok (.aload_n 0, 1) := by decide +kernel
theorem d_Reader_readPart_95 : decode c_Reader_readPart 95 = .ok (.invokevirtual 100, 3) := by decide +kernel
theorem d_Reader_readPart_98 : decode c_Reader_readPart 98 = .ok (.ireturn, 1) := by decide +kernel
theorem d_Reader_readPart_99 : decode c_Reader_readPart 99 = .ok (.aload_n 0, 1) := by decide +kernel
theorem d_Reader_readPart_100 : decode c_Reader_readPart 100 = .ok (.invokevirtual 103, 3) := by decide +kernel
theorem d_Reader_readPart_103 : decode c_Reader_readPart 103 = .ok (.ireturn, 1) := by decide +kernel
theorem d_Reader_readPart_104 : decode c_Reader_readPart 104 = .ok (.aload_n 0, 1) := by decide +kernel
theorem d_Reader_readPart_105 : decode c_Reader_readPart 105 = .ok (.invokevirtual 106, 3) := by decide +kernel
theorem d_Reader_readPart_108 : decode c_Reader_readPart 108 = .ok (.ireturn, 1) := by decide +kernel
theorem d_Reader_readPart_109 : decode c_Reader_readPart 109 = .ok (.aload_n 0, 1) := by decide +kernel
theorem d_Reader_readPart_110 : decode c_Reader_readPart 110 = .ok (.invokevirtual 109, 3) := by decide +kernel
theorem d_Reader_readPart_113 : decode c_Reader_readPart 113 = .ok (.ireturn, 1) := by decide +kernel
theorem d_Reader_ahead_0 : decode c_Reader_ahead 0 = .ok (.aload_n 0, 1) := by decide +kernel
theorem d_Reader_ahead_1 : decode c_Reader_ahead 1 = .ok (.getfield 14, 3) := by decide +kernel
theorem d_Reader_ahead_4 : decode c_Reader_ahead 4 = .ok (.aload_n 0, 1) := by decide +kernel
theorem d_Reader_ahead_5 : decode c_Reader_ahead 5 = .ok (.getfield 44, 3) := by decide +kernel
theorem d_Reader_ahead_8 : decode c_Reader_ahead 8 = .ok (.iload_n 1, 1) := by decide +kernel
theorem d_Reader_ahead_9 : decode c_Reader_ahead 9 = .ok (.iadd, 1) := by decide +kernel
theorem d_Reader_ahead_10 : decode c_Reader_ahead 10 = .ok (.invokevirtual 112, 3) := by decide +kernel
theorem d_Reader_ahead_13 : decode c_Reader_ahead 13 = .ok (.ireturn, 1) := by decide +kernel
theorem d_Reader_refuse_0 : decode c_Reader_refuse 0 = .ok (.aload_n 0, 1) := by decide +kernel
theorem d_Reader_refuse_1 : decode c_Reader_refuse 1 = .ok (.iconst 0, 1) := by decide +kernel
theorem d_Reader_refuse_2 : decode c_Reader_refuse 2 = .ok (.putfield 53, 3) := by decide +kernel
theorem d_Reader_refuse_5 : decode c_Reader_refuse 5 = .ok (.iconst (-1), 1) := by decide +kernel
theorem d_Reader_refuse_6 : decode c_Reader_refuse 6 = .ok (.ireturn, 1) := by decide +kernel
theorem d_Reader_openLevel_0 : decode c_Reader_openLevel 0 = .ok (.aload_n 0, 1) := by decide +kernel
theorem d_Reader_openLevel_1 : decode c_Reader_openLevel 1 = .ok (.iload_n 1, 1) := by decide +kernel
theorem d_Reader_openLevel_2 : decode c_Reader_openLevel 2 = .ok (.putfield 40, 3) := by decide +kernel
theorem d_Reader_openLevel_5 : decode c_Reader_openLevel 5 = .ok (.aload_n 0, 1) := by decide +kernel
theorem d_Reader_openLevel_6 : decode c_Reader_openLevel 6 = .ok (.getfield 27, 3) := by decide +kernel
theorem d_Reader_openLevel_9 : decode c_Reader_openLevel 9 = .ok (.aload_n 0, 1) := by decide +kernel
theorem d_Reader_openLevel_10 : decode c_Reader_openLevel 10 = .ok (.getfield 40, 3) := by decide +kernel
theorem d_Reader_openLevel_13 : decode c_Reader_openLevel 13 = .ok (.iload_n 2, 1) := by decide +kernel
theorem d_Reader_openLevel_14 : decode c_Reader_openLevel 14 = .ok (.iastore, 1) := by decide +kernel
theorem d_Reader_openLevel_15 : decode c_Reader_openLevel 15 = .ok (.aload_n 0, 1) := by decide +kernel
theorem d_Reader_openLevel_16 : decode c_Reader_openLevel 16 = .ok (.getfield 31, 3) := by decide +kernel
theorem d_Reader_openLevel_19 : decode c_Reader_openLevel 19 = .ok (.aload_n 0, 1) := by decide +kernel
theorem d_Reader_openLevel_20 : decode c_Reader_openLevel 20 = .ok (.getfield 40, 3) := by decide +kernel
theorem d_Reader_openLevel_23 : decode c_Reader_openLevel 23 = .ok (.aload_n 0, 1) := by decide +kernel
theorem d_Reader_openLevel_24 : decode c_Reader_openLevel 24 = .ok (.getfield 23, 3) := by decide +kernel
theorem d_Reader_openLevel_27 : decode c_Reader_openLevel 27 = .ok (.invokevirtual 115, 3) := by decide +kernel
theorem d_Reader_openLevel_30 : decode c_Reader_openLevel 30 = .ok (.iastore, 1) := by decide +kernel
theorem d_Reader_openLevel_31 : decode c_Reader_openLevel 31 = .ok (.aload_n 0, 1) := by decide +kernel
theorem d_Reader_openLevel_32 : decode c_Reader_openLevel 32 = .ok (.getfield 34, 3) := by decide +kernel
theorem d_Reader_openLevel_35 : decode c_Reader_openLevel 35 = .ok (.aload_n 0, 1) := by decide +kernel
theorem d_Reader_openLevel_36 : decode c_Reader_openLevel 36 = .ok (.getfield 40, 3) := by decide +kernel
theorem d_Reader_openLevel_39 : decode c_Reader_openLevel 39 = .ok (.iconst (-1), 1) := by decide +kernel
theorem d_Reader_openLevel_40 : decode c_Reader_openLevel 40 = .ok (.iastore, 1) := by decide +kernel
theorem d_Reader_openLevel_41 : decode c_Reader_openLevel 41 = .ok (.aload_n 0, 1) := by decide +kernel
theorem d_Reader_openLevel_42 : decode c_Reader_openLevel 42 = .ok (.getfield 37, 3) := by decide +kernel
theorem d_Reader_openLevel_45 : decode c_Reader_openLevel 45 = .ok (.aload_n 0, 1) := by decide +kernel
theorem d_Reader_openLevel_46 : decode c_Reader_openLevel 46 = .ok (.getfield 40, 3) := by decide +kernel
theorem d_Reader_openLevel_49 : decode c_Reader_openLevel 49 = .ok (.iconst 0, 1) := by decide +kernel
theorem d_Reader_openLevel_50 : decode c_Reader_openLevel 50 = .ok (.iastore, 1) := by decide +kernel
theorem d_Reader_openLevel_51 : decode c_Reader_openLevel 51 = .ok (.return_, 1) := by decide +kernel
theorem d_Reader_openNextRow_0 : decode c_Reader_openNextRow 0 = .ok (.aload_n 0, 1) := by decide +kernel
theorem d_Reader_openNextRow_1 : decode c_Reader_openNextRow 1 = .ok (.getfield 23, 3) := by decide +kernel
theorem d_Reader_openNextRow_4 : decode c_Reader_openNextRow 4 = .ok (.invokevirtual 115, 3) := by decide +kernel
theorem d_Reader_openNextRow_7 : decode c_Reader_openNextRow 7 = .ok (.istore_n 1, 1) := by decide +kernel
theorem d_Reader_openNextRow_8 : decode c_Reader_openNextRow 8 = .ok (.aload_n 0, 1) := by decide +kernel
theorem d_Reader_openNextRow_9 : decode c_Reader_openNextRow 9 = .ok (.getfield 23, 3) := by decide +kernel
theorem d_Reader_openNextRow_12 : decode c_Reader_openNextRow 12 = .ok (.getfield 118, 3) := by decide +kernel
theorem d_Reader_openNextRow_15 : decode c_Reader_openNextRow 15 = .ok (.aload_n 0, 1) := by decide +kernel
theorem d_Reader_openNextRow_16 : decode c_Reader_openNextRow 16 = .ok (.getfield 31, 3) := by decide +kernel
theorem d_Reader_openNextRow_19 : decode c_Reader_openNextRow 19 = .ok (.aload_n 0, 1) := by decide +kernel
theorem d_Reader_openNextRow_20 : decode c_Reader_openNextRow 20 = .ok (.getfield 40, 3) := by decide +kernel
theorem d_Reader_openNextRow_23 : decode c_Reader_openNextRow 23 = .ok (.iaload, 1) := by decide +kernel
theorem d_Reader_openNextRow_24 : decode c_Reader_openNextRow 24 = .ok (.iload_n 1, 1) := by decide +kernel
theorem d_Reader_openNextRow_25 : decode c_Reader_openNextRow 25 = .ok (.iastore, 1) := by decide +kernel
theorem d_Reader_openNextRow_26 : decode c_Reader_openNextRow 26 = .ok (.aload_n 0, 1) := by decide +kernel
theorem d_Reader_openNextRow_27 : decode c_Reader_openNextRow 27 = .ok (.getfield 31, 3) := by decide +kernel
theorem d_Reader_openNextRow_30 : decode c_Reader_openNextRow 30 = .ok (.aload_n 0, 1) := by decide +kernel
theorem d_Reader_openNextRow_31 : decode c_Reader_openNextRow 31 = .ok (.getfield 40, 3) := by decide +kernel
theorem d_Reader_openNextRow_34 : decode c_Reader_openNextRow 34 = .ok (.iload_n 1, 1) := by decide +kernel
theorem d_Reader_openNextRow_35 : decode c_Reader_openNextRow 35 = .ok (.iastore, 1) := by decide +kernel
theorem d_Reader_openNextRow_36 : decode c_Reader_openNextRow 36 = .ok (.aload_n 0, 1) := by decide +kernel
theorem d_Reader_openNextRow_37 : decode c_Reader_openNextRow 37 = .ok (.getfield 34, 3) := by decide +kernel
theorem d_Reader_openNextRow_40 : decode c_Reader_openNextRow 40 = .ok (.aload_n 0, 1) := by decide +kernel
theorem d_Reader_openNextRow_41 : decode c_Reader_openNextRow 41 = .ok (.getfield 40, 3) := by decide +kernel
theorem d_Reader_openNextRow_44 : decode c_Reader_openNextRow 44 = .ok (.iconst (-1), 1) := by decide +kernel
theorem d_Reader_openNextRow_45 : decode c_Reader_openNextRow 45 = .ok (.iastore, 1) := by decide +kernel
theorem d_Reader_openNextRow_46 : decode c_Reader_openNextRow 46 = .ok (.aload_n 0, 1) := by decide +kernel
theorem d_Reader_openNextRow_47 : decode c_Reader_openNextRow 47 = .ok (.getfield 37, 3) := by decide +kernel
theorem d_Reader_openNextRow_50 : decode c_Reader_openNextRow 50 = .ok (.aload_n 0, 1) := by decide +kernel
theorem d_Reader_openNextRow_51 : decode c_Reader_openNextRow 51 = .ok (.getfield 40, 3) := by decide +kernel
theorem d_Reader_openNextRow_54 : decode c_Reader_openNextRow 54 = .ok (.dup2, 1) := by decide +kernel
theorem d_Reader_openNextRow_55 : decode c_Reader_openNextRow 55 = .ok (.iaload, 1) := by decide +kernel
theorem d_Reader_openNextRow_56 : decode c_Reader_openNextRow 56 = .ok (.iconst 1, 1) := by decide +kernel
theorem d_Reader_openNextRow_57 : decode c_Reader_openNextRow 57 = .ok (.iadd, 1) := by decide +kernel
theorem d_Reader_openNextRow_58 : decode c_Reader_openNextRow 58 = .ok (.iastore, 1) := by decide +kernel
theorem d_Reader_openNextRow_59 : decode c_Reader_openNextRow 59 = .ok (.aload_n 0, 1) := by decide +kernel
theorem d_Reader_openNextRow_60 : decode c_Reader_openNextRow 60 = .ok (.dup, 1) := by decide +kernel
theorem d_Reader_openNextRow_61 : decode c_Reader_openNextRow 61 = .ok (.getfield 44, 3) := by decide +kernel
theorem d_Reader_openNextRow_64 : decode c_Reader_openNextRow 64 = .ok (.iconst 1, 1) := by decide +kernel
theorem d_Reader_openNextRow_65 : decode c_Reader_openNextRow 65 = .ok (.iadd, 1) := by decide +kernel
theorem d_Reader_openNextRow_66 : decode c_Reader_openNextRow 66 = .ok (.putfield 44, 3) := by decide +kernel
theorem d_Reader_openNextRow_69 : decode c_Reader_openNextRow 69 = .ok (.iconst (-1), 1) := by decide +kernel
theorem d_Reader_openNextRow_70 : decode c_Reader_openNextRow 70 = .ok (.ireturn, 1) := by decide +kernel
theorem d_Reader_openChoice_0 : decode c_Reader_openChoice 0 = .ok (.aload_n 0, 1) := by decide +kernel
theorem d_Reader_openChoice_1 : decode c_Reader_openChoice 1 = .ok (.invokevirtual 121, 3) := by decide +kernel
theorem d_Reader_openChoice_4 : decode c_Reader_openChoice 4 = .ok (.istore_n 1, 1) := by decide +kernel
theorem d_Reader_openChoice_5 : decode c_Reader_openChoice 5 = .ok (.iload_n 1, 1) := by decide +kernel
theorem d_Reader_openChoice_6 : decode c_Reader_openChoice 6 = .ok (.iconst 5, 1) := by decide +kernel
theorem d_Reader_openChoice_7 : decode c_Reader_openChoice 7 = .ok (.if_icmp .ne 7, 3) := by decide +kernel
theorem d_Reader_openChoice_10 : decode c_Reader_openChoice 10 = .ok (.iconst 1, 1) := by decide +kernel
theorem d_Reader_openChoice_11 : decode c_Reader_openChoice 11 = .ok (.goto 4, 3) := by decide +kernel
theorem d_Reader_openChoice_14 : decode c_Reader_openChoice 14 = .ok (.iconst 0, 1) := by decide +kernel
theorem d_Reader_openChoice_15 : decode c_Reader_openChoice 15 = .ok (.istore_n 2, 1) := by decide +kernel
theorem d_Reader_openChoice_16 : decode c_Reader_openChoice 16 = .ok (.iload_n 1, 1) := by decide +kernel
theorem d_Reader_openChoice_17 : decode c_Reader_openChoice 17 = .ok (.iconst (-1), 1) := by decide +kernel
theorem d_Reader_openChoice_18 : decode c_Reader_openChoice 18 = .ok (.if_icmp .eq 27, 3) := by decide +kernel
theorem d_Reader_openChoice_21 : decode c_Reader_openChoice 21 = .ok (.aload_n 0, 1) := by decide +kernel
theorem d_Reader_openChoice_22 : decode c_Reader_openChoice 22 = .ok (.getfield 40, 3) := by decide +kernel
theorem d_Reader_openChoice_25 : decode c_Reader_openChoice 25 = .ok (.bipush 6, 2) := by decide +kernel
theorem d_Reader_openChoice_27 : decode c_Reader_openChoice 27 = .ok (.if_icmp .ge 18, 3) := by decide +kernel
theorem d_Reader_openChoice_30 : decode c_Reader_openChoice 30 = .ok (.iload_n 2, 1) := by decide +kernel
theorem d_Reader_openChoice_31 : decode c_Reader_openChoice 31 = .ok (.ifCond .eq 19, 3) := by decide +kernel
theorem d_Reader_openChoice_34 : decode c_Reader_openChoice 34 = .ok (.aload_n 0, 1) := by decide +kernel
theorem d_Reader_openChoice_35 : decode c_Reader_openChoice 35 = .ok (.getfield 23, 3) := by decide +kernel
theorem d_Reader_openChoice_38 : decode c_Reader_openChoice 38 = .ok (.getfield 80, 3) := by decide +kernel
theorem d_Reader_openChoice_41 : decode c_Reader_openChoice 41 = .ok (.iconst 4, 1) := by decide +kernel
theorem d_Reader_openChoice_42 : decode c_Reader_openChoice 42 = .ok (.if_icmp .lt 8, 3) := by decide +kernel
theorem d_Reader_openChoice_45 : decode c_Reader_openChoice 45 = .ok (.aload_n 0, 1) := by decide +kernel
theorem d_Reader_openChoice_46 : decode c_Reader_openChoice 46 = .ok (.invokevirtual 124, 3) := by decide +kernel
theorem d_Reader_openChoice_49 : decode c_Reader_openChoice 49 = .ok (.ireturn, 1) := by decide +kernel
theorem d_Reader_openChoice_50 : decode c_Reader_openChoice 50 = .ok (.iload_n 2, 1) := by decide +kernel
theorem d_Reader_openChoice_51 : decode c_Reader_openChoice 51 = .ok (.ifCond .eq 16, 3) := by decide +kernel
theorem d_Reader_openChoice_54 : decode c_Reader_openChoice 54 = .ok (.aload_n 0, 1) := by decide +kernel
theorem d_Reader_openChoice_55 : decode c_Reader_openChoice 55 = .ok (.getfield 23, 3) := by decide +kernel
theorem d_Reader_openChoice_58 : decode c_Reader_openChoice 58 = .ok (.dup, 1) := by decide +kernel
theorem d_Reader_openChoice_59 : decode c_Reader_openChoice 59 = .ok (.getfield 80, 3) := by decide +kernel
theorem d_Reader_openChoice_62 : decode c_Reader_openChoice 62 = .ok (.iconst 1, 1) := by decide +kernel
theorem d_Reader_openChoice_63 : decode c_Reader_openChoice 63 = .ok (.iadd, 1) := by decide +kernel
theorem d_Reader_openChoice_64 : decode c_Reader_openChoice 64 = .ok (.putfield 80, 3) := by decide +kernel
theorem d_Reader_openChoice_67 : decode c_Reader_openChoice 67 = .ok (.aload_n 0, 1) := by decide +kernel
theorem d_Reader_openChoice_68 : decode c_Reader_openChoice 68 = .ok (.iload_n 1, 1) := by decide +kernel
theorem d_Reader_openChoice_69 : decode c_Reader_openChoice 69 = .ok (.iload_n 2, 1) := by decide +kernel
theorem d_Reader_openChoice_70 : decode c_Reader_openChoice 70 = .ok (.ifCond .eq 13, 3) := by decide +kernel
theorem d_Reader_openChoice_73 : decode c_Reader_openChoice 73 = .ok (.aload_n 0, 1) := by decide +kernel
theorem d_Reader_openChoice_74 : decode c_Reader_openChoice 74 = .ok (.getfield 23, 3) := by decide +kernel
theorem d_Reader_openChoice_77 : decode c_Reader_openChoice 77 = .ok (.getfield 80, 3) := by decide +kernel
theorem d_Reader_openChoice_80 : decode c_Reader_openChoice 80 = .ok (.goto 4, 3) := by decide +kernel
theorem d_Reader_openChoice_83 : decode c_Reader_openChoice 83 = .ok (.iconst 0, 1) := by decide +kernel
theorem d_Reader_openChoice_84 : decode c_Reader_openChoice 84 = .ok (.invokevirtual 127, 3) := by decide +kernel
theorem d_Reader_openChoice_87 : decode c_Reader_openChoice 87 = .ok (.istore_n 3, 1) := by decide +kernel
theorem d_Reader_openChoice_88 : decode c_Reader_openChoice 88 = .ok (.aload_n 0, 1) := by decide +kernel
theorem d_Reader_openChoice_89 : decode c_Reader_openChoice 89 = .ok (.dup, 1) := by decide +kernel
theorem d_Reader_openChoice_90 : decode c_Reader_openChoice 90 = .ok (.getfield 44, 3) := by decide +kernel
theorem d_Reader_openChoice_93 : decode c_Reader_openChoice 93 = .ok (.iload_n 2, 1) := by decide +kernel
theorem d_Reader_openChoice_94 : decode c_Reader_openChoice 94 = .ok (.ifCond .eq 7, 3) := by decide +kernel
theorem d_Reader_openChoice_97 : decode c_Reader_openChoice 97 = .ok (.iconst 1, 1) := by decide +kernel
theorem d_Reader_openChoice_98 : decode c_Reader_openChoice 98 = .ok (.goto 4, 3) := by decide +kernel
theorem d_Reader_openChoice_101 : decode c_Reader_openChoice 101 = .ok (.iconst 3, 1) := by decide +kernel
theorem d_Reader_openChoice_102 : decode c_Reader_openChoice 102 = .ok (.iadd, 1) := by decide +kernel
theorem d_Reader_openChoice_103 : decode c_Reader_openChoice 103 = .ok (.putfield 44, 3) := by decide +kernel
theorem d_Reader_openChoice_106 : decode c_Reader_openChoice 106 = .ok (.aload_n 0, 1) := by decide +kernel
theorem d_Reader_openChoice_107 : decode c_Reader_openChoice 107 = .ok (.aload_n 0, 1) := by decide +kernel
theorem d_Reader_openChoice_108 : decode c_Reader_openChoice 108 = .ok (.getfield 40, 3) := by decide +kernel
theorem d_Reader_openChoice_111 : decode c_Reader_openChoice 111 = .ok (.iconst 1, 1) := by decide +kernel
theorem d_Reader_openChoice_112 : decode c_Reader_openChoice 112 = .ok (.iadd, 1) := by decide +kernel
theorem d_Reader_openChoice_113 : decode c_Reader_openChoice 113 = .ok (.iload_n 3, 1) := by decide +kernel
theorem d_Reader_openChoice_114 : decode c_Reader_openChoice 114 = .ok (.invokevirtual 60, 3) := by decide +kernel
theorem d_Reader_openChoice_117 : decode c_Reader_openChoice 117 = .ok (.aload_n 0, 1) := by decide +kernel
theorem d_Reader_openChoice_118 : decode c_Reader_openChoice 118 = .ok (.getfield 23, 3) := by decide +kernel
theorem d_Reader_openChoice_121 : decode c_Reader_openChoice 121 = .ok (.getfield 131, 3) := by decide +kernel
theorem d_Reader_openChoice_124 : decode c_Reader_openChoice 124 = .ok (.iload_n 3, 1) := by decide +kernel
theorem d_Reader_openChoice_125 : decode c_Reader_openChoice 125 = .ok (.aload_n 0, 1) := by decide +kernel
theorem d_Reader_openChoice_126 : decode c_Reader_openChoice 126 = .ok (.getfield 31, 3) := by decide +kernel
theorem d_Reader_openChoice_129 : decode c_Reader_openChoice 129 = .ok (.aload_n 0, 1) := by decide +kernel
theorem d_Reader_openChoice_130 : decode c_Reader_openChoice 130 = .ok (.getfield 40, 3) := by decide +kernel
theorem d_Reader_openChoice_133 : decode c_Reader_openChoice 133 = .ok (.iaload, 1) := by decide +kernel
theorem d_Reader_openChoice_134 : decode c_Reader_openChoice 134 = .ok (.iastore, 1) := by decide +kernel
theorem d_Reader_openChoice_135 : decode c_Reader_openChoice 135 = .ok (.iload_n 2, 1) := by decide +kernel
theorem d_Reader_openChoice_136 : decode c_Reader_openChoice 136 = .ok (.ifCond .eq 27, 3) := by decide +kernel
theorem d_Reader_openChoice_139 : decode c_Reader_openChoice 139 = .ok (.aload_n 0, 1) := by decide +kernel
theorem d_Reader_openChoice_140 : decode c_Reader_openChoice 140 = .ok (.getfield 23, 3) := by decide +kernel
theorem d_Reader_openChoice_143 : decode c_Reader_openChoice 143 = .ok (.getfield 64, 3) := by decide +kernel
theorem d_Reader_openChoice_146 : decode c_Reader_openChoice 146 = .ok (.aload_n 0, 1) := by decide +kernel
theorem d_Reader_openChoice_147 : decode c_Reader_openChoice 147 = .ok (.getfield 23, 3) := by decide +kernel
theorem d_Reader_openChoice_150 : decode c_Reader_openChoice 150 = .ok (.getfield 80, 3) := by decide +kernel
theorem d_Reader_openChoice_153 : decode c_Reader_openChoice 153 = .ok (.aload_n 0, 1) := by decide +kernel
theorem d_Reader_openChoice_154 : decode c_Reader_openChoice 154 = .ok (.getfield 31, 3) := by decide +kernel
theorem d_Reader_openChoice_157 : decode c_Reader_openChoice 157 = .ok (.aload_n 0, 1) := by decide +kernel
theorem d_Reader_openChoice_158 : decode c_Reader_openChoice 158 = .ok (.getfield 40, 3) := by decide +kernel
theorem d_Reader_openChoice_161 : decode c_Reader_openChoice 161 = .ok (.iaload, 1) := by decide +kernel
theorem d_Reader_openChoice_162 : decode c_Reader_openChoice 162 = .ok (.iastore, 1) := by decide +kernel
theorem d_Reader_openChoice_163 : decode c_Reader_openChoice 163 = .ok (.iconst (-1), 1) := by decide +kernel
theorem d_Reader_openChoice_164 : decode c_Reader_openChoice 164 = .ok (.ireturn, 1) := by decide +kernel
theorem d_Reader_kindOfChoice_0 : decode c_Reader_kindOfChoice 0 = .ok (.aload_n 0, 1) := by decide +kernel
theorem d_Reader_kindOfChoice_1 : decode c_Reader_kindOfChoice 1 = .ok (.iconst 1, 1) := by decide +kernel
theorem d_Reader_kindOfChoice_2 : decode c_Reader_kindOfChoice 2 = .ok (.invokevirtual 83, 3) := by decide +kernel
theorem d_Reader_kindOfChoice_5 : decode c_Reader_kindOfChoice 5 = .ok (.bipush 63, 2) := by decide +kernel
theorem d_Reader_kindOfChoice_7 : decode c_Reader_kindOfChoice 7 = .ok (.if_icmp .eq 5, 3) := by decide +kernel
theorem d_Reader_kindOfChoice_10 : decode c_Reader_kindOfChoice 10 = .ok (.iconst 5, 1) := by decide +kernel
theorem d_Reader_kindOfChoice_11 : decode c_Reader_kindOfChoice 11 = .ok (.ireturn, 1) := by decide +kernel
theorem d_Reader_kindOfChoice_12 : decode c_Reader_kindOfChoice 12 = .ok (.aload_n 0, 1) := by decide +kernel
theorem d_Reader_kindOfChoice_13 : decode c_Reader_kindOfChoice 13 = .ok (.iconst 2, 1) := by decide +kernel
theorem d_Reader_kindOfChoice_14 : decode c_Reader_kindOfChoice 14 = .ok (.invokevirtual 83, 3) := by decide +kernel
theorem d_Reader_kindOfChoice_17 : decode c_Reader_kindOfChoice 17 = .ok (.lookupswitch 55 #[(33, 49), (58, 43), (61, 46), (62, 52)], 43) := by decide +kernel
theorem d_Reader_kindOfChoice_60 : decode c_Reader_kindOfChoice 60 = .ok (.bipush 6, 2) := by decide +kernel
theorem d_Reader_kindOfChoice_62 : decode c_Reader_kindOfChoice 62 = .ok (.ireturn, 1) := by decide +kernel
theorem d_Reader_kindOfChoice_63 : decode c_Reader_kindOfChoice 63 = .ok (.bipush 7, 2) := by decide +kernel
theorem d_Reader_kindOfChoice_65 : decode c_Reader_kindOfChoice 65 = .ok (.ireturn, 1) := by decide +kernel
theorem d_Reader_kindOfChoice_66 : decode c_Reader_kindOfChoice 66 = .ok (.bipush 8, 2) := by decide +kernel
theorem d_Reader_kindOfChoice_68 : decode c_Reader_kindOfChoice 68 = .ok (.ireturn, 1) := by decide +kernel
theorem d_Reader_kindOfChoice_69 : decode c_Reader_kindOfChoice 69 = .ok (.bipush 9, 2) := by decide +kernel
theorem d_Reader_kindOfChoice_71 : decode c_Reader_kindOfChoice 71 = .ok (.ireturn, 1) := by decide +kernel
theorem d_Reader_kindOfChoice_72 : decode c_Reader_kindOfChoice 72 = .ok (.iconst (-1), 1) := by decide +kernel
theorem d_Reader_kindOfChoice_73 : decode c_Reader_kindOfChoice 73 = .ok (.ireturn, 1) := by decide +kernel
theorem d_Reader_closeChoice_0 : decode c_Reader_closeChoice 0 = .ok (.aload_n 0, 1) := by decide +kernel
theorem d_Reader_closeChoice_1 : decode c_Reader_closeChoice 1 = .ok (.getfield 40, 3) := by decide +kernel
theorem d_Reader_closeChoice_4 : decode c_Reader_closeChoice 4 = .ok (.ifCond .ne 8, 3) := by decide +kernel
theorem d_Reader_closeChoice_7 : decode c_Reader_closeChoice 7 = .ok (.aload_n 0, 1) := by decide +kernel
theorem d_Reader_closeChoice_8 : decode c_Reader_closeChoice 8 = .ok (.invokevirtual 124, 3) := by decide +kernel
theorem d_Reader_closeChoice_11 : decode c_Reader_closeChoice 11 = .ok (.ireturn, 1) := by decide +kernel
theorem d_Reader_closeChoice_12 : decode c_Reader_closeChoice 12 = .ok (.aload_n 0, 1) := by decide +kernel
theorem d_Reader_closeChoice_13 : decode c_Reader_closeChoice 13 = .ok (.getfield 27, 3) := by decide +kernel
theorem d_Reader_closeChoice_16 : decode c_Reader_closeChoice 16 = .ok (.aload_n 0, 1) := by decide +kernel
theorem d_Reader_closeChoice_17 : decode c_Reader_closeChoice 17 = .ok (.getfield 40, 3) := by decide +kernel
theorem d_Reader_closeChoice_20 : decode c_Reader_closeChoice 20 = .ok (.iaload, 1) := by decide +kernel
theorem d_Reader_closeChoice_21 : decode c_Reader_closeChoice 21 = .ok (.istore_n 1, 1) := by decide +kernel
theorem d_Reader_closeChoice_22 : decode c_Reader_closeChoice 22 = .ok (.aload_n 0, 1) := by decide +kernel
theorem d_Reader_closeChoice_23 : decode c_Reader_closeChoice 23 = .ok (.aload_n 0, 1) := by decide +kernel
theorem d_Reader_closeChoice_24 : decode c_Reader_closeChoice 24 = .ok (.getfield 37, 3) := by decide +kernel
theorem d_Reader_closeChoice_27 : decode c_Reader_closeChoice 27 = .ok (.aload_n 0, 1) := by decide +kernel
theorem d_Reader_closeChoice_28 : decode c_Reader_closeChoice 28 = .ok (.getfield 40, 3) := by decide +kernel
theorem d_Reader_closeChoice_31 : decode c_Reader_closeChoice 31 = .ok (.iaload, 1) := by decide +kernel
theorem d_Reader_closeChoice_32 : decode c_Reader_closeChoice 32 = .ok (.iconst 2, 1) := by decide +kernel
theorem d_Reader_closeChoice_33 : decode c_Reader_closeChoice 33 = .ok (.iadd, 1) := by decide +kernel
theorem d_Reader_closeChoice_34 : decode c_Reader_closeChoice 34 = .ok (.putfield 47, 3) := by decide +kernel
theorem d_Reader_closeChoice_37 : decode c_Reader_closeChoice 37 = .ok (.aload_n 0, 1) := by decide +kernel
theorem d_Reader_closeChoice_38 : decode c_Reader_closeChoice 38 = .ok (.dup, 1) := by decide +kernel
theorem d_Reader_closeChoice_39 : decode c_Reader_closeChoice 39 = .ok (.getfield 40, 3) := by decide +kernel
theorem d_Reader_closeChoice_42 : decode c_Reader_closeChoice 42 = .ok (.iconst 1, 1) := by decide +kernel
theorem d_Reader_closeChoice_43 : decode c_Reader_closeChoice 43 = .ok (.isub, 1) := by decide +kernel
theorem d_Reader_closeChoice_44 : decode c_Reader_closeChoice 44 = .ok (.putfield 40, 3) := by decide +kernel
theorem d_Reader_closeChoice_47 : decode c_Reader_closeChoice 47 = .ok (.aload_n 0, 1) := by decide +kernel
theorem d_Reader_closeChoice_48 : decode c_Reader_closeChoice 48 = .ok (.dup, 1) := by decide +kernel
theorem d_Reader_closeChoice_49 : decode c_Reader_closeChoice 49 = .ok (.getfield 44, 3) := by decide +kernel
theorem d_Reader_closeChoice_52 : decode c_Reader_closeChoice 52 = .ok (.iconst 1, 1) := by decide +kernel
theorem d_Reader_closeChoice_53 : decode c_Reader_closeChoice 53 = .ok (.iadd, 1) := by decide +kernel
theorem d_Reader_closeChoice_54 : decode c_Reader_closeChoice 54 = .ok (.putfield 44, 3) := by decide +kernel
theorem d_Reader_closeChoice_57 : decode c_Reader_closeChoice 57 = .ok (.iload_n 1, 1) := by decide +kernel
theorem d_Reader_closeChoice_58 : decode c_Reader_closeChoice 58 = .ok (.ireturn, 1) := by decide +kernel
theorem d_Reader_readCall_0 : decode c_Reader_readCall 0 = .ok (.aload_n 0, 1) := by decide +kernel
theorem d_Reader_readCall_1 : decode c_Reader_readCall 1 = .ok (.iconst 2, 1) := by decide +kernel
theorem d_Reader_readCall_2 : decode c_Reader_readCall 2 = .ok (.invokevirtual 83, 3) := by decide +kernel
theorem d_Reader_readCall_5 : decode c_Reader_readCall 5 = .ok (.bipush 48, 2) := by decide +kernel
theorem d_Reader_readCall_7 : decode c_Reader_readCall 7 = .ok (.isub, 1) := by decide +kernel
theorem d_Reader_readCall_8 : decode c_Reader_readCall 8 = .ok (.istore_n 1, 1) := by decide +kernel
theorem d_Reader_readCall_9 : decode c_Reader_readCall 9 = .ok (.iload_n 1, 1) := by decide +kernel
theorem d_Reader_readCall_10 : decode c_Reader_readCall 10 = .ok (.iconst 4, 1) := by decide +kernel
theorem d_Reader_readCall_11 : decode c_Reader_readCall 11 = .ok (.if_icmp .gt 13, 3) := by decide +kernel
theorem d_Reader_readCall_14 : decode c_Reader_readCall 14 = .ok (.aload_n 0, 1) := by decide +kernel
theorem d_Reader_readCall_15 : decode c_Reader_readCall 15 = .ok (.iconst 3, 1) := by decide +kernel
theorem d_Reader_readCall_16 : decode c_Reader_readCall 16 = .ok (.invokevirtual 83, 3) := by decide +kernel
theorem d_Reader_readCall_19 : decode c_Reader_readCall 19 = .ok (.bipush 41, 2) := by decide +kernel
theorem d_Reader_readCall_21 : decode c_Reader_readCall 21 = .ok (.if_icmp .eq 8, 3) := by decide +kernel
theorem d_Reader_readCall_24 : decode c_Reader_readCall 24 = .ok (.aload_n 0, 1) := by decide +kernel
theorem d_Reader_readCall_25 : decode c_Reader_readCall 25 = .ok (.invokevirtual 124, 3) := by decide +kernel
theorem d_Reader_readCall_28 : decode c_Reader_readCall 28 = .ok (.ireturn, 1) := by decide +kernel
theorem d_Reader_readCall_29 : decode c_Reader_readCall 29 = .ok (.aload_n 0, 1) := by decide +kernel
theorem d_Reader_readCall_30 : decode c_Reader_readCall 30 = .ok (.aload_n 0, 1) := by decide +kernel
theorem d_Reader_readCall_31 : decode c_Reader_readCall 31 = .ok (.getfield 50, 3) := by decide +kernel
theorem d_Reader_readCall_34 : decode c_Reader_readCall 34 = .ok (.iload_n 1, 1) := by decide +kernel
theorem d_Reader_readCall_35 : decode c_Reader_readCall 35 = .ok (.invokestatic 134, 3) := by decide +kernel
theorem d_Reader_readCall_38 : decode c_Reader_readCall 38 = .ok (.putfield 50, 3) := by decide +kernel
theorem d_Reader_readCall_41 : decode c_Reader_readCall 41 = .ok (.aload_n 0, 1) := by decide +kernel
theorem d_Reader_readCall_42 : decode c_Reader_readCall 42 = .ok (.dup, 1) := by decide +kernel
theorem d_Reader_readCall_43 : decode c_Reader_readCall 43 = .ok (.getfield 44, 3) := by decide +kernel
theorem d_Reader_readCall_46 : decode c_Reader_readCall 46 = .ok (.iconst 4, 1) := by decide +kernel
theorem d_Reader_readCall_47 : decode c_Reader_readCall 47 = .ok (.iadd, 1) := by decide +kernel
theorem d_Reader_readCall_48 : decode c_Reader_readCall 48 = .ok (.putfield 44, 3) := by decide +kernel
theorem d_Reader_readCall_51 : decode c_Reader_readCall 51 = .ok (.aload_n 0, 1) := by decide +kernel
theorem d_Reader_readCall_52 : decode c_Reader_readCall 52 = .ok (.iconst 4, 1) := by decide +kernel
theorem d_Reader_readCall_53 : decode c_Reader_readCall 53 = .ok (.iload_n 1, 1) := by decide +kernel
theorem d_Reader_readCall_54 : decode c_Reader_readCall 54 = .ok (.invokevirtual 127, 3) := by decide +kernel
theorem d_Reader_readCall_57 : decode c_Reader_readCall 57 = .ok (.ireturn, 1) := by decide +kernel
theorem d_Reader_readReference_0 : decode c_Reader_readReference 0 = .ok (.aload_n 0, 1) := by decide +kernel
theorem d_Reader_readReference_1 : decode c_Reader_readReference 1 = .ok (.iconst 1, 1) := by decide +kernel
theorem d_Reader_readReference_2 : decode c_Reader_readReference 2 = .ok (.invokevirtual 83, 3) := by decide +kernel
theorem d_Reader_readReference_5 : decode c_Reader_readReference 5 = .ok (.bipush 48, 2) := by decide +kernel
theorem d_Reader_readReference_7 : decode c_Reader_readReference 7 = .ok (.isub, 1) := by decide +kernel
theorem d_Reader_readReference_8 : decode c_Reader_readReference 8 = .ok (.istore_n 1, 1) := by decide +kernel
theorem d_Reader_readReference_9 : decode c_Reader_readReference 9 = .ok (.iload_n 1, 1) := by decide +kernel
theorem d_Reader_readReference_10 : decode c_Reader_readReference 10 = .ok (.iconst 1, 1) := by decide +kernel
theorem d_Reader_readReference_11 : decode c_Reader_readReference 11 = .ok (.if_icmp .lt 8, 3) := by decide +kernel
theorem d_Reader_readReference_14 : decode c_Reader_readReference 14 = .ok (.iload_n 1, 1) := by decide +kernel
theorem d_Reader_readReference_15 : decode c_Reader_readReference 15 = .ok (.iconst 4, 1) := by decide +kernel
theorem d_Reader_readReference_16 : decode c_Reader_readReference 16 = .ok (.if_icmp .le 8, 3) := by decide +kernel
theorem d_Reader_readReference_19 : decode c_Reader_readReference 19 = .ok (.aload_n 0, 1) := by decide +kernel
theorem d_Reader_readReference_20 : decode c_Reader_readReference 20 = .ok (.invokevirtual 124, 3) := by decide +kernel
theorem d_Reader_readReference_23 : decode c_Reader_readReference 23 = .ok (.ireturn, 1) := by decide +kernel
theorem d_Reader_readReference_24 : decode c_Reader_readReference 24 = .ok (.aload_n 0, 1) := by decide +kernel
theorem d_Reader_readReference_25 : decode c_Reader_readReference 25 = .ok (.aload_n 0, 1) := by decide +kernel
theorem d_Reader_readReference_26 : decode c_Reader_readReference 26 = .ok (.getfield 50, 3) := by decide +kernel
theorem d_Reader_readReference_29 : decode c_Reader_readReference 29 = .ok (.iload_n 1, 1) := by decide +kernel
theorem d_Reader_readReference_30 : decode c_Reader_readReference 30 = .ok (.invokestatic 134, 3) := by decide +kernel
theorem d_Reader_readReference_33 : decode c_Reader_readReference 33 = .ok (.putfield 50, 3) := by decide +kernel
theorem d_Reader_readReference_36 : decode c_Reader_readReference 36 = .ok (.aload_n 0, 1) := by decide +kernel
theorem d_Reader_readReference_37 : decode c_Reader_readReference 37 = .ok (.dup, 1) := by decide +kernel
theorem d_Reader_readReference_38 : decode c_Reader_readReference 38 = .ok (.getfield 44, 3) := by decide +kernel
theorem d_Reader_readReference_41 : decode c_Reader_readReference 41 = .ok (.iconst 2, 1) := by decide +kernel
theorem d_Reader_readReference_42 : decode c_Reader_readReference 42 = .ok (.iadd, 1) := by decide +kernel
theorem d_Reader_readReference_43 : decode c_Reader_readReference 43 = .ok (.putfield 44, 3) := by decide +kernel
theorem d_Reader_readReference_46 : decode c_Reader_readReference 46 = .ok (.aload_n 0, 1) := by decide +kernel
theorem d_Reader_readReference_47 : decode c_Reader_readReference 47 = .ok (.iconst 3, 1) := by decide +kernel
theorem d_Reader_readReference_48 : decode c_Reader_readReference 48 = .ok (.iload_n 1, 1) := by decide +kernel
theorem d_Reader_readReference_49 : decode c_Reader_readReference 49 = .ok (.invokevirtual 127, 3) := by decide +kernel
theorem d_Reader_readReference_52 : decode c_Reader_readReference 52 = .ok (.ireturn, 1) := by decide +kernel
theorem d_Reader_readSign_0 : decode c_Reader_readSign 0 = .ok (.aload_n 0, 1) := by decide +kernel
theorem d_Reader_readSign_1 : decode c_Reader_readSign 1 = .ok (.iconst 0, 1) := by decide +kernel
theorem d_Reader_readSign_2 : decode c_Reader_readSign 2 = .ok (.invokevirtual 83, 3) := by decide +kernel
theorem d_Reader_readSign_5 : decode c_Reader_readSign 5 = .ok (.istore_n 1, 1) := by decide +kernel
theorem d_Reader_readSign_6 : decode c_Reader_readSign 6 = .ok (.aload_n 0, 1) := by decide +kernel
theorem d_Reader_readSign_7 : decode c_Reader_readSign 7 = .ok (.dup, 1) := by decide +kernel
theorem d_Reader_readSign_8 : decode c_Reader_readSign 8 = .ok (.getfield 44, 3) := by decide +kernel
theorem d_Reader_readSign_11 : decode c_Reader_readSign 11 = .ok (.iconst 1, 1) := by decide +kernel
theorem d_Reader_readSign_12 : decode c_Reader_readSign 12 = .ok (.iadd, 1) := by decide +kernel
theorem d_Reader_readSign_13 : decode c_Reader_readSign 13 = .ok (.putfield 44, 3) := by decide +kernel
theorem d_Reader_readSign_16 : decode c_Reader_readSign 16 = .ok (.iload_n 1, 1) := by decide +kernel
theorem d_Reader_readSign_17 : decode c_Reader_readSign 17 = .ok (.invokestatic 139, 3) := by decide +kernel
theorem d_Reader_readSign_20 : decode c_Reader_readSign 20 = .ok (.ifCond .eq 14, 3) := by decide +kernel
theorem d_Reader_readSign_23 : decode c_Reader_readSign 23 = .ok (.aload_n 0, 1) := by decide +kernel
theorem d_Reader_readSign_24 : decode c_Reader_readSign 24 = .ok (.iconst 0, 1) := by decide +kernel
theorem d_Reader_readSign_25 : decode c_Reader_readSign 25 = .ok (.iload_n 1, 1) := by decide +kernel
theorem d_Reader_readSign_26 : decode c_Reader_readSign 26 = .ok (.iload_n 1, 1) := by decide +kernel
theorem d_Reader_readSign_27 : decode c_Reader_readSign 27 = .ok (.invokestatic 142, 3) := by decide +kernel
theorem d_Reader_readSign_30 : decode c_Reader_readSign 30 = .ok (.invokevirtual 127, 3) := by decide +kernel
theorem d_Reader_readSign_33 : decode c_Reader_readSign 33 = .ok (.ireturn, 1) := by decide +kernel
theorem d_Reader_readSign_34 : decode c_Reader_readSign 34 = .ok (.iload_n 1, 1) := by decide +kernel
theorem d_Reader_readSign_35 : decode c_Reader_readSign 35 = .ok (.lookupswitch 55 #[(36, 48), (46, 33), (94, 41)], 33) := by decide +kernel
theorem d_Reader_readSign_68 : decode c_Reader_readSign 68 = .ok (.aload_n 0, 1) := by decide +kernel
theorem d_Reader_readSign_69 : decode c_Reader_readSign 69 = .ok (.iconst 0, 1) := by decide +kernel
theorem d_Reader_readSign_70 : decode c_Reader_readSign 70 = .ok (.ldc 145, 2) := by decide +kernel
theorem d_Reader_readSign_72 : decode c_Reader_readSign 72 = .ok (.invokevirtual 127, 3) := by decide +kernel
theorem d_Reader_readSign_75 : decode c_Reader_readSign 75 = .ok (.ireturn, 1) := by decide +kernel
theorem d_Reader_readSign_76 : decode c_Reader_readSign 76 = .ok (.aload_n 0, 1) := by decide +kernel
theorem d_Reader_readSign_77 : decode c_Reader_readSign 77 = .ok (.iconst 1, 1) := by decide +kernel
theorem d_Reader_readSign_78 : decode c_Reader_readSign 78 = .ok (.iconst 0, 1) := by decide +kernel
theorem d_Reader_readSign_79 : decode c_Reader_readSign 79 = .ok (.invokevirtual 127, 3) := by decide +kernel
theorem d_Reader_readSign_82 : decode c_Reader_readSign 82 = .ok (.ireturn, 1) := by decide +kernel
theorem d_Reader_readSign_83 : decode c_Reader_readSign 83 = .ok (.aload_n 0, 1) := by decide +kernel
theorem d_Reader_readSign_84 : decode c_Reader_readSign 84 = .ok (.iconst 2, 1) := by decide +kernel
theorem d_Reader_readSign_85 : decode c_Reader_readSign 85 = .ok (.iconst 0, 1) := by decide +kernel
theorem d_Reader_readSign_86 : decode c_Reader_readSign 86 = .ok (.invokevirtual 127, 3) := by decide +kernel
theorem d_Reader_readSign_89 : decode c_Reader_readSign 89 = .ok (.ireturn, 1) := by decide +kernel
theorem d_Reader_readSign_90 : decode c_Reader_readSign 90 = .ok (.aload_n 0, 1) := by decide +kernel
theorem d_Reader_readSign_91 : decode c_Reader_readSign 91 = .ok (.invokevirtual 124, 3) := by decide +kernel
theorem d_Reader_readSign_94 : decode c_Reader_readSign 94 = .ok (.ireturn, 1) := by decide +kernel
theorem d_Reader_readClass_0 : decode c_Reader_readClass 0 = .ok (.aload_n 0, 1) := by decide +kernel
theorem d_Reader_readClass_1 : decode c_Reader_readClass 1 = .ok (.iconst 1, 1) := by decide +kernel
theorem d_Reader_readClass_2 : decode c_Reader_readClass 2 = .ok (.invokevirtual 83, 3) := by decide +kernel
theorem d_Reader_readClass_5 : decode c_Reader_readClass 5 = .ok (.bipush 94, 2) := by decide +kernel
theorem d_Reader_readClass_7 : decode c_Reader_readClass 7 = .ok (.if_icmp .ne 7, 3) := by decide +kernel
theorem d_Reader_readClass_10 : decode c_Reader_readClass 10 = .ok (.iconst 1, 1) := by decide +kernel
theorem d_Reader_readClass_11 : decode c_Reader_readClass 11 = .ok (.goto 4, 3) := by decide +kernel
theorem d_Reader_readClass_14 : decode c_Reader_readClass 14 = .ok (.iconst 0, 1) := by decide +kernel
theorem d_Reader_readClass_15 : decode c_Reader_readClass 15 = .ok (.istore_n 1, 1) := by decide +kernel
theorem d_Reader_readClass_16 : decode c_Reader_readClass 16 = .ok (.aload_n 0, 1) := by decide +kernel
theorem d_Reader_readClass_17 : decode c_Reader_readClass 17 = .ok (.dup, 1) := by decide +kernel
theorem d_Reader_readClass_18 : decode c_Reader_readClass 18 = .ok (.getfield 44, 3) := by decide +kernel
theorem d_Reader_readClass_21 : decode c_Reader_readClass 21 = .ok (.iload_n 1, 1) := by decide +kernel
theorem d_Reader_readClass_22 : decode c_Reader_readClass 22 = .ok (.ifCond .eq 7, 3) := by decide +kernel
theorem d_Reader_readClass_25 : decode c_Reader_readClass 25 = .ok (.iconst 2, 1) := by decide +kernel
theorem d_Reader_readClass_26 : decode c_Reader_readClass 26 = .ok (.goto 4, 3) := by decide +kernel
theorem d_Reader_readClass_29 : decode c_Reader_readClass 29 = .ok (.iconst 1, 1) := by decide +kernel
theorem d_Reader_readClass_30 : decode c_Reader_readClass 30 = .ok (.iadd, 1) := by decide +kernel
theorem d_Reader_readClass_31 : decode c_Reader_readClass 31 = .ok (.putfield 44, 3) := by decide +kernel
theorem d_Reader_readClass_34 : decode c_Reader_readClass 34 = .ok (.iconst 0, 1) := by decide +kernel
theorem d_Reader_readClass_35 : decode c_Reader_readClass 35 = .ok (.istore_n 2, 1) := by decide +kernel
theorem d_Reader_readClass_36 : decode c_Reader_readClass 36 = .ok (.iconst 0, 1) := by decide +kernel
theorem d_Reader_readClass_37 : decode c_Reader_readClass 37 = .ok (.istore_n 3, 1) := by decide +kernel
theorem d_Reader_readClass_38 : decode c_Reader_readClass 38 = .ok (.iload_n 3, 1) := by decide +kernel
theorem d_Reader_readClass_39 : decode c_Reader_readClass 39 = .ok (.bipush 32, 2) := by decide +kernel
theorem d_Reader_readClass_41 : decode c_Reader_readClass 41 = .ok (.if_icmp .ge 34, 3) := by decide +kernel
theorem d_Reader_readClass_44 : decode c_Reader_readClass 44 = .ok (.aload_n 0, 1) := by decide +kernel
theorem d_Reader_readClass_45 : decode c_Reader_readClass 45 = .ok (.getfield 53, 3) := by decide +kernel
theorem d_Reader_readClass_48 : decode c_Reader_readClass 48 = .ok (.ifCond .eq 27, 3) := by decide +kernel
theorem d_Reader_readClass_51 : decode c_Reader_readClass 51 = .ok (.aload_n 0, 1) := by decide +kernel
theorem d_Reader_readClass_52 : decode c_Reader_readClass 52 = .ok (.iconst 0, 1) := by decide +kernel
theorem d_Reader_readClass_53 : decode c_Reader_readClass 53 = .ok (.invokevirtual 83, 3) := by decide +kernel
theorem d_Reader_readClass_56 : decode c_Reader_readClass 56 = .ok (.invokestatic 139, 3) := by decide +kernel
theorem d_Reader_readClass_59 : decode c_Reader_readClass 59 = .ok (.ifCond .eq 16, 3) := by decide +kernel
theorem d_Reader_readClass_62 : decode c_Reader_readClass 62 = .ok (.iload_n 2, 1) := by decide +kernel
theorem d_Reader_readClass_63 : decode c_Reader_readClass 63 = .ok (.aload_n 0, 1) := by decide +kernel
theorem d_Reader_readClass_64 : decode c_Reader_readClass 64 = .ok (.invokevirtual 146, 3) := by decide +kernel
theorem d_Reader_readClass_67 : decode c_Reader_readClass 67 = .ok (.ior, 1) := by decide +kernel
theorem d_Reader_readClass_68 : decode c_Reader_readClass 68 = .ok (.istore_n 2, 1) := by decide +kernel
theorem d_Reader_readClass_69 : decode c_Reader_readClass 69 = .ok (.iinc 3 1, 3) := by decide +kernel
theorem d_Reader_readClass_72 : decode c_Reader_readClass 72 = .ok (.goto (-34), 3) := by decide +kernel
theorem d_Reader_readClass_75 : decode c_Reader_readClass 75 = .ok (.iload_n 2, 1) := by decide +kernel
theorem d_Reader_readClass_76 : decode c_Reader_readClass 76 = .ok (.ifCond .eq 13, 3) := by decide +kernel
theorem d_Reader_readClass_79 : decode c_Reader_readClass 79 = .ok (.aload_n 0, 1) := by decide +kernel
theorem d_Reader_readClass_80 : decode c_Reader_readClass 80 = .ok (.iconst 0, 1) := by decide +kernel
theorem d_Reader_readClass_81 : decode c_Reader_readClass 81 = .ok (.invokevirtual 83, 3) := by decide +kernel
theorem d_Reader_readClass_84 : decode c_Reader_readClass 84 = .ok (.bipush 93, 2) := by decide +kernel
theorem d_Reader_readClass_86 : decode c_Reader_readClass 86 = .ok (.if_icmp .eq 8, 3) := by decide +kernel
theorem d_Reader_readClass_89 : decode c_Reader_readClass 89 = .ok (.aload_n 0, 1) := by decide +kernel
theorem d_Reader_readClass_90 : decode c_Reader_readClass 90 = .ok (.invokevirtual 124, 3) := by decide +kernel
theorem d_Reader_readClass_93 : decode c_Reader_readClass 93 = .ok (.ireturn, 1) := by decide +kernel
theorem d_Reader_readClass_94 : decode c_Reader_readClass 94 = .ok (.aload_n 0, 1) := by decide +kernel
theorem d_Reader_readClass_95 : decode c_Reader_readClass 95 = .ok (.dup, 1) := by decide +kernel
theorem d_Reader_readClass_96 : decode c_Reader_readClass 96 = .ok (.getfield 44, 3) := by decide +kernel
theorem d_Reader_readClass_99 : decode c_Reader_readClass 99 = .ok (.iconst 1, 1) := by decide +kernel
theorem d_Reader_readClass_100 : decode c_Reader_readClass 100 = .ok (.iadd, 1) := by decide +kernel
theorem d_Reader_readClass_101 : decode c_Reader_readClass 101 = .ok (.putfield 44, 3) := by decide +kernel
theorem d_Reader_readClass_104 : decode c_Reader_readClass 104 = .ok (.aload_n 0, 1) := by decide +kernel
theorem d_Reader_readClass_105 : decode c_Reader_readClass 105 = .ok (.iconst 0, 1) := by decide +kernel
theorem d_Reader_readClass_106 : decode c_Reader_readClass 106 = .ok (.iload_n 1, 1) := by decide +kernel
theorem d_Reader_readClass_107 : decode c_Reader_readClass 107 = .ok (.ifCond .eq 12, 3) := by decide +kernel
theorem d_Reader_readClass_110 : decode c_Reader_readClass 110 = .ok (.ldc 145, 2) := by decide +kernel
theorem d_Reader_readClass_112 : decode c_Reader_readClass 112 = .ok (.iload_n 2, 1) := by decide +kernel
theorem d_Reader_readClass_113 : decode c_Reader_readClass 113 = .ok (.iconst (-1), 1) := by decide +kernel
theorem d_Reader_readClass_114 : decode c_Reader_readClass 114 = .ok (.ixor, 1) := by decide +kernel
theorem d_Reader_readClass_115 : decode c_Reader_readClass 115 = .ok (.iand, 1) := by decide +kernel
theorem d_Reader_readClass_116 : decode c_Reader_readClass 116 = .ok (.goto 4, 3) := by decide +kernel
theorem d_Reader_readClass_119 : decode c_Reader_readClass 119 = .ok (.iload_n 2, 1) := by decide +kernel
theorem d_Reader_readClass_120 : decode c_Reader_readClass 120 = .ok (.invokevirtual 127, 3) := by decide +kernel
theorem d_Reader_readClass_123 : decode c_Reader_readClass 123 = .ok (.ireturn, 1) := by decide +kernel
theorem d_Reader_readClassPart_0 : decode c_Reader_readClassPart 0 = .ok (.aload_n 0, 1) := by decide +kernel
theorem d_Reader_readClassPart_1 : decode c_Reader_readClassPart 1 = .ok (.iconst 0, 1) := by decide +kernel
theorem d_Reader_readClassPart_2 : decode c_Reader_readClassPart 2 = .ok (.invokevirtual 83, 3) := by decide +kernel
theorem d_Reader_readClassPart_5 : decode c_Reader_readClassPart 5 = .ok (.istore_n 1, 1) := by decide +kernel
theorem d_Reader_readClassPart_6 : decode c_Reader_readClassPart 6 = .ok (.aload_n 0, 1) := by decide +kernel
theorem d_Reader_readClassPart_7 : decode c_Reader_readClassPart 7 = .ok (.iconst 1, 1) := by decide +kernel
theorem d_Reader_readClassPart_8 : decode c_Reader_readClassPart 8 = .ok (.invokevirtual 83, 3) := by decide +kernel
theorem d_Reader_readClassPart_11 : decode c_Reader_readClassPart 11 = .ok (.bipush 45, 2) := by decide +kernel
theorem d_Reader_readClassPart_13 : decode c_Reader_readClassPart 13 = .ok (.if_icmp .eq 19, 3) := by decide +kernel
theorem d_Reader_readClassPart_16 : decode c_Reader_readClassPart 16 = .ok (.aload_n 0, 1) := by decide +kernel
theorem d_Reader_readClassPart_17 : decode c_Reader_readClassPart 17 = .ok (.dup, 1) := by decide +kernel
theorem d_Reader_readClassPart_18 : decode c_Reader_readClassPart 18 = .ok (.getfield 44, 3) := by decide +kernel
theorem d_Reader_readClassPart_21 : decode c_Reader_readClassPart 21 = .ok (.iconst 1, 1) := by decide +kernel
theorem d_Reader_readClassPart_22 : decode c_Reader_readClassPart 22 = .ok (.iadd, 1) := by decide +kernel
theorem d_Reader_readClassPart_23 : decode c_Reader_readClassPart 23 = .ok (.putfield 44, 3) := by decide +kernel
theorem d_Reader_readClassPart_26 : decode c_Reader_readClassPart 26 = .ok (.iload_n 1, 1) := by decide +kernel
theorem d_Reader_readClassPart_27 : decode c_Reader_readClassPart 27 = .ok (.iload_n 1, 1) := by decide +kernel
theorem d_Reader_readClassPart_28 : decode c_Reader_readClassPart 28 = .ok (.invokestatic 142, 3) := by decide +kernel
theorem d_Reader_readClassPart_31 : decode c_Reader_readClassPart 31 = .ok (.ireturn, 1) := by decide +kernel
theorem d_Reader_readClassPart_32 : decode c_Reader_readClassPart 32 = .ok (.aload_n 0, 1) := by decide +kernel
theorem d_Reader_readClassPart_33 : decode c_Reader_readClassPart 33 = .ok (.iconst 2, 1) := by decide +kernel
theorem d_Reader_readClassPart_34 : decode c_Reader_readClassPart 34 = .ok (.invokevirtual 83, 3) := by decide +kernel
theorem d_Reader_readClassPart_37 : decode c_Reader_readClassPart 37 = .ok (.istore_n 2, 1) := by decide +kernel
theorem d_Reader_readClassPart_38 : decode c_Reader_readClassPart 38 = .ok (.aload_n 0, 1) := by decide +kernel
theorem d_Reader_readClassPart_39 : decode c_Reader_readClassPart 39 = .ok (.dup, 1) := by decide +kernel
theorem d_Reader_readClassPart_40 : decode c_Reader_readClassPart 40 = .ok (.getfield 44, 3) := by decide +kernel
theorem d_Reader_readClassPart_43 : decode c_Reader_readClassPart 43 = .ok (.iconst 3, 1) := by decide +kernel
theorem d_Reader_readClassPart_44 : decode c_Reader_readClassPart 44 = .ok (.iadd, 1) := by decide +kernel
theorem d_Reader_readClassPart_45 : decode c_Reader_readClassPart 45 = .ok (.putfield 44, 3) := by decide +kernel
theorem d_Reader_readClassPart_48 : decode c_Reader_readClassPart 48 = .ok (.iload_n 2, 1) := by decide +kernel
theorem d_Reader_readClassPart_49 : decode c_Reader_readClassPart 49 = .ok (.invokestatic 139, 3) := by decide +kernel
theorem d_Reader_readClassPart_52 : decode c_Reader_readClassPart 52 = .ok (.ifCond .eq 8, 3) := by decide +kernel
theorem d_Reader_readClassPart_55 : decode c_Reader_readClassPart 55 = .ok (.iload_n 2, 1) := by decide +kernel
theorem d_Reader_readClassPart_56 : decode c_Reader_readClassPart 56 = .ok (.iload_n 1, 1) := by decide +kernel
theorem d_Reader_readClassPart_57 : decode c_Reader_readClassPart 57 = .ok (.if_icmp .ge 10, 3) := by decide +kernel
theorem d_Reader_readClassPart_60 : decode c_Reader_readClassPart 60 = .ok (.aload_n 0, 1) := by decide +kernel
theorem d_Reader_readClassPart_61 : decode c_Reader_readClassPart 61 = .ok (.iconst 0, 1) := by decide +kernel
theorem d_Reader_readClassPart_62 : decode c_Reader_readClassPart 62 = .ok (.putfield 53, 3) := by decide +kernel
theorem d_Reader_readClassPart_65 : decode c_Reader_readClassPart 65 = .ok (.iconst 0, 1) := by decide +kernel
theorem d_Reader_readClassPart_66 : decode c_Reader_readClassPart 66 = .ok (.ireturn, 1) := by decide +kernel
theorem d_Reader_readClassPart_67 : decode c_Reader_readClassPart 67 = .ok (.iload_n 1, 1) := by decide +kernel
theorem d_Reader_readClassPart_68 : decode c_Reader_readClassPart 68 = .ok (.iload_n 2, 1) := by decide +kernel
theorem d_Reader_readClassPart_69 : decode c_Reader_readClassPart 69 = .ok (.invokestatic 142, 3) := by decide +kernel
theorem d_Reader_readClassPart_72 : decode c_Reader_readClassPart 72 = .ok (.ireturn, 1) := by decide +kernel
theorem d_Reader_lettersBetween_0 : decode c_Reader_lettersBetween 0 = .ok (.iconst 2, 1) := by decide +kernel
theorem d_Reader_lettersBetween_1 : decode c_Reader_lettersBetween 1 = .ok (.iload_n 1, 1) := by decide +kernel
theorem d_Reader_lettersBetween_2 : decode c_Reader_lettersBetween 2 = .ok (.iload_n 0, 1) := by decide +kernel
theorem d_Reader_lettersBetween_3 : decode c_Reader_lettersBetween 3 = .ok (.isub, 1) := by decide +kernel
theorem d_Reader_lettersBetween_4 : decode c_Reader_lettersBetween 4 = .ok (.ishl, 1) := by decide +kernel
theorem d_Reader_lettersBetween_5 : decode c_Reader_lettersBetween 5 = .ok (.iconst 1, 1) := by decide +kernel
theorem d_Reader_lettersBetween_6 : decode c_Reader_lettersBetween 6 = .ok (.isub, 1) := by decide +kernel
theorem d_Reader_lettersBetween_7 : decode c_Reader_lettersBetween 7 = .ok (.iload_n 0, 1) := by decide +kernel
theorem d_Reader_lettersBetween_8 : decode c_Reader_lettersBetween 8 = .ok (.bipush 97, 2) := by decide +kernel
theorem d_Reader_lettersBetween_10 : decode c_Reader_lettersBetween 10 = .ok (.isub, 1) := by decide +kernel
theorem d_Reader_lettersBetween_11 : decode c_Reader_lettersBetween 11 = .ok (.ishl, 1) := by decide +kernel
theorem d_Reader_lettersBetween_12 : decode c_Reader_lettersBetween 12 = .ok (.ireturn, 1) := by decide +kernel
theorem d_Reader_appendItem_0 : decode c_Reader_appendItem 0 = .ok (.aload_n 0, 1) := by decide +kernel
theorem d_Reader_appendItem_1 : decode c_Reader_appendItem 1 = .ok (.getfield 23, 3) := by decide +kernel
theorem d_Reader_appendItem_4 : decode c_Reader_appendItem 4 = .ok (.iload_n 1, 1) := by decide +kernel
theorem d_Reader_appendItem_5 : decode c_Reader_appendItem 5 = .ok (.iload_n 2, 1) := by decide +kernel
theorem d_Reader_appendItem_6 : decode c_Reader_appendItem 6 = .ok (.invokevirtual 149, 3) := by decide +kernel
theorem d_Reader_appendItem_9 : decode c_Reader_appendItem 9 = .ok (.istore_n 3, 1) := by decide +kernel
theorem d_Reader_appendItem_10 : decode c_Reader_appendItem 10 = .ok (.aload_n 0, 1) := by decide +kernel
theorem d_Reader_appendItem_11 : decode c_Reader_appendItem 11 = .ok (.getfield 34, 3) := by decide +kernel
theorem d_Reader_appendItem_14 : decode c_Reader_appendItem 14 = .ok (.aload_n 0, 1) := by decide +kernel
theorem d_Reader_appendItem_15 : decode c_Reader_appendItem 15 = .ok (.getfield 40, 3) := by decide +kernel
theorem d_Reader_appendItem_18 : decode c_Reader_appendItem 18 = .ok (.iaload, 1) := by decide +kernel
theorem d_Reader_appendItem_19 : decode c_Reader_appendItem 19 = .ok (.iconst (-1), 1) := by decide +kernel
theorem d_Reader_appendItem_20 : decode c_Reader_appendItem 20 = .ok (.if_icmp .ne 24, 3) := by decide +kernel
theorem d_Reader_appendItem_23 : decode c_Reader_appendItem 23 = .ok (.aload_n 0, 1) := by decide +kernel
theorem d_Reader_appendItem_24 : decode c_Reader_appendItem 24 = .ok (.getfield 23, 3) := by decide +kernel
theorem d_Reader_appendItem_27 : decode c_Reader_appendItem 27 = .ok (.getfield 152, 3) := by decide +kernel
theorem d_Reader_appendItem_30 : decode c_Reader_appendItem 30 = .ok (.aload_n 0, 1) := by decide +kernel
theorem d_Reader_appendItem_31 : decode c_Reader_appendItem 31 = .ok (.getfield 31, 3) := by decide +kernel
theorem d_Reader_appendItem_34 : decode c_Reader_appendItem 34 = .ok (.aload_n 0, 1) := by decide +kernel
theorem d_Reader_appendItem_35 : decode c_Reader_appendItem 35 = .ok (.getfield 40, 3) := by decide +kernel
theorem d_Reader_appendItem_38 : decode c_Reader_appendItem 38 = .ok (.iaload, 1) := by decide +kernel
theorem d_Reader_appendItem_39 : decode c_Reader_appendItem 39 = .ok (.iload_n 3, 1) := by decide +kernel
theorem d_Reader_appendItem_40 : decode c_Reader_appendItem 40 = .ok (.iastore, 1) := by decide +kernel
theorem d_Reader_appendItem_41 : decode c_Reader_appendItem 41 = .ok (.goto 21, 3) := by decide +kernel
theorem d_Reader_appendItem_44 : decode c_Reader_appendItem 44 = .ok (.aload_n 0, 1) := by decide +kernel
theorem d_Reader_appendItem_45 : decode c_Reader_appendItem 45 = .ok (.getfield 23, 3) := by decide +kernel
theorem d_Reader_appendItem_48 : decode c_Reader_appendItem 48 = .ok (.getfield 155, 3) := by decide +kernel
theorem d_Reader_appendItem_51 : decode c_Reader_appendItem 51 = .ok (.aload_n 0, 1) := by decide +kernel
theorem d_Reader_appendItem_52 : decode c_Reader_appendItem 52 = .ok (.getfield 34, 3) := by decide +kernel
theorem d_Reader_appendItem_55 : decode c_Reader_appendItem 55 = .ok (.aload_n 0, 1) := by decide +kernel
theorem d_Reader_appendItem_56 : decode c_Reader_appendItem 56 = .ok (.getfield 40, 3) := by decide +kernel
theorem d_Reader_appendItem_59 : decode c_Reader_appendItem 59 = .ok (.iaload, 1) := by decide +kernel
theorem d_Reader_appendItem_60 : decode c_Reader_appendItem 60 = .ok (.iload_n 3, 1) := by decide +kernel
theorem d_Reader_appendItem_61 : decode c_Reader_appendItem 61 = .ok (.iastore, 1) := by decide +kernel
theorem d_Reader_appendItem_62 : decode c_Reader_appendItem 62 = .ok (.aload_n 0, 1) := by decide +kernel
theorem d_Reader_appendItem_63 : decode c_Reader_appendItem 63 = .ok (.getfield 34, 3) := by decide +kernel
theorem d_Reader_appendItem_66 : decode c_Reader_appendItem 66 = .ok (.aload_n 0, 1) := by decide +kernel
theorem d_Reader_appendItem_67 : decode c_Reader_appendItem 67 = .ok (.getfield 40, 3) := by decide +kernel
theorem d_Reader_appendItem_70 : decode c_Reader_appendItem 70 = .ok (.iload_n 3, 1) := by decide +kernel
theorem d_Reader_appendItem_71 : decode c_Reader_appendItem 71 = .ok (.iastore, 1) := by decide +kernel
theorem d_Reader_appendItem_72 : decode c_Reader_appendItem 72 = .ok (.aload_n 0, 1) := by decide +kernel
theorem d_Reader_appendItem_73 : decode c_Reader_appendItem 73 = .ok (.iconst 1, 1) := by decide +kernel
theorem d_Reader_appendItem_74 : decode c_Reader_appendItem 74 = .ok (.putfield 47, 3) := by decide +kernel
theorem d_Reader_appendItem_77 : decode c_Reader_appendItem 77 = .ok (.iload_n 3, 1) := by decide +kernel
theorem d_Reader_appendItem_78 : decode c_Reader_appendItem 78 = .ok (.ireturn, 1) := by decide +kernel
theorem d_Reader_readRepeat_0 : decode c_Reader_readRepeat 0 = .ok (.aload_n 0, 1) := by decide +kernel
theorem d_Reader_readRepeat_1 : decode c_Reader_readRepeat 1 = .ok (.iconst 0, 1) := by decide +kernel
theorem d_Reader_readRepeat_2 : decode c_Reader_readRepeat 2 = .ok (.invokevirtual 83, 3) := by decide +kernel
theorem d_Reader_readRepeat_5 : decode c_Reader_readRepeat 5 = .ok (.lookupswitch 101 #[(42, 43), (43, 59), (63, 77), (123, 93)], 43) := by decide +kernel
theorem d_Reader_readRepeat_48 : decode c_Reader_readRepeat 48 = .ok (.aload_n 0, 1) := by decide +kernel
theorem d_Reader_readRepeat_49 : decode c_Reader_readRepeat 49 = .ok (.iload_n 1, 1) := by decide +kernel
theorem d_Reader_readRepeat_50 : decode c_Reader_readRepeat 50 = .ok (.iconst 3, 1) := by decide +kernel
theorem d_Reader_readRepeat_51 : decode c_Reader_readRepeat 51 = .ok (.iconst 1, 1) := by decide +kernel
theorem d_Reader_readRepeat_52 : decode c_Reader_readRepeat 52 = .ok (.aload_n 0, 1) := by decide +kernel
theorem d_Reader_readRepeat_53 : decode c_Reader_readRepeat 53 = .ok (.getfield 47, 3) := by decide +kernel
theorem d_Reader_readRepeat_56 : decode c_Reader_readRepeat 56 = .ok (.iconst 2, 1) := by decide +kernel
theorem d_Reader_readRepeat_57 : decode c_Reader_readRepeat 57 = .ok (.iadd, 1) := by decide +kernel
theorem d_Reader_readRepeat_58 : decode c_Reader_readRepeat 58 = .ok (.invokevirtual 158, 3) := by decide +kernel
theorem d_Reader_readRepeat_61 : decode c_Reader_readRepeat 61 = .ok (.goto 61, 3) := by decide +kernel
theorem d_Reader_readRepeat_64 : decode c_Reader_readRepeat 64 = .ok (.aload_n 0, 1) := by decide +kernel
theorem d_Reader_readRepeat_65 : decode c_Reader_readRepeat 65 = .ok (.iload_n 1, 1) := by decide +kernel
theorem d_Reader_readRepeat_66 : decode c_Reader_readRepeat 66 = .ok (.iconst 4, 1) := by decide +kernel
theorem d_Reader_readRepeat_67 : decode c_Reader_readRepeat 67 = .ok (.iconst 1, 1) := by decide +kernel
theorem d_Reader_readRepeat_68 : decode c_Reader_readRepeat 68 = .ok (.iconst 2, 1) := by decide +kernel
theorem d_Reader_readRepeat_69 : decode c_Reader_readRepeat 69 = .ok (.aload_n 0, 1) := by decide +kernel
theorem d_Reader_readRepeat_70 : decode c_Reader_readRepeat 70 = .ok (.getfield 47, 3) := by decide +kernel
theorem d_Reader_readRepeat_73 : decode c_Reader_readRepeat 73 = .ok (.imul, 1) := by decide +kernel
theorem d_Reader_readRepeat_74 : decode c_Reader_readRepeat 74 = .ok (.iconst 2, 1) := by decide +kernel
theorem d_Reader_readRepeat_75 : decode c_Reader_readRepeat 75 = .ok (.iadd, 1) := by decide +kernel
theorem d_Reader_readRepeat_76 : decode c_Reader_readRepeat 76 = .ok (.invokevirtual 158, 3) := by decide +kernel
theorem d_Reader_readRepeat_79 : decode c_Reader_readRepeat 79 = .ok (.goto 43, 3) := by decide +kernel
theorem d_Reader_readRepeat_82 : decode c_Reader_readRepeat 82 = .ok (.aload_n 0, 1) := by decide +kernel
theorem d_Reader_readRepeat_83 : decode c_Reader_readRepeat 83 = .ok (.iload_n 1, 1) := by decide +kernel
theorem d_Reader_readRepeat_84 : decode c_Reader_readRepeat 84 = .ok (.iconst 2, 1) := by decide +kernel
theorem d_Reader_readRepeat_85 : decode c_Reader_readRepeat 85 = .ok (.iconst 1, 1) := by decide +kernel
theorem d_Reader_readRepeat_86 : decode c_Reader_readRepeat 86 = .ok (.aload_n 0, 1) := by decide +kernel
theorem d_Reader_readRepeat_87 : decode c_Reader_readRepeat 87 = .ok (.getfield 47, 3) := by decide +kernel
theorem d_Reader_readRepeat_90 : decode c_Reader_readRepeat 90 = .ok (.iconst 2, 1) := by decide +kernel
theorem d_Reader_readRepeat_91 : decode c_Reader_readRepeat 91 = .ok (.iadd, 1) := by decide +kernel
theorem d_Reader_readRepeat_92 : decode c_Reader_readRepeat 92 = .ok (.invokevirtual 158, 3) := by decide +kernel
theorem d_Reader_readRepeat_95 : decode c_Reader_readRepeat 95 = .ok (.goto 27, 3) := by decide +kernel
theorem d_Reader_readRepeat_98 : decode c_Reader_readRepeat 98 = .ok (.aload_n 0, 1) := by decide +kernel
theorem d_Reader_readRepeat_99 : decode c_Reader_readRepeat 99 = .ok (.iload_n 1, 1) := by decide +kernel
theorem d_Reader_readRepeat_100 : decode c_Reader_readRepeat 100 = .ok (.invokevirtual 162, 3) := by decide +kernel
theorem d_Reader_readRepeat_103 : decode c_Reader_readRepeat 103 = .ok (.goto 19, 3) := by decide +kernel
theorem d_Reader_readRepeat_106 : decode c_Reader_readRepeat 106 = .ok (.aload_n 0, 1) := by decide +kernel
theorem d_Reader_readRepeat_107 : decode c_Reader_readRepeat 107 = .ok (.getfield 37, 3) := by decide +kernel
theorem d_Reader_readRepeat_110 : decode c_Reader_readRepeat 110 = .ok (.aload_n 0, 1) := by decide +kernel
theorem d_Reader_readRepeat_111 : decode c_Reader_readRepeat 111 = .ok (.getfield 40, 3) := by decide +kernel
theorem d_Reader_readRepeat_114 : decode c_Reader_readRepeat 114 = .ok (.dup2, 1) := by decide +kernel
theorem d_Reader_readRepeat_115 : decode c_Reader_readRepeat 115 = .ok (.iaload, 1) := by decide +kernel
theorem d_Reader_readRepeat_116 : decode c_Reader_readRepeat 116 = .ok (.aload_n 0, 1) := by decide +kernel
theorem d_Reader_readRepeat_117 : decode c_Reader_readRepeat 117 = .ok (.getfield 47, 3) := by decide +kernel
theorem d_Reader_readRepeat_120 : decode c_Reader_readRepeat 120 = .ok (.iadd, 1) := by decide +kernel
theorem d_Reader_readRepeat_121 : decode c_Reader_readRepeat 121 = .ok (.iastore, 1) := by decide +kernel
theorem d_Reader_readRepeat_122 : decode c_Reader_readRepeat 122 = .ok (.return_, 1) := by decide +kernel
theorem d_Reader_readTimes_0 : decode c_Reader_readTimes 0 = .ok (.aload_n 0, 1) := by decide +kernel
theorem d_Reader_readTimes_1 : decode c_Reader_readTimes 1 = .ok (.iconst 1, 1) := by decide +kernel
theorem d_Reader_readTimes_2 : decode c_Reader_readTimes 2 = .ok (.invokevirtual 83, 3) := by decide +kernel
theorem d_Reader_readTimes_5 : decode c_Reader_readTimes 5 = .ok (.invokestatic 93, 3) := by decide +kernel
theorem d_Reader_readTimes_8 : decode c_Reader_readTimes 8 = .ok (.ifCond .eq 13, 3) := by decide +kernel
theorem d_Reader_readTimes_11 : decode c_Reader_readTimes 11 = .ok (.aload_n 0, 1) := by decide +kernel
theorem d_Reader_readTimes_12 : decode c_Reader_readTimes 12 = .ok (.iconst 2, 1) := by decide +kernel
theorem d_Reader_readTimes_13 : decode c_Reader_readTimes 13 = .ok (.invokevirtual 83, 3) := by decide +kernel
theorem d_Reader_readTimes_16 : decode c_Reader_readTimes 16 = .ok (.bipush 125, 2) := by decide +kernel
theorem d_Reader_readTimes_18 : decode c_Reader_readTimes 18 = .ok (.if_icmp .eq 9, 3) := by decide +kernel
theorem d_Reader_readTimes_21 : decode c_Reader_readTimes 21 = .ok (.aload_n 0, 1) := by decide +kernel
theorem d_Reader_readTimes_22 : decode c_Reader_readTimes 22 = .ok (.iconst 0, 1) := by decide +kernel
theorem d_Reader_readTimes_23 : decode c_Reader_readTimes 23 = .ok (.putfield 53, 3) := by decide +kernel
theorem d_Reader_readTimes_26 : decode c_Reader_readTimes 26 = .ok (.return_, 1) := by decide +kernel
theorem d_Reader_readTimes_27 : decode c_Reader_readTimes 27 = .ok (.aload_n 0, 1) := by decide +kernel
theorem d_Reader_readTimes_28 : decode c_Reader_readTimes 28 = .ok (.iconst 1, 1) := by decide +kernel
theorem d_Reader_readTimes_29 : decode c_Reader_readTimes 29 = .ok (.invokevirtual 83, 3) := by decide +kernel
theorem d_Reader_readTimes_32 : decode c_Reader_readTimes 32 = .ok (.bipush 48, 2) := by decide +kernel
theorem d_Reader_readTimes_34 : decode c_Reader_readTimes 34 = .ok (.isub, 1) := by decide +kernel
theorem d_Reader_readTimes_35 : decode c_Reader_readTimes 35 = .ok (.istore_n 2, 1) := by decide +kernel
theorem d_Reader_readTimes_36 : decode c_Reader_readTimes 36 = .ok (.aload_n 0, 1) := by decide +kernel
theorem d_Reader_readTimes_37 : decode c_Reader_readTimes 37 = .ok (.getfield 23, 3) := by decide +kernel
theorem d_Reader_readTimes_40 : decode c_Reader_readTimes 40 = .ok (.getfield 165, 3) := by decide +kernel
theorem d_Reader_readTimes_43 : decode c_Reader_readTimes 43 = .ok (.iload_n 1, 1) := by decide +kernel
theorem d_Reader_readTimes_44 : decode c_Reader_readTimes 44 = .ok (.iload_n 2, 1) := by decide +kernel
theorem d_Reader_readTimes_45 : decode c_Reader_readTimes 45 = .ok (.iastore, 1) := by decide +kernel
theorem d_Reader_readTimes_46 : decode c_Reader_readTimes 46 = .ok (.aload_n 0, 1) := by decide +kernel
theorem d_Reader_readTimes_47 : decode c_Reader_readTimes 47 = .ok (.iload_n 1, 1) := by decide +kernel
theorem d_Reader_readTimes_48 : decode c_Reader_readTimes 48 = .ok (.iload_n 2, 1) := by decide +kernel
theorem d_Reader_readTimes_49 : decode c_Reader_readTimes 49 = .ok (.ifCond .ne 7, 3) := by decide +kernel
theorem d_Reader_readTimes_52 : decode c_Reader_readTimes 52 = .ok (.iconst 1, 1) := by decide +kernel
theorem d_Reader_readTimes_53 : decode c_Reader_readTimes 53 = .ok (.goto 4, 3) := by decide +kernel
theorem d_Reader_readTimes_56 : decode c_Reader_readTimes 56 = .ok (.iconst 5, 1) := by decide +kernel
theorem d_Reader_readTimes_57 : decode c_Reader_readTimes 57 = .ok (.iconst 3, 1) := by decide +kernel
theorem d_Reader_readTimes_58 : decode c_Reader_readTimes 58 = .ok (.iload_n 2, 1) := by decide +kernel
theorem d_Reader_readTimes_59 : decode c_Reader_readTimes 59 = .ok (.aload_n 0, 1) := by decide +kernel
theorem d_Reader_readTimes_60 : decode c_Reader_readTimes 60 = .ok (.getfield 47, 3) := by decide +kernel
theorem d_Reader_readTimes_63 : decode c_Reader_readTimes 63 = .ok (.imul, 1) := by decide +kernel
theorem d_Reader_readTimes_64 : decode c_Reader_readTimes 64 = .ok (.iconst 1, 1) := by decide +kernel
theorem d_Reader_readTimes_65 : decode c_Reader_readTimes 65 = .ok (.iadd, 1) := by decide +kernel
theorem d_Reader_readTimes_66 : decode c_Reader_readTimes 66 = .ok (.invokevirtual 158, 3) := by decide +kernel
theorem d_Reader_readTimes_69 : decode c_Reader_readTimes 69 = .ok (.return_, 1) := by decide +kernel
theorem d_Reader_setRepeat_0 : decode c_Reader_setRepeat 0 = .ok (.aload_n 0, 1) := by decide +kernel
theorem d_Reader_setRepeat_1 : decode c_Reader_setRepeat 1 = .ok (.getfield 23, 3) := by decide +kernel
theorem d_Reader_setRepeat_4 : decode c_Reader_setRepeat 4 = .ok (.getfield 168, 3) := by decide +kernel
theorem d_Reader_setRepeat_7 : decode c_Reader_setRepeat 7 = .ok (.iload_n 1, 1) := by decide +kernel
theorem d_Reader_setRepeat_8 : decode c_Reader_setRepeat 8 = .ok (.iload_n 2, 1) := by decide +kernel
theorem d_Reader_setRepeat_9 : decode c_Reader_setRepeat 9 = .ok (.iastore, 1) := by decide +kernel
theorem d_Reader_setRepeat_10 : decode c_Reader_setRepeat 10 = .ok (.aload_n 0, 1) := by decide +kernel
theorem d_Reader_setRepeat_11 : decode c_Reader_setRepeat 11 = .ok (.getfield 37, 3) := by decide +kernel
theorem d_Reader_setRepeat_14 : decode c_Reader_setRepeat 14 = .ok (.aload_n 0, 1) := by decide +kernel
theorem d_Reader_setRepeat_15 : decode c_Reader_setRepeat 15 = .ok (.getfield 40, 3) := by decide +kernel
theorem d_Reader_setRepeat_18 : decode c_Reader_setRepeat 18 = .ok (.dup2, 1) := by decide +kernel
theorem d_Reader_setRepeat_19 : decode c_Reader_setRepeat 19 = .ok (.iaload, 1) := by decide +kernel
theorem d_Reader_setRepeat_20 : decode c_Reader_setRepeat 20 = .ok (.iload 4, 2) := by decide +kernel
theorem d_Reader_setRepeat_22 : decode c_Reader_setRepeat 22 = .ok (.iadd, 1) := by decide +kernel
theorem d_Reader_setRepeat_23 : decode c_Reader_setRepeat 23 = .ok (.iastore, 1) := by decide +kernel
theorem d_Reader_setRepeat_24 : decode c_Reader_setRepeat 24 = .ok (.aload_n 0, 1) := by decide +kernel
theorem d_Reader_setRepeat_25 : decode c_Reader_setRepeat 25 = .ok (.dup, 1) := by decide +kernel
theorem d_Reader_setRepeat_26 : decode c_Reader_setRepeat 26 = .ok (.getfield 44, 3) := by decide +kernel
theorem d_Reader_setRepeat_29 : decode c_Reader_setRepeat 29 = .ok (.iload_n 3, 1) := by decide +kernel
theorem d_Reader_setRepeat_30 : decode c_Reader_setRepeat 30 = .ok (.iadd, 1) := by decide +kernel
theorem d_Reader_setRepeat_31 : decode c_Reader_setRepeat 31 = .ok (.putfield 44, 3) := by decide +kernel
theorem d_Reader_setRepeat_34 : decode c_Reader_setRepeat 34 = .ok (.aload_n 0, 1) := by decide +kernel
theorem d_Reader_setRepeat_35 : decode c_Reader_setRepeat 35 = .ok (.iconst 0, 1) := by decide +kernel
theorem d_Reader_setRepeat_36 : decode c_Reader_setRepeat 36 = .ok (.invokevirtual 83, 3) := by decide +kernel
theorem d_Reader_setRepeat_39 : decode c_Reader_setRepeat 39 = .ok (.bipush 63, 2) := by decide +kernel
theorem d_Reader_setRepeat_41 : decode c_Reader_setRepeat 41 = .ok (.if_icmp .ne 26, 3) := by decide +kernel
theorem d_Reader_setRepeat_44 : decode c_Reader_setRepeat 44 = .ok (.aload_n 0, 1) := by decide +kernel
theorem d_Reader_setRepeat_45 : decode c_Reader_setRepeat 45 = .ok (.getfield 23, 3) := by decide +kernel
theorem d_Reader_setRepeat_48 : decode c_Reader_setRepeat 48 = .ok (.getfield 171, 3) := by decide +kernel
theorem d_Reader_setRepeat_51 : decode c_Reader_setRepeat 51 = .ok (.iload_n 1, 1) := by decide +kernel
theorem d_Reader_setRepeat_52 : decode c_Reader_setRepeat 52 = .ok (.iconst 1, 1) := by decide +kernel
theorem d_Reader_setRepeat_53 : decode c_Reader_setRepeat 53 = .ok (.iastore, 1) := by decide +kernel
theorem d_Reader_setRepeat_54 : decode c_Reader_setRepeat 54 = .ok (.aload_n 0, 1) := by decide +kernel
theorem d_Reader_setRepeat_55 : decode c_Reader_setRepeat 55 = .ok (.dup, 1) := by decide +kernel
theorem d_Reader_setRepeat_56 : decode c_Reader_setRepeat 56 = .ok (.getfield 44, 3) := by decide +kernel
theorem d_Reader_setRepeat_59 : decode c_Reader_setRepeat 59 = .ok (.iconst 1, 1) := by decide +kernel
theorem d_Reader_setRepeat_60 : decode c_Reader_setRepeat 60 = .ok (.iadd, 1) := by decide +kernel
theorem d_Reader_setRepeat_61 : decode c_Reader_setRepeat 61 = .ok (.putfield 44, 3) := by decide +kernel
theorem d_Reader_setRepeat_64 : decode c_Reader_setRepeat 64 = .ok (.goto 33, 3) := by decide +kernel
theorem d_Reader_setRepeat_67 : decode c_Reader_setRepeat 67 = .ok (.aload_n 0, 1) := by decide +kernel
theorem d_Reader_setRepeat_68 : decode c_Reader_setRepeat 68 = .ok (.iconst 0, 1) := by decide +kernel
theorem d_Reader_setRepeat_69 : decode c_Reader_setRepeat 69 = .ok (.invokevirtual 83, 3) := by decide +kernel
theorem d_Reader_setRepeat_72 : decode c_Reader_setRepeat 72 = .ok (.bipush 43, 2) := by decide +kernel
theorem d_Reader_setRepeat_74 : decode c_Reader_setRepeat 74 = .ok (.if_icmp .ne 23, 3) := by decide +kernel
theorem d_Reader_setRepeat_77 : decode c_Reader_setRepeat 77 = .ok (.aload_n 0, 1) := by decide +kernel
theorem d_Reader_setRepeat_78 : decode c_Reader_setRepeat 78 = .ok (.getfield 23, 3) := by decide +kernel
theorem d_Reader_setRepeat_81 : decode c_Reader_setRepeat 81 = .ok (.getfield 171, 3) := by decide +kernel
theorem d_Reader_setRepeat_84 : decode c_Reader_setRepeat 84 = .ok (.iload_n 1, 1) := by decide +kernel
theorem d_Reader_setRepeat_85 : decode c_Reader_setRepeat 85 = .ok (.iconst 2, 1) := by decide +kernel
theorem d_Reader_setRepeat_86 : decode c_Reader_setRepeat 86 = .ok (.iastore, 1) := by decide +kernel
theorem d_Reader_setRepeat_87 : decode c_Reader_setRepeat 87 = .ok (.aload_n 0, 1) := by decide +kernel
theorem d_Reader_setRepeat_88 : decode c_Reader_setRepeat 88 = .ok (.dup, 1) := by decide +kernel
theorem d_Reader_setRepeat_89 : decode c_Reader_setRepeat 89 = .ok (.getfield 44, 3) := by decide +kernel
theorem d_Reader_setRepeat_92 : decode c_Reader_setRepeat 92 = .ok (.iconst 1, 1) := by decide +kernel
theorem d_Reader_setRepeat_93 : decode c_Reader_setRepeat 93 = .ok (.iadd, 1) := by decide +kernel
theorem d_Reader_setRepeat_94 : decode c_Reader_setRepeat 94 = .ok (.putfield 44, 3) := by decide +kernel
theorem d_Reader_setRepeat_97 : decode c_Reader_setRepeat 97 = .ok (.return_, 1) := by decide +kernel
theorem d_Text_init_0 : decode c_Text_init 0 = .ok (.aload_n 0, 1) := by decide +kernel
theorem d_Text_init_1 : decode c_Text_init 1 = .ok (.invokespecial 3, 3) := by decide +kernel
theorem d_Text_init_4 : decode c_Text_init 4 = .ok (.aload_n 0, 1) := by decide +kernel
theorem d_Text_init_5 : decode c_Text_init 5 = .ok (.iconst 0, 1) := by decide +kernel
theorem d_Text_init_6 : decode c_Text_init 6 = .ok (.putfield 9, 3) := by decide +kernel
theorem d_Text_init_9 : decode c_Text_init 9 = .ok (.aload_n 0, 1) := by decide +kernel
theorem d_Text_init_10 : decode c_Text_init 10 = .ok (.iload_n 1, 1) := by decide +kernel
theorem d_Text_init_11 : decode c_Text_init 11 = .ok (.newarray .int, 2) := by decide +kernel
theorem d_Text_init_13 : decode c_Text_init 13 = .ok (.putfield 15, 3) := by decide +kernel
theorem d_Text_init_16 : decode c_Text_init 16 = .ok (.return_, 1) := by decide +kernel
theorem d_Text_isFull_0 : decode c_Text_isFull 0 = .ok (.aload_n 0, 1) := by decide +kernel
theorem d_Text_isFull_1 : decode c_Text_isFull 1 = .ok (.getfield 9, 3) := by decide +kernel
theorem d_Text_isFull_4 : decode c_Text_isFull 4 = .ok (.aload_n 0, 1) := by decide +kernel
theorem d_Text_isFull_5 : decode c_Text_isFull 5 = .ok (.getfield 15, 3) := by decide +kernel
theorem d_Text_isFull_8 : decode c_Text_isFull 8 = .ok (.arraylength, 1) := by decide +kernel
theorem d_Text_isFull_9 : decode c_Text_isFull 9 = .ok (.if_icmp .lt 7, 3) := by decide +kernel
theorem d_Text_isFull_12 : decode c_Text_isFull 12 = .ok (.iconst 1, 1) := by decide +kernel
theorem d_Text_isFull_13 : decode c_Text_isFull 13 = .ok (.goto 4, 3) := by decide +kernel
theorem d_Text_isFull_16 : decode c_Text_isFull 16 = .ok (.iconst 0, 1) := by decide +kernel
theorem d_Text_isFull_17 : decode c_Text_isFull 17 = .ok (.ireturn, 1) := by decide +kernel
theorem d_Text_add_0 : decode c_Text_add 0 = .ok (.aload_n 0, 1) := by decide +kernel
theorem d_Text_add_1 : decode c_Text_add 1 = .ok (.invokevirtual 19, 3) := by decide +kernel
theorem d_Text_add_4 : decode c_Text_add 4 = .ok (.ifCond .ne 23, 3) := by decide +kernel
theorem d_Text_add_7 : decode c_Text_add 7 = .ok (.aload_n 0, 1) := by decide +kernel
theorem d_Text_add_8 : decode c_Text_add 8 = .ok (.getfield 15, 3) := by decide +kernel
theorem d_Text_add_11 : decode c_Text_add 11 = .ok (.aload_n 0, 1) := by decide +kernel
theorem d_Text_add_12 : decode c_Text_add 12 = .ok (.getfield 9, 3) := by decide +kernel
theorem d_Text_add_15 : decode c_Text_add 15 = .ok (.iload_n 1, 1) := by decide +kernel
theorem d_Text_add_16 : decode c_Text_add 16 = .ok (.iastore, 1) := by decide +kernel
theorem d_Text_add_17 : decode c_Text_add 17 = .ok (.aload_n 0, 1) := by decide +kernel
theorem d_Text_add_18 : decode c_Text_add 18 = .ok (.dup, 1) := by decide +kernel
theorem d_Text_add_19 : decode c_Text_add 19 = .ok (.getfield 9, 3) := by decide +kernel
theorem d_Text_add_22 : decode c_Text_add 22 = .ok (.iconst 1, 1) := by decide +kernel
theorem d_Text_add_23 : decode c_Text_add 23 = .ok (.iadd, 1) := by decide +kernel
theorem d_Text_add_24 : decode c_Text_add 24 = .ok (.putfield 9, 3) := by decide +kernel
theorem d_Text_add_27 : decode c_Text_add 27 = .ok (.aload_n 0, 1) := by decide +kernel
theorem d_Text_add_28 : decode c_Text_add 28 = .ok (.getfield 9, 3) := by decide +kernel
theorem d_Text_add_31 : decode c_Text_add 31 = .ok (.ireturn, 1) := by decide +kernel
theorem d_Text_codeAt_0 : decode c_Text_codeAt 0 = .ok (.iload_n 1, 1) := by decide +kernel
theorem d_Text_codeAt_1 : decode c_Text_codeAt 1 = .ok (.ifCond .lt 20, 3) := by decide +kernel
theorem d_Text_codeAt_4 : decode c_Text_codeAt 4 = .ok (.iload_n 1, 1) := by decide +kernel
theorem d_Text_codeAt_5 : decode c_Text_codeAt 5 = .ok (.aload_n 0, 1) := by decide +kernel
theorem d_Text_codeAt_6 : decode c_Text_codeAt 6 = .ok (.getfield 9, 3) := by decide +kernel
theorem d_Text_codeAt_9 : decode c_Text_codeAt 9 = .ok (.if_icmp .ge 12, 3) := by decide +kernel
theorem d_Text_codeAt_12 : decode c_Text_codeAt 12 = .ok (.aload_n 0, 1) := by decide +kernel
theorem d_Text_codeAt_13 : decode c_Text_codeAt 13 = .ok (.getfield 15, 3) := by decide +kernel
theorem d_Text_codeAt_16 : decode c_Text_codeAt 16 = .ok (.iload_n 1, 1) := by decide +kernel
theorem d_Text_codeAt_17 : decode c_Text_codeAt 17 = .ok (.iaload, 1) := by decide +kernel
theorem d_Text_codeAt_18 : decode c_Text_codeAt 18 = .ok (.goto 4, 3) := by decide +kernel
theorem d_Text_codeAt_21 : decode c_Text_codeAt 21 = .ok (.iconst (-1), 1) := by decide +kernel
theorem d_Text_codeAt_22 : decode c_Text_codeAt 22 = .ok (.ireturn, 1) := by decide +kernel
end
section
def wp_Text_isFull_2 (n1 n2 : Nat) (i : mm_i) (l : mm_j) (a : mm_a) (b : mm_b)  (K : Int32 → mm_i → mm_j → mm_a → mm_b → Prop) : Prop :=
  ((i 33) < (32 : Int32) → K 0 i l a b) ∧ (¬ (i 33) < (32 : Int32) → K 1 i l a b)
set_option maxRecDepth 100000 in
set_option maxHeartbeats 4000000 in
theorem ct_Text_isFull_2 {n1 n2 : Nat} {i : mm_i} {l : mm_j} {a : mm_a} {b : mm_b} {t : mm_H}  {K : Int32 → mm_i → mm_j → mm_a → mm_b → Prop} (h : wp_Text_isFull_2 n1 n2 i l a b  K) : mm_Ct y_Text_isFull M_Text_isFull 0 0 0 [.ref 2] (Wd 4 22 n1 n2 i l a b ++ t) (mm_PI n1 n2 t K) := by
  refine mm_Ct.of (by decide) rfl (fun q => absurd q (by decide)) (Nat.le_of_ble_eq_true rfl) ?_
  unfold wp_Text_isFull_2 at h
  refine mm_eqL (L' := [some (.ref 2)]) rfl ?_
  refine mm_aload_n (M := M_Text_isFull) d_Text_isFull_0 rfl ?_
  refine mm_getf (M := M_Text_isFull) (u := .int (i 33)) 0 1 d_Text_isFull_1 fl_Text_9 wg_2 rfl ?_
  refine mm_aload_n (M := M_Text_isFull) d_Text_isFull_4 rfl ?_
  refine mm_getf (M := M_Text_isFull) (u := .ref 3) 0 0 d_Text_isFull_5 fl_Text_15 wg_2 rfl ?_
  refine mm_alen0 (M := M_Text_isFull) (v := 32) d_Text_isFull_8 wg_3 rfl ?_
  refine mm_icmp_lt (M := M_Text_isFull) 16 d_Text_isFull_9 (by decide) (fun c => ?_) (fun c => ?_)
  · have h := h.1 c
    refine mm_iconst (M := M_Text_isFull) (v := 0) d_Text_isFull_16 (by decide) ?_
    exact mm_retv (M := M_Text_isFull) ⟨_, rfl, (by decide), d_Text_isFull_17⟩ ⟨_, _, _, _, _, rfl, rfl, h⟩
  · have h := h.2 c
    refine mm_iconst (M := M_Text_isFull) (v := 1) d_Text_isFull_12 (by decide) ?_
    refine mm_goto (M := M_Text_isFull) (tgt := 17) d_Text_isFull_13 (by decide) ?_
    exact mm_retv (M := M_Text_isFull) ⟨_, rfl, (by decide), d_Text_isFull_17⟩ ⟨_, _, _, _, _, rfl, rfl, h⟩
def wp_Text_isFull_20 (n1 n2 : Nat) (i : mm_i) (l : mm_j) (a : mm_a) (b : mm_b)  (K : Int32 → mm_i → mm_j → mm_a → mm_b → Prop) : Prop :=
  ((i 321) < (40 : Int32) → K 0 i l a b) ∧ (¬ (i 321) < (40 : Int32) → K 1 i l a b)
set_option maxRecDepth 100000 in
set_option maxHeartbeats 4000000 in
theorem ct_Text_isFull_20 {n1 n2 : Nat} {i : mm_i} {l : mm_j} {a : mm_a} {b : mm_b} {t : mm_H}  {K : Int32 → mm_i → mm_j → mm_a → mm_b → Prop} (h : wp_Text_isFull_20 n1 n2 i l a b  K) : mm_Ct y_Text_isFull M_Text_isFull 0 0 0 [.ref 20] (Wd 4 22 n1 n2 i l a b ++ t) (mm_PI n1 n2 t K) := by
  refine mm_Ct.of (by decide) rfl (fun q => absurd q (by decide)) (Nat.le_of_ble_eq_true rfl) ?_
  unfold wp_Text_isFull_20 at h
  refine mm_eqL (L' := [some (.ref 20)]) rfl ?_
  refine mm_aload_n (M := M_Text_isFull) d_Text_isFull_0 rfl ?_
  refine mm_getf (M := M_Text_isFull) (u := .int (i 321)) 0 1 d_Text_isFull_1 fl_Text_9 wg_20 rfl ?_
  refine mm_aload_n (M := M_Text_isFull) d_Text_isFull_4 rfl ?_
  refine mm_getf (M := M_Text_isFull) (u := .ref 21) 0 0 d_Text_isFull_5 fl_Text_15 wg_20 rfl ?_
  refine mm_alen0 (M := M_Text_isFull) (v := 40) d_Text_isFull_8 wg_21 rfl ?_
  refine mm_icmp_lt (M := M_Text_isFull) 16 d_Text_isFull_9 (by decide) (fun c => ?_) (fun c => ?_)
  · have h := h.1 c
    refine mm_iconst (M := M_Text_isFull) (v := 0) d_Text_isFull_16 (by decide) ?_
    exact mm_retv (M := M_Text_isFull) ⟨_, rfl, (by decide), d_Text_isFull_17⟩ ⟨_, _, _, _, _, rfl, rfl, h⟩
  · have h := h.2 c
    refine mm_iconst (M := M_Text_isFull) (v := 1) d_Text_isFull_12 (by decide) ?_
    refine mm_goto (M := M_Text_isFull) (tgt := 17) d_Text_isFull_13 (by decide) ?_
    exact mm_retv (M := M_Text_isFull) ⟨_, rfl, (by decide), d_Text_isFull_17⟩ ⟨_, _, _, _, _, rfl, rfl, h⟩
def wp_Text_add_2 (n1 n2 : Nat) (i : mm_i) (l : mm_j) (a : mm_a) (b : mm_b) (x1 : Int32) (K : Int32 → mm_i → mm_j → mm_a → mm_b → Prop) : Prop :=
  wp_Text_isFull_2 n1 n2 i l a b (fun r1 i1 l1 a1 b1 => (¬ r1 = 0 → K (i1 33) i1 l1 a1 b1) ∧ (r1 = 0 → vp_in (i1 33) 32 ∧ (K ((i1 33) + (1 : Int32)) (upd i1 33 ((i1 33) + (1 : Int32))) l1 (mm_ua a1 3 (upd (a1 3) (i1 33).toNatClampNeg x1)) b1)))
set_option maxRecDepth 100000 in
set_option maxHeartbeats 4000000 in
theorem ct_Text_add_2 {n1 n2 : Nat} {i : mm_i} {l : mm_j} {a : mm_a} {b : mm_b} {t : mm_H} {x1 : Int32} {K : Int32 → mm_i → mm_j → mm_a → mm_b → Prop} (h : wp_Text_add_2 n1 n2 i l a b x1 K) : mm_Ct y_Text_add M_Text_add 1 0 0 [.ref 2, .int x1] (Wd 4 22 n1 n2 i l a b ++ t) (mm_PI n1 n2 t K) := by
  refine mm_Ct.of (by decide) rfl (fun q => absurd q (by decide)) (Nat.le_of_ble_eq_true rfl) ?_
  unfold wp_Text_add_2 at h
  refine mm_eqL (L' := [some (.ref 2), some (.int x1)]) rfl ?_
  refine mm_aload_n (M := M_Text_add) d_Text_add_0 rfl ?_
  refine mm_eqs (st2 := [].reverse ++ .ref 2 :: []) rfl ?_
  refine mm_callV (M := M_Text_add) (y := y_Text_isFull) (M' := M_Text_isFull) (d' := 0) (kc := 0) (ks := 0) (kc' := 0) (ks' := 0) (n := 0) d_Text_add_1 ok_Text_isFull ml_Text_19 (by decide) rfl (Nat.le_of_ble_eq_true rfl) ⟨tw_402, tw_403⟩ wg_2 rfl (ct_Text_isFull_2 h) (fun v w h => ?_)
  obtain ⟨r1, i1, l1, a1, b1, rfl, rfl, h⟩ := h
  refine mm_eqs (st2 := [.int r1]) rfl ?_
  refine mm_if_ne (M := M_Text_add) 27 d_Text_add_4 (by decide) (fun c => ?_) (fun c => ?_)
  · have h := h.1 c
    refine mm_aload_n (M := M_Text_add) d_Text_add_27 rfl ?_
    refine mm_getf (M := M_Text_add) (u := .int (i1 33)) 0 1 d_Text_add_28 fl_Text_9 wg_2 rfl ?_
    exact mm_retv (M := M_Text_add) ⟨_, rfl, rfl, d_Text_add_31⟩ ⟨_, _, _, _, _, rfl, rfl, h⟩
  · have h := h.2 c
    refine mm_aload_n (M := M_Text_add) d_Text_add_7 rfl ?_
    refine mm_getf (M := M_Text_add) (u := .ref 3) 0 0 d_Text_add_8 fl_Text_15 wg_2 rfl ?_
    refine mm_aload_n (M := M_Text_add) d_Text_add_11 rfl ?_
    refine mm_getf (M := M_Text_add) (u := .int (i1 33)) 0 1 d_Text_add_12 fl_Text_9 wg_2 rfl ?_
    refine mm_iload_n (M := M_Text_add) d_Text_add_15 rfl ?_
    obtain ⟨hin, h⟩ := h
    refine mm_iast (M := M_Text_add) (f := (a1 3)) d_Text_add_16 wg_3 hin ?_
    refine mm_eqw wa_3 ?_
    refine mm_aload_n (M := M_Text_add) d_Text_add_17 rfl ?_
    refine mm_dup (M := M_Text_add) d_Text_add_18 rfl ?_
    refine mm_getf (M := M_Text_add) (u := .int (i1 33)) 0 1 d_Text_add_19 fl_Text_9 wg_2 rfl ?_
    refine mm_iconst (M := M_Text_add) (v := 1) d_Text_add_22 (by decide) ?_
    refine mm_iadd (M := M_Text_add) d_Text_add_23 ?_
    refine mm_putf (M := M_Text_add) 0 1 .int d_Text_add_24 fl_Text_9 fp_Text_9 ft_0_1 wg_2 (Nat.le_of_ble_eq_true rfl) trivial ?_
    refine mm_eqw ws_33 ?_
    refine mm_aload_n (M := M_Text_add) d_Text_add_27 rfl ?_
    refine mm_getf (M := M_Text_add) (u := .int ((i1 33) + (1 : Int32))) 0 1 d_Text_add_28 fl_Text_9 wg_2 rfl ?_
    exact mm_retv (M := M_Text_add) ⟨_, rfl, rfl, d_Text_add_31⟩ ⟨_, _, _, _, _, rfl, rfl, h⟩
def wp_Text_add_20 (n1 n2 : Nat) (i : mm_i) (l : mm_j) (a : mm_a) (b : mm_b) (x1 : Int32) (K : Int32 → mm_i → mm_j → mm_a → mm_b → Prop) : Prop :=
  wp_Text_isFull_20 n1 n2 i l a b (fun r1 i1 l1 a1 b1 => (¬ r1 = 0 → K (i1 321) i1 l1 a1 b1) ∧ (r1 = 0 → vp_in (i1 321) 40 ∧ (K ((i1 321) + (1 : Int32)) (upd i1 321 ((i1 321) + (1 : Int32))) l1 (mm_ua a1 21 (upd (a1 21) (i1 321).toNatClampNeg x1)) b1)))
set_option maxRecDepth 100000 in
set_option maxHeartbeats 4000000 in
theorem ct_Text_add_20 {n1 n2 : Nat} {i : mm_i} {l : mm_j} {a : mm_a} {b : mm_b} {t : mm_H} {x1 : Int32} {K : Int32 → mm_i → mm_j → mm_a → mm_b → Prop} (h : wp_Text_add_20 n1 n2 i l a b x1 K) : mm_Ct y_Text_add M_Text_add 1 0 0 [.ref 20, .int x1] (Wd 4 22 n1 n2 i l a b ++ t) (mm_PI n1 n2 t K) := by
  refine mm_Ct.of (by decide) rfl (fun q => absurd q (by decide)) (Nat.le_of_ble_eq_true rfl) ?_
  unfold wp_Text_add_20 at h
  refine mm_eqL (L' := [some (.ref 20), some (.int x1)]) rfl ?_
  refine mm_aload_n (M := M_Text_add) d_Text_add_0 rfl ?_
  refine mm_eqs (st2 := [].reverse ++ .ref 20 :: []) rfl ?_
  refine mm_callV (M := M_Text_add) (y := y_Text_isFull) (M' := M_Text_isFull) (d' := 0) (kc := 0) (ks := 0) (kc' := 0) (ks' := 0) (n := 0) d_Text_add_1 ok_Text_isFull ml_Text_19 (by decide) rfl (Nat.le_of_ble_eq_true rfl) ⟨tw_402, tw_403⟩ wg_20 rfl (ct_Text_isFull_20 h) (fun v w h => ?_)
  obtain ⟨r1, i1, l1, a1, b1, rfl, rfl, h⟩ := h
  refine mm_eqs (st2 := [.int r1]) rfl ?_
  refine mm_if_ne (M := M_Text_add) 27 d_Text_add_4 (by decide) (fun c => ?_) (fun c => ?_)
  · have h := h.1 c
    refine mm_aload_n (M := M_Text_add) d_Text_add_27 rfl ?_
    refine mm_getf (M := M_Text_add) (u := .int (i1 321)) 0 1 d_Text_add_28 fl_Text_9 wg_20 rfl ?_
    exact mm_retv (M := M_Text_add) ⟨_, rfl, rfl, d_Text_add_31⟩ ⟨_, _, _, _, _, rfl, rfl, h⟩
  · have h := h.2 c
    refine mm_aload_n (M := M_Text_add) d_Text_add_7 rfl ?_
    refine mm_getf (M := M_Text_add) (u := .ref 21) 0 0 d_Text_add_8 fl_Text_15 wg_20 rfl ?_
    refine mm_aload_n (M := M_Text_add) d_Text_add_11 rfl ?_
    refine mm_getf (M := M_Text_add) (u := .int (i1 321)) 0 1 d_Text_add_12 fl_Text_9 wg_20 rfl ?_
    refine mm_iload_n (M := M_Text_add) d_Text_add_15 rfl ?_
    obtain ⟨hin, h⟩ := h
    refine mm_iast (M := M_Text_add) (f := (a1 21)) d_Text_add_16 wg_21 hin ?_
    refine mm_eqw wa_21 ?_
    refine mm_aload_n (M := M_Text_add) d_Text_add_17 rfl ?_
    refine mm_dup (M := M_Text_add) d_Text_add_18 rfl ?_
    refine mm_getf (M := M_Text_add) (u := .int (i1 321)) 0 1 d_Text_add_19 fl_Text_9 wg_20 rfl ?_
    refine mm_iconst (M := M_Text_add) (v := 1) d_Text_add_22 (by decide) ?_
    refine mm_iadd (M := M_Text_add) d_Text_add_23 ?_
    refine mm_putf (M := M_Text_add) 0 1 .int d_Text_add_24 fl_Text_9 fp_Text_9 ft_0_1 wg_20 (Nat.le_of_ble_eq_true rfl) trivial ?_
    refine mm_eqw ws_321 ?_
    refine mm_aload_n (M := M_Text_add) d_Text_add_27 rfl ?_
    refine mm_getf (M := M_Text_add) (u := .int ((i1 321) + (1 : Int32))) 0 1 d_Text_add_28 fl_Text_9 wg_20 rfl ?_
    exact mm_retv (M := M_Text_add) ⟨_, rfl, rfl, d_Text_add_31⟩ ⟨_, _, _, _, _, rfl, rfl, h⟩
def wp_Text_codeAt_2 (n1 n2 : Nat) (i : mm_i) (l : mm_j) (a : mm_a) (b : mm_b) (x1 : Int32) (K : Int32 → mm_i → mm_j → mm_a → mm_b → Prop) : Prop :=
  (x1 < 0 → K (-1) i l a b) ∧ (¬ x1 < 0 → ((i 33) ≤ x1 → K (-1) i l a b) ∧ (¬ (i 33) ≤ x1 → vp_in x1 32 ∧ (K ((a 3) x1.toNatClampNeg) i l a b)))
set_option maxRecDepth 100000 in
set_option maxHeartbeats 4000000 in
theorem ct_Text_codeAt_2 {n1 n2 : Nat} {i : mm_i} {l : mm_j} {a : mm_a} {b : mm_b} {t : mm_H} {x1 : Int32} {K : Int32 → mm_i → mm_j → mm_a → mm_b → Prop} (h : wp_Text_codeAt_2 n1 n2 i l a b x1 K) : mm_Ct y_Text_codeAt M_Text_codeAt 0 0 0 [.ref 2, .int x1] (Wd 4 22 n1 n2 i l a b ++ t) (mm_PI n1 n2 t K) := by
  refine mm_Ct.of (by decide) rfl (fun q => absurd q (by decide)) (Nat.le_of_ble_eq_true rfl) ?_
  unfold wp_Text_codeAt_2 at h
  refine mm_eqL (L' := [some (.ref 2), some (.int x1)]) rfl ?_
  refine mm_iload_n (M := M_Text_codeAt) d_Text_codeAt_0 rfl ?_
  refine mm_if_lt (M := M_Text_codeAt) 21 d_Text_codeAt_1 (by decide) (fun c => ?_) (fun c => ?_)
  · have h := h.1 c
    refine mm_iconst (M := M_Text_codeAt) (v := (-1)) d_Text_codeAt_21 (by decide) ?_
    exact mm_retv (M := M_Text_codeAt) ⟨_, rfl, rfl, d_Text_codeAt_22⟩ ⟨_, _, _, _, _, rfl, rfl, h⟩
  · have h := h.2 c
    refine mm_iload_n (M := M_Text_codeAt) d_Text_codeAt_4 rfl ?_
    refine mm_aload_n (M := M_Text_codeAt) d_Text_codeAt_5 rfl ?_
    refine mm_getf (M := M_Text_codeAt) (u := .int (i 33)) 0 1 d_Text_codeAt_6 fl_Text_9 wg_2 rfl ?_
    refine mm_icmp_ge (M := M_Text_codeAt) 21 d_Text_codeAt_9 (by decide) (fun c => ?_) (fun c => ?_)
    · have h := h.1 c
      refine mm_iconst (M := M_Text_codeAt) (v := (-1)) d_Text_codeAt_21 (by decide) ?_
      exact mm_retv (M := M_Text_codeAt) ⟨_, rfl, rfl, d_Text_codeAt_22⟩ ⟨_, _, _, _, _, rfl, rfl, h⟩
    · have h := h.2 c
      refine mm_aload_n (M := M_Text_codeAt) d_Text_codeAt_12 rfl ?_
      refine mm_getf (M := M_Text_codeAt) (u := .ref 3) 0 0 d_Text_codeAt_13 fl_Text_15 wg_2 rfl ?_
      refine mm_iload_n (M := M_Text_codeAt) d_Text_codeAt_16 rfl ?_
      obtain ⟨hin, h⟩ := h
      refine mm_iald (M := M_Text_codeAt) (f := (a 3)) d_Text_codeAt_17 wg_3 hin ?_
      refine mm_goto (M := M_Text_codeAt) (tgt := 22) d_Text_codeAt_18 (by decide) ?_
      exact mm_retv (M := M_Text_codeAt) ⟨_, rfl, rfl, d_Text_codeAt_22⟩ ⟨_, _, _, _, _, rfl, rfl, h⟩
def wp_Captures_with (n1 n2 : Nat) (i : mm_i) (l : mm_j) (a : mm_a) (b : mm_b) (x1 : Int64) (x2 : Int32) (x3 : Int32) (x4 : Int32) (K : Int64 → mm_i → mm_j → mm_a → mm_b → Prop) : Prop :=
  K ((x1 &&& (((4095 : Int64) <<< (((x2 - (1 : Int32)) * (12 : Int32)).toInt64 &&& 63)) ^^^ ((-1) : Int64))) ||| ((((x3 + (1 : Int32)) ||| ((x4 + (1 : Int32)) <<< ((6 : Int32) &&& 31))).toInt64) <<< (((x2 - (1 : Int32)) * (12 : Int32)).toInt64 &&& 63))) i l a b
set_option maxRecDepth 100000 in
set_option maxHeartbeats 4000000 in
theorem ct_Captures_with {n1 n2 : Nat} {i : mm_i} {l : mm_j} {a : mm_a} {b : mm_b} {t : mm_H} {x1 : Int64} {x2 : Int32} {x3 : Int32} {x4 : Int32} {K : Int64 → mm_i → mm_j → mm_a → mm_b → Prop} (h : wp_Captures_with n1 n2 i l a b x1 x2 x3 x4 K) : mm_Ct y_Captures_with M_Captures_with 0 0 0 [.long x1, .int x2, .int x3, .int x4] (Wd 4 22 n1 n2 i l a b ++ t) (mm_PJ n1 n2 t K) := by
  refine mm_Ct.of (by decide) rfl (fun q => absurd q (by decide)) (Nat.le_of_ble_eq_true rfl) ?_
  unfold wp_Captures_with at h
  refine mm_eqL (L' := [some (.long x1), none, some (.int x2), some (.int x3), some (.int x4), none, none, none]) rfl ?_
  refine mm_iload_n (M := M_Captures_with) d_Captures_with_0 rfl ?_
  refine mm_iconst (M := M_Captures_with) (v := 1) d_Captures_with_1 (by decide) ?_
  refine mm_isub (M := M_Captures_with) d_Captures_with_2 ?_
  refine mm_bipush (M := M_Captures_with) (v := 12) d_Captures_with_3 (by decide) ?_
  refine mm_imul (M := M_Captures_with) d_Captures_with_5 ?_
  refine mm_istore (M := M_Captures_with) d_Captures_with_6 (Nat.le_of_ble_eq_true rfl) ?_
  refine mm_eqL (L' := [some (.long x1), none, some (.int x2), some (.int x3), some (.int x4), some (.int ((x2 - (1 : Int32)) * (12 : Int32))), none, none]) rfl ?_
  refine mm_iload_n (M := M_Captures_with) d_Captures_with_8 rfl ?_
  refine mm_iconst (M := M_Captures_with) (v := 1) d_Captures_with_9 (by decide) ?_
  refine mm_iadd (M := M_Captures_with) d_Captures_with_10 ?_
  refine mm_iload (M := M_Captures_with) d_Captures_with_11 rfl ?_
  refine mm_iconst (M := M_Captures_with) (v := 1) d_Captures_with_13 (by decide) ?_
  refine mm_iadd (M := M_Captures_with) d_Captures_with_14 ?_
  refine mm_bipush (M := M_Captures_with) (v := 6) d_Captures_with_15 (by decide) ?_
  refine mm_ishl (M := M_Captures_with) d_Captures_with_17 ?_
  refine mm_ior (M := M_Captures_with) d_Captures_with_18 ?_
  refine mm_i2l (M := M_Captures_with) d_Captures_with_19 ?_
  refine mm_lstore (M := M_Captures_with) d_Captures_with_20 (Nat.le_of_ble_eq_true rfl) ?_
  refine mm_eqL (L' := [some (.long x1), none, some (.int x2), some (.int x3), some (.int x4), some (.int ((x2 - (1 : Int32)) * (12 : Int32))), some (.long (((x3 + (1 : Int32)) ||| ((x4 + (1 : Int32)) <<< ((6 : Int32) &&& 31))).toInt64)), none]) rfl ?_
  refine mm_lload_n (M := M_Captures_with) d_Captures_with_22 rfl ?_
  refine mm_ldc2 (M := M_Captures_with) (v := 4095) d_Captures_with_23 tw_636 ?_
  refine mm_iload (M := M_Captures_with) d_Captures_with_26 rfl ?_
  refine mm_lshl (M := M_Captures_with) d_Captures_with_28 ?_
  refine mm_ldc2 (M := M_Captures_with) (v := (-1)) d_Captures_with_29 tw_637 ?_
  refine mm_lxor (M := M_Captures_with) d_Captures_with_32 ?_
  refine mm_land (M := M_Captures_with) d_Captures_with_33 ?_
  refine mm_lload (M := M_Captures_with) d_Captures_with_34 rfl ?_
  refine mm_iload (M := M_Captures_with) d_Captures_with_36 rfl ?_
  refine mm_lshl (M := M_Captures_with) d_Captures_with_38 ?_
  refine mm_lor (M := M_Captures_with) d_Captures_with_39 ?_
  exact mm_retv (M := M_Captures_with) ⟨rfl, d_Captures_with_40⟩ ⟨_, _, _, _, _, rfl, rfl, h⟩
def wp_Captures_from (n1 n2 : Nat) (i : mm_i) (l : mm_j) (a : mm_a) (b : mm_b) (x1 : Int64) (x2 : Int32) (K : Int32 → mm_i → mm_j → mm_a → mm_b → Prop) : Prop :=
  (¬ ((((x1.toUInt64 >>> (((x2 - (1 : Int32)) * (12 : Int32)).toInt64.toUInt64 &&& Int64.toUInt64 63)).toInt64).toInt32) &&& (63 : Int32)) = 0 → K (((((x1.toUInt64 >>> (((x2 - (1 : Int32)) * (12 : Int32)).toInt64.toUInt64 &&& Int64.toUInt64 63)).toInt64).toInt32) &&& (63 : Int32)) - (1 : Int32)) i l a b) ∧ (((((x1.toUInt64 >>> (((x2 - (1 : Int32)) * (12 : Int32)).toInt64.toUInt64 &&& Int64.toUInt64 63)).toInt64).toInt32) &&& (63 : Int32)) = 0 → K (-6) i l a b)
set_option maxRecDepth 100000 in
set_option maxHeartbeats 4000000 in
theorem ct_Captures_from {n1 n2 : Nat} {i : mm_i} {l : mm_j} {a : mm_a} {b : mm_b} {t : mm_H} {x1 : Int64} {x2 : Int32} {K : Int32 → mm_i → mm_j → mm_a → mm_b → Prop} (h : wp_Captures_from n1 n2 i l a b x1 x2 K) : mm_Ct y_Captures_from M_Captures_from 0 0 0 [.long x1, .int x2] (Wd 4 22 n1 n2 i l a b ++ t) (mm_PI n1 n2 t K) := by
  refine mm_Ct.of (by decide) rfl (fun q => absurd q (by decide)) (Nat.le_of_ble_eq_true rfl) ?_
  unfold wp_Captures_from at h
  refine mm_eqL (L' := [some (.long x1), none, some (.int x2), none]) rfl ?_
  refine mm_lload_n (M := M_Captures_from) d_Captures_from_0 rfl ?_
  refine mm_iload_n (M := M_Captures_from) d_Captures_from_1 rfl ?_
  refine mm_iconst (M := M_Captures_from) (v := 1) d_Captures_from_2 (by decide) ?_
  refine mm_isub (M := M_Captures_from) d_Captures_from_3 ?_
  refine mm_bipush (M := M_Captures_from) (v := 12) d_Captures_from_4 (by decide) ?_
  refine mm_imul (M := M_Captures_from) d_Captures_from_6 ?_
  refine mm_lushr (M := M_Captures_from) d_Captures_from_7 ?_
  refine mm_l2i (M := M_Captures_from) d_Captures_from_8 ?_
  refine mm_bipush (M := M_Captures_from) (v := 63) d_Captures_from_9 (by decide) ?_
  refine mm_iand (M := M_Captures_from) d_Captures_from_11 ?_
  refine mm_istore_n (M := M_Captures_from) d_Captures_from_12 (Nat.le_of_ble_eq_true rfl) ?_
  refine mm_eqL (L' := [some (.long x1), none, some (.int x2), some (.int ((((x1.toUInt64 >>> (((x2 - (1 : Int32)) * (12 : Int32)).toInt64.toUInt64 &&& Int64.toUInt64 63)).toInt64).toInt32) &&& (63 : Int32)))]) rfl ?_
  refine mm_iload_n (M := M_Captures_from) d_Captures_from_13 rfl ?_
  refine mm_if_ne (M := M_Captures_from) 22 d_Captures_from_14 (by decide) (fun c => ?_) (fun c => ?_)
  · have h := h.1 c
    refine mm_iload_n (M := M_Captures_from) d_Captures_from_22 rfl ?_
    refine mm_iconst (M := M_Captures_from) (v := 1) d_Captures_from_23 (by decide) ?_
    refine mm_isub (M := M_Captures_from) d_Captures_from_24 ?_
    exact mm_retv (M := M_Captures_from) ⟨_, rfl, rfl, d_Captures_from_25⟩ ⟨_, _, _, _, _, rfl, rfl, h⟩
  · have h := h.2 c
    refine mm_bipush (M := M_Captures_from) (v := (-6)) d_Captures_from_17 (by decide) ?_
    refine mm_goto (M := M_Captures_from) (tgt := 25) d_Captures_from_19 (by decide) ?_
    exact mm_retv (M := M_Captures_from) ⟨_, rfl, rfl, d_Captures_from_25⟩ ⟨_, _, _, _, _, rfl, rfl, h⟩
def wp_Captures_to (n1 n2 : Nat) (i : mm_i) (l : mm_j) (a : mm_a) (b : mm_b) (x1 : Int64) (x2 : Int32) (K : Int32 → mm_i → mm_j → mm_a → mm_b → Prop) : Prop :=
  (¬ ((((x1.toUInt64 >>> ((((x2 - (1 : Int32)) * (12 : Int32)) + (6 : Int32)).toInt64.toUInt64 &&& Int64.toUInt64 63)).toInt64).toInt32) &&& (63 : Int32)) = 0 → K (((((x1.toUInt64 >>> ((((x2 - (1 : Int32)) * (12 : Int32)) + (6 : Int32)).toInt64.toUInt64 &&& Int64.toUInt64 63)).toInt64).toInt32) &&& (63 : Int32)) - (1 : Int32)) i l a b) ∧ (((((x1.toUInt64 >>> ((((x2 - (1 : Int32)) * (12 : Int32)) + (6 : Int32)).toInt64.toUInt64 &&& Int64.toUInt64 63)).toInt64).toInt32) &&& (63 : Int32)) = 0 → K (-6) i l a b)
set_option maxRecDepth 100000 in
set_option maxHeartbeats 4000000 in
theorem ct_Captures_to {n1 n2 : Nat} {i : mm_i} {l : mm_j} {a : mm_a} {b : mm_b} {t : mm_H} {x1 : Int64} {x2 : Int32} {K : Int32 → mm_i → mm_j → mm_a → mm_b → Prop} (h : wp_Captures_to n1 n2 i l a b x1 x2 K) : mm_Ct y_Captures_to M_Captures_to 0 0 0 [.long x1, .int x2] (Wd 4 22 n1 n2 i l a b ++ t) (mm_PI n1 n2 t K) := by
  refine mm_Ct.of (by decide) rfl (fun q => absurd q (by decide)) (Nat.le_of_ble_eq_true rfl) ?_
  unfold wp_Captures_to at h
  refine mm_eqL (L' := [some (.long x1), none, some (.int x2), none]) rfl ?_
  refine mm_lload_n (M := M_Captures_to) d_Captures_to_0 rfl ?_
  refine mm_iload_n (M := M_Captures_to) d_Captures_to_1 rfl ?_
  refine mm_iconst (M := M_Captures_to) (v := 1) d_Captures_to_2 (by decide) ?_
  refine mm_isub (M := M_Captures_to) d_Captures_to_3 ?_
  refine mm_bipush (M := M_Captures_to) (v := 12) d_Captures_to_4 (by decide) ?_
  refine mm_imul (M := M_Captures_to) d_Captures_to_6 ?_
  refine mm_bipush (M := M_Captures_to) (v := 6) d_Captures_to_7 (by decide) ?_
  refine mm_iadd (M := M_Captures_to) d_Captures_to_9 ?_
  refine mm_lushr (M := M_Captures_to) d_Captures_to_10 ?_
  refine mm_l2i (M := M_Captures_to) d_Captures_to_11 ?_
  refine mm_bipush (M := M_Captures_to) (v := 63) d_Captures_to_12 (by decide) ?_
  refine mm_iand (M := M_Captures_to) d_Captures_to_14 ?_
  refine mm_istore_n (M := M_Captures_to) d_Captures_to_15 (Nat.le_of_ble_eq_true rfl) ?_
  refine mm_eqL (L' := [some (.long x1), none, some (.int x2), some (.int ((((x1.toUInt64 >>> ((((x2 - (1 : Int32)) * (12 : Int32)) + (6 : Int32)).toInt64.toUInt64 &&& Int64.toUInt64 63)).toInt64).toInt32) &&& (63 : Int32)))]) rfl ?_
  refine mm_iload_n (M := M_Captures_to) d_Captures_to_16 rfl ?_
  refine mm_if_ne (M := M_Captures_to) 25 d_Captures_to_17 (by decide) (fun c => ?_) (fun c => ?_)
  · have h := h.1 c
    refine mm_iload_n (M := M_Captures_to) d_Captures_to_25 rfl ?_
    refine mm_iconst (M := M_Captures_to) (v := 1) d_Captures_to_26 (by decide) ?_
    refine mm_isub (M := M_Captures_to) d_Captures_to_27 ?_
    exact mm_retv (M := M_Captures_to) ⟨_, rfl, rfl, d_Captures_to_28⟩ ⟨_, _, _, _, _, rfl, rfl, h⟩
  · have h := h.2 c
    refine mm_bipush (M := M_Captures_to) (v := (-6)) d_Captures_to_20 (by decide) ?_
    refine mm_goto (M := M_Captures_to) (tgt := 28) d_Captures_to_22 (by decide) ?_
    exact mm_retv (M := M_Captures_to) ⟨_, rfl, rfl, d_Captures_to_28⟩ ⟨_, _, _, _, _, rfl, rfl, h⟩
def wp_Program_empty_4 (n1 n2 : Nat) (i : mm_i) (l : mm_j) (a : mm_a) (b : mm_b)  (K : mm_i → mm_j → mm_a → mm_b → Prop) : Prop :=
  K (upd (upd (upd (upd i 74 0) 75 0) 76 0) 77 0) l a b
set_option maxRecDepth 100000 in
set_option maxHeartbeats 4000000 in
theorem ct_Program_empty_4 {n1 n2 : Nat} {i : mm_i} {l : mm_j} {a : mm_a} {b : mm_b} {t : mm_H}  {K : mm_i → mm_j → mm_a → mm_b → Prop} (h : wp_Program_empty_4 n1 n2 i l a b  K) : mm_Ct y_Program_empty M_Program_empty 0 0 0 [.ref 4] (Wd 4 22 n1 n2 i l a b ++ t) (mm_PV n1 n2 t K) := by
  refine mm_Ct.of (by decide) rfl (fun q => absurd q (by decide)) (Nat.le_of_ble_eq_true rfl) ?_
  unfold wp_Program_empty_4 at h
  refine mm_eqL (L' := [some (.ref 4)]) rfl ?_
  refine mm_aload_n (M := M_Program_empty) d_Program_empty_0 rfl ?_
  refine mm_iconst (M := M_Program_empty) (v := 0) d_Program_empty_1 (by decide) ?_
  refine mm_putf (M := M_Program_empty) 1 10 .int d_Program_empty_2 fl_Program_42 fp_Program_42 ft_1_10 wg_4 (Nat.le_of_ble_eq_true rfl) trivial ?_
  refine mm_eqw ws_74 ?_
  refine mm_aload_n (M := M_Program_empty) d_Program_empty_5 rfl ?_
  refine mm_iconst (M := M_Program_empty) (v := 0) d_Program_empty_6 (by decide) ?_
  refine mm_putf (M := M_Program_empty) 1 11 .int d_Program_empty_7 fl_Program_46 fp_Program_46 ft_1_11 wg_4 (Nat.le_of_ble_eq_true rfl) trivial ?_
  refine mm_eqw ws_75 ?_
  refine mm_aload_n (M := M_Program_empty) d_Program_empty_10 rfl ?_
  refine mm_iconst (M := M_Program_empty) (v := 0) d_Program_empty_11 (by decide) ?_
  refine mm_putf (M := M_Program_empty) 1 12 .int d_Program_empty_12 fl_Program_49 fp_Program_49 ft_1_12 wg_4 (Nat.le_of_ble_eq_true rfl) trivial ?_
  refine mm_eqw ws_76 ?_
  refine mm_aload_n (M := M_Program_empty) d_Program_empty_15 rfl ?_
  refine mm_iconst (M := M_Program_empty) (v := 0) d_Program_empty_16 (by decide) ?_
  refine mm_putf (M := M_Program_empty) 1 13 .int d_Program_empty_17 fl_Program_52 fp_Program_52 ft_1_13 wg_4 (Nat.le_of_ble_eq_true rfl) trivial ?_
  refine mm_eqw ws_77 ?_
  exact mm_ret (M := M_Program_empty) ⟨rfl, d_Program_empty_20⟩ ⟨_, _, _, _, rfl, rfl, h⟩
def wp_Program_addRow_4 (n1 n2 : Nat) (i : mm_i) (l : mm_j) (a : mm_a) (b : mm_b)  (K : Int32 → mm_i → mm_j → mm_a → mm_b → Prop) : Prop :=
  vp_in (i 75) 33 ∧ (vp_in (i 75) 33 ∧ (K (i 75) (upd i 75 ((i 75) + (1 : Int32))) l (mm_ua (mm_ua a 12 (upd (a 12) (i 75).toNatClampNeg (-1))) 13 (upd (a 13) (i 75).toNatClampNeg (-1))) b))
set_option maxRecDepth 100000 in
set_option maxHeartbeats 4000000 in
theorem ct_Program_addRow_4 {n1 n2 : Nat} {i : mm_i} {l : mm_j} {a : mm_a} {b : mm_b} {t : mm_H}  {K : Int32 → mm_i → mm_j → mm_a → mm_b → Prop} (h : wp_Program_addRow_4 n1 n2 i l a b  K) : mm_Ct y_Program_addRow M_Program_addRow 0 0 0 [.ref 4] (Wd 4 22 n1 n2 i l a b ++ t) (mm_PI n1 n2 t K) := by
  refine mm_Ct.of (by decide) rfl (fun q => absurd q (by decide)) (Nat.le_of_ble_eq_true rfl) ?_
  unfold wp_Program_addRow_4 at h
  refine mm_eqL (L' := [some (.ref 4), none]) rfl ?_
  refine mm_aload_n (M := M_Program_addRow) d_Program_addRow_0 rfl ?_
  refine mm_getf (M := M_Program_addRow) (u := .int (i 75)) 1 11 d_Program_addRow_1 fl_Program_46 wg_4 rfl ?_
  refine mm_istore_n (M := M_Program_addRow) d_Program_addRow_4 (Nat.le_of_ble_eq_true rfl) ?_
  refine mm_eqL (L' := [some (.ref 4), some (.int (i 75))]) rfl ?_
  refine mm_aload_n (M := M_Program_addRow) d_Program_addRow_5 rfl ?_
  refine mm_getf (M := M_Program_addRow) (u := .ref 12) 1 7 d_Program_addRow_6 fl_Program_33 wg_4 rfl ?_
  refine mm_iload_n (M := M_Program_addRow) d_Program_addRow_9 rfl ?_
  refine mm_iconst (M := M_Program_addRow) (v := (-1)) d_Program_addRow_10 (by decide) ?_
  obtain ⟨hin, h⟩ := h
  refine mm_iast (M := M_Program_addRow) (f := (a 12)) d_Program_addRow_11 wg_12 hin ?_
  refine mm_eqw wa_12 ?_
  refine mm_aload_n (M := M_Program_addRow) d_Program_addRow_12 rfl ?_
  refine mm_getf (M := M_Program_addRow) (u := .ref 13) 1 8 d_Program_addRow_13 fl_Program_36 wg_4 rfl ?_
  refine mm_iload_n (M := M_Program_addRow) d_Program_addRow_16 rfl ?_
  refine mm_iconst (M := M_Program_addRow) (v := (-1)) d_Program_addRow_17 (by decide) ?_
  obtain ⟨hin, h⟩ := h
  refine mm_iast (M := M_Program_addRow) (f := (a 13)) d_Program_addRow_18 wg_13 hin ?_
  refine mm_eqw wa_13 ?_
  refine mm_aload_n (M := M_Program_addRow) d_Program_addRow_19 rfl ?_
  refine mm_dup (M := M_Program_addRow) d_Program_addRow_20 rfl ?_
  refine mm_getf (M := M_Program_addRow) (u := .int (i 75)) 1 11 d_Program_addRow_21 fl_Program_46 wg_4 rfl ?_
  refine mm_iconst (M := M_Program_addRow) (v := 1) d_Program_addRow_24 (by decide) ?_
  refine mm_iadd (M := M_Program_addRow) d_Program_addRow_25 ?_
  refine mm_putf (M := M_Program_addRow) 1 11 .int d_Program_addRow_26 fl_Program_46 fp_Program_46 ft_1_11 wg_4 (Nat.le_of_ble_eq_true rfl) trivial ?_
  refine mm_eqw ws_75 ?_
  refine mm_iload_n (M := M_Program_addRow) d_Program_addRow_29 rfl ?_
  exact mm_retv (M := M_Program_addRow) ⟨_, rfl, rfl, d_Program_addRow_30⟩ ⟨_, _, _, _, _, rfl, rfl, h⟩
def wp_Program_addItem_4 (n1 n2 : Nat) (i : mm_i) (l : mm_j) (a : mm_a) (b : mm_b) (x1 : Int32) (x2 : Int32) (K : Int32 → mm_i → mm_j → mm_a → mm_b → Prop) : Prop :=
  vp_in (i 74) 32 ∧ (vp_in (i 74) 32 ∧ (vp_in (i 74) 32 ∧ (vp_in (i 74) 32 ∧ (vp_in (i 74) 32 ∧ (vp_in (i 74) 32 ∧ (vp_in (i 74) 32 ∧ (K (i 74) (upd i 74 ((i 74) + (1 : Int32))) l (mm_ua (mm_ua (mm_ua (mm_ua (mm_ua (mm_ua (mm_ua a 5 (upd (a 5) (i 74).toNatClampNeg x1)) 6 (upd (a 6) (i 74).toNatClampNeg x2)) 7 (upd (a 7) (i 74).toNatClampNeg 0)) 8 (upd (a 8) (i 74).toNatClampNeg 1)) 9 (upd (a 9) (i 74).toNatClampNeg 0)) 10 (upd (a 10) (i 74).toNatClampNeg (-1))) 11 (upd (a 11) (i 74).toNatClampNeg (-1))) b)))))))
set_option maxRecDepth 100000 in
set_option maxHeartbeats 4000000 in
theorem ct_Program_addItem_4 {n1 n2 : Nat} {i : mm_i} {l : mm_j} {a : mm_a} {b : mm_b} {t : mm_H} {x1 : Int32} {x2 : Int32} {K : Int32 → mm_i → mm_j → mm_a → mm_b → Prop} (h : wp_Program_addItem_4 n1 n2 i l a b x1 x2 K) : mm_Ct y_Program_addItem M_Program_addItem 0 0 0 [.ref 4, .int x1, .int x2] (Wd 4 22 n1 n2 i l a b ++ t) (mm_PI n1 n2 t K) := by
  refine mm_Ct.of (by decide) rfl (fun q => absurd q (by decide)) (Nat.le_of_ble_eq_true rfl) ?_
  unfold wp_Program_addItem_4 at h
  refine mm_eqL (L' := [some (.ref 4), some (.int x1), some (.int x2), none]) rfl ?_
  refine mm_aload_n (M := M_Program_addItem) d_Program_addItem_0 rfl ?_
  refine mm_getf (M := M_Program_addItem) (u := .int (i 74)) 1 10 d_Program_addItem_1 fl_Program_42 wg_4 rfl ?_
  refine mm_istore_n (M := M_Program_addItem) d_Program_addItem_4 (Nat.le_of_ble_eq_true rfl) ?_
  refine mm_eqL (L' := [some (.ref 4), some (.int x1), some (.int x2), some (.int (i 74))]) rfl ?_
  refine mm_aload_n (M := M_Program_addItem) d_Program_addItem_5 rfl ?_
  refine mm_getf (M := M_Program_addItem) (u := .ref 5) 1 0 d_Program_addItem_6 fl_Program_9 wg_4 rfl ?_
  refine mm_iload_n (M := M_Program_addItem) d_Program_addItem_9 rfl ?_
  refine mm_iload_n (M := M_Program_addItem) d_Program_addItem_10 rfl ?_
  obtain ⟨hin, h⟩ := h
  refine mm_iast (M := M_Program_addItem) (f := (a 5)) d_Program_addItem_11 wg_5 hin ?_
  refine mm_eqw wa_5 ?_
  refine mm_aload_n (M := M_Program_addItem) d_Program_addItem_12 rfl ?_
  refine mm_getf (M := M_Program_addItem) (u := .ref 6) 1 1 d_Program_addItem_13 fl_Program_15 wg_4 rfl ?_
  refine mm_iload_n (M := M_Program_addItem) d_Program_addItem_16 rfl ?_
  refine mm_iload_n (M := M_Program_addItem) d_Program_addItem_17 rfl ?_
  obtain ⟨hin, h⟩ := h
  refine mm_iast (M := M_Program_addItem) (f := (a 6)) d_Program_addItem_18 wg_6 hin ?_
  refine mm_eqw wa_6 ?_
  refine mm_aload_n (M := M_Program_addItem) d_Program_addItem_19 rfl ?_
  refine mm_getf (M := M_Program_addItem) (u := .ref 7) 1 2 d_Program_addItem_20 fl_Program_18 wg_4 rfl ?_
  refine mm_iload_n (M := M_Program_addItem) d_Program_addItem_23 rfl ?_
  refine mm_iconst (M := M_Program_addItem) (v := 0) d_Program_addItem_24 (by decide) ?_
  obtain ⟨hin, h⟩ := h
  refine mm_iast (M := M_Program_addItem) (f := (a 7)) d_Program_addItem_25 wg_7 hin ?_
  refine mm_eqw wa_7 ?_
  refine mm_aload_n (M := M_Program_addItem) d_Program_addItem_26 rfl ?_
  refine mm_getf (M := M_Program_addItem) (u := .ref 8) 1 3 d_Program_addItem_27 fl_Program_21 wg_4 rfl ?_
  refine mm_iload_n (M := M_Program_addItem) d_Program_addItem_30 rfl ?_
  refine mm_iconst (M := M_Program_addItem) (v := 1) d_Program_addItem_31 (by decide) ?_
  obtain ⟨hin, h⟩ := h
  refine mm_iast (M := M_Program_addItem) (f := (a 8)) d_Program_addItem_32 wg_8 hin ?_
  refine mm_eqw wa_8 ?_
  refine mm_aload_n (M := M_Program_addItem) d_Program_addItem_33 rfl ?_
  refine mm_getf (M := M_Program_addItem) (u := .ref 9) 1 4 d_Program_addItem_34 fl_Program_24 wg_4 rfl ?_
  refine mm_iload_n (M := M_Program_addItem) d_Program_addItem_37 rfl ?_
  refine mm_iconst (M := M_Program_addItem) (v := 0) d_Program_addItem_38 (by decide) ?_
  obtain ⟨hin, h⟩ := h
  refine mm_iast (M := M_Program_addItem) (f := (a 9)) d_Program_addItem_39 wg_9 hin ?_
  refine mm_eqw wa_9 ?_
  refine mm_aload_n (M := M_Program_addItem) d_Program_addItem_40 rfl ?_
  refine mm_getf (M := M_Program_addItem) (u := .ref 10) 1 5 d_Program_addItem_41 fl_Program_27 wg_4 rfl ?_
  refine mm_iload_n (M := M_Program_addItem) d_Program_addItem_44 rfl ?_
  refine mm_iconst (M := M_Program_addItem) (v := (-1)) d_Program_addItem_45 (by decide) ?_
  obtain ⟨hin, h⟩ := h
  refine mm_iast (M := M_Program_addItem) (f := (a 10)) d_Program_addItem_46 wg_10 hin ?_
  refine mm_eqw wa_10 ?_
  refine mm_aload_n (M := M_Program_addItem) d_Program_addItem_47 rfl ?_
  refine mm_getf (M := M_Program_addItem) (u := .ref 11) 1 6 d_Program_addItem_48 fl_Program_30 wg_4 rfl ?_
  refine mm_iload_n (M := M_Program_addItem) d_Program_addItem_51 rfl ?_
  refine mm_iconst (M := M_Program_addItem) (v := (-1)) d_Program_addItem_52 (by decide) ?_
  obtain ⟨hin, h⟩ := h
  refine mm_iast (M := M_Program_addItem) (f := (a 11)) d_Program_addItem_53 wg_11 hin ?_
  refine mm_eqw wa_11 ?_
  refine mm_aload_n (M := M_Program_addItem) d_Program_addItem_54 rfl ?_
  refine mm_dup (M := M_Program_addItem) d_Program_addItem_55 rfl ?_
  refine mm_getf (M := M_Program_addItem) (u := .int (i 74)) 1 10 d_Program_addItem_56 fl_Program_42 wg_4 rfl ?_
  refine mm_iconst (M := M_Program_addItem) (v := 1) d_Program_addItem_59 (by decide) ?_
  refine mm_iadd (M := M_Program_addItem) d_Program_addItem_60 ?_
  refine mm_putf (M := M_Program_addItem) 1 10 .int d_Program_addItem_61 fl_Program_42 fp_Program_42 ft_1_10 wg_4 (Nat.le_of_ble_eq_true rfl) trivial ?_
  refine mm_eqw ws_74 ?_
  refine mm_iload_n (M := M_Program_addItem) d_Program_addItem_64 rfl ?_
  exact mm_retv (M := M_Program_addItem) ⟨_, rfl, rfl, d_Program_addItem_65⟩ ⟨_, _, _, _, _, rfl, rfl, h⟩
def wp_Frames_empty_33 (n1 n2 : Nat) (i : mm_i) (l : mm_j) (a : mm_a) (b : mm_b)  (K : mm_i → mm_j → mm_a → mm_b → Prop) : Prop :=
  K (upd i 535 1) l a b
set_option maxRecDepth 100000 in
set_option maxHeartbeats 4000000 in
theorem ct_Frames_empty_33 {n1 n2 : Nat} {i : mm_i} {l : mm_j} {a : mm_a} {b : mm_b} {t : mm_H}  {K : mm_i → mm_j → mm_a → mm_b → Prop} (h : wp_Frames_empty_33 n1 n2 i l a b  K) : mm_Ct y_Frames_empty M_Frames_empty 0 0 0 [.ref 33] (Wd 4 22 n1 n2 i l a b ++ t) (mm_PV n1 n2 t K) := by
  refine mm_Ct.of (by decide) rfl (fun q => absurd q (by decide)) (Nat.le_of_ble_eq_true rfl) ?_
  unfold wp_Frames_empty_33 at h
  refine mm_eqL (L' := [some (.ref 33)]) rfl ?_
  refine mm_aload_n (M := M_Frames_empty) d_Frames_empty_0 rfl ?_
  refine mm_iconst (M := M_Frames_empty) (v := 1) d_Frames_empty_1 (by decide) ?_
  refine mm_putf (M := M_Frames_empty) 3 7 .int d_Frames_empty_2 fl_Frames_7 fp_Frames_7 ft_3_7 wg_33 (Nat.le_of_ble_eq_true rfl) trivial ?_
  refine mm_eqw ws_535 ?_
  exact mm_ret (M := M_Frames_empty) ⟨rfl, d_Frames_empty_5⟩ ⟨_, _, _, _, rfl, rfl, h⟩
def wp_Frames_hasRoom_33 (n1 n2 : Nat) (i : mm_i) (l : mm_j) (a : mm_a) (b : mm_b) (x1 : Int32) (K : Int32 → mm_i → mm_j → mm_a → mm_b → Prop) : Prop :=
  ((nI n1) < ((i 535) + x1) → K 0 i l a b) ∧ (¬ (nI n1) < ((i 535) + x1) → K 1 i l a b)
set_option maxRecDepth 100000 in
set_option maxHeartbeats 4000000 in
theorem ct_Frames_hasRoom_33 {n1 n2 : Nat} {i : mm_i} {l : mm_j} {a : mm_a} {b : mm_b} {t : mm_H} {x1 : Int32} {K : Int32 → mm_i → mm_j → mm_a → mm_b → Prop} (h : wp_Frames_hasRoom_33 n1 n2 i l a b x1 K) : mm_Ct y_Frames_hasRoom M_Frames_hasRoom 0 0 0 [.ref 33, .int x1] (Wd 4 22 n1 n2 i l a b ++ t) (mm_PI n1 n2 t K) := by
  refine mm_Ct.of (by decide) rfl (fun q => absurd q (by decide)) (Nat.le_of_ble_eq_true rfl) ?_
  unfold wp_Frames_hasRoom_33 at h
  refine mm_eqL (L' := [some (.ref 33), some (.int x1)]) rfl ?_
  refine mm_aload_n (M := M_Frames_hasRoom) d_Frames_hasRoom_0 rfl ?_
  refine mm_getf (M := M_Frames_hasRoom) (u := .int (i 535)) 3 7 d_Frames_hasRoom_1 fl_Frames_7 wg_33 rfl ?_
  refine mm_iload_n (M := M_Frames_hasRoom) d_Frames_hasRoom_4 rfl ?_
  refine mm_iadd (M := M_Frames_hasRoom) d_Frames_hasRoom_5 ?_
  refine mm_aload_n (M := M_Frames_hasRoom) d_Frames_hasRoom_6 rfl ?_
  refine mm_getf (M := M_Frames_hasRoom) (u := .ref 34) 3 0 d_Frames_hasRoom_7 fl_Frames_13 wg_33 rfl ?_
  refine mm_alen0 (M := M_Frames_hasRoom) (v := nI n1) d_Frames_hasRoom_10 wg_34 rfl ?_
  refine mm_icmp_gt (M := M_Frames_hasRoom) 18 d_Frames_hasRoom_11 (by decide) (fun c => ?_) (fun c => ?_)
  · have h := h.1 c
    refine mm_iconst (M := M_Frames_hasRoom) (v := 0) d_Frames_hasRoom_18 (by decide) ?_
    exact mm_retv (M := M_Frames_hasRoom) ⟨_, rfl, (by decide), d_Frames_hasRoom_19⟩ ⟨_, _, _, _, _, rfl, rfl, h⟩
  · have h := h.2 c
    refine mm_iconst (M := M_Frames_hasRoom) (v := 1) d_Frames_hasRoom_14 (by decide) ?_
    refine mm_goto (M := M_Frames_hasRoom) (tgt := 19) d_Frames_hasRoom_15 (by decide) ?_
    exact mm_retv (M := M_Frames_hasRoom) ⟨_, rfl, (by decide), d_Frames_hasRoom_19⟩ ⟨_, _, _, _, _, rfl, rfl, h⟩
def wp_Frames_add_33 (n1 n2 : Nat) (i : mm_i) (l : mm_j) (a : mm_a) (b : mm_b) (x1 : Int32) (x2 : Int32) (x3 : Int32) (x4 : Int32) (x5 : Int64) (x6 : Int32) (K : Int32 → mm_i → mm_j → mm_a → mm_b → Prop) : Prop :=
  vp_in (i 535) n1 ∧ (vp_in (i 535) n1 ∧ (vp_in (i 535) n1 ∧ (vp_in (i 535) n1 ∧ (vp_in (i 535) n1 ∧ (vp_in (i 535) n1 ∧ ((¬ x1 = (2 : Int32) → vp_in x6 n1 ∧ (vp_in (i 535) n1 ∧ (K (i 535) (upd i 535 ((i 535) + (1 : Int32))) l (mm_ua (mm_ua (mm_ua (mm_ua (mm_ua (mm_ua a 34 (upd (a 34) (i 535).toNatClampNeg x1)) 35 (upd (a 35) (i 535).toNatClampNeg x2)) 36 (upd (a 36) (i 535).toNatClampNeg x3)) 37 (upd (a 37) (i 535).toNatClampNeg x4)) 39 (upd (a 39) (i 535).toNatClampNeg x6)) 40 (upd (a 40) (i 535).toNatClampNeg ((a 40) x6.toNatClampNeg))) (mm_ub b 38 (vp_updL (b 38) (i 535).toNatClampNeg x5))))) ∧ (x1 = (2 : Int32) → vp_in x6 n1 ∧ (vp_in (i 535) n1 ∧ (K (i 535) (upd i 535 ((i 535) + (1 : Int32))) l (mm_ua (mm_ua (mm_ua (mm_ua (mm_ua (mm_ua a 34 (upd (a 34) (i 535).toNatClampNeg x1)) 35 (upd (a 35) (i 535).toNatClampNeg x2)) 36 (upd (a 36) (i 535).toNatClampNeg x3)) 37 (upd (a 37) (i 535).toNatClampNeg x4)) 39 (upd (a 39) (i 535).toNatClampNeg x6)) 40 (upd (a 40) (i 535).toNatClampNeg (((a 40) x6.toNatClampNeg) + (1 : Int32)))) (mm_ub b 38 (vp_updL (b 38) (i 535).toNatClampNeg x5)))))))))))
set_option maxRecDepth 100000 in
set_option maxHeartbeats 4000000 in
theorem ct_Frames_add_33 {n1 n2 : Nat} {i : mm_i} {l : mm_j} {a : mm_a} {b : mm_b} {t : mm_H} {x1 : Int32} {x2 : Int32} {x3 : Int32} {x4 : Int32} {x5 : Int64} {x6 : Int32} {K : Int32 → mm_i → mm_j → mm_a → mm_b → Prop} (h : wp_Frames_add_33 n1 n2 i l a b x1 x2 x3 x4 x5 x6 K) : mm_Ct y_Frames_add M_Frames_add 0 0 0 [.ref 33, .int x1, .int x2, .int x3, .int x4, .long x5, .int x6] (Wd 4 22 n1 n2 i l a b ++ t) (mm_PI n1 n2 t K) := by
  refine mm_Ct.of (by decide) rfl (fun q => absurd q (by decide)) (Nat.le_of_ble_eq_true rfl) ?_
  unfold wp_Frames_add_33 at h
  refine mm_eqL (L' := [some (.ref 33), some (.int x1), some (.int x2), some (.int x3), some (.int x4), some (.long x5), none, some (.int x6), none]) rfl ?_
  refine mm_aload_n (M := M_Frames_add) d_Frames_add_0 rfl ?_
  refine mm_getf (M := M_Frames_add) (u := .int (i 535)) 3 7 d_Frames_add_1 fl_Frames_7 wg_33 rfl ?_
  refine mm_istore (M := M_Frames_add) d_Frames_add_4 (Nat.le_of_ble_eq_true rfl) ?_
  refine mm_eqL (L' := [some (.ref 33), some (.int x1), some (.int x2), some (.int x3), some (.int x4), some (.long x5), none, some (.int x6), some (.int (i 535))]) rfl ?_
  refine mm_aload_n (M := M_Frames_add) d_Frames_add_6 rfl ?_
  refine mm_getf (M := M_Frames_add) (u := .ref 34) 3 0 d_Frames_add_7 fl_Frames_13 wg_33 rfl ?_
  refine mm_iload (M := M_Frames_add) d_Frames_add_10 rfl ?_
  refine mm_iload_n (M := M_Frames_add) d_Frames_add_12 rfl ?_
  obtain ⟨hin, h⟩ := h
  refine mm_iast (M := M_Frames_add) (f := (a 34)) d_Frames_add_13 wg_34 hin ?_
  refine mm_eqw wa_34 ?_
  refine mm_aload_n (M := M_Frames_add) d_Frames_add_14 rfl ?_
  refine mm_getf (M := M_Frames_add) (u := .ref 35) 3 1 d_Frames_add_15 fl_Frames_17 wg_33 rfl ?_
  refine mm_iload (M := M_Frames_add) d_Frames_add_18 rfl ?_
  refine mm_iload_n (M := M_Frames_add) d_Frames_add_20 rfl ?_
  obtain ⟨hin, h⟩ := h
  refine mm_iast (M := M_Frames_add) (f := (a 35)) d_Frames_add_21 wg_35 hin ?_
  refine mm_eqw wa_35 ?_
  refine mm_aload_n (M := M_Frames_add) d_Frames_add_22 rfl ?_
  refine mm_getf (M := M_Frames_add) (u := .ref 36) 3 2 d_Frames_add_23 fl_Frames_20 wg_33 rfl ?_
  refine mm_iload (M := M_Frames_add) d_Frames_add_26 rfl ?_
  refine mm_iload_n (M := M_Frames_add) d_Frames_add_28 rfl ?_
  obtain ⟨hin, h⟩ := h
  refine mm_iast (M := M_Frames_add) (f := (a 36)) d_Frames_add_29 wg_36 hin ?_
  refine mm_eqw wa_36 ?_
  refine mm_aload_n (M := M_Frames_add) d_Frames_add_30 rfl ?_
  refine mm_getf (M := M_Frames_add) (u := .ref 37) 3 3 d_Frames_add_31 fl_Frames_23 wg_33 rfl ?_
  refine mm_iload (M := M_Frames_add) d_Frames_add_34 rfl ?_
  refine mm_iload (M := M_Frames_add) d_Frames_add_36 rfl ?_
  obtain ⟨hin, h⟩ := h
  refine mm_iast (M := M_Frames_add) (f := (a 37)) d_Frames_add_38 wg_37 hin ?_
  refine mm_eqw wa_37 ?_
  refine mm_aload_n (M := M_Frames_add) d_Frames_add_39 rfl ?_
  refine mm_getf (M := M_Frames_add) (u := .ref 38) 3 4 d_Frames_add_40 fl_Frames_26 wg_33 rfl ?_
  refine mm_iload (M := M_Frames_add) d_Frames_add_43 rfl ?_
  refine mm_lload (M := M_Frames_add) d_Frames_add_45 rfl ?_
  obtain ⟨hin, h⟩ := h
  refine mm_last (M := M_Frames_add) (f := (b 38)) d_Frames_add_47 wg_38 hin ?_
  refine mm_eqw wa_38 ?_
  refine mm_aload_n (M := M_Frames_add) d_Frames_add_48 rfl ?_
  refine mm_getf (M := M_Frames_add) (u := .ref 39) 3 5 d_Frames_add_49 fl_Frames_30 wg_33 rfl ?_
  refine mm_iload (M := M_Frames_add) d_Frames_add_52 rfl ?_
  refine mm_iload (M := M_Frames_add) d_Frames_add_54 rfl ?_
  obtain ⟨hin, h⟩ := h
  refine mm_iast (M := M_Frames_add) (f := (a 39)) d_Frames_add_56 wg_39 hin ?_
  refine mm_eqw wa_39 ?_
  refine mm_aload_n (M := M_Frames_add) d_Frames_add_57 rfl ?_
  refine mm_getf (M := M_Frames_add) (u := .ref 40) 3 6 d_Frames_add_58 fl_Frames_33 wg_33 rfl ?_
  refine mm_iload (M := M_Frames_add) d_Frames_add_61 rfl ?_
  refine mm_iload_n (M := M_Frames_add) d_Frames_add_63 rfl ?_
  refine mm_iconst (M := M_Frames_add) (v := 2) d_Frames_add_64 (by decide) ?_
  refine mm_icmp_ne (M := M_Frames_add) 80 d_Frames_add_65 (by decide) (fun c => ?_) (fun c => ?_)
  · have h := h.1 c
    refine mm_aload_n (M := M_Frames_add) d_Frames_add_80 rfl ?_
    refine mm_getf (M := M_Frames_add) (u := .ref 40) 3 6 d_Frames_add_81 fl_Frames_33 wg_33 rfl ?_
    refine mm_iload (M := M_Frames_add) d_Frames_add_84 rfl ?_
    obtain ⟨hin, h⟩ := h
    refine mm_iald (M := M_Frames_add) (f := (a 40)) d_Frames_add_86 wg_40 hin ?_
    obtain ⟨hin, h⟩ := h
    refine mm_iast (M := M_Frames_add) (f := (a 40)) d_Frames_add_87 wg_40 hin ?_
    refine mm_eqw wa_40 ?_
    refine mm_aload_n (M := M_Frames_add) d_Frames_add_88 rfl ?_
    refine mm_dup (M := M_Frames_add) d_Frames_add_89 rfl ?_
    refine mm_getf (M := M_Frames_add) (u := .int (i 535)) 3 7 d_Frames_add_90 fl_Frames_7 wg_33 rfl ?_
    refine mm_iconst (M := M_Frames_add) (v := 1) d_Frames_add_93 (by decide) ?_
    refine mm_iadd (M := M_Frames_add) d_Frames_add_94 ?_
    refine mm_putf (M := M_Frames_add) 3 7 .int d_Frames_add_95 fl_Frames_7 fp_Frames_7 ft_3_7 wg_33 (Nat.le_of_ble_eq_true rfl) trivial ?_
    refine mm_eqw ws_535 ?_
    refine mm_iload (M := M_Frames_add) d_Frames_add_98 rfl ?_
    exact mm_retv (M := M_Frames_add) ⟨_, rfl, rfl, d_Frames_add_100⟩ ⟨_, _, _, _, _, rfl, rfl, h⟩
  · have h := h.2 c
    refine mm_aload_n (M := M_Frames_add) d_Frames_add_68 rfl ?_
    refine mm_getf (M := M_Frames_add) (u := .ref 40) 3 6 d_Frames_add_69 fl_Frames_33 wg_33 rfl ?_
    refine mm_iload (M := M_Frames_add) d_Frames_add_72 rfl ?_
    obtain ⟨hin, h⟩ := h
    refine mm_iald (M := M_Frames_add) (f := (a 40)) d_Frames_add_74 wg_40 hin ?_
    refine mm_iconst (M := M_Frames_add) (v := 1) d_Frames_add_75 (by decide) ?_
    refine mm_iadd (M := M_Frames_add) d_Frames_add_76 ?_
    refine mm_goto (M := M_Frames_add) (tgt := 87) d_Frames_add_77 (by decide) ?_
    obtain ⟨hin, h⟩ := h
    refine mm_iast (M := M_Frames_add) (f := (a 40)) d_Frames_add_87 wg_40 hin ?_
    refine mm_eqw wa_40 ?_
    refine mm_aload_n (M := M_Frames_add) d_Frames_add_88 rfl ?_
    refine mm_dup (M := M_Frames_add) d_Frames_add_89 rfl ?_
    refine mm_getf (M := M_Frames_add) (u := .int (i 535)) 3 7 d_Frames_add_90 fl_Frames_7 wg_33 rfl ?_
    refine mm_iconst (M := M_Frames_add) (v := 1) d_Frames_add_93 (by decide) ?_
    refine mm_iadd (M := M_Frames_add) d_Frames_add_94 ?_
    refine mm_putf (M := M_Frames_add) 3 7 .int d_Frames_add_95 fl_Frames_7 fp_Frames_7 ft_3_7 wg_33 (Nat.le_of_ble_eq_true rfl) trivial ?_
    refine mm_eqw ws_535 ?_
    refine mm_iload (M := M_Frames_add) d_Frames_add_98 rfl ?_
    exact mm_retv (M := M_Frames_add) ⟨_, rfl, rfl, d_Frames_add_100⟩ ⟨_, _, _, _, _, rfl, rfl, h⟩
def wp_Choices_hasRoom_41 (n1 n2 : Nat) (i : mm_i) (l : mm_j) (a : mm_a) (b : mm_b) (x1 : Int32) (K : Int32 → mm_i → mm_j → mm_a → mm_b → Prop) : Prop :=
  ((nI n2) < ((i 661) + x1) → K 0 i l a b) ∧ (¬ (nI n2) < ((i 661) + x1) → K 1 i l a b)
set_option maxRecDepth 100000 in
set_option maxHeartbeats 4000000 in
theorem ct_Choices_hasRoom_41 {n1 n2 : Nat} {i : mm_i} {l : mm_j} {a : mm_a} {b : mm_b} {t : mm_H} {x1 : Int32} {K : Int32 → mm_i → mm_j → mm_a → mm_b → Prop} (h : wp_Choices_hasRoom_41 n1 n2 i l a b x1 K) : mm_Ct y_Choices_hasRoom M_Choices_hasRoom 0 0 0 [.ref 41, .int x1] (Wd 4 22 n1 n2 i l a b ++ t) (mm_PI n1 n2 t K) := by
  refine mm_Ct.of (by decide) rfl (fun q => absurd q (by decide)) (Nat.le_of_ble_eq_true rfl) ?_
  unfold wp_Choices_hasRoom_41 at h
  refine mm_eqL (L' := [some (.ref 41), some (.int x1)]) rfl ?_
  refine mm_aload_n (M := M_Choices_hasRoom) d_Choices_hasRoom_0 rfl ?_
  refine mm_getf (M := M_Choices_hasRoom) (u := .int (i 661)) 4 5 d_Choices_hasRoom_1 fl_Choices_7 wg_41 rfl ?_
  refine mm_iload_n (M := M_Choices_hasRoom) d_Choices_hasRoom_4 rfl ?_
  refine mm_iadd (M := M_Choices_hasRoom) d_Choices_hasRoom_5 ?_
  refine mm_aload_n (M := M_Choices_hasRoom) d_Choices_hasRoom_6 rfl ?_
  refine mm_getf (M := M_Choices_hasRoom) (u := .ref 42) 4 0 d_Choices_hasRoom_7 fl_Choices_13 wg_41 rfl ?_
  refine mm_alen0 (M := M_Choices_hasRoom) (v := nI n2) d_Choices_hasRoom_10 wg_42 rfl ?_
  refine mm_icmp_gt (M := M_Choices_hasRoom) 18 d_Choices_hasRoom_11 (by decide) (fun c => ?_) (fun c => ?_)
  · have h := h.1 c
    refine mm_iconst (M := M_Choices_hasRoom) (v := 0) d_Choices_hasRoom_18 (by decide) ?_
    exact mm_retv (M := M_Choices_hasRoom) ⟨_, rfl, (by decide), d_Choices_hasRoom_19⟩ ⟨_, _, _, _, _, rfl, rfl, h⟩
  · have h := h.2 c
    refine mm_iconst (M := M_Choices_hasRoom) (v := 1) d_Choices_hasRoom_14 (by decide) ?_
    refine mm_goto (M := M_Choices_hasRoom) (tgt := 19) d_Choices_hasRoom_15 (by decide) ?_
    exact mm_retv (M := M_Choices_hasRoom) ⟨_, rfl, (by decide), d_Choices_hasRoom_19⟩ ⟨_, _, _, _, _, rfl, rfl, h⟩
def wp_Choices_add_41 (n1 n2 : Nat) (i : mm_i) (l : mm_j) (a : mm_a) (b : mm_b) (x1 : Int32) (x2 : Int32) (x3 : Int32) (x4 : Int64) (x5 : Int32) (K : mm_i → mm_j → mm_a → mm_b → Prop) : Prop :=
  vp_in (i 661) n2 ∧ (vp_in (i 661) n2 ∧ (vp_in (i 661) n2 ∧ (vp_in (i 661) n2 ∧ (vp_in (i 661) n2 ∧ (K (upd i 661 ((i 661) + (1 : Int32))) l (mm_ua (mm_ua (mm_ua (mm_ua a 42 (upd (a 42) (i 661).toNatClampNeg x1)) 43 (upd (a 43) (i 661).toNatClampNeg x2)) 44 (upd (a 44) (i 661).toNatClampNeg x3)) 46 (upd (a 46) (i 661).toNatClampNeg x5)) (mm_ub b 45 (vp_updL (b 45) (i 661).toNatClampNeg x4)))))))
set_option maxRecDepth 100000 in
set_option maxHeartbeats 4000000 in
theorem ct_Choices_add_41 {n1 n2 : Nat} {i : mm_i} {l : mm_j} {a : mm_a} {b : mm_b} {t : mm_H} {x1 : Int32} {x2 : Int32} {x3 : Int32} {x4 : Int64} {x5 : Int32} {K : mm_i → mm_j → mm_a → mm_b → Prop} (h : wp_Choices_add_41 n1 n2 i l a b x1 x2 x3 x4 x5 K) : mm_Ct y_Choices_add M_Choices_add 0 0 0 [.ref 41, .int x1, .int x2, .int x3, .long x4, .int x5] (Wd 4 22 n1 n2 i l a b ++ t) (mm_PV n1 n2 t K) := by
  refine mm_Ct.of (by decide) rfl (fun q => absurd q (by decide)) (Nat.le_of_ble_eq_true rfl) ?_
  unfold wp_Choices_add_41 at h
  refine mm_eqL (L' := [some (.ref 41), some (.int x1), some (.int x2), some (.int x3), some (.long x4), none, some (.int x5)]) rfl ?_
  refine mm_aload_n (M := M_Choices_add) d_Choices_add_0 rfl ?_
  refine mm_getf (M := M_Choices_add) (u := .ref 42) 4 0 d_Choices_add_1 fl_Choices_13 wg_41 rfl ?_
  refine mm_aload_n (M := M_Choices_add) d_Choices_add_4 rfl ?_
  refine mm_getf (M := M_Choices_add) (u := .int (i 661)) 4 5 d_Choices_add_5 fl_Choices_7 wg_41 rfl ?_
  refine mm_iload_n (M := M_Choices_add) d_Choices_add_8 rfl ?_
  obtain ⟨hin, h⟩ := h
  refine mm_iast (M := M_Choices_add) (f := (a 42)) d_Choices_add_9 wg_42 hin ?_
  refine mm_eqw wa_42 ?_
  refine mm_aload_n (M := M_Choices_add) d_Choices_add_10 rfl ?_
  refine mm_getf (M := M_Choices_add) (u := .ref 43) 4 1 d_Choices_add_11 fl_Choices_17 wg_41 rfl ?_
  refine mm_aload_n (M := M_Choices_add) d_Choices_add_14 rfl ?_
  refine mm_getf (M := M_Choices_add) (u := .int (i 661)) 4 5 d_Choices_add_15 fl_Choices_7 wg_41 rfl ?_
  refine mm_iload_n (M := M_Choices_add) d_Choices_add_18 rfl ?_
  obtain ⟨hin, h⟩ := h
  refine mm_iast (M := M_Choices_add) (f := (a 43)) d_Choices_add_19 wg_43 hin ?_
  refine mm_eqw wa_43 ?_
  refine mm_aload_n (M := M_Choices_add) d_Choices_add_20 rfl ?_
  refine mm_getf (M := M_Choices_add) (u := .ref 44) 4 2 d_Choices_add_21 fl_Choices_20 wg_41 rfl ?_
  refine mm_aload_n (M := M_Choices_add) d_Choices_add_24 rfl ?_
  refine mm_getf (M := M_Choices_add) (u := .int (i 661)) 4 5 d_Choices_add_25 fl_Choices_7 wg_41 rfl ?_
  refine mm_iload_n (M := M_Choices_add) d_Choices_add_28 rfl ?_
  obtain ⟨hin, h⟩ := h
  refine mm_iast (M := M_Choices_add) (f := (a 44)) d_Choices_add_29 wg_44 hin ?_
  refine mm_eqw wa_44 ?_
  refine mm_aload_n (M := M_Choices_add) d_Choices_add_30 rfl ?_
  refine mm_getf (M := M_Choices_add) (u := .ref 45) 4 3 d_Choices_add_31 fl_Choices_23 wg_41 rfl ?_
  refine mm_aload_n (M := M_Choices_add) d_Choices_add_34 rfl ?_
  refine mm_getf (M := M_Choices_add) (u := .int (i 661)) 4 5 d_Choices_add_35 fl_Choices_7 wg_41 rfl ?_
  refine mm_lload (M := M_Choices_add) d_Choices_add_38 rfl ?_
  obtain ⟨hin, h⟩ := h
  refine mm_last (M := M_Choices_add) (f := (b 45)) d_Choices_add_40 wg_45 hin ?_
  refine mm_eqw wa_45 ?_
  refine mm_aload_n (M := M_Choices_add) d_Choices_add_41 rfl ?_
  refine mm_getf (M := M_Choices_add) (u := .ref 46) 4 4 d_Choices_add_42 fl_Choices_27 wg_41 rfl ?_
  refine mm_aload_n (M := M_Choices_add) d_Choices_add_45 rfl ?_
  refine mm_getf (M := M_Choices_add) (u := .int (i 661)) 4 5 d_Choices_add_46 fl_Choices_7 wg_41 rfl ?_
  refine mm_iload (M := M_Choices_add) d_Choices_add_49 rfl ?_
  obtain ⟨hin, h⟩ := h
  refine mm_iast (M := M_Choices_add) (f := (a 46)) d_Choices_add_51 wg_46 hin ?_
  refine mm_eqw wa_46 ?_
  refine mm_aload_n (M := M_Choices_add) d_Choices_add_52 rfl ?_
  refine mm_dup (M := M_Choices_add) d_Choices_add_53 rfl ?_
  refine mm_getf (M := M_Choices_add) (u := .int (i 661)) 4 5 d_Choices_add_54 fl_Choices_7 wg_41 rfl ?_
  refine mm_iconst (M := M_Choices_add) (v := 1) d_Choices_add_57 (by decide) ?_
  refine mm_iadd (M := M_Choices_add) d_Choices_add_58 ?_
  refine mm_putf (M := M_Choices_add) 4 5 .int d_Choices_add_59 fl_Choices_7 fp_Choices_7 ft_4_5 wg_41 (Nat.le_of_ble_eq_true rfl) trivial ?_
  refine mm_eqw ws_661 ?_
  exact mm_ret (M := M_Choices_add) ⟨rfl, d_Choices_add_62⟩ ⟨_, _, _, _, rfl, rfl, h⟩
def wp_Choices_cutTo_41 (n1 n2 : Nat) (i : mm_i) (l : mm_j) (a : mm_a) (b : mm_b) (x1 : Int32) (K : mm_i → mm_j → mm_a → mm_b → Prop) : Prop :=
  ((i 661) ≤ x1 → K i l a b) ∧ (¬ (i 661) ≤ x1 → K (upd i 661 x1) l a b)
set_option maxRecDepth 100000 in
set_option maxHeartbeats 4000000 in
theorem ct_Choices_cutTo_41 {n1 n2 : Nat} {i : mm_i} {l : mm_j} {a : mm_a} {b : mm_b} {t : mm_H} {x1 : Int32} {K : mm_i → mm_j → mm_a → mm_b → Prop} (h : wp_Choices_cutTo_41 n1 n2 i l a b x1 K) : mm_Ct y_Choices_cutTo M_Choices_cutTo 0 0 0 [.ref 41, .int x1] (Wd 4 22 n1 n2 i l a b ++ t) (mm_PV n1 n2 t K) := by
  refine mm_Ct.of (by decide) rfl (fun q => absurd q (by decide)) (Nat.le_of_ble_eq_true rfl) ?_
  unfold wp_Choices_cutTo_41 at h
  refine mm_eqL (L' := [some (.ref 41), some (.int x1)]) rfl ?_
  refine mm_iload_n (M := M_Choices_cutTo) d_Choices_cutTo_0 rfl ?_
  refine mm_aload_n (M := M_Choices_cutTo) d_Choices_cutTo_1 rfl ?_
  refine mm_getf (M := M_Choices_cutTo) (u := .int (i 661)) 4 5 d_Choices_cutTo_2 fl_Choices_7 wg_41 rfl ?_
  refine mm_icmp_ge (M := M_Choices_cutTo) 13 d_Choices_cutTo_5 (by decide) (fun c => ?_) (fun c => ?_)
  · have h := h.1 c
    exact mm_ret (M := M_Choices_cutTo) ⟨rfl, d_Choices_cutTo_13⟩ ⟨_, _, _, _, rfl, rfl, h⟩
  · have h := h.2 c
    refine mm_aload_n (M := M_Choices_cutTo) d_Choices_cutTo_8 rfl ?_
    refine mm_iload_n (M := M_Choices_cutTo) d_Choices_cutTo_9 rfl ?_
    refine mm_putf (M := M_Choices_cutTo) 4 5 .int d_Choices_cutTo_10 fl_Choices_7 fp_Choices_7 ft_4_5 wg_41 (Nat.le_of_ble_eq_true rfl) trivial ?_
    refine mm_eqw ws_661 ?_
    exact mm_ret (M := M_Choices_cutTo) ⟨rfl, d_Choices_cutTo_13⟩ ⟨_, _, _, _, rfl, rfl, h⟩
def wp_Bench_isLetter (n1 n2 : Nat) (i : mm_i) (l : mm_j) (a : mm_a) (b : mm_b) (x1 : Int32) (K : Int32 → mm_i → mm_j → mm_a → mm_b → Prop) : Prop :=
  (x1 < (97 : Int32) → K 0 i l a b) ∧ (¬ x1 < (97 : Int32) → ((122 : Int32) < x1 → K 0 i l a b) ∧ (¬ (122 : Int32) < x1 → K 1 i l a b))
set_option maxRecDepth 100000 in
set_option maxHeartbeats 4000000 in
theorem ct_Bench_isLetter {n1 n2 : Nat} {i : mm_i} {l : mm_j} {a : mm_a} {b : mm_b} {t : mm_H} {x1 : Int32} {K : Int32 → mm_i → mm_j → mm_a → mm_b → Prop} (h : wp_Bench_isLetter n1 n2 i l a b x1 K) : mm_Ct y_Bench_isLetter M_Bench_isLetter 0 0 0 [.int x1] (Wd 4 22 n1 n2 i l a b ++ t) (mm_PI n1 n2 t K) := by
  refine mm_Ct.of (by decide) rfl (fun q => absurd q (by decide)) (Nat.le_of_ble_eq_true rfl) ?_
  unfold wp_Bench_isLetter at h
  refine mm_eqL (L' := [some (.int x1)]) rfl ?_
  refine mm_iload_n (M := M_Bench_isLetter) d_Bench_isLetter_0 rfl ?_
  refine mm_bipush (M := M_Bench_isLetter) (v := 97) d_Bench_isLetter_1 (by decide) ?_
  refine mm_icmp_lt (M := M_Bench_isLetter) 16 d_Bench_isLetter_3 (by decide) (fun c => ?_) (fun c => ?_)
  · have h := h.1 c
    refine mm_iconst (M := M_Bench_isLetter) (v := 0) d_Bench_isLetter_16 (by decide) ?_
    exact mm_retv (M := M_Bench_isLetter) ⟨_, rfl, (by decide), d_Bench_isLetter_17⟩ ⟨_, _, _, _, _, rfl, rfl, h⟩
  · have h := h.2 c
    refine mm_iload_n (M := M_Bench_isLetter) d_Bench_isLetter_6 rfl ?_
    refine mm_bipush (M := M_Bench_isLetter) (v := 122) d_Bench_isLetter_7 (by decide) ?_
    refine mm_icmp_gt (M := M_Bench_isLetter) 16 d_Bench_isLetter_9 (by decide) (fun c => ?_) (fun c => ?_)
    · have h := h.1 c
      refine mm_iconst (M := M_Bench_isLetter) (v := 0) d_Bench_isLetter_16 (by decide) ?_
      exact mm_retv (M := M_Bench_isLetter) ⟨_, rfl, (by decide), d_Bench_isLetter_17⟩ ⟨_, _, _, _, _, rfl, rfl, h⟩
    · have h := h.2 c
      refine mm_iconst (M := M_Bench_isLetter) (v := 1) d_Bench_isLetter_12 (by decide) ?_
      refine mm_goto (M := M_Bench_isLetter) (tgt := 17) d_Bench_isLetter_13 (by decide) ?_
      exact mm_retv (M := M_Bench_isLetter) ⟨_, rfl, (by decide), d_Bench_isLetter_17⟩ ⟨_, _, _, _, _, rfl, rfl, h⟩
def wp_Bench_isDigit (n1 n2 : Nat) (i : mm_i) (l : mm_j) (a : mm_a) (b : mm_b) (x1 : Int32) (K : Int32 → mm_i → mm_j → mm_a → mm_b → Prop) : Prop :=
  (x1 < (48 : Int32) → K 0 i l a b) ∧ (¬ x1 < (48 : Int32) → ((57 : Int32) < x1 → K 0 i l a b) ∧ (¬ (57 : Int32) < x1 → K 1 i l a b))
set_option maxRecDepth 100000 in
set_option maxHeartbeats 4000000 in
theorem ct_Bench_isDigit {n1 n2 : Nat} {i : mm_i} {l : mm_j} {a : mm_a} {b : mm_b} {t : mm_H} {x1 : Int32} {K : Int32 → mm_i → mm_j → mm_a → mm_b → Prop} (h : wp_Bench_isDigit n1 n2 i l a b x1 K) : mm_Ct y_Bench_isDigit M_Bench_isDigit 0 0 0 [.int x1] (Wd 4 22 n1 n2 i l a b ++ t) (mm_PI n1 n2 t K) := by
  refine mm_Ct.of (by decide) rfl (fun q => absurd q (by decide)) (Nat.le_of_ble_eq_true rfl) ?_
  unfold wp_Bench_isDigit at h
  refine mm_eqL (L' := [some (.int x1)]) rfl ?_
  refine mm_iload_n (M := M_Bench_isDigit) d_Bench_isDigit_0 rfl ?_
  refine mm_bipush (M := M_Bench_isDigit) (v := 48) d_Bench_isDigit_1 (by decide) ?_
  refine mm_icmp_lt (M := M_Bench_isDigit) 16 d_Bench_isDigit_3 (by decide) (fun c => ?_) (fun c => ?_)
  · have h := h.1 c
    refine mm_iconst (M := M_Bench_isDigit) (v := 0) d_Bench_isDigit_16 (by decide) ?_
    exact mm_retv (M := M_Bench_isDigit) ⟨_, rfl, (by decide), d_Bench_isDigit_17⟩ ⟨_, _, _, _, _, rfl, rfl, h⟩
  · have h := h.2 c
    refine mm_iload_n (M := M_Bench_isDigit) d_Bench_isDigit_6 rfl ?_
    refine mm_bipush (M := M_Bench_isDigit) (v := 57) d_Bench_isDigit_7 (by decide) ?_
    refine mm_icmp_gt (M := M_Bench_isDigit) 16 d_Bench_isDigit_9 (by decide) (fun c => ?_) (fun c => ?_)
    · have h := h.1 c
      refine mm_iconst (M := M_Bench_isDigit) (v := 0) d_Bench_isDigit_16 (by decide) ?_
      exact mm_retv (M := M_Bench_isDigit) ⟨_, rfl, (by decide), d_Bench_isDigit_17⟩ ⟨_, _, _, _, _, rfl, rfl, h⟩
    · have h := h.2 c
      refine mm_iconst (M := M_Bench_isDigit) (v := 1) d_Bench_isDigit_12 (by decide) ?_
      refine mm_goto (M := M_Bench_isDigit) (tgt := 17) d_Bench_isDigit_13 (by decide) ?_
      exact mm_retv (M := M_Bench_isDigit) ⟨_, rfl, (by decide), d_Bench_isDigit_17⟩ ⟨_, _, _, _, _, rfl, rfl, h⟩
def wp_Bench_placeBehindMatch_0 (n1 n2 : Nat) (i : mm_i) (l : mm_j) (a : mm_a) (b : mm_b)  (K : Int32 → mm_i → mm_j → mm_a → mm_b → Prop) : Prop :=
  (¬ (i 5) = (i 4) → K (i 5) i l a b) ∧ ((i 5) = (i 4) → K ((i 5) + (1 : Int32)) i l a b)
set_option maxRecDepth 100000 in
set_option maxHeartbeats 4000000 in
theorem ct_Bench_placeBehindMatch_0 {n1 n2 : Nat} {i : mm_i} {l : mm_j} {a : mm_a} {b : mm_b} {t : mm_H}  {K : Int32 → mm_i → mm_j → mm_a → mm_b → Prop} (h : wp_Bench_placeBehindMatch_0 n1 n2 i l a b  K) : mm_Ct y_Bench_placeBehindMatch M_Bench_placeBehindMatch 0 0 0 [.ref 0] (Wd 4 22 n1 n2 i l a b ++ t) (mm_PI n1 n2 t K) := by
  refine mm_Ct.of (by decide) rfl (fun q => absurd q (by decide)) (Nat.le_of_ble_eq_true rfl) ?_
  unfold wp_Bench_placeBehindMatch_0 at h
  refine mm_eqL (L' := [some (.ref 0)]) rfl ?_
  refine mm_aload_n (M := M_Bench_placeBehindMatch) d_Bench_placeBehindMatch_0 rfl ?_
  refine mm_getf (M := M_Bench_placeBehindMatch) (u := .int (i 5)) 6 5 d_Bench_placeBehindMatch_1 fl_Bench_27 wg_0 rfl ?_
  refine mm_aload_n (M := M_Bench_placeBehindMatch) d_Bench_placeBehindMatch_4 rfl ?_
  refine mm_getf (M := M_Bench_placeBehindMatch) (u := .int (i 4)) 6 4 d_Bench_placeBehindMatch_5 fl_Bench_23 wg_0 rfl ?_
  refine mm_icmp_ne (M := M_Bench_placeBehindMatch) 20 d_Bench_placeBehindMatch_8 (by decide) (fun c => ?_) (fun c => ?_)
  · have h := h.1 c
    refine mm_aload_n (M := M_Bench_placeBehindMatch) d_Bench_placeBehindMatch_20 rfl ?_
    refine mm_getf (M := M_Bench_placeBehindMatch) (u := .int (i 5)) 6 5 d_Bench_placeBehindMatch_21 fl_Bench_27 wg_0 rfl ?_
    exact mm_retv (M := M_Bench_placeBehindMatch) ⟨_, rfl, rfl, d_Bench_placeBehindMatch_24⟩ ⟨_, _, _, _, _, rfl, rfl, h⟩
  · have h := h.2 c
    refine mm_aload_n (M := M_Bench_placeBehindMatch) d_Bench_placeBehindMatch_11 rfl ?_
    refine mm_getf (M := M_Bench_placeBehindMatch) (u := .int (i 5)) 6 5 d_Bench_placeBehindMatch_12 fl_Bench_27 wg_0 rfl ?_
    refine mm_iconst (M := M_Bench_placeBehindMatch) (v := 1) d_Bench_placeBehindMatch_15 (by decide) ?_
    refine mm_iadd (M := M_Bench_placeBehindMatch) d_Bench_placeBehindMatch_16 ?_
    refine mm_goto (M := M_Bench_placeBehindMatch) (tgt := 24) d_Bench_placeBehindMatch_17 (by decide) ?_
    exact mm_retv (M := M_Bench_placeBehindMatch) ⟨_, rfl, rfl, d_Bench_placeBehindMatch_24⟩ ⟨_, _, _, _, _, rfl, rfl, h⟩
end
