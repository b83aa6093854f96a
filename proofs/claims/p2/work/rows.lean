section
-- ===== PART A: goes FIRST, ahead of the names: the tables' words, and 'selects' of the private methods out of them =====
/-- a private method of a class that the tables say can be made, by its rows of tables_1 -/
def lw_okq (q : MethodName × Nat) : Prop := (q.1.cls ≠ "java/lang/invoke/MethodHandle" ∧ q.1.cls ≠ "java/lang/invoke/VarHandle") ∧ Cond.instantiable q.1.cls q.2 ∈ tables_1 ∧ Cond.privateMethod q.1 ∈ tables_1 ∧ Cond.instanceMethod q.1 ∈ tables_1
theorem lw_p0 : lw_okq (⟨"PatternBench$Reader", "openLevel", "(II)V"⟩, 11) := ⟨⟨by decide +kernel, by decide +kernel⟩, List.mem_of_getElem? (i := 25) (by decide +kernel), List.mem_of_getElem? (i := 424) (by decide +kernel), List.mem_of_getElem? (i := 425) (by decide +kernel)⟩
theorem lw_p1 : lw_okq (⟨"PatternBench$Reader", "readPart", "()I"⟩, 11) := ⟨⟨by decide +kernel, by decide +kernel⟩, List.mem_of_getElem? (i := 25) (by decide +kernel), List.mem_of_getElem? (i := 432) (by decide +kernel), List.mem_of_getElem? (i := 433) (by decide +kernel)⟩
theorem lw_p2 : lw_okq (⟨"PatternBench$Reader", "ahead", "(I)I"⟩, 11) := ⟨⟨by decide +kernel, by decide +kernel⟩, List.mem_of_getElem? (i := 25) (by decide +kernel), List.mem_of_getElem? (i := 436) (by decide +kernel), List.mem_of_getElem? (i := 437) (by decide +kernel)⟩
theorem lw_p3 : lw_okq (⟨"PatternBench$Reader", "openNextRow", "()I"⟩, 11) := ⟨⟨by decide +kernel, by decide +kernel⟩, List.mem_of_getElem? (i := 25) (by decide +kernel), List.mem_of_getElem? (i := 444) (by decide +kernel), List.mem_of_getElem? (i := 445) (by decide +kernel)⟩
theorem lw_p4 : lw_okq (⟨"PatternBench$Reader", "closeChoice", "()I"⟩, 11) := ⟨⟨by decide +kernel, by decide +kernel⟩, List.mem_of_getElem? (i := 25) (by decide +kernel), List.mem_of_getElem? (i := 448) (by decide +kernel), List.mem_of_getElem? (i := 449) (by decide +kernel)⟩
theorem lw_p5 : lw_okq (⟨"PatternBench$Reader", "refuse", "()I"⟩, 11) := ⟨⟨by decide +kernel, by decide +kernel⟩, List.mem_of_getElem? (i := 25) (by decide +kernel), List.mem_of_getElem? (i := 452) (by decide +kernel), List.mem_of_getElem? (i := 453) (by decide +kernel)⟩
theorem lw_p6 : lw_okq (⟨"PatternBench$Reader", "readCall", "()I"⟩, 11) := ⟨⟨by decide +kernel, by decide +kernel⟩, List.mem_of_getElem? (i := 25) (by decide +kernel), List.mem_of_getElem? (i := 457) (by decide +kernel), List.mem_of_getElem? (i := 458) (by decide +kernel)⟩
theorem lw_p7 : lw_okq (⟨"PatternBench$Reader", "appendItem", "(II)I"⟩, 11) := ⟨⟨by decide +kernel, by decide +kernel⟩, List.mem_of_getElem? (i := 25) (by decide +kernel), List.mem_of_getElem? (i := 462) (by decide +kernel), List.mem_of_getElem? (i := 463) (by decide +kernel)⟩
theorem lw_p8 : lw_okq (⟨"PatternBench$Reader", "openChoice", "()I"⟩, 11) := ⟨⟨by decide +kernel, by decide +kernel⟩, List.mem_of_getElem? (i := 25) (by decide +kernel), List.mem_of_getElem? (i := 470) (by decide +kernel), List.mem_of_getElem? (i := 471) (by decide +kernel)⟩
theorem lw_p9 : lw_okq (⟨"PatternBench$Reader", "kindOfChoice", "()I"⟩, 11) := ⟨⟨by decide +kernel, by decide +kernel⟩, List.mem_of_getElem? (i := 25) (by decide +kernel), List.mem_of_getElem? (i := 474) (by decide +kernel), List.mem_of_getElem? (i := 475) (by decide +kernel)⟩
theorem lw_p10 : lw_okq (⟨"PatternBench$Reader", "readClass", "()I"⟩, 11) := ⟨⟨by decide +kernel, by decide +kernel⟩, List.mem_of_getElem? (i := 25) (by decide +kernel), List.mem_of_getElem? (i := 478) (by decide +kernel), List.mem_of_getElem? (i := 479) (by decide +kernel)⟩
theorem lw_p11 : lw_okq (⟨"PatternBench$Reader", "readClassPart", "()I"⟩, 11) := ⟨⟨by decide +kernel, by decide +kernel⟩, List.mem_of_getElem? (i := 25) (by decide +kernel), List.mem_of_getElem? (i := 483) (by decide +kernel), List.mem_of_getElem? (i := 484) (by decide +kernel)⟩
theorem lw_p12 : lw_okq (⟨"PatternBench$Reader", "readReference", "()I"⟩, 11) := ⟨⟨by decide +kernel, by decide +kernel⟩, List.mem_of_getElem? (i := 25) (by decide +kernel), List.mem_of_getElem? (i := 491) (by decide +kernel), List.mem_of_getElem? (i := 492) (by decide +kernel)⟩
theorem lw_p13 : lw_okq (⟨"PatternBench$Reader", "readSign", "()I"⟩, 11) := ⟨⟨by decide +kernel, by decide +kernel⟩, List.mem_of_getElem? (i := 25) (by decide +kernel), List.mem_of_getElem? (i := 495) (by decide +kernel), List.mem_of_getElem? (i := 496) (by decide +kernel)⟩
theorem lw_p14 : lw_okq (⟨"PatternBench$Reader", "readRepeat", "(I)V"⟩, 11) := ⟨⟨by decide +kernel, by decide +kernel⟩, List.mem_of_getElem? (i := 25) (by decide +kernel), List.mem_of_getElem? (i := 499) (by decide +kernel), List.mem_of_getElem? (i := 500) (by decide +kernel)⟩
theorem lw_p15 : lw_okq (⟨"PatternBench$Reader", "setRepeat", "(IIII)V"⟩, 11) := ⟨⟨by decide +kernel, by decide +kernel⟩, List.mem_of_getElem? (i := 25) (by decide +kernel), List.mem_of_getElem? (i := 503) (by decide +kernel), List.mem_of_getElem? (i := 504) (by decide +kernel)⟩
def lw_privs_1 : List (MethodName × Nat) := [(⟨"PatternBench$Reader", "openLevel", "(II)V"⟩, 11), (⟨"PatternBench$Reader", "readPart", "()I"⟩, 11), (⟨"PatternBench$Reader", "ahead", "(I)I"⟩, 11), (⟨"PatternBench$Reader", "openNextRow", "()I"⟩, 11), (⟨"PatternBench$Reader", "closeChoice", "()I"⟩, 11), (⟨"PatternBench$Reader", "refuse", "()I"⟩, 11), (⟨"PatternBench$Reader", "readCall", "()I"⟩, 11), (⟨"PatternBench$Reader", "appendItem", "(II)I"⟩, 11), (⟨"PatternBench$Reader", "openChoice", "()I"⟩, 11), (⟨"PatternBench$Reader", "kindOfChoice", "()I"⟩, 11), (⟨"PatternBench$Reader", "readClass", "()I"⟩, 11), (⟨"PatternBench$Reader", "readClassPart", "()I"⟩, 11), (⟨"PatternBench$Reader", "readReference", "()I"⟩, 11), (⟨"PatternBench$Reader", "readSign", "()I"⟩, 11), (⟨"PatternBench$Reader", "readRepeat", "(I)V"⟩, 11), (⟨"PatternBench$Reader", "setRepeat", "(IIII)V"⟩, 11)]
theorem lw_r1 : ∀ q ∈ lw_privs_1, lw_okq q := List.forall_mem_cons.mpr ⟨lw_p0, List.forall_mem_cons.mpr ⟨lw_p1, List.forall_mem_cons.mpr ⟨lw_p2, List.forall_mem_cons.mpr ⟨lw_p3, List.forall_mem_cons.mpr ⟨lw_p4, List.forall_mem_cons.mpr ⟨lw_p5, List.forall_mem_cons.mpr ⟨lw_p6, List.forall_mem_cons.mpr ⟨lw_p7, List.forall_mem_cons.mpr ⟨lw_p8, List.forall_mem_cons.mpr ⟨lw_p9, List.forall_mem_cons.mpr ⟨lw_p10, List.forall_mem_cons.mpr ⟨lw_p11, List.forall_mem_cons.mpr ⟨lw_p12, List.forall_mem_cons.mpr ⟨lw_p13, List.forall_mem_cons.mpr ⟨lw_p14, List.forall_mem_cons.mpr ⟨lw_p15, fun _ h => absurd h List.not_mem_nil⟩⟩⟩⟩⟩⟩⟩⟩⟩⟩⟩⟩⟩⟩⟩⟩
theorem lw_p16 : lw_okq (⟨"PatternBench$Reader", "readTimes", "(I)V"⟩, 11) := ⟨⟨by decide +kernel, by decide +kernel⟩, List.mem_of_getElem? (i := 25) (by decide +kernel), List.mem_of_getElem? (i := 507) (by decide +kernel), List.mem_of_getElem? (i := 508) (by decide +kernel)⟩
theorem lw_p17 : lw_okq (⟨"PatternBench", "searchFrom", "(I)I"⟩, 8) := ⟨⟨by decide +kernel, by decide +kernel⟩, List.mem_of_getElem? (i := 17) (by decide +kernel), List.mem_of_getElem? (i := 523) (by decide +kernel), List.mem_of_getElem? (i := 524) (by decide +kernel)⟩
theorem lw_p18 : lw_okq (⟨"PatternBench$Matcher", "beginAt", "(I)V"⟩, 11) := ⟨⟨by decide +kernel, by decide +kernel⟩, List.mem_of_getElem? (i := 156) (by decide +kernel), List.mem_of_getElem? (i := 531) (by decide +kernel), List.mem_of_getElem? (i := 532) (by decide +kernel)⟩
theorem lw_p19 : lw_okq (⟨"PatternBench$Matcher", "go", "(II)V"⟩, 11) := ⟨⟨by decide +kernel, by decide +kernel⟩, List.mem_of_getElem? (i := 156) (by decide +kernel), List.mem_of_getElem? (i := 543) (by decide +kernel), List.mem_of_getElem? (i := 544) (by decide +kernel)⟩
theorem lw_p20 : lw_okq (⟨"PatternBench$Matcher", "goesOn", "()Z"⟩, 11) := ⟨⟨by decide +kernel, by decide +kernel⟩, List.mem_of_getElem? (i := 156) (by decide +kernel), List.mem_of_getElem? (i := 548) (by decide +kernel), List.mem_of_getElem? (i := 549) (by decide +kernel)⟩
theorem lw_p21 : lw_okq (⟨"PatternBench$Matcher", "takeTurn", "()V"⟩, 11) := ⟨⟨by decide +kernel, by decide +kernel⟩, List.mem_of_getElem? (i := 156) (by decide +kernel), List.mem_of_getElem? (i := 560) (by decide +kernel), List.mem_of_getElem? (i := 561) (by decide +kernel)⟩
theorem lw_p22 : lw_okq (⟨"PatternBench$Matcher", "enterRow", "(I)V"⟩, 11) := ⟨⟨by decide +kernel, by decide +kernel⟩, List.mem_of_getElem? (i := 156) (by decide +kernel), List.mem_of_getElem? (i := 564) (by decide +kernel), List.mem_of_getElem? (i := 565) (by decide +kernel)⟩
theorem lw_p23 : lw_okq (⟨"PatternBench$Matcher", "enterItem", "(I)V"⟩, 11) := ⟨⟨by decide +kernel, by decide +kernel⟩, List.mem_of_getElem? (i := 156) (by decide +kernel), List.mem_of_getElem? (i := 572) (by decide +kernel), List.mem_of_getElem? (i := 573) (by decide +kernel)⟩
theorem lw_p24 : lw_okq (⟨"PatternBench$Matcher", "fork", "(I)V"⟩, 11) := ⟨⟨by decide +kernel, by decide +kernel⟩, List.mem_of_getElem? (i := 156) (by decide +kernel), List.mem_of_getElem? (i := 580) (by decide +kernel), List.mem_of_getElem? (i := 581) (by decide +kernel)⟩
theorem lw_p25 : lw_okq (⟨"PatternBench$Matcher", "tryAtom", "(I)V"⟩, 11) := ⟨⟨by decide +kernel, by decide +kernel⟩, List.mem_of_getElem? (i := 156) (by decide +kernel), List.mem_of_getElem? (i := 584) (by decide +kernel), List.mem_of_getElem? (i := 585) (by decide +kernel)⟩
theorem lw_p26 : lw_okq (⟨"PatternBench$Matcher", "ask", "(I)V"⟩, 11) := ⟨⟨by decide +kernel, by decide +kernel⟩, List.mem_of_getElem? (i := 156) (by decide +kernel), List.mem_of_getElem? (i := 588) (by decide +kernel), List.mem_of_getElem? (i := 589) (by decide +kernel)⟩
theorem lw_p27 : lw_okq (⟨"PatternBench$Matcher", "askLetter", "(I)V"⟩, 11) := ⟨⟨by decide +kernel, by decide +kernel⟩, List.mem_of_getElem? (i := 156) (by decide +kernel), List.mem_of_getElem? (i := 592) (by decide +kernel), List.mem_of_getElem? (i := 593) (by decide +kernel)⟩
theorem lw_p28 : lw_okq (⟨"PatternBench$Matcher", "askSame", "(I)V"⟩, 11) := ⟨⟨by decide +kernel, by decide +kernel⟩, List.mem_of_getElem? (i := 156) (by decide +kernel), List.mem_of_getElem? (i := 596) (by decide +kernel), List.mem_of_getElem? (i := 597) (by decide +kernel)⟩
theorem lw_p29 : lw_okq (⟨"PatternBench$Matcher", "standsHere", "(II)Z"⟩, 11) := ⟨⟨by decide +kernel, by decide +kernel⟩, List.mem_of_getElem? (i := 156) (by decide +kernel), List.mem_of_getElem? (i := 606) (by decide +kernel), List.mem_of_getElem? (i := 607) (by decide +kernel)⟩
theorem lw_p30 : lw_okq (⟨"PatternBench$Matcher", "askCall", "(I)V"⟩, 11) := ⟨⟨by decide +kernel, by decide +kernel⟩, List.mem_of_getElem? (i := 156) (by decide +kernel), List.mem_of_getElem? (i := 610) (by decide +kernel), List.mem_of_getElem? (i := 611) (by decide +kernel)⟩
theorem lw_p31 : lw_okq (⟨"PatternBench$Matcher", "askBody", "(I)V"⟩, 11) := ⟨⟨by decide +kernel, by decide +kernel⟩, List.mem_of_getElem? (i := 156) (by decide +kernel), List.mem_of_getElem? (i := 614) (by decide +kernel), List.mem_of_getElem? (i := 615) (by decide +kernel)⟩
def lw_privs_2 : List (MethodName × Nat) := [(⟨"PatternBench$Reader", "readTimes", "(I)V"⟩, 11), (⟨"PatternBench", "searchFrom", "(I)I"⟩, 8), (⟨"PatternBench$Matcher", "beginAt", "(I)V"⟩, 11), (⟨"PatternBench$Matcher", "go", "(II)V"⟩, 11), (⟨"PatternBench$Matcher", "goesOn", "()Z"⟩, 11), (⟨"PatternBench$Matcher", "takeTurn", "()V"⟩, 11), (⟨"PatternBench$Matcher", "enterRow", "(I)V"⟩, 11), (⟨"PatternBench$Matcher", "enterItem", "(I)V"⟩, 11), (⟨"PatternBench$Matcher", "fork", "(I)V"⟩, 11), (⟨"PatternBench$Matcher", "tryAtom", "(I)V"⟩, 11), (⟨"PatternBench$Matcher", "ask", "(I)V"⟩, 11), (⟨"PatternBench$Matcher", "askLetter", "(I)V"⟩, 11), (⟨"PatternBench$Matcher", "askSame", "(I)V"⟩, 11), (⟨"PatternBench$Matcher", "standsHere", "(II)Z"⟩, 11), (⟨"PatternBench$Matcher", "askCall", "(I)V"⟩, 11), (⟨"PatternBench$Matcher", "askBody", "(I)V"⟩, 11)]
theorem lw_r2 : ∀ q ∈ lw_privs_2, lw_okq q := List.forall_mem_cons.mpr ⟨lw_p16, List.forall_mem_cons.mpr ⟨lw_p17, List.forall_mem_cons.mpr ⟨lw_p18, List.forall_mem_cons.mpr ⟨lw_p19, List.forall_mem_cons.mpr ⟨lw_p20, List.forall_mem_cons.mpr ⟨lw_p21, List.forall_mem_cons.mpr ⟨lw_p22, List.forall_mem_cons.mpr ⟨lw_p23, List.forall_mem_cons.mpr ⟨lw_p24, List.forall_mem_cons.mpr ⟨lw_p25, List.forall_mem_cons.mpr ⟨lw_p26, List.forall_mem_cons.mpr ⟨lw_p27, List.forall_mem_cons.mpr ⟨lw_p28, List.forall_mem_cons.mpr ⟨lw_p29, List.forall_mem_cons.mpr ⟨lw_p30, List.forall_mem_cons.mpr ⟨lw_p31, fun _ h => absurd h List.not_mem_nil⟩⟩⟩⟩⟩⟩⟩⟩⟩⟩⟩⟩⟩⟩⟩⟩
theorem lw_p32 : lw_okq (⟨"PatternBench$Matcher", "goAfterAtom", "(I)V"⟩, 11) := ⟨⟨by decide +kernel, by decide +kernel⟩, List.mem_of_getElem? (i := 156) (by decide +kernel), List.mem_of_getElem? (i := 618) (by decide +kernel), List.mem_of_getElem? (i := 619) (by decide +kernel)⟩
theorem lw_p33 : lw_okq (⟨"PatternBench$Matcher", "goAfterItem", "(I)V"⟩, 11) := ⟨⟨by decide +kernel, by decide +kernel⟩, List.mem_of_getElem? (i := 156) (by decide +kernel), List.mem_of_getElem? (i := 622) (by decide +kernel), List.mem_of_getElem? (i := 623) (by decide +kernel)⟩
theorem lw_p34 : lw_okq (⟨"PatternBench$Matcher", "resume", "(I)V"⟩, 11) := ⟨⟨by decide +kernel, by decide +kernel⟩, List.mem_of_getElem? (i := 156) (by decide +kernel), List.mem_of_getElem? (i := 626) (by decide +kernel), List.mem_of_getElem? (i := 627) (by decide +kernel)⟩
theorem lw_p35 : lw_okq (⟨"PatternBench$Matcher", "leaveBody", "(II)V"⟩, 11) := ⟨⟨by decide +kernel, by decide +kernel⟩, List.mem_of_getElem? (i := 156) (by decide +kernel), List.mem_of_getElem? (i := 630) (by decide +kernel), List.mem_of_getElem? (i := 631) (by decide +kernel)⟩
theorem lw_p36 : lw_okq (⟨"PatternBench$Matcher", "leaveTimesTurn", "(II)V"⟩, 11) := ⟨⟨by decide +kernel, by decide +kernel⟩, List.mem_of_getElem? (i := 156) (by decide +kernel), List.mem_of_getElem? (i := 639) (by decide +kernel), List.mem_of_getElem? (i := 640) (by decide +kernel)⟩
theorem lw_p37 : lw_okq (⟨"PatternBench$Matcher", "takeChoice", "()V"⟩, 11) := ⟨⟨by decide +kernel, by decide +kernel⟩, List.mem_of_getElem? (i := 156) (by decide +kernel), List.mem_of_getElem? (i := 643) (by decide +kernel), List.mem_of_getElem? (i := 644) (by decide +kernel)⟩
theorem lw_p38 : lw_okq (⟨"PatternBench", "placeBehindMatch", "()I"⟩, 8) := ⟨⟨by decide +kernel, by decide +kernel⟩, List.mem_of_getElem? (i := 17) (by decide +kernel), List.mem_of_getElem? (i := 651) (by decide +kernel), List.mem_of_getElem? (i := 652) (by decide +kernel)⟩
theorem lw_p39 : lw_okq (⟨"PatternBenchModel", "measure", "()I"⟩, 27) := ⟨⟨by decide +kernel, by decide +kernel⟩, List.mem_of_getElem? (i := 680) (by decide +kernel), List.mem_of_getElem? (i := 785) (by decide +kernel), List.mem_of_getElem? (i := 786) (by decide +kernel)⟩
theorem lw_p40 : lw_okq (⟨"PatternBenchModel", "opener", "(I)I"⟩, 27) := ⟨⟨by decide +kernel, by decide +kernel⟩, List.mem_of_getElem? (i := 680) (by decide +kernel), List.mem_of_getElem? (i := 789) (by decide +kernel), List.mem_of_getElem? (i := 790) (by decide +kernel)⟩
theorem lw_p41 : lw_okq (⟨"PatternBenchModel", "c", "(I)I"⟩, 27) := ⟨⟨by decide +kernel, by decide +kernel⟩, List.mem_of_getElem? (i := 680) (by decide +kernel), List.mem_of_getElem? (i := 793) (by decide +kernel), List.mem_of_getElem? (i := 794) (by decide +kernel)⟩
theorem lw_p42 : lw_okq (⟨"PatternBenchModel", "behindPlain", "(I)I"⟩, 27) := ⟨⟨by decide +kernel, by decide +kernel⟩, List.mem_of_getElem? (i := 680) (by decide +kernel), List.mem_of_getElem? (i := 797) (by decide +kernel), List.mem_of_getElem? (i := 798) (by decide +kernel)⟩
theorem lw_p43 : lw_okq (⟨"PatternBenchModel", "behindClass", "(I)I"⟩, 27) := ⟨⟨by decide +kernel, by decide +kernel⟩, List.mem_of_getElem? (i := 680) (by decide +kernel), List.mem_of_getElem? (i := 801) (by decide +kernel), List.mem_of_getElem? (i := 802) (by decide +kernel)⟩
theorem lw_p44 : lw_okq (⟨"PatternBenchModel", "behindRepeat", "(I)I"⟩, 27) := ⟨⟨by decide +kernel, by decide +kernel⟩, List.mem_of_getElem? (i := 680) (by decide +kernel), List.mem_of_getElem? (i := 805) (by decide +kernel), List.mem_of_getElem? (i := 806) (by decide +kernel)⟩
theorem lw_p45 : lw_okq (⟨"PatternBenchModel", "sized", "(II)I"⟩, 27) := ⟨⟨by decide +kernel, by decide +kernel⟩, List.mem_of_getElem? (i := 680) (by decide +kernel), List.mem_of_getElem? (i := 809) (by decide +kernel), List.mem_of_getElem? (i := 810) (by decide +kernel)⟩
theorem lw_p46 : lw_okq (⟨"PatternBenchModel", "groupsOf", "()I"⟩, 27) := ⟨⟨by decide +kernel, by decide +kernel⟩, List.mem_of_getElem? (i := 680) (by decide +kernel), List.mem_of_getElem? (i := 813) (by decide +kernel), List.mem_of_getElem? (i := 814) (by decide +kernel)⟩
theorem lw_p47 : lw_okq (⟨"PatternBenchModel", "namesGood", "(I)Z"⟩, 27) := ⟨⟨by decide +kernel, by decide +kernel⟩, List.mem_of_getElem? (i := 680) (by decide +kernel), List.mem_of_getElem? (i := 817) (by decide +kernel), List.mem_of_getElem? (i := 818) (by decide +kernel)⟩
def lw_privs_3 : List (MethodName × Nat) := [(⟨"PatternBench$Matcher", "goAfterAtom", "(I)V"⟩, 11), (⟨"PatternBench$Matcher", "goAfterItem", "(I)V"⟩, 11), (⟨"PatternBench$Matcher", "resume", "(I)V"⟩, 11), (⟨"PatternBench$Matcher", "leaveBody", "(II)V"⟩, 11), (⟨"PatternBench$Matcher", "leaveTimesTurn", "(II)V"⟩, 11), (⟨"PatternBench$Matcher", "takeChoice", "()V"⟩, 11), (⟨"PatternBench", "placeBehindMatch", "()I"⟩, 8), (⟨"PatternBenchModel", "measure", "()I"⟩, 27), (⟨"PatternBenchModel", "opener", "(I)I"⟩, 27), (⟨"PatternBenchModel", "c", "(I)I"⟩, 27), (⟨"PatternBenchModel", "behindPlain", "(I)I"⟩, 27), (⟨"PatternBenchModel", "behindClass", "(I)I"⟩, 27), (⟨"PatternBenchModel", "behindRepeat", "(I)I"⟩, 27), (⟨"PatternBenchModel", "sized", "(II)I"⟩, 27), (⟨"PatternBenchModel", "groupsOf", "()I"⟩, 27), (⟨"PatternBenchModel", "namesGood", "(I)Z"⟩, 27)]
theorem lw_r3 : ∀ q ∈ lw_privs_3, lw_okq q := List.forall_mem_cons.mpr ⟨lw_p32, List.forall_mem_cons.mpr ⟨lw_p33, List.forall_mem_cons.mpr ⟨lw_p34, List.forall_mem_cons.mpr ⟨lw_p35, List.forall_mem_cons.mpr ⟨lw_p36, List.forall_mem_cons.mpr ⟨lw_p37, List.forall_mem_cons.mpr ⟨lw_p38, List.forall_mem_cons.mpr ⟨lw_p39, List.forall_mem_cons.mpr ⟨lw_p40, List.forall_mem_cons.mpr ⟨lw_p41, List.forall_mem_cons.mpr ⟨lw_p42, List.forall_mem_cons.mpr ⟨lw_p43, List.forall_mem_cons.mpr ⟨lw_p44, List.forall_mem_cons.mpr ⟨lw_p45, List.forall_mem_cons.mpr ⟨lw_p46, List.forall_mem_cons.mpr ⟨lw_p47, fun _ h => absurd h List.not_mem_nil⟩⟩⟩⟩⟩⟩⟩⟩⟩⟩⟩⟩⟩⟩⟩⟩
theorem lw_p48 : lw_okq (⟨"PatternBenchModel", "seek", "(I)I"⟩, 27) := ⟨⟨by decide +kernel, by decide +kernel⟩, List.mem_of_getElem? (i := 680) (by decide +kernel), List.mem_of_getElem? (i := 833) (by decide +kernel), List.mem_of_getElem? (i := 834) (by decide +kernel)⟩
theorem lw_p49 : lw_okq (⟨"PatternBenchModel", "walk", "(I)I"⟩, 27) := ⟨⟨by decide +kernel, by decide +kernel⟩, List.mem_of_getElem? (i := 680) (by decide +kernel), List.mem_of_getElem? (i := 837) (by decide +kernel), List.mem_of_getElem? (i := 838) (by decide +kernel)⟩
theorem lw_p50 : lw_okq (⟨"PatternBenchModel", "go", "(III)V"⟩, 27) := ⟨⟨by decide +kernel, by decide +kernel⟩, List.mem_of_getElem? (i := 680) (by decide +kernel), List.mem_of_getElem? (i := 841) (by decide +kernel), List.mem_of_getElem? (i := 842) (by decide +kernel)⟩
theorem lw_p51 : lw_okq (⟨"PatternBenchModel", "retreat", "()Z"⟩, 27) := ⟨⟨by decide +kernel, by decide +kernel⟩, List.mem_of_getElem? (i := 680) (by decide +kernel), List.mem_of_getElem? (i := 846) (by decide +kernel), List.mem_of_getElem? (i := 847) (by decide +kernel)⟩
theorem lw_p52 : lw_okq (⟨"PatternBenchModel", "rowEnds", "(I)Z"⟩, 27) := ⟨⟨by decide +kernel, by decide +kernel⟩, List.mem_of_getElem? (i := 680) (by decide +kernel), List.mem_of_getElem? (i := 850) (by decide +kernel), List.mem_of_getElem? (i := 851) (by decide +kernel)⟩
theorem lw_p53 : lw_okq (⟨"PatternBenchModel", "t", "(I)I"⟩, 27) := ⟨⟨by decide +kernel, by decide +kernel⟩, List.mem_of_getElem? (i := 680) (by decide +kernel), List.mem_of_getElem? (i := 854) (by decide +kernel), List.mem_of_getElem? (i := 855) (by decide +kernel)⟩
theorem lw_p54 : lw_okq (⟨"PatternBenchModel", "item", "(I)V"⟩, 27) := ⟨⟨by decide +kernel, by decide +kernel⟩, List.mem_of_getElem? (i := 680) (by decide +kernel), List.mem_of_getElem? (i := 858) (by decide +kernel), List.mem_of_getElem? (i := 859) (by decide +kernel)⟩
theorem lw_p55 : lw_okq (⟨"PatternBenchModel", "behindAtom", "(I)I"⟩, 27) := ⟨⟨by decide +kernel, by decide +kernel⟩, List.mem_of_getElem? (i := 680) (by decide +kernel), List.mem_of_getElem? (i := 862) (by decide +kernel), List.mem_of_getElem? (i := 863) (by decide +kernel)⟩
theorem lw_p56 : lw_okq (⟨"PatternBenchModel", "closing", "(I)I"⟩, 27) := ⟨⟨by decide +kernel, by decide +kernel⟩, List.mem_of_getElem? (i := 680) (by decide +kernel), List.mem_of_getElem? (i := 866) (by decide +kernel), List.mem_of_getElem? (i := 867) (by decide +kernel)⟩
theorem lw_p57 : lw_okq (⟨"PatternBenchModel", "push", "(IIII)I"⟩, 27) := ⟨⟨by decide +kernel, by decide +kernel⟩, List.mem_of_getElem? (i := 680) (by decide +kernel), List.mem_of_getElem? (i := 870) (by decide +kernel), List.mem_of_getElem? (i := 871) (by decide +kernel)⟩
theorem lw_p58 : lw_okq (⟨"PatternBenchModel", "pushBack", "(III)V"⟩, 27) := ⟨⟨by decide +kernel, by decide +kernel⟩, List.mem_of_getElem? (i := 680) (by decide +kernel), List.mem_of_getElem? (i := 874) (by decide +kernel), List.mem_of_getElem? (i := 875) (by decide +kernel)⟩
theorem lw_p59 : lw_okq (⟨"PatternBenchModel", "nextRow", "(I)I"⟩, 27) := ⟨⟨by decide +kernel, by decide +kernel⟩, List.mem_of_getElem? (i := 680) (by decide +kernel), List.mem_of_getElem? (i := 878) (by decide +kernel), List.mem_of_getElem? (i := 879) (by decide +kernel)⟩
theorem lw_p60 : lw_okq (⟨"PatternBenchModel", "atom", "()V"⟩, 27) := ⟨⟨by decide +kernel, by decide +kernel⟩, List.mem_of_getElem? (i := 680) (by decide +kernel), List.mem_of_getElem? (i := 882) (by decide +kernel), List.mem_of_getElem? (i := 883) (by decide +kernel)⟩
theorem lw_p61 : lw_okq (⟨"PatternBenchModel", "openChoice", "(I)V"⟩, 27) := ⟨⟨by decide +kernel, by decide +kernel⟩, List.mem_of_getElem? (i := 680) (by decide +kernel), List.mem_of_getElem? (i := 886) (by decide +kernel), List.mem_of_getElem? (i := 887) (by decide +kernel)⟩
theorem lw_p62 : lw_okq (⟨"PatternBenchModel", "groupAt", "(I)I"⟩, 27) := ⟨⟨by decide +kernel, by decide +kernel⟩, List.mem_of_getElem? (i := 680) (by decide +kernel), List.mem_of_getElem? (i := 890) (by decide +kernel), List.mem_of_getElem? (i := 891) (by decide +kernel)⟩
theorem lw_p63 : lw_okq (⟨"PatternBenchModel", "calls", "()I"⟩, 27) := ⟨⟨by decide +kernel, by decide +kernel⟩, List.mem_of_getElem? (i := 680) (by decide +kernel), List.mem_of_getElem? (i := 894) (by decide +kernel), List.mem_of_getElem? (i := 895) (by decide +kernel)⟩
def lw_privs_4 : List (MethodName × Nat) := [(⟨"PatternBenchModel", "seek", "(I)I"⟩, 27), (⟨"PatternBenchModel", "walk", "(I)I"⟩, 27), (⟨"PatternBenchModel", "go", "(III)V"⟩, 27), (⟨"PatternBenchModel", "retreat", "()Z"⟩, 27), (⟨"PatternBenchModel", "rowEnds", "(I)Z"⟩, 27), (⟨"PatternBenchModel", "t", "(I)I"⟩, 27), (⟨"PatternBenchModel", "item", "(I)V"⟩, 27), (⟨"PatternBenchModel", "behindAtom", "(I)I"⟩, 27), (⟨"PatternBenchModel", "closing", "(I)I"⟩, 27), (⟨"PatternBenchModel", "push", "(IIII)I"⟩, 27), (⟨"PatternBenchModel", "pushBack", "(III)V"⟩, 27), (⟨"PatternBenchModel", "nextRow", "(I)I"⟩, 27), (⟨"PatternBenchModel", "atom", "()V"⟩, 27), (⟨"PatternBenchModel", "openChoice", "(I)V"⟩, 27), (⟨"PatternBenchModel", "groupAt", "(I)I"⟩, 27), (⟨"PatternBenchModel", "calls", "()I"⟩, 27)]
theorem lw_r4 : ∀ q ∈ lw_privs_4, lw_okq q := List.forall_mem_cons.mpr ⟨lw_p48, List.forall_mem_cons.mpr ⟨lw_p49, List.forall_mem_cons.mpr ⟨lw_p50, List.forall_mem_cons.mpr ⟨lw_p51, List.forall_mem_cons.mpr ⟨lw_p52, List.forall_mem_cons.mpr ⟨lw_p53, List.forall_mem_cons.mpr ⟨lw_p54, List.forall_mem_cons.mpr ⟨lw_p55, List.forall_mem_cons.mpr ⟨lw_p56, List.forall_mem_cons.mpr ⟨lw_p57, List.forall_mem_cons.mpr ⟨lw_p58, List.forall_mem_cons.mpr ⟨lw_p59, List.forall_mem_cons.mpr ⟨lw_p60, List.forall_mem_cons.mpr ⟨lw_p61, List.forall_mem_cons.mpr ⟨lw_p62, List.forall_mem_cons.mpr ⟨lw_p63, fun _ h => absurd h List.not_mem_nil⟩⟩⟩⟩⟩⟩⟩⟩⟩⟩⟩⟩⟩⟩⟩⟩
theorem lw_p64 : lw_okq (⟨"PatternBenchModel", "kindOf", "(I)I"⟩, 27) := ⟨⟨by decide +kernel, by decide +kernel⟩, List.mem_of_getElem? (i := 680) (by decide +kernel), List.mem_of_getElem? (i := 898) (by decide +kernel), List.mem_of_getElem? (i := 899) (by decide +kernel)⟩
theorem lw_p65 : lw_okq (⟨"PatternBenchModel", "parentOf", "(I)I"⟩, 27) := ⟨⟨by decide +kernel, by decide +kernel⟩, List.mem_of_getElem? (i := 680) (by decide +kernel), List.mem_of_getElem? (i := 902) (by decide +kernel), List.mem_of_getElem? (i := 903) (by decide +kernel)⟩
theorem lw_p66 : lw_okq (⟨"PatternBenchModel", "choiceOf", "(I)I"⟩, 27) := ⟨⟨by decide +kernel, by decide +kernel⟩, List.mem_of_getElem? (i := 680) (by decide +kernel), List.mem_of_getElem? (i := 906) (by decide +kernel), List.mem_of_getElem? (i := 907) (by decide +kernel)⟩
theorem lw_p67 : lw_okq (⟨"PatternBenchModel", "plain", "(I)Z"⟩, 27) := ⟨⟨by decide +kernel, by decide +kernel⟩, List.mem_of_getElem? (i := 680) (by decide +kernel), List.mem_of_getElem? (i := 910) (by decide +kernel), List.mem_of_getElem? (i := 911) (by decide +kernel)⟩
theorem lw_p68 : lw_okq (⟨"PatternBenchModel", "repeats", "(I)Z"⟩, 27) := ⟨⟨by decide +kernel, by decide +kernel⟩, List.mem_of_getElem? (i := 680) (by decide +kernel), List.mem_of_getElem? (i := 914) (by decide +kernel), List.mem_of_getElem? (i := 915) (by decide +kernel)⟩
theorem lw_p69 : lw_okq (⟨"PatternBenchModel", "capture", "(JIZ)I"⟩, 27) := ⟨⟨by decide +kernel, by decide +kernel⟩, List.mem_of_getElem? (i := 680) (by decide +kernel), List.mem_of_getElem? (i := 918) (by decide +kernel), List.mem_of_getElem? (i := 919) (by decide +kernel)⟩
theorem lw_p70 : lw_okq (⟨"PatternBenchModel", "takesLetter", "(I)Z"⟩, 27) := ⟨⟨by decide +kernel, by decide +kernel⟩, List.mem_of_getElem? (i := 680) (by decide +kernel), List.mem_of_getElem? (i := 922) (by decide +kernel), List.mem_of_getElem? (i := 923) (by decide +kernel)⟩
theorem lw_p71 : lw_okq (⟨"PatternBenchModel", "inClass", "(II)Z"⟩, 27) := ⟨⟨by decide +kernel, by decide +kernel⟩, List.mem_of_getElem? (i := 680) (by decide +kernel), List.mem_of_getElem? (i := 926) (by decide +kernel), List.mem_of_getElem? (i := 927) (by decide +kernel)⟩
theorem lw_p72 : lw_okq (⟨"PatternBenchModel", "star", "(Z)V"⟩, 27) := ⟨⟨by decide +kernel, by decide +kernel⟩, List.mem_of_getElem? (i := 680) (by decide +kernel), List.mem_of_getElem? (i := 930) (by decide +kernel), List.mem_of_getElem? (i := 931) (by decide +kernel)⟩
theorem lw_p73 : lw_okq (⟨"PatternBenchModel", "carryOn", "()V"⟩, 27) := ⟨⟨by decide +kernel, by decide +kernel⟩, List.mem_of_getElem? (i := 680) (by decide +kernel), List.mem_of_getElem? (i := 934) (by decide +kernel), List.mem_of_getElem? (i := 935) (by decide +kernel)⟩
theorem lw_p74 : lw_okq (⟨"PatternBenchModel", "placeOf", "(I)I"⟩, 27) := ⟨⟨by decide +kernel, by decide +kernel⟩, List.mem_of_getElem? (i := 680) (by decide +kernel), List.mem_of_getElem? (i := 938) (by decide +kernel), List.mem_of_getElem? (i := 939) (by decide +kernel)⟩
theorem lw_p75 : lw_okq (⟨"PatternBenchModel", "numberOf", "(I)I"⟩, 27) := ⟨⟨by decide +kernel, by decide +kernel⟩, List.mem_of_getElem? (i := 680) (by decide +kernel), List.mem_of_getElem? (i := 942) (by decide +kernel), List.mem_of_getElem? (i := 943) (by decide +kernel)⟩
theorem lw_p76 : lw_okq (⟨"PatternBenchModel", "bound", "(IZ)I"⟩, 27) := ⟨⟨by decide +kernel, by decide +kernel⟩, List.mem_of_getElem? (i := 680) (by decide +kernel), List.mem_of_getElem? (i := 956) (by decide +kernel), List.mem_of_getElem? (i := 957) (by decide +kernel)⟩
def lw_privs_5 : List (MethodName × Nat) := [(⟨"PatternBenchModel", "kindOf", "(I)I"⟩, 27), (⟨"PatternBenchModel", "parentOf", "(I)I"⟩, 27), (⟨"PatternBenchModel", "choiceOf", "(I)I"⟩, 27), (⟨"PatternBenchModel", "plain", "(I)Z"⟩, 27), (⟨"PatternBenchModel", "repeats", "(I)Z"⟩, 27), (⟨"PatternBenchModel", "capture", "(JIZ)I"⟩, 27), (⟨"PatternBenchModel", "takesLetter", "(I)Z"⟩, 27), (⟨"PatternBenchModel", "inClass", "(II)Z"⟩, 27), (⟨"PatternBenchModel", "star", "(Z)V"⟩, 27), (⟨"PatternBenchModel", "carryOn", "()V"⟩, 27), (⟨"PatternBenchModel", "placeOf", "(I)I"⟩, 27), (⟨"PatternBenchModel", "numberOf", "(I)I"⟩, 27), (⟨"PatternBenchModel", "bound", "(IZ)I"⟩, 27)]
theorem lw_r5 : ∀ q ∈ lw_privs_5, lw_okq q := List.forall_mem_cons.mpr ⟨lw_p64, List.forall_mem_cons.mpr ⟨lw_p65, List.forall_mem_cons.mpr ⟨lw_p66, List.forall_mem_cons.mpr ⟨lw_p67, List.forall_mem_cons.mpr ⟨lw_p68, List.forall_mem_cons.mpr ⟨lw_p69, List.forall_mem_cons.mpr ⟨lw_p70, List.forall_mem_cons.mpr ⟨lw_p71, List.forall_mem_cons.mpr ⟨lw_p72, List.forall_mem_cons.mpr ⟨lw_p73, List.forall_mem_cons.mpr ⟨lw_p74, List.forall_mem_cons.mpr ⟨lw_p75, List.forall_mem_cons.mpr ⟨lw_p76, fun _ h => absurd h List.not_mem_nil⟩⟩⟩⟩⟩⟩⟩⟩⟩⟩⟩⟩⟩
def lw_privs : List (MethodName × Nat) := lw_privs_1 ++ (lw_privs_2 ++ (lw_privs_3 ++ (lw_privs_4 ++ (lw_privs_5))))
def lw_tbl : List Cond := k2_sels lw_privs ++ tables_1
theorem lw_privs_ok : ∀ q ∈ lw_privs, lw_okq q := by
  show ∀ q ∈ lw_privs_1 ++ (lw_privs_2 ++ (lw_privs_3 ++ (lw_privs_4 ++ (lw_privs_5)))), lw_okq q
  exact List.forall_mem_append.mpr ⟨lw_r1, List.forall_mem_append.mpr ⟨lw_r2, List.forall_mem_append.mpr ⟨lw_r3, List.forall_mem_append.mpr ⟨lw_r4, lw_r5⟩⟩⟩⟩

def r_Text : String := "PatternBench$Text"
def t_Text : u_T := fun k => match k with
  | 0 => ("PatternBench$Text", "codes", "[I", true)
  | _ => ("PatternBench$Text", "length", "I", false)
def r_Program : String := "PatternBench$Program"
def t_Program : u_T := fun k => match k with
  | 0 => ("PatternBench$Program", "kind", "[I", true)
  | 1 => ("PatternBench$Program", "value", "[I", true)
  | 2 => ("PatternBench$Program", "repeat", "[I", true)
  | 3 => ("PatternBench$Program", "times", "[I", true)
  | 4 => ("PatternBench$Program", "manner", "[I", true)
  | 5 => ("PatternBench$Program", "body", "[I", true)
  | 6 => ("PatternBench$Program", "nextItem", "[I", true)
  | 7 => ("PatternBench$Program", "firstItem", "[I", true)
  | 8 => ("PatternBench$Program", "nextRow", "[I", true)
  | 9 => ("PatternBench$Program", "groupBody", "[I", true)
  | 10 => ("PatternBench$Program", "items", "I", false)
  | 11 => ("PatternBench$Program", "rows", "I", false)
  | 12 => ("PatternBench$Program", "groups", "I", false)
  | _ => ("PatternBench$Program", "size", "I", false)
def r_Reader : String := "PatternBench$Reader"
def t_Reader : u_T := fun k => match k with
  | 0 => ("PatternBench$Reader", "text", "LPatternBench$Text;", true)
  | 1 => ("PatternBench$Reader", "program", "LPatternBench$Program;", false)
  | 2 => ("PatternBench$Reader", "levelItem", "[I", true)
  | 3 => ("PatternBench$Reader", "levelRow", "[I", true)
  | 4 => ("PatternBench$Reader", "levelLast", "[I", true)
  | 5 => ("PatternBench$Reader", "levelSize", "[I", true)
  | 6 => ("PatternBench$Reader", "level", "I", false)
  | 7 => ("PatternBench$Reader", "at", "I", false)
  | 8 => ("PatternBench$Reader", "atomSize", "I", false)
  | 9 => ("PatternBench$Reader", "highestNamed", "I", false)
  | _ => ("PatternBench$Reader", "isGood", "Z", false)
def r_Frames : String := "PatternBench$Frames"
def t_Frames : u_T := fun k => match k with
  | 0 => ("PatternBench$Frames", "kind", "[I", true)
  | 1 => ("PatternBench$Frames", "item", "[I", true)
  | 2 => ("PatternBench$Frames", "mark", "[I", true)
  | 3 => ("PatternBench$Frames", "place", "[I", true)
  | 4 => ("PatternBench$Frames", "captures", "[J", true)
  | 5 => ("PatternBench$Frames", "outer", "[I", true)
  | 6 => ("PatternBench$Frames", "calls", "[I", true)
  | _ => ("PatternBench$Frames", "used", "I", false)
def r_Choices : String := "PatternBench$Choices"
def t_Choices : u_T := fun k => match k with
  | 0 => ("PatternBench$Choices", "task", "[I", true)
  | 1 => ("PatternBench$Choices", "number", "[I", true)
  | 2 => ("PatternBench$Choices", "place", "[I", true)
  | 3 => ("PatternBench$Choices", "captures", "[J", true)
  | 4 => ("PatternBench$Choices", "frame", "[I", true)
  | _ => ("PatternBench$Choices", "used", "I", false)
def r_Matcher : String := "PatternBench$Matcher"
def t_Matcher : u_T := fun k => match k with
  | 0 => ("PatternBench$Matcher", "subject", "LPatternBench$Text;", true)
  | 1 => ("PatternBench$Matcher", "program", "LPatternBench$Program;", false)
  | 2 => ("PatternBench$Matcher", "limit", "I", true)
  | 3 => ("PatternBench$Matcher", "frames", "LPatternBench$Frames;", true)
  | 4 => ("PatternBench$Matcher", "choices", "LPatternBench$Choices;", true)
  | 5 => ("PatternBench$Matcher", "task", "I", false)
  | 6 => ("PatternBench$Matcher", "number", "I", false)
  | 7 => ("PatternBench$Matcher", "frame", "I", false)
  | 8 => ("PatternBench$Matcher", "place", "I", false)
  | 9 => ("PatternBench$Matcher", "captures", "J", false)
  | _ => ("PatternBench$Matcher", "taken", "I", false)
def r_Bench : String := "PatternBench"
def t_Bench : u_T := fun k => match k with
  | 0 => ("PatternBench", "reader", "LPatternBench$Reader;", true)
  | 1 => ("PatternBench", "matcher", "LPatternBench$Matcher;", true)
  | 2 => ("PatternBench", "isReady", "Z", false)
  | 3 => ("PatternBench", "isMatched", "Z", false)
  | 4 => ("PatternBench", "matchStart", "I", false)
  | 5 => ("PatternBench", "matchEnd", "I", false)
  | 6 => ("PatternBench", "matchCaptures", "J", false)
  | _ => ("PatternBench", "lastSteps", "I", false)
def r_Captures : String := "PatternBench$Captures"
abbrev mmCl : List vw_C := [(r_Text, t_Text, 2), (r_Program, t_Program, 14), (r_Reader, t_Reader, 11), (r_Frames, t_Frames, 8), (r_Choices, t_Choices, 6), (r_Matcher, t_Matcher, 11), (r_Bench, t_Bench, 8)]
abbrev c_Bench_init : ByteArray := prog_1_method_1_code
def y_Bench_init : MethodName := ⟨r_Bench, "<init>", "(I)V"⟩
abbrev c_Reader_init : ByteArray := prog_7_method_1_code
def y_Reader_init : MethodName := ⟨r_Reader, "<init>", "()V"⟩
abbrev c_Text_init : ByteArray := prog_8_method_1_code
def y_Text_init : MethodName := ⟨r_Text, "<init>", "(I)V"⟩
abbrev c_Program_init : ByteArray := prog_6_method_1_code
def y_Program_init : MethodName := ⟨r_Program, "<init>", "()V"⟩
abbrev c_Matcher_init : ByteArray := prog_5_method_1_code
def y_Matcher_init : MethodName := ⟨r_Matcher, "<init>", "(I)V"⟩
abbrev c_Frames_init : ByteArray := prog_4_method_1_code
def y_Frames_init : MethodName := ⟨r_Frames, "<init>", "(I)V"⟩
abbrev c_Choices_init : ByteArray := prog_3_method_1_code
def y_Choices_init : MethodName := ⟨r_Choices, "<init>", "(I)V"⟩
abbrev c_Bench_write : ByteArray := prog_1_method_2_code
def y_Bench_write : MethodName := ⟨r_Bench, "write", "(I)I"⟩
abbrev c_Bench_mayStandInPattern : ByteArray := prog_1_method_17_code
def y_Bench_mayStandInPattern : MethodName := ⟨r_Bench, "mayStandInPattern", "(I)Z"⟩
abbrev c_Bench_isLetter : ByteArray := prog_1_method_15_code
def y_Bench_isLetter : MethodName := ⟨r_Bench, "isLetter", "(I)Z"⟩
abbrev c_Bench_isDigit : ByteArray := prog_1_method_16_code
def y_Bench_isDigit : MethodName := ⟨r_Bench, "isDigit", "(I)Z"⟩
abbrev c_Text_isFull : ByteArray := prog_8_method_2_code
def y_Text_isFull : MethodName := ⟨r_Text, "isFull", "()Z"⟩
abbrev c_Text_add : ByteArray := prog_8_method_3_code
def y_Text_add : MethodName := ⟨r_Text, "add", "(I)I"⟩
abbrev c_Bench_compile : ByteArray := prog_1_method_3_code
def y_Bench_compile : MethodName := ⟨r_Bench, "compile", "()I"⟩
abbrev c_Reader_read : ByteArray := prog_7_method_2_code
def y_Reader_read : MethodName := ⟨r_Reader, "read", "()Z"⟩
abbrev c_Program_empty : ByteArray := prog_6_method_2_code
def y_Program_empty : MethodName := ⟨r_Program, "empty", "()V"⟩
abbrev c_Reader_openLevel : ByteArray := prog_7_method_6_code
def y_Reader_openLevel : MethodName := ⟨r_Reader, "openLevel", "(II)V"⟩
abbrev c_Program_addRow : ByteArray := prog_6_method_3_code
def y_Program_addRow : MethodName := ⟨r_Program, "addRow", "()I"⟩
abbrev c_Reader_readPart : ByteArray := prog_7_method_3_code
def y_Reader_readPart : MethodName := ⟨r_Reader, "readPart", "()I"⟩
abbrev c_Reader_ahead : ByteArray := prog_7_method_4_code
def y_Reader_ahead : MethodName := ⟨r_Reader, "ahead", "(I)I"⟩
abbrev c_Text_codeAt : ByteArray := prog_8_method_4_code
def y_Text_codeAt : MethodName := ⟨r_Text, "codeAt", "(I)I"⟩
abbrev c_Reader_openNextRow : ByteArray := prog_7_method_7_code
def y_Reader_openNextRow : MethodName := ⟨r_Reader, "openNextRow", "()I"⟩
abbrev c_Reader_closeChoice : ByteArray := prog_7_method_10_code
def y_Reader_closeChoice : MethodName := ⟨r_Reader, "closeChoice", "()I"⟩
abbrev c_Reader_refuse : ByteArray := prog_7_method_5_code
def y_Reader_refuse : MethodName := ⟨r_Reader, "refuse", "()I"⟩
abbrev c_Reader_readCall : ByteArray := prog_7_method_11_code
def y_Reader_readCall : MethodName := ⟨r_Reader, "readCall", "()I"⟩
abbrev c_Reader_appendItem : ByteArray := prog_7_method_17_code
def y_Reader_appendItem : MethodName := ⟨r_Reader, "appendItem", "(II)I"⟩
abbrev c_Program_addItem : ByteArray := prog_6_method_4_code
def y_Program_addItem : MethodName := ⟨r_Program, "addItem", "(II)I"⟩
abbrev c_Reader_openChoice : ByteArray := prog_7_method_8_code
def y_Reader_openChoice : MethodName := ⟨r_Reader, "openChoice", "()I"⟩
abbrev c_Reader_kindOfChoice : ByteArray := prog_7_method_9_code
def y_Reader_kindOfChoice : MethodName := ⟨r_Reader, "kindOfChoice", "()I"⟩
abbrev c_Reader_readClass : ByteArray := prog_7_method_14_code
def y_Reader_readClass : MethodName := ⟨r_Reader, "readClass", "()I"⟩
abbrev c_Reader_readClassPart : ByteArray := prog_7_method_15_code
def y_Reader_readClassPart : MethodName := ⟨r_Reader, "readClassPart", "()I"⟩
abbrev c_Reader_lettersBetween : ByteArray := prog_7_method_16_code
def y_Reader_lettersBetween : MethodName := ⟨r_Reader, "lettersBetween", "(II)I"⟩
abbrev c_Reader_readReference : ByteArray := prog_7_method_12_code
def y_Reader_readReference : MethodName := ⟨r_Reader, "readReference", "()I"⟩
abbrev c_Reader_readSign : ByteArray := prog_7_method_13_code
def y_Reader_readSign : MethodName := ⟨r_Reader, "readSign", "()I"⟩
abbrev c_Reader_readRepeat : ByteArray := prog_7_method_18_code
def y_Reader_readRepeat : MethodName := ⟨r_Reader, "readRepeat", "(I)V"⟩
abbrev c_Reader_setRepeat : ByteArray := prog_7_method_20_code
def y_Reader_setRepeat : MethodName := ⟨r_Reader, "setRepeat", "(IIII)V"⟩
abbrev c_Reader_readTimes : ByteArray := prog_7_method_19_code
def y_Reader_readTimes : MethodName := ⟨r_Reader, "readTimes", "(I)V"⟩
abbrev c_Bench_feed : ByteArray := prog_1_method_4_code
def y_Bench_feed : MethodName := ⟨r_Bench, "feed", "(I)I"⟩
abbrev c_Bench_clear : ByteArray := prog_1_method_5_code
def y_Bench_clear : MethodName := ⟨r_Bench, "clear", "()I"⟩
abbrev c_Bench_search : ByteArray := prog_1_method_6_code
def y_Bench_search : MethodName := ⟨r_Bench, "search", "(I)I"⟩
abbrev c_Bench_searchFrom : ByteArray := prog_1_method_13_code
def y_Bench_searchFrom : MethodName := ⟨r_Bench, "searchFrom", "(I)I"⟩
abbrev c_Matcher_find : ByteArray := prog_5_method_2_code
def y_Matcher_find : MethodName := ⟨r_Matcher, "find", "(I)I"⟩
abbrev c_Matcher_beginAt : ByteArray := prog_5_method_3_code
def y_Matcher_beginAt : MethodName := ⟨r_Matcher, "beginAt", "(I)V"⟩
abbrev c_Frames_empty : ByteArray := prog_4_method_2_code
def y_Frames_empty : MethodName := ⟨r_Frames, "empty", "()V"⟩
abbrev c_Choices_cutTo : ByteArray := prog_3_method_4_code
def y_Choices_cutTo : MethodName := ⟨r_Choices, "cutTo", "(I)V"⟩
abbrev c_Matcher_go : ByteArray := prog_5_method_5_code
def y_Matcher_go : MethodName := ⟨r_Matcher, "go", "(II)V"⟩
abbrev c_Matcher_goesOn : ByteArray := prog_5_method_4_code
def y_Matcher_goesOn : MethodName := ⟨r_Matcher, "goesOn", "()Z"⟩
abbrev c_Frames_hasRoom : ByteArray := prog_4_method_3_code
def y_Frames_hasRoom : MethodName := ⟨r_Frames, "hasRoom", "(I)Z"⟩
abbrev c_Choices_hasRoom : ByteArray := prog_3_method_2_code
def y_Choices_hasRoom : MethodName := ⟨r_Choices, "hasRoom", "(I)Z"⟩
abbrev c_Matcher_takeTurn : ByteArray := prog_5_method_6_code
def y_Matcher_takeTurn : MethodName := ⟨r_Matcher, "takeTurn", "()V"⟩
abbrev c_Matcher_enterRow : ByteArray := prog_5_method_7_code
def y_Matcher_enterRow : MethodName := ⟨r_Matcher, "enterRow", "(I)V"⟩
abbrev c_Choices_add : ByteArray := prog_3_method_3_code
def y_Choices_add : MethodName := ⟨r_Choices, "add", "(IIIJI)V"⟩
abbrev c_Matcher_enterItem : ByteArray := prog_5_method_8_code
def y_Matcher_enterItem : MethodName := ⟨r_Matcher, "enterItem", "(I)V"⟩
abbrev c_Frames_add : ByteArray := prog_4_method_4_code
def y_Frames_add : MethodName := ⟨r_Frames, "add", "(IIIIJI)I"⟩
abbrev c_Matcher_fork : ByteArray := prog_5_method_9_code
def y_Matcher_fork : MethodName := ⟨r_Matcher, "fork", "(I)V"⟩
abbrev c_Matcher_tryAtom : ByteArray := prog_5_method_10_code
def y_Matcher_tryAtom : MethodName := ⟨r_Matcher, "tryAtom", "(I)V"⟩
abbrev c_Matcher_ask : ByteArray := prog_5_method_14_code
def y_Matcher_ask : MethodName := ⟨r_Matcher, "ask", "(I)V"⟩
abbrev c_Matcher_askLetter : ByteArray := prog_5_method_15_code
def y_Matcher_askLetter : MethodName := ⟨r_Matcher, "askLetter", "(I)V"⟩
abbrev c_Matcher_askSame : ByteArray := prog_5_method_16_code
def y_Matcher_askSame : MethodName := ⟨r_Matcher, "askSame", "(I)V"⟩
abbrev c_Captures_from : ByteArray := prog_2_method_3_code
def y_Captures_from : MethodName := ⟨r_Captures, "from", "(JI)I"⟩
abbrev c_Captures_to : ByteArray := prog_2_method_4_code
def y_Captures_to : MethodName := ⟨r_Captures, "to", "(JI)I"⟩
abbrev c_Matcher_standsHere : ByteArray := prog_5_method_17_code
def y_Matcher_standsHere : MethodName := ⟨r_Matcher, "standsHere", "(II)Z"⟩
abbrev c_Matcher_askCall : ByteArray := prog_5_method_18_code
def y_Matcher_askCall : MethodName := ⟨r_Matcher, "askCall", "(I)V"⟩
abbrev c_Matcher_askBody : ByteArray := prog_5_method_19_code
def y_Matcher_askBody : MethodName := ⟨r_Matcher, "askBody", "(I)V"⟩
abbrev c_Matcher_goAfterAtom : ByteArray := prog_5_method_11_code
def y_Matcher_goAfterAtom : MethodName := ⟨r_Matcher, "goAfterAtom", "(I)V"⟩
abbrev c_Matcher_goAfterItem : ByteArray := prog_5_method_12_code
def y_Matcher_goAfterItem : MethodName := ⟨r_Matcher, "goAfterItem", "(I)V"⟩
abbrev c_Matcher_resume : ByteArray := prog_5_method_20_code
def y_Matcher_resume : MethodName := ⟨r_Matcher, "resume", "(I)V"⟩
abbrev c_Matcher_leaveBody : ByteArray := prog_5_method_22_code
def y_Matcher_leaveBody : MethodName := ⟨r_Matcher, "leaveBody", "(II)V"⟩
abbrev c_Captures_with : ByteArray := prog_2_method_2_code
def y_Captures_with : MethodName := ⟨r_Captures, "with", "(JIII)J"⟩
abbrev c_Matcher_leaveTimesTurn : ByteArray := prog_5_method_21_code
def y_Matcher_leaveTimesTurn : MethodName := ⟨r_Matcher, "leaveTimesTurn", "(II)V"⟩
abbrev c_Matcher_takeChoice : ByteArray := prog_5_method_13_code
def y_Matcher_takeChoice : MethodName := ⟨r_Matcher, "takeChoice", "()V"⟩
abbrev c_Bench_again : ByteArray := prog_1_method_7_code
def y_Bench_again : MethodName := ⟨r_Bench, "again", "()I"⟩
abbrev c_Bench_placeBehindMatch : ByteArray := prog_1_method_14_code
def y_Bench_placeBehindMatch : MethodName := ⟨r_Bench, "placeBehindMatch", "()I"⟩
abbrev c_Bench_start : ByteArray := prog_1_method_8_code
def y_Bench_start : MethodName := ⟨r_Bench, "start", "(I)I"⟩
abbrev c_Bench_end : ByteArray := prog_1_method_9_code
def y_Bench_end : MethodName := ⟨r_Bench, "end", "(I)I"⟩
abbrev c_Bench_steps : ByteArray := prog_1_method_10_code
def y_Bench_steps : MethodName := ⟨r_Bench, "steps", "()I"⟩
abbrev c_Bench_matches : ByteArray := prog_1_method_11_code
def y_Bench_matches : MethodName := ⟨r_Bench, "matches", "()I"⟩
abbrev c_Bench_count : ByteArray := prog_1_method_12_code
def y_Bench_count : MethodName := ⟨r_Bench, "count", "(I)I"⟩
end
section
/-! the words of the tables that a callee may take over, and the nest's -/
def mm_good (w : Cond) : Bool := (w.onTables && w.keeps) || (match w with
  | .arrayClass _ => true
  | _ => false)
def mm_T : List Cond := lw_tbl.filter mm_good
def mm_nest (w : Cond) : Bool := match w with
  | .fieldLinkNest .. => true
  | .methodLinkNest .. => true
  | _ => false
def mm_N : List Cond := lw_tbl.filter mm_nest
theorem tw_of {i : Nat} {w : Cond} (h : tables_1[i]? = some w) (hg : mm_good w = true) : w ∈ mm_T := List.mem_filter.mpr ⟨List.mem_append_right _ (List.mem_of_getElem? h), hg⟩
theorem tw_n {i : Nat} {w : Cond} (h : tables_1[i]? = some w) (hg : mm_nest w = true) : w ∈ mm_N := List.mem_filter.mpr ⟨List.mem_append_right _ (List.mem_of_getElem? h), hg⟩
theorem tw_s {i : Nat} {q : MethodName × Nat} (h : lw_privs[i]? = some q) : Cond.selects q.1.cls q.1 q.1 ∈ mm_T := List.mem_filter.mpr ⟨List.mem_append_left _ (List.mem_map.mpr ⟨q, List.mem_of_getElem? h, rfl⟩), rfl⟩
theorem tw_0 : (Jvm.Cond.initialized "PatternBenchLaw") ∈ mm_T := tw_of (i := 0) (by decide +kernel) rfl
theorem tw_1 : (Jvm.Cond.initialized "PatternBench") ∈ mm_T := tw_of (i := 1) (by decide +kernel) rfl
theorem tw_2 : (Jvm.Cond.initialized "PatternBench$Reader") ∈ mm_T := tw_of (i := 2) (by decide +kernel) rfl
theorem tw_3 : (Jvm.Cond.initialized "PatternBench$Text") ∈ mm_T := tw_of (i := 3) (by decide +kernel) rfl
theorem tw_4 : (Jvm.Cond.initialized "PatternBench$Program") ∈ mm_T := tw_of (i := 4) (by decide +kernel) rfl
theorem tw_5 : (Jvm.Cond.initialized "PatternBench$Matcher") ∈ mm_T := tw_of (i := 5) (by decide +kernel) rfl
theorem tw_6 : (Jvm.Cond.initialized "java/lang/Math") ∈ mm_T := tw_of (i := 6) (by decide +kernel) rfl
theorem tw_7 : (Jvm.Cond.initialized "PatternBench$Frames") ∈ mm_T := tw_of (i := 7) (by decide +kernel) rfl
theorem tw_8 : (Jvm.Cond.initialized "PatternBench$Choices") ∈ mm_T := tw_of (i := 8) (by decide +kernel) rfl
theorem tw_10 : (Jvm.Cond.initialized "java/lang/String") ∈ mm_T := tw_of (i := 10) (by decide +kernel) rfl
theorem tw_11 : (Jvm.Cond.initialized "java/lang/StringLatin1") ∈ mm_T := tw_of (i := 11) (by decide +kernel) rfl
theorem tw_12 : (Jvm.Cond.initialized "java/lang/StringUTF16") ∈ mm_T := tw_of (i := 12) (by decide +kernel) rfl
theorem tw_13 : (Jvm.Cond.initialized "jdk/internal/util/Preconditions") ∈ mm_T := tw_of (i := 13) (by decide +kernel) rfl
theorem tw_14 : (Jvm.Cond.initialized "java/lang/Character") ∈ mm_T := tw_of (i := 14) (by decide +kernel) rfl
theorem tw_15 : (Jvm.Cond.initialized "PatternBench$Captures") ∈ mm_T := tw_of (i := 15) (by decide +kernel) rfl
theorem tw_16 : (Jvm.Cond.classLink "PatternBenchLaw" (7 : Nat) "PatternBench") ∈ mm_T := tw_of (i := 16) (by decide +kernel) rfl
theorem tw_17 : (Jvm.Cond.instantiable "PatternBench" (8 : Nat)) ∈ mm_T := tw_of (i := 17) (by decide +kernel) rfl
theorem tw_18 : (Jvm.Cond.methodLink "PatternBenchLaw" (15 : Nat) ({ cls := "PatternBench", name := "<init>", desc := "(I)V" } : Jvm.MethodName)) ∈ mm_T := tw_of (i := 18) (by decide +kernel) rfl
theorem tw_19 : (Jvm.Cond.instanceMethod ({ cls := "PatternBench", name := "<init>", desc := "(I)V" } : Jvm.MethodName)) ∈ mm_T := tw_of (i := 19) (by decide +kernel) rfl
theorem tw_20 : (Jvm.Cond.code ({ cls := "PatternBench", name := "<init>", desc := "(I)V" } : Jvm.MethodName) prog_1_method_1_code (2 : Nat) (Option.none : Option Jvm.ClassFile.FieldType)) ∈ mm_T := tw_of (i := 20) (by decide +kernel) rfl
theorem tw_21 : (Jvm.Cond.methodLink "PatternBench" (1 : Nat) ({ cls := "java/lang/Object", name := "<init>", desc := "()V" } : Jvm.MethodName)) ∈ mm_T := tw_of (i := 21) (by decide +kernel) rfl
theorem tw_22 : (Jvm.Cond.instanceMethod ({ cls := "java/lang/Object", name := "<init>", desc := "()V" } : Jvm.MethodName)) ∈ mm_T := tw_of (i := 22) (by decide +kernel) rfl
theorem tw_23 : (Jvm.Cond.code ({ cls := "java/lang/Object", name := "<init>", desc := "()V" } : Jvm.MethodName) object_method_1_code (1 : Nat) (Option.none : Option Jvm.ClassFile.FieldType)) ∈ mm_T := tw_of (i := 23) (by decide +kernel) rfl
theorem tw_24 : (Jvm.Cond.classLink "PatternBench" (7 : Nat) "PatternBench$Reader") ∈ mm_T := tw_of (i := 24) (by decide +kernel) rfl
theorem tw_25 : (Jvm.Cond.instantiable "PatternBench$Reader" (11 : Nat)) ∈ mm_T := tw_of (i := 25) (by decide +kernel) rfl
theorem tw_26 : (Jvm.Cond.methodLinkNest "PatternBench" (9 : Nat) ({ cls := "PatternBench$Reader", name := "<init>", desc := "()V" } : Jvm.MethodName) "PatternBench") ∈ mm_N := tw_n (i := 26) (by decide +kernel) rfl
theorem tw_27 : (Jvm.Cond.instanceMethod ({ cls := "PatternBench$Reader", name := "<init>", desc := "()V" } : Jvm.MethodName)) ∈ mm_T := tw_of (i := 27) (by decide +kernel) rfl
theorem tw_28 : (Jvm.Cond.code ({ cls := "PatternBench$Reader", name := "<init>", desc := "()V" } : Jvm.MethodName) prog_7_method_1_code (1 : Nat) (Option.none : Option Jvm.ClassFile.FieldType)) ∈ mm_T := tw_of (i := 28) (by decide +kernel) rfl
theorem tw_29 : (Jvm.Cond.methodLink "PatternBench$Reader" (3 : Nat) ({ cls := "java/lang/Object", name := "<init>", desc := "()V" } : Jvm.MethodName)) ∈ mm_T := tw_of (i := 29) (by decide +kernel) rfl
theorem tw_30 : (Jvm.Cond.classLink "PatternBench$Reader" (9 : Nat) "PatternBench$Text") ∈ mm_T := tw_of (i := 30) (by decide +kernel) rfl
theorem tw_31 : (Jvm.Cond.instantiable "PatternBench$Text" (2 : Nat)) ∈ mm_T := tw_of (i := 31) (by decide +kernel) rfl
theorem tw_32 : (Jvm.Cond.methodLink "PatternBench$Reader" (11 : Nat) ({ cls := "PatternBench$Text", name := "<init>", desc := "(I)V" } : Jvm.MethodName)) ∈ mm_T := tw_of (i := 32) (by decide +kernel) rfl
theorem tw_33 : (Jvm.Cond.instanceMethod ({ cls := "PatternBench$Text", name := "<init>", desc := "(I)V" } : Jvm.MethodName)) ∈ mm_T := tw_of (i := 33) (by decide +kernel) rfl
theorem tw_34 : (Jvm.Cond.code ({ cls := "PatternBench$Text", name := "<init>", desc := "(I)V" } : Jvm.MethodName) prog_8_method_1_code (2 : Nat) (Option.none : Option Jvm.ClassFile.FieldType)) ∈ mm_T := tw_of (i := 34) (by decide +kernel) rfl
theorem tw_35 : (Jvm.Cond.methodLink "PatternBench$Text" (3 : Nat) ({ cls := "java/lang/Object", name := "<init>", desc := "()V" } : Jvm.MethodName)) ∈ mm_T := tw_of (i := 35) (by decide +kernel) rfl
theorem tw_36 : (Jvm.Cond.fieldLink "PatternBench$Text" (15 : Nat) "PatternBench$Text" "codes" "[I") ∈ mm_T := tw_of (i := 36) (by decide +kernel) rfl
theorem tw_37 : (Jvm.Cond.fieldLink "PatternBench$Matcher" (181 : Nat) "PatternBench$Text" "codes" "[I") ∈ mm_T := tw_of (i := 37) (by decide +kernel) rfl
theorem tw_38 : (Jvm.Cond.fieldLink "PatternBench$Text" (9 : Nat) "PatternBench$Text" "length" "I") ∈ mm_T := tw_of (i := 38) (by decide +kernel) rfl
theorem tw_39 : (Jvm.Cond.fieldLink "PatternBench$Matcher" (64 : Nat) "PatternBench$Text" "length" "I") ∈ mm_T := tw_of (i := 39) (by decide +kernel) rfl
theorem tw_40 : (Jvm.Cond.fieldLink "PatternBench$Reader" (67 : Nat) "PatternBench$Text" "length" "I") ∈ mm_T := tw_of (i := 40) (by decide +kernel) rfl
theorem tw_41 : (Jvm.Cond.fieldLink "PatternBench" (76 : Nat) "PatternBench$Text" "length" "I") ∈ mm_T := tw_of (i := 41) (by decide +kernel) rfl
theorem tw_42 : (Jvm.Cond.laysFinal "PatternBench$Text" "PatternBench$Text" "codes" "[I") ∈ mm_T := tw_of (i := 42) (by decide +kernel) rfl
theorem tw_44 : (Jvm.Cond.lays "PatternBench$Text" "PatternBench$Text" "length" "I") ∈ mm_T := tw_of (i := 44) (by decide +kernel) rfl
theorem tw_47 : (Jvm.Cond.arrayClass Jvm.ClassFile.FieldType.int) ∈ mm_T := tw_of (i := 47) (by decide +kernel) rfl
theorem tw_48 : (Jvm.Cond.classLink "PatternBench$Reader" (20 : Nat) "PatternBench$Program") ∈ mm_T := tw_of (i := 48) (by decide +kernel) rfl
theorem tw_49 : (Jvm.Cond.instantiable "PatternBench$Program" (14 : Nat)) ∈ mm_T := tw_of (i := 49) (by decide +kernel) rfl
theorem tw_50 : (Jvm.Cond.methodLinkNest "PatternBench$Reader" (22 : Nat) ({ cls := "PatternBench$Program", name := "<init>", desc := "()V" } : Jvm.MethodName) "PatternBench") ∈ mm_N := tw_n (i := 50) (by decide +kernel) rfl
theorem tw_51 : (Jvm.Cond.instanceMethod ({ cls := "PatternBench$Program", name := "<init>", desc := "()V" } : Jvm.MethodName)) ∈ mm_T := tw_of (i := 51) (by decide +kernel) rfl
theorem tw_52 : (Jvm.Cond.code ({ cls := "PatternBench$Program", name := "<init>", desc := "()V" } : Jvm.MethodName) prog_6_method_1_code (1 : Nat) (Option.none : Option Jvm.ClassFile.FieldType)) ∈ mm_T := tw_of (i := 52) (by decide +kernel) rfl
theorem tw_53 : (Jvm.Cond.methodLink "PatternBench$Program" (3 : Nat) ({ cls := "java/lang/Object", name := "<init>", desc := "()V" } : Jvm.MethodName)) ∈ mm_T := tw_of (i := 53) (by decide +kernel) rfl
theorem tw_54 : (Jvm.Cond.fieldLink "PatternBench$Program" (9 : Nat) "PatternBench$Program" "kind" "[I") ∈ mm_T := tw_of (i := 54) (by decide +kernel) rfl
theorem tw_55 : (Jvm.Cond.fieldLink "PatternBench$Matcher" (163 : Nat) "PatternBench$Program" "kind" "[I") ∈ mm_T := tw_of (i := 55) (by decide +kernel) rfl
theorem tw_56 : (Jvm.Cond.fieldLink "PatternBench$Program" (15 : Nat) "PatternBench$Program" "value" "[I") ∈ mm_T := tw_of (i := 56) (by decide +kernel) rfl
theorem tw_57 : (Jvm.Cond.fieldLink "PatternBench$Matcher" (169 : Nat) "PatternBench$Program" "value" "[I") ∈ mm_T := tw_of (i := 57) (by decide +kernel) rfl
theorem tw_58 : (Jvm.Cond.fieldLink "PatternBench$Program" (18 : Nat) "PatternBench$Program" "repeat" "[I") ∈ mm_T := tw_of (i := 58) (by decide +kernel) rfl
theorem tw_59 : (Jvm.Cond.fieldLink "PatternBench$Matcher" (131 : Nat) "PatternBench$Program" "repeat" "[I") ∈ mm_T := tw_of (i := 59) (by decide +kernel) rfl
theorem tw_60 : (Jvm.Cond.fieldLink "PatternBench$Reader" (168 : Nat) "PatternBench$Program" "repeat" "[I") ∈ mm_T := tw_of (i := 60) (by decide +kernel) rfl
theorem tw_61 : (Jvm.Cond.fieldLink "PatternBench$Program" (21 : Nat) "PatternBench$Program" "times" "[I") ∈ mm_T := tw_of (i := 61) (by decide +kernel) rfl
theorem tw_62 : (Jvm.Cond.fieldLink "PatternBench$Matcher" (149 : Nat) "PatternBench$Program" "times" "[I") ∈ mm_T := tw_of (i := 62) (by decide +kernel) rfl
theorem tw_63 : (Jvm.Cond.fieldLink "PatternBench$Reader" (165 : Nat) "PatternBench$Program" "times" "[I") ∈ mm_T := tw_of (i := 63) (by decide +kernel) rfl
theorem tw_64 : (Jvm.Cond.fieldLink "PatternBench$Program" (24 : Nat) "PatternBench$Program" "manner" "[I") ∈ mm_T := tw_of (i := 64) (by decide +kernel) rfl
theorem tw_65 : (Jvm.Cond.fieldLink "PatternBench$Matcher" (137 : Nat) "PatternBench$Program" "manner" "[I") ∈ mm_T := tw_of (i := 65) (by decide +kernel) rfl
theorem tw_66 : (Jvm.Cond.fieldLink "PatternBench$Reader" (171 : Nat) "PatternBench$Program" "manner" "[I") ∈ mm_T := tw_of (i := 66) (by decide +kernel) rfl
theorem tw_67 : (Jvm.Cond.fieldLink "PatternBench$Program" (27 : Nat) "PatternBench$Program" "body" "[I") ∈ mm_T := tw_of (i := 67) (by decide +kernel) rfl
theorem tw_68 : (Jvm.Cond.fieldLink "PatternBench$Reader" (131 : Nat) "PatternBench$Program" "body" "[I") ∈ mm_T := tw_of (i := 68) (by decide +kernel) rfl
theorem tw_69 : (Jvm.Cond.fieldLink "PatternBench$Matcher" (200 : Nat) "PatternBench$Program" "body" "[I") ∈ mm_T := tw_of (i := 69) (by decide +kernel) rfl
theorem tw_70 : (Jvm.Cond.fieldLink "PatternBench$Program" (30 : Nat) "PatternBench$Program" "nextItem" "[I") ∈ mm_T := tw_of (i := 70) (by decide +kernel) rfl
theorem tw_71 : (Jvm.Cond.fieldLink "PatternBench$Matcher" (134 : Nat) "PatternBench$Program" "nextItem" "[I") ∈ mm_T := tw_of (i := 71) (by decide +kernel) rfl
theorem tw_72 : (Jvm.Cond.fieldLink "PatternBench$Reader" (155 : Nat) "PatternBench$Program" "nextItem" "[I") ∈ mm_T := tw_of (i := 72) (by decide +kernel) rfl
theorem tw_73 : (Jvm.Cond.fieldLink "PatternBench$Program" (33 : Nat) "PatternBench$Program" "firstItem" "[I") ∈ mm_T := tw_of (i := 73) (by decide +kernel) rfl
theorem tw_74 : (Jvm.Cond.fieldLink "PatternBench$Matcher" (128 : Nat) "PatternBench$Program" "firstItem" "[I") ∈ mm_T := tw_of (i := 74) (by decide +kernel) rfl
theorem tw_75 : (Jvm.Cond.fieldLink "PatternBench$Reader" (152 : Nat) "PatternBench$Program" "firstItem" "[I") ∈ mm_T := tw_of (i := 75) (by decide +kernel) rfl
theorem tw_76 : (Jvm.Cond.fieldLink "PatternBench$Program" (36 : Nat) "PatternBench$Program" "nextRow" "[I") ∈ mm_T := tw_of (i := 76) (by decide +kernel) rfl
theorem tw_77 : (Jvm.Cond.fieldLink "PatternBench$Matcher" (121 : Nat) "PatternBench$Program" "nextRow" "[I") ∈ mm_T := tw_of (i := 77) (by decide +kernel) rfl
theorem tw_78 : (Jvm.Cond.fieldLink "PatternBench$Reader" (118 : Nat) "PatternBench$Program" "nextRow" "[I") ∈ mm_T := tw_of (i := 78) (by decide +kernel) rfl
theorem tw_79 : (Jvm.Cond.fieldLink "PatternBench$Program" (39 : Nat) "PatternBench$Program" "groupBody" "[I") ∈ mm_T := tw_of (i := 79) (by decide +kernel) rfl
theorem tw_80 : (Jvm.Cond.fieldLink "PatternBench$Reader" (64 : Nat) "PatternBench$Program" "groupBody" "[I") ∈ mm_T := tw_of (i := 80) (by decide +kernel) rfl
theorem tw_81 : (Jvm.Cond.fieldLink "PatternBench$Matcher" (84 : Nat) "PatternBench$Program" "groupBody" "[I") ∈ mm_T := tw_of (i := 81) (by decide +kernel) rfl
theorem tw_82 : (Jvm.Cond.fieldLink "PatternBench$Program" (42 : Nat) "PatternBench$Program" "items" "I") ∈ mm_T := tw_of (i := 82) (by decide +kernel) rfl
theorem tw_83 : (Jvm.Cond.fieldLink "PatternBench$Program" (46 : Nat) "PatternBench$Program" "rows" "I") ∈ mm_T := tw_of (i := 83) (by decide +kernel) rfl
theorem tw_84 : (Jvm.Cond.fieldLink "PatternBench$Program" (49 : Nat) "PatternBench$Program" "groups" "I") ∈ mm_T := tw_of (i := 84) (by decide +kernel) rfl
theorem tw_85 : (Jvm.Cond.fieldLink "PatternBench$Reader" (80 : Nat) "PatternBench$Program" "groups" "I") ∈ mm_T := tw_of (i := 85) (by decide +kernel) rfl
theorem tw_86 : (Jvm.Cond.fieldLink "PatternBench" (89 : Nat) "PatternBench$Program" "groups" "I") ∈ mm_T := tw_of (i := 86) (by decide +kernel) rfl
theorem tw_87 : (Jvm.Cond.fieldLink "PatternBench$Program" (52 : Nat) "PatternBench$Program" "size" "I") ∈ mm_T := tw_of (i := 87) (by decide +kernel) rfl
theorem tw_88 : (Jvm.Cond.fieldLink "PatternBench$Reader" (77 : Nat) "PatternBench$Program" "size" "I") ∈ mm_T := tw_of (i := 88) (by decide +kernel) rfl
theorem tw_89 : (Jvm.Cond.fieldLink "PatternBench" (83 : Nat) "PatternBench$Program" "size" "I") ∈ mm_T := tw_of (i := 89) (by decide +kernel) rfl
theorem tw_90 : (Jvm.Cond.laysFinal "PatternBench$Program" "PatternBench$Program" "kind" "[I") ∈ mm_T := tw_of (i := 90) (by decide +kernel) rfl
theorem tw_92 : (Jvm.Cond.laysFinal "PatternBench$Program" "PatternBench$Program" "value" "[I") ∈ mm_T := tw_of (i := 92) (by decide +kernel) rfl
theorem tw_94 : (Jvm.Cond.laysFinal "PatternBench$Program" "PatternBench$Program" "repeat" "[I") ∈ mm_T := tw_of (i := 94) (by decide +kernel) rfl
theorem tw_96 : (Jvm.Cond.laysFinal "PatternBench$Program" "PatternBench$Program" "times" "[I") ∈ mm_T := tw_of (i := 96) (by decide +kernel) rfl
theorem tw_98 : (Jvm.Cond.laysFinal "PatternBench$Program" "PatternBench$Program" "manner" "[I") ∈ mm_T := tw_of (i := 98) (by decide +kernel) rfl
theorem tw_100 : (Jvm.Cond.laysFinal "PatternBench$Program" "PatternBench$Program" "body" "[I") ∈ mm_T := tw_of (i := 100) (by decide +kernel) rfl
theorem tw_102 : (Jvm.Cond.laysFinal "PatternBench$Program" "PatternBench$Program" "nextItem" "[I") ∈ mm_T := tw_of (i := 102) (by decide +kernel) rfl
theorem tw_104 : (Jvm.Cond.laysFinal "PatternBench$Program" "PatternBench$Program" "firstItem" "[I") ∈ mm_T := tw_of (i := 104) (by decide +kernel) rfl
theorem tw_106 : (Jvm.Cond.laysFinal "PatternBench$Program" "PatternBench$Program" "nextRow" "[I") ∈ mm_T := tw_of (i := 106) (by decide +kernel) rfl
theorem tw_108 : (Jvm.Cond.laysFinal "PatternBench$Program" "PatternBench$Program" "groupBody" "[I") ∈ mm_T := tw_of (i := 108) (by decide +kernel) rfl
theorem tw_110 : (Jvm.Cond.lays "PatternBench$Program" "PatternBench$Program" "items" "I") ∈ mm_T := tw_of (i := 110) (by decide +kernel) rfl
theorem tw_112 : (Jvm.Cond.lays "PatternBench$Program" "PatternBench$Program" "rows" "I") ∈ mm_T := tw_of (i := 112) (by decide +kernel) rfl
theorem tw_114 : (Jvm.Cond.lays "PatternBench$Program" "PatternBench$Program" "groups" "I") ∈ mm_T := tw_of (i := 114) (by decide +kernel) rfl
theorem tw_116 : (Jvm.Cond.lays "PatternBench$Program" "PatternBench$Program" "size" "I") ∈ mm_T := tw_of (i := 116) (by decide +kernel) rfl
theorem tw_119 : (Jvm.Cond.fieldLink "PatternBench$Reader" (14 : Nat) "PatternBench$Reader" "text" "LPatternBench$Text;") ∈ mm_T := tw_of (i := 119) (by decide +kernel) rfl
theorem tw_120 : (Jvm.Cond.fieldLink "PatternBench" (59 : Nat) "PatternBench$Reader" "text" "LPatternBench$Text;") ∈ mm_T := tw_of (i := 120) (by decide +kernel) rfl
theorem tw_121 : (Jvm.Cond.fieldLink "PatternBench$Reader" (23 : Nat) "PatternBench$Reader" "program" "LPatternBench$Program;") ∈ mm_T := tw_of (i := 121) (by decide +kernel) rfl
theorem tw_122 : (Jvm.Cond.fieldLink "PatternBench" (79 : Nat) "PatternBench$Reader" "program" "LPatternBench$Program;") ∈ mm_T := tw_of (i := 122) (by decide +kernel) rfl
theorem tw_123 : (Jvm.Cond.fieldLink "PatternBench$Reader" (27 : Nat) "PatternBench$Reader" "levelItem" "[I") ∈ mm_T := tw_of (i := 123) (by decide +kernel) rfl
theorem tw_124 : (Jvm.Cond.fieldLink "PatternBench$Reader" (31 : Nat) "PatternBench$Reader" "levelRow" "[I") ∈ mm_T := tw_of (i := 124) (by decide +kernel) rfl
theorem tw_125 : (Jvm.Cond.fieldLink "PatternBench$Reader" (34 : Nat) "PatternBench$Reader" "levelLast" "[I") ∈ mm_T := tw_of (i := 125) (by decide +kernel) rfl
theorem tw_126 : (Jvm.Cond.fieldLink "PatternBench$Reader" (37 : Nat) "PatternBench$Reader" "levelSize" "[I") ∈ mm_T := tw_of (i := 126) (by decide +kernel) rfl
theorem tw_127 : (Jvm.Cond.fieldLink "PatternBench$Reader" (40 : Nat) "PatternBench$Reader" "level" "I") ∈ mm_T := tw_of (i := 127) (by decide +kernel) rfl
theorem tw_128 : (Jvm.Cond.fieldLink "PatternBench$Reader" (44 : Nat) "PatternBench$Reader" "at" "I") ∈ mm_T := tw_of (i := 128) (by decide +kernel) rfl
theorem tw_129 : (Jvm.Cond.fieldLink "PatternBench$Reader" (47 : Nat) "PatternBench$Reader" "atomSize" "I") ∈ mm_T := tw_of (i := 129) (by decide +kernel) rfl
theorem tw_130 : (Jvm.Cond.fieldLink "PatternBench$Reader" (50 : Nat) "PatternBench$Reader" "highestNamed" "I") ∈ mm_T := tw_of (i := 130) (by decide +kernel) rfl
theorem tw_131 : (Jvm.Cond.fieldLink "PatternBench$Reader" (53 : Nat) "PatternBench$Reader" "isGood" "Z") ∈ mm_T := tw_of (i := 131) (by decide +kernel) rfl
theorem tw_132 : (Jvm.Cond.laysFinal "PatternBench$Reader" "PatternBench$Reader" "text" "LPatternBench$Text;") ∈ mm_T := tw_of (i := 132) (by decide +kernel) rfl
theorem tw_134 : (Jvm.Cond.lays "PatternBench$Reader" "PatternBench$Reader" "program" "LPatternBench$Program;") ∈ mm_T := tw_of (i := 134) (by decide +kernel) rfl
theorem tw_136 : (Jvm.Cond.laysFinal "PatternBench$Reader" "PatternBench$Reader" "levelItem" "[I") ∈ mm_T := tw_of (i := 136) (by decide +kernel) rfl
theorem tw_138 : (Jvm.Cond.laysFinal "PatternBench$Reader" "PatternBench$Reader" "levelRow" "[I") ∈ mm_T := tw_of (i := 138) (by decide +kernel) rfl
theorem tw_140 : (Jvm.Cond.laysFinal "PatternBench$Reader" "PatternBench$Reader" "levelLast" "[I") ∈ mm_T := tw_of (i := 140) (by decide +kernel) rfl
theorem tw_142 : (Jvm.Cond.laysFinal "PatternBench$Reader" "PatternBench$Reader" "levelSize" "[I") ∈ mm_T := tw_of (i := 142) (by decide +kernel) rfl
theorem tw_144 : (Jvm.Cond.lays "PatternBench$Reader" "PatternBench$Reader" "level" "I") ∈ mm_T := tw_of (i := 144) (by decide +kernel) rfl
theorem tw_146 : (Jvm.Cond.lays "PatternBench$Reader" "PatternBench$Reader" "at" "I") ∈ mm_T := tw_of (i := 146) (by decide +kernel) rfl
theorem tw_148 : (Jvm.Cond.lays "PatternBench$Reader" "PatternBench$Reader" "atomSize" "I") ∈ mm_T := tw_of (i := 148) (by decide +kernel) rfl
theorem tw_150 : (Jvm.Cond.lays "PatternBench$Reader" "PatternBench$Reader" "highestNamed" "I") ∈ mm_T := tw_of (i := 150) (by decide +kernel) rfl
theorem tw_152 : (Jvm.Cond.lays "PatternBench$Reader" "PatternBench$Reader" "isGood" "Z") ∈ mm_T := tw_of (i := 152) (by decide +kernel) rfl
theorem tw_155 : (Jvm.Cond.classLink "PatternBench" (37 : Nat) "PatternBench$Matcher") ∈ mm_T := tw_of (i := 155) (by decide +kernel) rfl
theorem tw_156 : (Jvm.Cond.instantiable "PatternBench$Matcher" (11 : Nat)) ∈ mm_T := tw_of (i := 156) (by decide +kernel) rfl
theorem tw_157 : (Jvm.Cond.methodLink "PatternBench" (39 : Nat) ({ cls := "java/lang/Math", name := "min", desc := "(II)I" } : Jvm.MethodName)) ∈ mm_T := tw_of (i := 157) (by decide +kernel) rfl
theorem tw_158 : (Jvm.Cond.static ({ cls := "java/lang/Math", name := "min", desc := "(II)I" } : Jvm.MethodName)) ∈ mm_T := tw_of (i := 158) (by decide +kernel) rfl
theorem tw_159 : (Jvm.Cond.code ({ cls := "java/lang/Math", name := "min", desc := "(II)I" } : Jvm.MethodName) prog_12_method_69_code (2 : Nat) (Option.some Jvm.ClassFile.FieldType.int)) ∈ mm_T := tw_of (i := 159) (by decide +kernel) rfl
theorem tw_160 : (Jvm.Cond.methodLink "PatternBench" (45 : Nat) ({ cls := "java/lang/Math", name := "max", desc := "(II)I" } : Jvm.MethodName)) ∈ mm_T := tw_of (i := 160) (by decide +kernel) rfl
theorem tw_161 : (Jvm.Cond.static ({ cls := "java/lang/Math", name := "max", desc := "(II)I" } : Jvm.MethodName)) ∈ mm_T := tw_of (i := 161) (by decide +kernel) rfl
theorem tw_162 : (Jvm.Cond.code ({ cls := "java/lang/Math", name := "max", desc := "(II)I" } : Jvm.MethodName) prog_12_method_65_code (2 : Nat) (Option.some Jvm.ClassFile.FieldType.int)) ∈ mm_T := tw_of (i := 162) (by decide +kernel) rfl
theorem tw_163 : (Jvm.Cond.methodLink "PatternBench" (48 : Nat) ({ cls := "PatternBench$Matcher", name := "<init>", desc := "(I)V" } : Jvm.MethodName)) ∈ mm_T := tw_of (i := 163) (by decide +kernel) rfl
theorem tw_164 : (Jvm.Cond.instanceMethod ({ cls := "PatternBench$Matcher", name := "<init>", desc := "(I)V" } : Jvm.MethodName)) ∈ mm_T := tw_of (i := 164) (by decide +kernel) rfl
theorem tw_165 : (Jvm.Cond.code ({ cls := "PatternBench$Matcher", name := "<init>", desc := "(I)V" } : Jvm.MethodName) prog_5_method_1_code (2 : Nat) (Option.none : Option Jvm.ClassFile.FieldType)) ∈ mm_T := tw_of (i := 165) (by decide +kernel) rfl
theorem tw_166 : (Jvm.Cond.methodLink "PatternBench$Matcher" (3 : Nat) ({ cls := "java/lang/Object", name := "<init>", desc := "()V" } : Jvm.MethodName)) ∈ mm_T := tw_of (i := 166) (by decide +kernel) rfl
theorem tw_167 : (Jvm.Cond.classLink "PatternBench$Matcher" (9 : Nat) "PatternBench$Text") ∈ mm_T := tw_of (i := 167) (by decide +kernel) rfl
theorem tw_168 : (Jvm.Cond.methodLink "PatternBench$Matcher" (11 : Nat) ({ cls := "PatternBench$Text", name := "<init>", desc := "(I)V" } : Jvm.MethodName)) ∈ mm_T := tw_of (i := 168) (by decide +kernel) rfl
theorem tw_169 : (Jvm.Cond.classLink "PatternBench$Matcher" (20 : Nat) "PatternBench$Program") ∈ mm_T := tw_of (i := 169) (by decide +kernel) rfl
theorem tw_170 : (Jvm.Cond.methodLinkNest "PatternBench$Matcher" (22 : Nat) ({ cls := "PatternBench$Program", name := "<init>", desc := "()V" } : Jvm.MethodName) "PatternBench") ∈ mm_N := tw_n (i := 170) (by decide +kernel) rfl
theorem tw_171 : (Jvm.Cond.classLink "PatternBench$Matcher" (50 : Nat) "PatternBench$Frames") ∈ mm_T := tw_of (i := 171) (by decide +kernel) rfl
theorem tw_172 : (Jvm.Cond.instantiable "PatternBench$Frames" (8 : Nat)) ∈ mm_T := tw_of (i := 172) (by decide +kernel) rfl
theorem tw_173 : (Jvm.Cond.methodLink "PatternBench$Matcher" (52 : Nat) ({ cls := "PatternBench$Frames", name := "<init>", desc := "(I)V" } : Jvm.MethodName)) ∈ mm_T := tw_of (i := 173) (by decide +kernel) rfl
theorem tw_174 : (Jvm.Cond.instanceMethod ({ cls := "PatternBench$Frames", name := "<init>", desc := "(I)V" } : Jvm.MethodName)) ∈ mm_T := tw_of (i := 174) (by decide +kernel) rfl
theorem tw_175 : (Jvm.Cond.code ({ cls := "PatternBench$Frames", name := "<init>", desc := "(I)V" } : Jvm.MethodName) prog_4_method_1_code (2 : Nat) (Option.none : Option Jvm.ClassFile.FieldType)) ∈ mm_T := tw_of (i := 175) (by decide +kernel) rfl
theorem tw_176 : (Jvm.Cond.methodLink "PatternBench$Frames" (1 : Nat) ({ cls := "java/lang/Object", name := "<init>", desc := "()V" } : Jvm.MethodName)) ∈ mm_T := tw_of (i := 176) (by decide +kernel) rfl
theorem tw_177 : (Jvm.Cond.fieldLink "PatternBench$Frames" (13 : Nat) "PatternBench$Frames" "kind" "[I") ∈ mm_T := tw_of (i := 177) (by decide +kernel) rfl
theorem tw_178 : (Jvm.Cond.fieldLink "PatternBench$Matcher" (209 : Nat) "PatternBench$Frames" "kind" "[I") ∈ mm_T := tw_of (i := 178) (by decide +kernel) rfl
theorem tw_179 : (Jvm.Cond.fieldLink "PatternBench$Frames" (17 : Nat) "PatternBench$Frames" "item" "[I") ∈ mm_T := tw_of (i := 179) (by decide +kernel) rfl
theorem tw_180 : (Jvm.Cond.fieldLink "PatternBench$Matcher" (203 : Nat) "PatternBench$Frames" "item" "[I") ∈ mm_T := tw_of (i := 180) (by decide +kernel) rfl
theorem tw_181 : (Jvm.Cond.fieldLink "PatternBench$Frames" (20 : Nat) "PatternBench$Frames" "mark" "[I") ∈ mm_T := tw_of (i := 181) (by decide +kernel) rfl
theorem tw_182 : (Jvm.Cond.fieldLink "PatternBench$Matcher" (218 : Nat) "PatternBench$Frames" "mark" "[I") ∈ mm_T := tw_of (i := 182) (by decide +kernel) rfl
theorem tw_183 : (Jvm.Cond.fieldLink "PatternBench$Frames" (23 : Nat) "PatternBench$Frames" "place" "[I") ∈ mm_T := tw_of (i := 183) (by decide +kernel) rfl
theorem tw_184 : (Jvm.Cond.fieldLink "PatternBench$Matcher" (214 : Nat) "PatternBench$Frames" "place" "[I") ∈ mm_T := tw_of (i := 184) (by decide +kernel) rfl
theorem tw_185 : (Jvm.Cond.fieldLink "PatternBench$Frames" (26 : Nat) "PatternBench$Frames" "captures" "[J") ∈ mm_T := tw_of (i := 185) (by decide +kernel) rfl
theorem tw_186 : (Jvm.Cond.fieldLink "PatternBench$Matcher" (213 : Nat) "PatternBench$Frames" "captures" "[J") ∈ mm_T := tw_of (i := 186) (by decide +kernel) rfl
theorem tw_187 : (Jvm.Cond.fieldLink "PatternBench$Frames" (30 : Nat) "PatternBench$Frames" "outer" "[I") ∈ mm_T := tw_of (i := 187) (by decide +kernel) rfl
theorem tw_188 : (Jvm.Cond.fieldLink "PatternBench$Matcher" (206 : Nat) "PatternBench$Frames" "outer" "[I") ∈ mm_T := tw_of (i := 188) (by decide +kernel) rfl
theorem tw_189 : (Jvm.Cond.fieldLink "PatternBench$Frames" (33 : Nat) "PatternBench$Frames" "calls" "[I") ∈ mm_T := tw_of (i := 189) (by decide +kernel) rfl
theorem tw_190 : (Jvm.Cond.fieldLink "PatternBench$Matcher" (197 : Nat) "PatternBench$Frames" "calls" "[I") ∈ mm_T := tw_of (i := 190) (by decide +kernel) rfl
theorem tw_191 : (Jvm.Cond.fieldLink "PatternBench$Frames" (7 : Nat) "PatternBench$Frames" "used" "I") ∈ mm_T := tw_of (i := 191) (by decide +kernel) rfl
theorem tw_192 : (Jvm.Cond.laysFinal "PatternBench$Frames" "PatternBench$Frames" "kind" "[I") ∈ mm_T := tw_of (i := 192) (by decide +kernel) rfl
theorem tw_194 : (Jvm.Cond.laysFinal "PatternBench$Frames" "PatternBench$Frames" "item" "[I") ∈ mm_T := tw_of (i := 194) (by decide +kernel) rfl
theorem tw_196 : (Jvm.Cond.laysFinal "PatternBench$Frames" "PatternBench$Frames" "mark" "[I") ∈ mm_T := tw_of (i := 196) (by decide +kernel) rfl
theorem tw_198 : (Jvm.Cond.laysFinal "PatternBench$Frames" "PatternBench$Frames" "place" "[I") ∈ mm_T := tw_of (i := 198) (by decide +kernel) rfl
theorem tw_200 : (Jvm.Cond.laysFinal "PatternBench$Frames" "PatternBench$Frames" "captures" "[J") ∈ mm_T := tw_of (i := 200) (by decide +kernel) rfl
theorem tw_202 : (Jvm.Cond.laysFinal "PatternBench$Frames" "PatternBench$Frames" "outer" "[I") ∈ mm_T := tw_of (i := 202) (by decide +kernel) rfl
theorem tw_204 : (Jvm.Cond.laysFinal "PatternBench$Frames" "PatternBench$Frames" "calls" "[I") ∈ mm_T := tw_of (i := 204) (by decide +kernel) rfl
theorem tw_206 : (Jvm.Cond.lays "PatternBench$Frames" "PatternBench$Frames" "used" "I") ∈ mm_T := tw_of (i := 206) (by decide +kernel) rfl
theorem tw_209 : (Jvm.Cond.arrayClass Jvm.ClassFile.FieldType.long) ∈ mm_T := tw_of (i := 209) (by decide +kernel) rfl
theorem tw_210 : (Jvm.Cond.classLink "PatternBench$Matcher" (57 : Nat) "PatternBench$Choices") ∈ mm_T := tw_of (i := 210) (by decide +kernel) rfl
theorem tw_211 : (Jvm.Cond.instantiable "PatternBench$Choices" (6 : Nat)) ∈ mm_T := tw_of (i := 211) (by decide +kernel) rfl
theorem tw_212 : (Jvm.Cond.methodLink "PatternBench$Matcher" (59 : Nat) ({ cls := "PatternBench$Choices", name := "<init>", desc := "(I)V" } : Jvm.MethodName)) ∈ mm_T := tw_of (i := 212) (by decide +kernel) rfl
theorem tw_213 : (Jvm.Cond.instanceMethod ({ cls := "PatternBench$Choices", name := "<init>", desc := "(I)V" } : Jvm.MethodName)) ∈ mm_T := tw_of (i := 213) (by decide +kernel) rfl
theorem tw_214 : (Jvm.Cond.code ({ cls := "PatternBench$Choices", name := "<init>", desc := "(I)V" } : Jvm.MethodName) prog_3_method_1_code (2 : Nat) (Option.none : Option Jvm.ClassFile.FieldType)) ∈ mm_T := tw_of (i := 214) (by decide +kernel) rfl
theorem tw_215 : (Jvm.Cond.methodLink "PatternBench$Choices" (1 : Nat) ({ cls := "java/lang/Object", name := "<init>", desc := "()V" } : Jvm.MethodName)) ∈ mm_T := tw_of (i := 215) (by decide +kernel) rfl
theorem tw_216 : (Jvm.Cond.fieldLink "PatternBench$Choices" (13 : Nat) "PatternBench$Choices" "task" "[I") ∈ mm_T := tw_of (i := 216) (by decide +kernel) rfl
theorem tw_217 : (Jvm.Cond.fieldLink "PatternBench$Matcher" (159 : Nat) "PatternBench$Choices" "task" "[I") ∈ mm_T := tw_of (i := 217) (by decide +kernel) rfl
theorem tw_218 : (Jvm.Cond.fieldLink "PatternBench$Choices" (17 : Nat) "PatternBench$Choices" "number" "[I") ∈ mm_T := tw_of (i := 218) (by decide +kernel) rfl
theorem tw_219 : (Jvm.Cond.fieldLink "PatternBench$Matcher" (161 : Nat) "PatternBench$Choices" "number" "[I") ∈ mm_T := tw_of (i := 219) (by decide +kernel) rfl
theorem tw_220 : (Jvm.Cond.fieldLink "PatternBench$Choices" (20 : Nat) "PatternBench$Choices" "place" "[I") ∈ mm_T := tw_of (i := 220) (by decide +kernel) rfl
theorem tw_221 : (Jvm.Cond.fieldLink "PatternBench$Matcher" (152 : Nat) "PatternBench$Choices" "place" "[I") ∈ mm_T := tw_of (i := 221) (by decide +kernel) rfl
theorem tw_222 : (Jvm.Cond.fieldLink "PatternBench$Choices" (23 : Nat) "PatternBench$Choices" "captures" "[J") ∈ mm_T := tw_of (i := 222) (by decide +kernel) rfl
theorem tw_223 : (Jvm.Cond.fieldLink "PatternBench$Matcher" (154 : Nat) "PatternBench$Choices" "captures" "[J") ∈ mm_T := tw_of (i := 223) (by decide +kernel) rfl
theorem tw_224 : (Jvm.Cond.fieldLink "PatternBench$Choices" (27 : Nat) "PatternBench$Choices" "frame" "[I") ∈ mm_T := tw_of (i := 224) (by decide +kernel) rfl
theorem tw_225 : (Jvm.Cond.fieldLink "PatternBench$Matcher" (157 : Nat) "PatternBench$Choices" "frame" "[I") ∈ mm_T := tw_of (i := 225) (by decide +kernel) rfl
theorem tw_226 : (Jvm.Cond.fieldLink "PatternBench$Choices" (7 : Nat) "PatternBench$Choices" "used" "I") ∈ mm_T := tw_of (i := 226) (by decide +kernel) rfl
theorem tw_227 : (Jvm.Cond.fieldLink "PatternBench$Matcher" (140 : Nat) "PatternBench$Choices" "used" "I") ∈ mm_T := tw_of (i := 227) (by decide +kernel) rfl
theorem tw_228 : (Jvm.Cond.laysFinal "PatternBench$Choices" "PatternBench$Choices" "task" "[I") ∈ mm_T := tw_of (i := 228) (by decide +kernel) rfl
theorem tw_230 : (Jvm.Cond.laysFinal "PatternBench$Choices" "PatternBench$Choices" "number" "[I") ∈ mm_T := tw_of (i := 230) (by decide +kernel) rfl
theorem tw_232 : (Jvm.Cond.laysFinal "PatternBench$Choices" "PatternBench$Choices" "place" "[I") ∈ mm_T := tw_of (i := 232) (by decide +kernel) rfl
theorem tw_234 : (Jvm.Cond.laysFinal "PatternBench$Choices" "PatternBench$Choices" "captures" "[J") ∈ mm_T := tw_of (i := 234) (by decide +kernel) rfl
theorem tw_236 : (Jvm.Cond.laysFinal "PatternBench$Choices" "PatternBench$Choices" "frame" "[I") ∈ mm_T := tw_of (i := 236) (by decide +kernel) rfl
theorem tw_238 : (Jvm.Cond.lays "PatternBench$Choices" "PatternBench$Choices" "used" "I") ∈ mm_T := tw_of (i := 238) (by decide +kernel) rfl
theorem tw_241 : (Jvm.Cond.fieldLink "PatternBench$Matcher" (14 : Nat) "PatternBench$Matcher" "subject" "LPatternBench$Text;") ∈ mm_T := tw_of (i := 241) (by decide +kernel) rfl
theorem tw_242 : (Jvm.Cond.fieldLink "PatternBench" (95 : Nat) "PatternBench$Matcher" "subject" "LPatternBench$Text;") ∈ mm_T := tw_of (i := 242) (by decide +kernel) rfl
theorem tw_243 : (Jvm.Cond.fieldLink "PatternBench$Matcher" (23 : Nat) "PatternBench$Matcher" "program" "LPatternBench$Program;") ∈ mm_T := tw_of (i := 243) (by decide +kernel) rfl
theorem tw_244 : (Jvm.Cond.fieldLink "PatternBench" (88 : Nat) "PatternBench$Matcher" "program" "LPatternBench$Program;") ∈ mm_T := tw_of (i := 244) (by decide +kernel) rfl
theorem tw_245 : (Jvm.Cond.fieldLink "PatternBench$Matcher" (47 : Nat) "PatternBench$Matcher" "limit" "I") ∈ mm_T := tw_of (i := 245) (by decide +kernel) rfl
theorem tw_246 : (Jvm.Cond.fieldLink "PatternBench$Matcher" (53 : Nat) "PatternBench$Matcher" "frames" "LPatternBench$Frames;") ∈ mm_T := tw_of (i := 246) (by decide +kernel) rfl
theorem tw_247 : (Jvm.Cond.fieldLink "PatternBench$Matcher" (60 : Nat) "PatternBench$Matcher" "choices" "LPatternBench$Choices;") ∈ mm_T := tw_of (i := 247) (by decide +kernel) rfl
theorem tw_248 : (Jvm.Cond.fieldLink "PatternBench$Matcher" (27 : Nat) "PatternBench$Matcher" "task" "I") ∈ mm_T := tw_of (i := 248) (by decide +kernel) rfl
theorem tw_249 : (Jvm.Cond.fieldLink "PatternBench$Matcher" (31 : Nat) "PatternBench$Matcher" "number" "I") ∈ mm_T := tw_of (i := 249) (by decide +kernel) rfl
theorem tw_250 : (Jvm.Cond.fieldLink "PatternBench$Matcher" (34 : Nat) "PatternBench$Matcher" "frame" "I") ∈ mm_T := tw_of (i := 250) (by decide +kernel) rfl
theorem tw_251 : (Jvm.Cond.fieldLink "PatternBench$Matcher" (37 : Nat) "PatternBench$Matcher" "place" "I") ∈ mm_T := tw_of (i := 251) (by decide +kernel) rfl
theorem tw_252 : (Jvm.Cond.fieldLink "PatternBench" (117 : Nat) "PatternBench$Matcher" "place" "I") ∈ mm_T := tw_of (i := 252) (by decide +kernel) rfl
theorem tw_253 : (Jvm.Cond.fieldLink "PatternBench$Matcher" (40 : Nat) "PatternBench$Matcher" "captures" "J") ∈ mm_T := tw_of (i := 253) (by decide +kernel) rfl
theorem tw_254 : (Jvm.Cond.fieldLink "PatternBench" (120 : Nat) "PatternBench$Matcher" "captures" "J") ∈ mm_T := tw_of (i := 254) (by decide +kernel) rfl
theorem tw_255 : (Jvm.Cond.fieldLink "PatternBench$Matcher" (44 : Nat) "PatternBench$Matcher" "taken" "I") ∈ mm_T := tw_of (i := 255) (by decide +kernel) rfl
theorem tw_256 : (Jvm.Cond.fieldLink "PatternBench" (123 : Nat) "PatternBench$Matcher" "taken" "I") ∈ mm_T := tw_of (i := 256) (by decide +kernel) rfl
theorem tw_257 : (Jvm.Cond.laysFinal "PatternBench$Matcher" "PatternBench$Matcher" "subject" "LPatternBench$Text;") ∈ mm_T := tw_of (i := 257) (by decide +kernel) rfl
theorem tw_259 : (Jvm.Cond.lays "PatternBench$Matcher" "PatternBench$Matcher" "program" "LPatternBench$Program;") ∈ mm_T := tw_of (i := 259) (by decide +kernel) rfl
theorem tw_261 : (Jvm.Cond.laysFinal "PatternBench$Matcher" "PatternBench$Matcher" "limit" "I") ∈ mm_T := tw_of (i := 261) (by decide +kernel) rfl
theorem tw_263 : (Jvm.Cond.laysFinal "PatternBench$Matcher" "PatternBench$Matcher" "frames" "LPatternBench$Frames;") ∈ mm_T := tw_of (i := 263) (by decide +kernel) rfl
theorem tw_265 : (Jvm.Cond.laysFinal "PatternBench$Matcher" "PatternBench$Matcher" "choices" "LPatternBench$Choices;") ∈ mm_T := tw_of (i := 265) (by decide +kernel) rfl
theorem tw_267 : (Jvm.Cond.lays "PatternBench$Matcher" "PatternBench$Matcher" "task" "I") ∈ mm_T := tw_of (i := 267) (by decide +kernel) rfl
theorem tw_269 : (Jvm.Cond.lays "PatternBench$Matcher" "PatternBench$Matcher" "number" "I") ∈ mm_T := tw_of (i := 269) (by decide +kernel) rfl
theorem tw_271 : (Jvm.Cond.lays "PatternBench$Matcher" "PatternBench$Matcher" "frame" "I") ∈ mm_T := tw_of (i := 271) (by decide +kernel) rfl
theorem tw_273 : (Jvm.Cond.lays "PatternBench$Matcher" "PatternBench$Matcher" "place" "I") ∈ mm_T := tw_of (i := 273) (by decide +kernel) rfl
theorem tw_275 : (Jvm.Cond.lays "PatternBench$Matcher" "PatternBench$Matcher" "captures" "J") ∈ mm_T := tw_of (i := 275) (by decide +kernel) rfl
theorem tw_277 : (Jvm.Cond.lays "PatternBench$Matcher" "PatternBench$Matcher" "taken" "I") ∈ mm_T := tw_of (i := 277) (by decide +kernel) rfl
theorem tw_280 : (Jvm.Cond.fieldLink "PatternBench" (10 : Nat) "PatternBench" "reader" "LPatternBench$Reader;") ∈ mm_T := tw_of (i := 280) (by decide +kernel) rfl
theorem tw_281 : (Jvm.Cond.fieldLink "PatternBench" (51 : Nat) "PatternBench" "matcher" "LPatternBench$Matcher;") ∈ mm_T := tw_of (i := 281) (by decide +kernel) rfl
theorem tw_282 : (Jvm.Cond.fieldLink "PatternBench" (16 : Nat) "PatternBench" "isReady" "Z") ∈ mm_T := tw_of (i := 282) (by decide +kernel) rfl
theorem tw_283 : (Jvm.Cond.fieldLink "PatternBench" (20 : Nat) "PatternBench" "isMatched" "Z") ∈ mm_T := tw_of (i := 283) (by decide +kernel) rfl
theorem tw_284 : (Jvm.Cond.fieldLink "PatternBench" (23 : Nat) "PatternBench" "matchStart" "I") ∈ mm_T := tw_of (i := 284) (by decide +kernel) rfl
theorem tw_285 : (Jvm.Cond.fieldLink "PatternBench" (27 : Nat) "PatternBench" "matchEnd" "I") ∈ mm_T := tw_of (i := 285) (by decide +kernel) rfl
theorem tw_286 : (Jvm.Cond.fieldLink "PatternBench" (30 : Nat) "PatternBench" "matchCaptures" "J") ∈ mm_T := tw_of (i := 286) (by decide +kernel) rfl
theorem tw_287 : (Jvm.Cond.fieldLink "PatternBench" (34 : Nat) "PatternBench" "lastSteps" "I") ∈ mm_T := tw_of (i := 287) (by decide +kernel) rfl
theorem tw_288 : (Jvm.Cond.laysFinal "PatternBench" "PatternBench" "reader" "LPatternBench$Reader;") ∈ mm_T := tw_of (i := 288) (by decide +kernel) rfl
theorem tw_290 : (Jvm.Cond.laysFinal "PatternBench" "PatternBench" "matcher" "LPatternBench$Matcher;") ∈ mm_T := tw_of (i := 290) (by decide +kernel) rfl
theorem tw_292 : (Jvm.Cond.lays "PatternBench" "PatternBench" "isReady" "Z") ∈ mm_T := tw_of (i := 292) (by decide +kernel) rfl
theorem tw_294 : (Jvm.Cond.lays "PatternBench" "PatternBench" "isMatched" "Z") ∈ mm_T := tw_of (i := 294) (by decide +kernel) rfl
theorem tw_296 : (Jvm.Cond.lays "PatternBench" "PatternBench" "matchStart" "I") ∈ mm_T := tw_of (i := 296) (by decide +kernel) rfl
theorem tw_298 : (Jvm.Cond.lays "PatternBench" "PatternBench" "matchEnd" "I") ∈ mm_T := tw_of (i := 298) (by decide +kernel) rfl
theorem tw_300 : (Jvm.Cond.lays "PatternBench" "PatternBench" "matchCaptures" "J") ∈ mm_T := tw_of (i := 300) (by decide +kernel) rfl
theorem tw_302 : (Jvm.Cond.lays "PatternBench" "PatternBench" "lastSteps" "I") ∈ mm_T := tw_of (i := 302) (by decide +kernel) rfl
theorem tw_305 : (Jvm.Cond.methodLink "PatternBenchLaw" (21 : Nat) ({ cls := "PatternBench", name := "write", desc := "(I)I" } : Jvm.MethodName)) ∈ mm_T := tw_of (i := 305) (by decide +kernel) rfl
theorem tw_306 : (Jvm.Cond.instanceMethod ({ cls := "PatternBench", name := "write", desc := "(I)I" } : Jvm.MethodName)) ∈ mm_T := tw_of (i := 306) (by decide +kernel) rfl
theorem tw_307 : (Jvm.Cond.selects "PatternBench" ({ cls := "PatternBench", name := "write", desc := "(I)I" } : Jvm.MethodName) ({ cls := "PatternBench", name := "write", desc := "(I)I" } : Jvm.MethodName)) ∈ mm_T := tw_of (i := 307) (by decide +kernel) rfl
theorem tw_308 : (Jvm.Cond.code ({ cls := "PatternBench", name := "write", desc := "(I)I" } : Jvm.MethodName) prog_1_method_2_code (2 : Nat) (Option.some Jvm.ClassFile.FieldType.int)) ∈ mm_T := tw_of (i := 308) (by decide +kernel) rfl
theorem tw_309 : (Jvm.Cond.methodLink "PatternBench" (55 : Nat) ({ cls := "PatternBench", name := "mayStandInPattern", desc := "(I)Z" } : Jvm.MethodName)) ∈ mm_T := tw_of (i := 309) (by decide +kernel) rfl
theorem tw_310 : (Jvm.Cond.static ({ cls := "PatternBench", name := "mayStandInPattern", desc := "(I)Z" } : Jvm.MethodName)) ∈ mm_T := tw_of (i := 310) (by decide +kernel) rfl
theorem tw_311 : (Jvm.Cond.code ({ cls := "PatternBench", name := "mayStandInPattern", desc := "(I)Z" } : Jvm.MethodName) prog_1_method_17_code (1 : Nat) (Option.some Jvm.ClassFile.FieldType.boolean)) ∈ mm_T := tw_of (i := 311) (by decide +kernel) rfl
theorem tw_312 : (Jvm.Cond.methodLink "PatternBench" (92 : Nat) ({ cls := "PatternBench", name := "isLetter", desc := "(I)Z" } : Jvm.MethodName)) ∈ mm_T := tw_of (i := 312) (by decide +kernel) rfl
theorem tw_313 : (Jvm.Cond.static ({ cls := "PatternBench", name := "isLetter", desc := "(I)Z" } : Jvm.MethodName)) ∈ mm_T := tw_of (i := 313) (by decide +kernel) rfl
theorem tw_314 : (Jvm.Cond.code ({ cls := "PatternBench", name := "isLetter", desc := "(I)Z" } : Jvm.MethodName) prog_1_method_15_code (1 : Nat) (Option.some Jvm.ClassFile.FieldType.boolean)) ∈ mm_T := tw_of (i := 314) (by decide +kernel) rfl
theorem tw_315 : (Jvm.Cond.methodLink "PatternBench" (126 : Nat) ({ cls := "PatternBench", name := "isDigit", desc := "(I)Z" } : Jvm.MethodName)) ∈ mm_T := tw_of (i := 315) (by decide +kernel) rfl
theorem tw_316 : (Jvm.Cond.static ({ cls := "PatternBench", name := "isDigit", desc := "(I)Z" } : Jvm.MethodName)) ∈ mm_T := tw_of (i := 316) (by decide +kernel) rfl
theorem tw_317 : (Jvm.Cond.code ({ cls := "PatternBench", name := "isDigit", desc := "(I)Z" } : Jvm.MethodName) prog_1_method_16_code (1 : Nat) (Option.some Jvm.ClassFile.FieldType.boolean)) ∈ mm_T := tw_of (i := 317) (by decide +kernel) rfl
theorem tw_319 : (Jvm.Cond.methodLink "PatternBench" (131 : Nat) ({ cls := "java/lang/String", name := "indexOf", desc := "(I)I" } : Jvm.MethodName)) ∈ mm_T := tw_of (i := 319) (by decide +kernel) rfl
theorem tw_320 : (Jvm.Cond.instanceMethod ({ cls := "java/lang/String", name := "indexOf", desc := "(I)I" } : Jvm.MethodName)) ∈ mm_T := tw_of (i := 320) (by decide +kernel) rfl
theorem tw_321 : (Jvm.Cond.selects "java/lang/String" ({ cls := "java/lang/String", name := "indexOf", desc := "(I)I" } : Jvm.MethodName) ({ cls := "java/lang/String", name := "indexOf", desc := "(I)I" } : Jvm.MethodName)) ∈ mm_T := tw_of (i := 321) (by decide +kernel) rfl
theorem tw_322 : (Jvm.Cond.code ({ cls := "java/lang/String", name := "indexOf", desc := "(I)I" } : Jvm.MethodName) prog_13_method_79_code (2 : Nat) (Option.some Jvm.ClassFile.FieldType.int)) ∈ mm_T := tw_of (i := 322) (by decide +kernel) rfl
theorem tw_323 : (Jvm.Cond.methodLink "java/lang/String" (633 : Nat) ({ cls := "java/lang/String", name := "indexOf", desc := "(II)I" } : Jvm.MethodName)) ∈ mm_T := tw_of (i := 323) (by decide +kernel) rfl
theorem tw_324 : (Jvm.Cond.instanceMethod ({ cls := "java/lang/String", name := "indexOf", desc := "(II)I" } : Jvm.MethodName)) ∈ mm_T := tw_of (i := 324) (by decide +kernel) rfl
theorem tw_325 : (Jvm.Cond.selects "java/lang/String" ({ cls := "java/lang/String", name := "indexOf", desc := "(II)I" } : Jvm.MethodName) ({ cls := "java/lang/String", name := "indexOf", desc := "(II)I" } : Jvm.MethodName)) ∈ mm_T := tw_of (i := 325) (by decide +kernel) rfl
theorem tw_326 : (Jvm.Cond.code ({ cls := "java/lang/String", name := "indexOf", desc := "(II)I" } : Jvm.MethodName) prog_13_method_80_code (3 : Nat) (Option.some Jvm.ClassFile.FieldType.int)) ∈ mm_T := tw_of (i := 326) (by decide +kernel) rfl
theorem tw_327 : (Jvm.Cond.methodLink "java/lang/String" (492 : Nat) ({ cls := "java/lang/String", name := "isLatin1", desc := "()Z" } : Jvm.MethodName)) ∈ mm_T := tw_of (i := 327) (by decide +kernel) rfl
theorem tw_328 : (Jvm.Cond.instanceMethod ({ cls := "java/lang/String", name := "isLatin1", desc := "()Z" } : Jvm.MethodName)) ∈ mm_T := tw_of (i := 328) (by decide +kernel) rfl
theorem tw_329 : (Jvm.Cond.selects "java/lang/String" ({ cls := "java/lang/String", name := "isLatin1", desc := "()Z" } : Jvm.MethodName) ({ cls := "java/lang/String", name := "isLatin1", desc := "()Z" } : Jvm.MethodName)) ∈ mm_T := tw_of (i := 329) (by decide +kernel) rfl
theorem tw_330 : (Jvm.Cond.code ({ cls := "java/lang/String", name := "isLatin1", desc := "()Z" } : Jvm.MethodName) prog_13_method_154_code (1 : Nat) (Option.some Jvm.ClassFile.FieldType.boolean)) ∈ mm_T := tw_of (i := 330) (by decide +kernel) rfl
theorem tw_331 : (Jvm.Cond.fieldLink "java/lang/String" (38 : Nat) "java/lang/String" "COMPACT_STRINGS" "Z") ∈ mm_T := tw_of (i := 331) (by decide +kernel) rfl
theorem tw_333 : (Jvm.Cond.methodLink "java/lang/String" (505 : Nat) ({ cls := "java/lang/String", name := "length", desc := "()I" } : Jvm.MethodName)) ∈ mm_T := tw_of (i := 333) (by decide +kernel) rfl
theorem tw_334 : (Jvm.Cond.instanceMethod ({ cls := "java/lang/String", name := "length", desc := "()I" } : Jvm.MethodName)) ∈ mm_T := tw_of (i := 334) (by decide +kernel) rfl
theorem tw_335 : (Jvm.Cond.selects "java/lang/String" ({ cls := "java/lang/String", name := "length", desc := "()I" } : Jvm.MethodName) ({ cls := "java/lang/String", name := "length", desc := "()I" } : Jvm.MethodName)) ∈ mm_T := tw_of (i := 335) (by decide +kernel) rfl
theorem tw_336 : (Jvm.Cond.code ({ cls := "java/lang/String", name := "length", desc := "()I" } : Jvm.MethodName) prog_13_method_54_code (1 : Nat) (Option.some Jvm.ClassFile.FieldType.int)) ∈ mm_T := tw_of (i := 336) (by decide +kernel) rfl
theorem tw_337 : (Jvm.Cond.methodLink "java/lang/String" (335 : Nat) ({ cls := "java/lang/String", name := "coder", desc := "()B" } : Jvm.MethodName)) ∈ mm_T := tw_of (i := 337) (by decide +kernel) rfl
theorem tw_338 : (Jvm.Cond.instanceMethod ({ cls := "java/lang/String", name := "coder", desc := "()B" } : Jvm.MethodName)) ∈ mm_T := tw_of (i := 338) (by decide +kernel) rfl
theorem tw_339 : (Jvm.Cond.selects "java/lang/String" ({ cls := "java/lang/String", name := "coder", desc := "()B" } : Jvm.MethodName) ({ cls := "java/lang/String", name := "coder", desc := "()B" } : Jvm.MethodName)) ∈ mm_T := tw_of (i := 339) (by decide +kernel) rfl
theorem tw_340 : (Jvm.Cond.code ({ cls := "java/lang/String", name := "coder", desc := "()B" } : Jvm.MethodName) prog_13_method_152_code (1 : Nat) (Option.some Jvm.ClassFile.FieldType.byte)) ∈ mm_T := tw_of (i := 340) (by decide +kernel) rfl
theorem tw_341 : (Jvm.Cond.methodLink "java/lang/String" (637 : Nat) ({ cls := "java/lang/StringLatin1", name := "indexOf", desc := "([BIII)I" } : Jvm.MethodName)) ∈ mm_T := tw_of (i := 341) (by decide +kernel) rfl
theorem tw_342 : (Jvm.Cond.static ({ cls := "java/lang/StringLatin1", name := "indexOf", desc := "([BIII)I" } : Jvm.MethodName)) ∈ mm_T := tw_of (i := 342) (by decide +kernel) rfl
theorem tw_343 : (Jvm.Cond.code ({ cls := "java/lang/StringLatin1", name := "indexOf", desc := "([BIII)I" } : Jvm.MethodName) prog_14_method_22_code (4 : Nat) (Option.some Jvm.ClassFile.FieldType.int)) ∈ mm_T := tw_of (i := 343) (by decide +kernel) rfl
theorem tw_344 : (Jvm.Cond.methodLink "java/lang/StringLatin1" (88 : Nat) ({ cls := "java/lang/StringLatin1", name := "canEncode", desc := "(I)Z" } : Jvm.MethodName)) ∈ mm_T := tw_of (i := 344) (by decide +kernel) rfl
theorem tw_345 : (Jvm.Cond.static ({ cls := "java/lang/StringLatin1", name := "canEncode", desc := "(I)Z" } : Jvm.MethodName)) ∈ mm_T := tw_of (i := 345) (by decide +kernel) rfl
theorem tw_346 : (Jvm.Cond.code ({ cls := "java/lang/StringLatin1", name := "canEncode", desc := "(I)Z" } : Jvm.MethodName) prog_14_method_4_code (1 : Nat) (Option.some Jvm.ClassFile.FieldType.boolean)) ∈ mm_T := tw_of (i := 346) (by decide +kernel) rfl
theorem tw_347 : (Jvm.Cond.methodLink "java/lang/StringLatin1" (92 : Nat) ({ cls := "java/lang/Math", name := "max", desc := "(II)I" } : Jvm.MethodName)) ∈ mm_T := tw_of (i := 347) (by decide +kernel) rfl
theorem tw_348 : (Jvm.Cond.methodLink "java/lang/StringLatin1" (38 : Nat) ({ cls := "java/lang/Math", name := "min", desc := "(II)I" } : Jvm.MethodName)) ∈ mm_T := tw_of (i := 348) (by decide +kernel) rfl
theorem tw_349 : (Jvm.Cond.methodLink "java/lang/StringLatin1" (95 : Nat) ({ cls := "java/lang/StringLatin1", name := "indexOfChar", desc := "([BIII)I" } : Jvm.MethodName)) ∈ mm_T := tw_of (i := 349) (by decide +kernel) rfl
theorem tw_350 : (Jvm.Cond.static ({ cls := "java/lang/StringLatin1", name := "indexOfChar", desc := "([BIII)I" } : Jvm.MethodName)) ∈ mm_T := tw_of (i := 350) (by decide +kernel) rfl
theorem tw_351 : (Jvm.Cond.code ({ cls := "java/lang/StringLatin1", name := "indexOfChar", desc := "([BIII)I" } : Jvm.MethodName) prog_14_method_23_code (6 : Nat) (Option.some Jvm.ClassFile.FieldType.int)) ∈ mm_T := tw_of (i := 351) (by decide +kernel) rfl
theorem tw_352 : (Jvm.Cond.methodLink "java/lang/String" (640 : Nat) ({ cls := "java/lang/StringUTF16", name := "indexOf", desc := "([BIII)I" } : Jvm.MethodName)) ∈ mm_T := tw_of (i := 352) (by decide +kernel) rfl
theorem tw_353 : (Jvm.Cond.static ({ cls := "java/lang/StringUTF16", name := "indexOf", desc := "([BIII)I" } : Jvm.MethodName)) ∈ mm_T := tw_of (i := 353) (by decide +kernel) rfl
theorem tw_354 : (Jvm.Cond.code ({ cls := "java/lang/StringUTF16", name := "indexOf", desc := "([BIII)I" } : Jvm.MethodName) prog_15_method_40_code (4 : Nat) (Option.some Jvm.ClassFile.FieldType.int)) ∈ mm_T := tw_of (i := 354) (by decide +kernel) rfl
theorem tw_355 : (Jvm.Cond.methodLink "java/lang/StringUTF16" (224 : Nat) ({ cls := "java/lang/Math", name := "max", desc := "(II)I" } : Jvm.MethodName)) ∈ mm_T := tw_of (i := 355) (by decide +kernel) rfl
theorem tw_356 : (Jvm.Cond.methodLink "java/lang/StringUTF16" (183 : Nat) ({ cls := "java/lang/Math", name := "min", desc := "(II)I" } : Jvm.MethodName)) ∈ mm_T := tw_of (i := 356) (by decide +kernel) rfl
theorem tw_357 : (Jvm.Cond.constant "java/lang/StringUTF16" (227 : Nat) (65536 : Int32)) ∈ mm_T := tw_of (i := 357) (by decide +kernel) rfl
theorem tw_358 : (Jvm.Cond.methodLink "java/lang/StringUTF16" (228 : Nat) ({ cls := "java/lang/StringUTF16", name := "indexOfChar", desc := "([BIII)I" } : Jvm.MethodName)) ∈ mm_T := tw_of (i := 358) (by decide +kernel) rfl
theorem tw_359 : (Jvm.Cond.static ({ cls := "java/lang/StringUTF16", name := "indexOfChar", desc := "([BIII)I" } : Jvm.MethodName)) ∈ mm_T := tw_of (i := 359) (by decide +kernel) rfl
theorem tw_360 : (Jvm.Cond.code ({ cls := "java/lang/StringUTF16", name := "indexOfChar", desc := "([BIII)I" } : Jvm.MethodName) prog_15_method_47_code (4 : Nat) (Option.some Jvm.ClassFile.FieldType.int)) ∈ mm_T := tw_of (i := 360) (by decide +kernel) rfl
theorem tw_361 : (Jvm.Cond.methodLink "java/lang/StringUTF16" (96 : Nat) ({ cls := "java/lang/StringUTF16", name := "checkBoundsBeginEnd", desc := "(II[B)V" } : Jvm.MethodName)) ∈ mm_T := tw_of (i := 361) (by decide +kernel) rfl
theorem tw_362 : (Jvm.Cond.static ({ cls := "java/lang/StringUTF16", name := "checkBoundsBeginEnd", desc := "(II[B)V" } : Jvm.MethodName)) ∈ mm_T := tw_of (i := 362) (by decide +kernel) rfl
theorem tw_363 : (Jvm.Cond.code ({ cls := "java/lang/StringUTF16", name := "checkBoundsBeginEnd", desc := "(II[B)V" } : Jvm.MethodName) prog_15_method_93_code (3 : Nat) (Option.none : Option Jvm.ClassFile.FieldType)) ∈ mm_T := tw_of (i := 363) (by decide +kernel) rfl
theorem tw_364 : (Jvm.Cond.methodLink "java/lang/StringUTF16" (48 : Nat) ({ cls := "java/lang/StringUTF16", name := "length", desc := "([B)I" } : Jvm.MethodName)) ∈ mm_T := tw_of (i := 364) (by decide +kernel) rfl
theorem tw_365 : (Jvm.Cond.static ({ cls := "java/lang/StringUTF16", name := "length", desc := "([B)I" } : Jvm.MethodName)) ∈ mm_T := tw_of (i := 365) (by decide +kernel) rfl
theorem tw_366 : (Jvm.Cond.code ({ cls := "java/lang/StringUTF16", name := "length", desc := "([B)I" } : Jvm.MethodName) prog_15_method_6_code (1 : Nat) (Option.some Jvm.ClassFile.FieldType.int)) ∈ mm_T := tw_of (i := 366) (by decide +kernel) rfl
theorem tw_367 : (Jvm.Cond.methodLink "java/lang/StringUTF16" (241 : Nat) ({ cls := "java/lang/String", name := "checkBoundsBeginEnd", desc := "(III)V" } : Jvm.MethodName)) ∈ mm_T := tw_of (i := 367) (by decide +kernel) rfl
theorem tw_368 : (Jvm.Cond.static ({ cls := "java/lang/String", name := "checkBoundsBeginEnd", desc := "(III)V" } : Jvm.MethodName)) ∈ mm_T := tw_of (i := 368) (by decide +kernel) rfl
theorem tw_369 : (Jvm.Cond.code ({ cls := "java/lang/String", name := "checkBoundsBeginEnd", desc := "(III)V" } : Jvm.MethodName) prog_13_method_158_code (3 : Nat) (Option.none : Option Jvm.ClassFile.FieldType)) ∈ mm_T := tw_of (i := 369) (by decide +kernel) rfl
theorem tw_370 : (Jvm.Cond.fieldLink "java/lang/String" (1053 : Nat) "jdk/internal/util/Preconditions" "SIOOBE_FORMATTER" "Ljava/util/function/BiFunction;") ∈ mm_T := tw_of (i := 370) (by decide +kernel) rfl
theorem tw_372 : (Jvm.Cond.methodLink "java/lang/String" (1062 : Nat) ({ cls := "jdk/internal/util/Preconditions", name := "checkFromToIndex", desc := "(IIILjava/util/function/BiFunction;)I" } : Jvm.MethodName)) ∈ mm_T := tw_of (i := 372) (by decide +kernel) rfl
theorem tw_373 : (Jvm.Cond.static ({ cls := "jdk/internal/util/Preconditions", name := "checkFromToIndex", desc := "(IIILjava/util/function/BiFunction;)I" } : Jvm.MethodName)) ∈ mm_T := tw_of (i := 373) (by decide +kernel) rfl
theorem tw_374 : (Jvm.Cond.code ({ cls := "jdk/internal/util/Preconditions", name := "checkFromToIndex", desc := "(IIILjava/util/function/BiFunction;)I" } : Jvm.MethodName) prog_16_method_12_code (4 : Nat) (Option.some Jvm.ClassFile.FieldType.int)) ∈ mm_T := tw_of (i := 374) (by decide +kernel) rfl
theorem tw_375 : (Jvm.Cond.methodLink "java/lang/StringUTF16" (244 : Nat) ({ cls := "java/lang/StringUTF16", name := "indexOfCharUnsafe", desc := "([BIII)I" } : Jvm.MethodName)) ∈ mm_T := tw_of (i := 375) (by decide +kernel) rfl
theorem tw_376 : (Jvm.Cond.static ({ cls := "java/lang/StringUTF16", name := "indexOfCharUnsafe", desc := "([BIII)I" } : Jvm.MethodName)) ∈ mm_T := tw_of (i := 376) (by decide +kernel) rfl
theorem tw_377 : (Jvm.Cond.code ({ cls := "java/lang/StringUTF16", name := "indexOfCharUnsafe", desc := "([BIII)I" } : Jvm.MethodName) prog_15_method_48_code (5 : Nat) (Option.some Jvm.ClassFile.FieldType.int)) ∈ mm_T := tw_of (i := 377) (by decide +kernel) rfl
theorem tw_378 : (Jvm.Cond.methodLink "java/lang/StringUTF16" (71 : Nat) ({ cls := "java/lang/StringUTF16", name := "getChar", desc := "([BI)C" } : Jvm.MethodName)) ∈ mm_T := tw_of (i := 378) (by decide +kernel) rfl
theorem tw_379 : (Jvm.Cond.static ({ cls := "java/lang/StringUTF16", name := "getChar", desc := "([BI)C" } : Jvm.MethodName)) ∈ mm_T := tw_of (i := 379) (by decide +kernel) rfl
theorem tw_380 : (Jvm.Cond.code ({ cls := "java/lang/StringUTF16", name := "getChar", desc := "([BI)C" } : Jvm.MethodName) prog_15_method_5_code (2 : Nat) (Option.some Jvm.ClassFile.FieldType.char)) ∈ mm_T := tw_of (i := 380) (by decide +kernel) rfl
theorem tw_381 : (Jvm.Cond.fieldLink "java/lang/StringUTF16" (44 : Nat) "java/lang/StringUTF16" "$assertionsDisabled" "Z") ∈ mm_T := tw_of (i := 381) (by decide +kernel) rfl
theorem tw_383 : (Jvm.Cond.fieldLink "java/lang/StringUTF16" (59 : Nat) "java/lang/StringUTF16" "HI_BYTE_SHIFT" "I") ∈ mm_T := tw_of (i := 383) (by decide +kernel) rfl
theorem tw_385 : (Jvm.Cond.fieldLink "java/lang/StringUTF16" (63 : Nat) "java/lang/StringUTF16" "LO_BYTE_SHIFT" "I") ∈ mm_T := tw_of (i := 385) (by decide +kernel) rfl
theorem tw_387 : (Jvm.Cond.methodLink "java/lang/StringUTF16" (232 : Nat) ({ cls := "java/lang/StringUTF16", name := "indexOfSupplementary", desc := "([BIII)I" } : Jvm.MethodName)) ∈ mm_T := tw_of (i := 387) (by decide +kernel) rfl
theorem tw_388 : (Jvm.Cond.static ({ cls := "java/lang/StringUTF16", name := "indexOfSupplementary", desc := "([BIII)I" } : Jvm.MethodName)) ∈ mm_T := tw_of (i := 388) (by decide +kernel) rfl
theorem tw_389 : (Jvm.Cond.code ({ cls := "java/lang/StringUTF16", name := "indexOfSupplementary", desc := "([BIII)I" } : Jvm.MethodName) prog_15_method_49_code (7 : Nat) (Option.some Jvm.ClassFile.FieldType.int)) ∈ mm_T := tw_of (i := 389) (by decide +kernel) rfl
theorem tw_390 : (Jvm.Cond.methodLink "java/lang/StringUTF16" (164 : Nat) ({ cls := "java/lang/Character", name := "isValidCodePoint", desc := "(I)Z" } : Jvm.MethodName)) ∈ mm_T := tw_of (i := 390) (by decide +kernel) rfl
theorem tw_391 : (Jvm.Cond.static ({ cls := "java/lang/Character", name := "isValidCodePoint", desc := "(I)Z" } : Jvm.MethodName)) ∈ mm_T := tw_of (i := 391) (by decide +kernel) rfl
theorem tw_392 : (Jvm.Cond.code ({ cls := "java/lang/Character", name := "isValidCodePoint", desc := "(I)Z" } : Jvm.MethodName) prog_11_method_11_code (2 : Nat) (Option.some Jvm.ClassFile.FieldType.boolean)) ∈ mm_T := tw_of (i := 392) (by decide +kernel) rfl
theorem tw_393 : (Jvm.Cond.methodLink "java/lang/StringUTF16" (157 : Nat) ({ cls := "java/lang/Character", name := "highSurrogate", desc := "(I)C" } : Jvm.MethodName)) ∈ mm_T := tw_of (i := 393) (by decide +kernel) rfl
theorem tw_394 : (Jvm.Cond.static ({ cls := "java/lang/Character", name := "highSurrogate", desc := "(I)C" } : Jvm.MethodName)) ∈ mm_T := tw_of (i := 394) (by decide +kernel) rfl
theorem tw_395 : (Jvm.Cond.code ({ cls := "java/lang/Character", name := "highSurrogate", desc := "(I)C" } : Jvm.MethodName) prog_11_method_28_code (1 : Nat) (Option.some Jvm.ClassFile.FieldType.char)) ∈ mm_T := tw_of (i := 395) (by decide +kernel) rfl
theorem tw_396 : (Jvm.Cond.constant "java/lang/Character" (110 : Nat) (55232 : Int32)) ∈ mm_T := tw_of (i := 396) (by decide +kernel) rfl
theorem tw_397 : (Jvm.Cond.methodLink "java/lang/StringUTF16" (161 : Nat) ({ cls := "java/lang/Character", name := "lowSurrogate", desc := "(I)C" } : Jvm.MethodName)) ∈ mm_T := tw_of (i := 397) (by decide +kernel) rfl
theorem tw_398 : (Jvm.Cond.static ({ cls := "java/lang/Character", name := "lowSurrogate", desc := "(I)C" } : Jvm.MethodName)) ∈ mm_T := tw_of (i := 398) (by decide +kernel) rfl
theorem tw_399 : (Jvm.Cond.code ({ cls := "java/lang/Character", name := "lowSurrogate", desc := "(I)C" } : Jvm.MethodName) prog_11_method_29_code (1 : Nat) (Option.some Jvm.ClassFile.FieldType.char)) ∈ mm_T := tw_of (i := 399) (by decide +kernel) rfl
theorem tw_400 : (Jvm.Cond.constant "java/lang/Character" (76 : Nat) (56320 : Int32)) ∈ mm_T := tw_of (i := 400) (by decide +kernel) rfl
theorem tw_401 : (Jvm.Cond.methodLink "PatternBench" (63 : Nat) ({ cls := "PatternBench$Text", name := "isFull", desc := "()Z" } : Jvm.MethodName)) ∈ mm_T := tw_of (i := 401) (by decide +kernel) rfl
theorem tw_402 : (Jvm.Cond.instanceMethod ({ cls := "PatternBench$Text", name := "isFull", desc := "()Z" } : Jvm.MethodName)) ∈ mm_T := tw_of (i := 402) (by decide +kernel) rfl
theorem tw_403 : (Jvm.Cond.selects "PatternBench$Text" ({ cls := "PatternBench$Text", name := "isFull", desc := "()Z" } : Jvm.MethodName) ({ cls := "PatternBench$Text", name := "isFull", desc := "()Z" } : Jvm.MethodName)) ∈ mm_T := tw_of (i := 403) (by decide +kernel) rfl
theorem tw_404 : (Jvm.Cond.code ({ cls := "PatternBench$Text", name := "isFull", desc := "()Z" } : Jvm.MethodName) prog_8_method_2_code (1 : Nat) (Option.some Jvm.ClassFile.FieldType.boolean)) ∈ mm_T := tw_of (i := 404) (by decide +kernel) rfl
theorem tw_405 : (Jvm.Cond.methodLink "PatternBench" (69 : Nat) ({ cls := "PatternBench$Text", name := "add", desc := "(I)I" } : Jvm.MethodName)) ∈ mm_T := tw_of (i := 405) (by decide +kernel) rfl
theorem tw_406 : (Jvm.Cond.instanceMethod ({ cls := "PatternBench$Text", name := "add", desc := "(I)I" } : Jvm.MethodName)) ∈ mm_T := tw_of (i := 406) (by decide +kernel) rfl
theorem tw_407 : (Jvm.Cond.selects "PatternBench$Text" ({ cls := "PatternBench$Text", name := "add", desc := "(I)I" } : Jvm.MethodName) ({ cls := "PatternBench$Text", name := "add", desc := "(I)I" } : Jvm.MethodName)) ∈ mm_T := tw_of (i := 407) (by decide +kernel) rfl
theorem tw_408 : (Jvm.Cond.code ({ cls := "PatternBench$Text", name := "add", desc := "(I)I" } : Jvm.MethodName) prog_8_method_3_code (2 : Nat) (Option.some Jvm.ClassFile.FieldType.int)) ∈ mm_T := tw_of (i := 408) (by decide +kernel) rfl
theorem tw_409 : (Jvm.Cond.methodLink "PatternBench$Text" (19 : Nat) ({ cls := "PatternBench$Text", name := "isFull", desc := "()Z" } : Jvm.MethodName)) ∈ mm_T := tw_of (i := 409) (by decide +kernel) rfl
theorem tw_410 : (Jvm.Cond.arrayClass Jvm.ClassFile.FieldType.byte) ∈ mm_T := tw_of (i := 410) (by decide +kernel) rfl
theorem tw_411 : (Jvm.Cond.methodLink "PatternBenchLaw" (26 : Nat) ({ cls := "PatternBench", name := "compile", desc := "()I" } : Jvm.MethodName)) ∈ mm_T := tw_of (i := 411) (by decide +kernel) rfl
theorem tw_412 : (Jvm.Cond.instanceMethod ({ cls := "PatternBench", name := "compile", desc := "()I" } : Jvm.MethodName)) ∈ mm_T := tw_of (i := 412) (by decide +kernel) rfl
theorem tw_413 : (Jvm.Cond.selects "PatternBench" ({ cls := "PatternBench", name := "compile", desc := "()I" } : Jvm.MethodName) ({ cls := "PatternBench", name := "compile", desc := "()I" } : Jvm.MethodName)) ∈ mm_T := tw_of (i := 413) (by decide +kernel) rfl
theorem tw_414 : (Jvm.Cond.code ({ cls := "PatternBench", name := "compile", desc := "()I" } : Jvm.MethodName) prog_1_method_3_code (3 : Nat) (Option.some Jvm.ClassFile.FieldType.int)) ∈ mm_T := tw_of (i := 414) (by decide +kernel) rfl
theorem tw_415 : (Jvm.Cond.methodLink "PatternBench" (73 : Nat) ({ cls := "PatternBench$Reader", name := "read", desc := "()Z" } : Jvm.MethodName)) ∈ mm_T := tw_of (i := 415) (by decide +kernel) rfl
theorem tw_416 : (Jvm.Cond.instanceMethod ({ cls := "PatternBench$Reader", name := "read", desc := "()Z" } : Jvm.MethodName)) ∈ mm_T := tw_of (i := 416) (by decide +kernel) rfl
theorem tw_417 : (Jvm.Cond.selects "PatternBench$Reader" ({ cls := "PatternBench$Reader", name := "read", desc := "()Z" } : Jvm.MethodName) ({ cls := "PatternBench$Reader", name := "read", desc := "()Z" } : Jvm.MethodName)) ∈ mm_T := tw_of (i := 417) (by decide +kernel) rfl
theorem tw_418 : (Jvm.Cond.code ({ cls := "PatternBench$Reader", name := "read", desc := "()Z" } : Jvm.MethodName) prog_7_method_2_code (3 : Nat) (Option.some Jvm.ClassFile.FieldType.boolean)) ∈ mm_T := tw_of (i := 418) (by decide +kernel) rfl
theorem tw_419 : (Jvm.Cond.methodLink "PatternBench$Reader" (57 : Nat) ({ cls := "PatternBench$Program", name := "empty", desc := "()V" } : Jvm.MethodName)) ∈ mm_T := tw_of (i := 419) (by decide +kernel) rfl
theorem tw_420 : (Jvm.Cond.instanceMethod ({ cls := "PatternBench$Program", name := "empty", desc := "()V" } : Jvm.MethodName)) ∈ mm_T := tw_of (i := 420) (by decide +kernel) rfl
theorem tw_421 : (Jvm.Cond.selects "PatternBench$Program" ({ cls := "PatternBench$Program", name := "empty", desc := "()V" } : Jvm.MethodName) ({ cls := "PatternBench$Program", name := "empty", desc := "()V" } : Jvm.MethodName)) ∈ mm_T := tw_of (i := 421) (by decide +kernel) rfl
theorem tw_422 : (Jvm.Cond.code ({ cls := "PatternBench$Program", name := "empty", desc := "()V" } : Jvm.MethodName) prog_6_method_2_code (1 : Nat) (Option.none : Option Jvm.ClassFile.FieldType)) ∈ mm_T := tw_of (i := 422) (by decide +kernel) rfl
theorem tw_423 : (Jvm.Cond.methodLink "PatternBench$Reader" (60 : Nat) ({ cls := "PatternBench$Reader", name := "openLevel", desc := "(II)V" } : Jvm.MethodName)) ∈ mm_T := tw_of (i := 423) (by decide +kernel) rfl
theorem tw_425 : (Jvm.Cond.instanceMethod ({ cls := "PatternBench$Reader", name := "openLevel", desc := "(II)V" } : Jvm.MethodName)) ∈ mm_T := tw_of (i := 425) (by decide +kernel) rfl
theorem tw_426 : (Jvm.Cond.code ({ cls := "PatternBench$Reader", name := "openLevel", desc := "(II)V" } : Jvm.MethodName) prog_7_method_6_code (3 : Nat) (Option.none : Option Jvm.ClassFile.FieldType)) ∈ mm_T := tw_of (i := 426) (by decide +kernel) rfl
theorem tw_427 : (Jvm.Cond.methodLink "PatternBench$Reader" (115 : Nat) ({ cls := "PatternBench$Program", name := "addRow", desc := "()I" } : Jvm.MethodName)) ∈ mm_T := tw_of (i := 427) (by decide +kernel) rfl
theorem tw_428 : (Jvm.Cond.instanceMethod ({ cls := "PatternBench$Program", name := "addRow", desc := "()I" } : Jvm.MethodName)) ∈ mm_T := tw_of (i := 428) (by decide +kernel) rfl
theorem tw_429 : (Jvm.Cond.selects "PatternBench$Program" ({ cls := "PatternBench$Program", name := "addRow", desc := "()I" } : Jvm.MethodName) ({ cls := "PatternBench$Program", name := "addRow", desc := "()I" } : Jvm.MethodName)) ∈ mm_T := tw_of (i := 429) (by decide +kernel) rfl
theorem tw_430 : (Jvm.Cond.code ({ cls := "PatternBench$Program", name := "addRow", desc := "()I" } : Jvm.MethodName) prog_6_method_3_code (2 : Nat) (Option.some Jvm.ClassFile.FieldType.int)) ∈ mm_T := tw_of (i := 430) (by decide +kernel) rfl
theorem tw_431 : (Jvm.Cond.methodLink "PatternBench$Reader" (70 : Nat) ({ cls := "PatternBench$Reader", name := "readPart", desc := "()I" } : Jvm.MethodName)) ∈ mm_T := tw_of (i := 431) (by decide +kernel) rfl
theorem tw_433 : (Jvm.Cond.instanceMethod ({ cls := "PatternBench$Reader", name := "readPart", desc := "()I" } : Jvm.MethodName)) ∈ mm_T := tw_of (i := 433) (by decide +kernel) rfl
theorem tw_434 : (Jvm.Cond.code ({ cls := "PatternBench$Reader", name := "readPart", desc := "()I" } : Jvm.MethodName) prog_7_method_3_code (1 : Nat) (Option.some Jvm.ClassFile.FieldType.int)) ∈ mm_T := tw_of (i := 434) (by decide +kernel) rfl
theorem tw_435 : (Jvm.Cond.methodLink "PatternBench$Reader" (83 : Nat) ({ cls := "PatternBench$Reader", name := "ahead", desc := "(I)I" } : Jvm.MethodName)) ∈ mm_T := tw_of (i := 435) (by decide +kernel) rfl
theorem tw_437 : (Jvm.Cond.instanceMethod ({ cls := "PatternBench$Reader", name := "ahead", desc := "(I)I" } : Jvm.MethodName)) ∈ mm_T := tw_of (i := 437) (by decide +kernel) rfl
theorem tw_438 : (Jvm.Cond.code ({ cls := "PatternBench$Reader", name := "ahead", desc := "(I)I" } : Jvm.MethodName) prog_7_method_4_code (2 : Nat) (Option.some Jvm.ClassFile.FieldType.int)) ∈ mm_T := tw_of (i := 438) (by decide +kernel) rfl
theorem tw_439 : (Jvm.Cond.methodLink "PatternBench$Reader" (112 : Nat) ({ cls := "PatternBench$Text", name := "codeAt", desc := "(I)I" } : Jvm.MethodName)) ∈ mm_T := tw_of (i := 439) (by decide +kernel) rfl
theorem tw_440 : (Jvm.Cond.instanceMethod ({ cls := "PatternBench$Text", name := "codeAt", desc := "(I)I" } : Jvm.MethodName)) ∈ mm_T := tw_of (i := 440) (by decide +kernel) rfl
theorem tw_441 : (Jvm.Cond.selects "PatternBench$Text" ({ cls := "PatternBench$Text", name := "codeAt", desc := "(I)I" } : Jvm.MethodName) ({ cls := "PatternBench$Text", name := "codeAt", desc := "(I)I" } : Jvm.MethodName)) ∈ mm_T := tw_of (i := 441) (by decide +kernel) rfl
theorem tw_442 : (Jvm.Cond.code ({ cls := "PatternBench$Text", name := "codeAt", desc := "(I)I" } : Jvm.MethodName) prog_8_method_4_code (2 : Nat) (Option.some Jvm.ClassFile.FieldType.int)) ∈ mm_T := tw_of (i := 442) (by decide +kernel) rfl
theorem tw_443 : (Jvm.Cond.methodLink "PatternBench$Reader" (87 : Nat) ({ cls := "PatternBench$Reader", name := "openNextRow", desc := "()I" } : Jvm.MethodName)) ∈ mm_T := tw_of (i := 443) (by decide +kernel) rfl
theorem tw_445 : (Jvm.Cond.instanceMethod ({ cls := "PatternBench$Reader", name := "openNextRow", desc := "()I" } : Jvm.MethodName)) ∈ mm_T := tw_of (i := 445) (by decide +kernel) rfl
theorem tw_446 : (Jvm.Cond.code ({ cls := "PatternBench$Reader", name := "openNextRow", desc := "()I" } : Jvm.MethodName) prog_7_method_7_code (2 : Nat) (Option.some Jvm.ClassFile.FieldType.int)) ∈ mm_T := tw_of (i := 446) (by decide +kernel) rfl
theorem tw_447 : (Jvm.Cond.methodLink "PatternBench$Reader" (90 : Nat) ({ cls := "PatternBench$Reader", name := "closeChoice", desc := "()I" } : Jvm.MethodName)) ∈ mm_T := tw_of (i := 447) (by decide +kernel) rfl
theorem tw_449 : (Jvm.Cond.instanceMethod ({ cls := "PatternBench$Reader", name := "closeChoice", desc := "()I" } : Jvm.MethodName)) ∈ mm_T := tw_of (i := 449) (by decide +kernel) rfl
theorem tw_450 : (Jvm.Cond.code ({ cls := "PatternBench$Reader", name := "closeChoice", desc := "()I" } : Jvm.MethodName) prog_7_method_10_code (2 : Nat) (Option.some Jvm.ClassFile.FieldType.int)) ∈ mm_T := tw_of (i := 450) (by decide +kernel) rfl
theorem tw_451 : (Jvm.Cond.methodLink "PatternBench$Reader" (124 : Nat) ({ cls := "PatternBench$Reader", name := "refuse", desc := "()I" } : Jvm.MethodName)) ∈ mm_T := tw_of (i := 451) (by decide +kernel) rfl
theorem tw_453 : (Jvm.Cond.instanceMethod ({ cls := "PatternBench$Reader", name := "refuse", desc := "()I" } : Jvm.MethodName)) ∈ mm_T := tw_of (i := 453) (by decide +kernel) rfl
theorem tw_454 : (Jvm.Cond.code ({ cls := "PatternBench$Reader", name := "refuse", desc := "()I" } : Jvm.MethodName) prog_7_method_5_code (1 : Nat) (Option.some Jvm.ClassFile.FieldType.int)) ∈ mm_T := tw_of (i := 454) (by decide +kernel) rfl
theorem tw_455 : (Jvm.Cond.methodLinkNest "PatternBench$Reader" (93 : Nat) ({ cls := "PatternBench", name := "isDigit", desc := "(I)Z" } : Jvm.MethodName) "PatternBench") ∈ mm_N := tw_n (i := 455) (by decide +kernel) rfl
theorem tw_456 : (Jvm.Cond.methodLink "PatternBench$Reader" (97 : Nat) ({ cls := "PatternBench$Reader", name := "readCall", desc := "()I" } : Jvm.MethodName)) ∈ mm_T := tw_of (i := 456) (by decide +kernel) rfl
theorem tw_458 : (Jvm.Cond.instanceMethod ({ cls := "PatternBench$Reader", name := "readCall", desc := "()I" } : Jvm.MethodName)) ∈ mm_T := tw_of (i := 458) (by decide +kernel) rfl
theorem tw_459 : (Jvm.Cond.code ({ cls := "PatternBench$Reader", name := "readCall", desc := "()I" } : Jvm.MethodName) prog_7_method_11_code (2 : Nat) (Option.some Jvm.ClassFile.FieldType.int)) ∈ mm_T := tw_of (i := 459) (by decide +kernel) rfl
theorem tw_460 : (Jvm.Cond.methodLink "PatternBench$Reader" (134 : Nat) ({ cls := "java/lang/Math", name := "max", desc := "(II)I" } : Jvm.MethodName)) ∈ mm_T := tw_of (i := 460) (by decide +kernel) rfl
theorem tw_461 : (Jvm.Cond.methodLink "PatternBench$Reader" (127 : Nat) ({ cls := "PatternBench$Reader", name := "appendItem", desc := "(II)I" } : Jvm.MethodName)) ∈ mm_T := tw_of (i := 461) (by decide +kernel) rfl
theorem tw_463 : (Jvm.Cond.instanceMethod ({ cls := "PatternBench$Reader", name := "appendItem", desc := "(II)I" } : Jvm.MethodName)) ∈ mm_T := tw_of (i := 463) (by decide +kernel) rfl
theorem tw_464 : (Jvm.Cond.code ({ cls := "PatternBench$Reader", name := "appendItem", desc := "(II)I" } : Jvm.MethodName) prog_7_method_17_code (4 : Nat) (Option.some Jvm.ClassFile.FieldType.int)) ∈ mm_T := tw_of (i := 464) (by decide +kernel) rfl
theorem tw_465 : (Jvm.Cond.methodLink "PatternBench$Reader" (149 : Nat) ({ cls := "PatternBench$Program", name := "addItem", desc := "(II)I" } : Jvm.MethodName)) ∈ mm_T := tw_of (i := 465) (by decide +kernel) rfl
theorem tw_466 : (Jvm.Cond.instanceMethod ({ cls := "PatternBench$Program", name := "addItem", desc := "(II)I" } : Jvm.MethodName)) ∈ mm_T := tw_of (i := 466) (by decide +kernel) rfl
theorem tw_467 : (Jvm.Cond.selects "PatternBench$Program" ({ cls := "PatternBench$Program", name := "addItem", desc := "(II)I" } : Jvm.MethodName) ({ cls := "PatternBench$Program", name := "addItem", desc := "(II)I" } : Jvm.MethodName)) ∈ mm_T := tw_of (i := 467) (by decide +kernel) rfl
theorem tw_468 : (Jvm.Cond.code ({ cls := "PatternBench$Program", name := "addItem", desc := "(II)I" } : Jvm.MethodName) prog_6_method_4_code (4 : Nat) (Option.some Jvm.ClassFile.FieldType.int)) ∈ mm_T := tw_of (i := 468) (by decide +kernel) rfl
theorem tw_469 : (Jvm.Cond.methodLink "PatternBench$Reader" (100 : Nat) ({ cls := "PatternBench$Reader", name := "openChoice", desc := "()I" } : Jvm.MethodName)) ∈ mm_T := tw_of (i := 469) (by decide +kernel) rfl
theorem tw_471 : (Jvm.Cond.instanceMethod ({ cls := "PatternBench$Reader", name := "openChoice", desc := "()I" } : Jvm.MethodName)) ∈ mm_T := tw_of (i := 471) (by decide +kernel) rfl
theorem tw_472 : (Jvm.Cond.code ({ cls := "PatternBench$Reader", name := "openChoice", desc := "()I" } : Jvm.MethodName) prog_7_method_8_code (4 : Nat) (Option.some Jvm.ClassFile.FieldType.int)) ∈ mm_T := tw_of (i := 472) (by decide +kernel) rfl
theorem tw_473 : (Jvm.Cond.methodLink "PatternBench$Reader" (121 : Nat) ({ cls := "PatternBench$Reader", name := "kindOfChoice", desc := "()I" } : Jvm.MethodName)) ∈ mm_T := tw_of (i := 473) (by decide +kernel) rfl
theorem tw_475 : (Jvm.Cond.instanceMethod ({ cls := "PatternBench$Reader", name := "kindOfChoice", desc := "()I" } : Jvm.MethodName)) ∈ mm_T := tw_of (i := 475) (by decide +kernel) rfl
theorem tw_476 : (Jvm.Cond.code ({ cls := "PatternBench$Reader", name := "kindOfChoice", desc := "()I" } : Jvm.MethodName) prog_7_method_9_code (1 : Nat) (Option.some Jvm.ClassFile.FieldType.int)) ∈ mm_T := tw_of (i := 476) (by decide +kernel) rfl
theorem tw_477 : (Jvm.Cond.methodLink "PatternBench$Reader" (103 : Nat) ({ cls := "PatternBench$Reader", name := "readClass", desc := "()I" } : Jvm.MethodName)) ∈ mm_T := tw_of (i := 477) (by decide +kernel) rfl
theorem tw_479 : (Jvm.Cond.instanceMethod ({ cls := "PatternBench$Reader", name := "readClass", desc := "()I" } : Jvm.MethodName)) ∈ mm_T := tw_of (i := 479) (by decide +kernel) rfl
theorem tw_480 : (Jvm.Cond.code ({ cls := "PatternBench$Reader", name := "readClass", desc := "()I" } : Jvm.MethodName) prog_7_method_14_code (4 : Nat) (Option.some Jvm.ClassFile.FieldType.int)) ∈ mm_T := tw_of (i := 480) (by decide +kernel) rfl
theorem tw_481 : (Jvm.Cond.methodLinkNest "PatternBench$Reader" (139 : Nat) ({ cls := "PatternBench", name := "isLetter", desc := "(I)Z" } : Jvm.MethodName) "PatternBench") ∈ mm_N := tw_n (i := 481) (by decide +kernel) rfl
theorem tw_482 : (Jvm.Cond.methodLink "PatternBench$Reader" (146 : Nat) ({ cls := "PatternBench$Reader", name := "readClassPart", desc := "()I" } : Jvm.MethodName)) ∈ mm_T := tw_of (i := 482) (by decide +kernel) rfl
theorem tw_484 : (Jvm.Cond.instanceMethod ({ cls := "PatternBench$Reader", name := "readClassPart", desc := "()I" } : Jvm.MethodName)) ∈ mm_T := tw_of (i := 484) (by decide +kernel) rfl
theorem tw_485 : (Jvm.Cond.code ({ cls := "PatternBench$Reader", name := "readClassPart", desc := "()I" } : Jvm.MethodName) prog_7_method_15_code (3 : Nat) (Option.some Jvm.ClassFile.FieldType.int)) ∈ mm_T := tw_of (i := 485) (by decide +kernel) rfl
theorem tw_486 : (Jvm.Cond.methodLink "PatternBench$Reader" (142 : Nat) ({ cls := "PatternBench$Reader", name := "lettersBetween", desc := "(II)I" } : Jvm.MethodName)) ∈ mm_T := tw_of (i := 486) (by decide +kernel) rfl
theorem tw_487 : (Jvm.Cond.static ({ cls := "PatternBench$Reader", name := "lettersBetween", desc := "(II)I" } : Jvm.MethodName)) ∈ mm_T := tw_of (i := 487) (by decide +kernel) rfl
theorem tw_488 : (Jvm.Cond.code ({ cls := "PatternBench$Reader", name := "lettersBetween", desc := "(II)I" } : Jvm.MethodName) prog_7_method_16_code (2 : Nat) (Option.some Jvm.ClassFile.FieldType.int)) ∈ mm_T := tw_of (i := 488) (by decide +kernel) rfl
theorem tw_489 : (Jvm.Cond.constant "PatternBench$Reader" (145 : Nat) (67108863 : Int32)) ∈ mm_T := tw_of (i := 489) (by decide +kernel) rfl
theorem tw_490 : (Jvm.Cond.methodLink "PatternBench$Reader" (106 : Nat) ({ cls := "PatternBench$Reader", name := "readReference", desc := "()I" } : Jvm.MethodName)) ∈ mm_T := tw_of (i := 490) (by decide +kernel) rfl
theorem tw_492 : (Jvm.Cond.instanceMethod ({ cls := "PatternBench$Reader", name := "readReference", desc := "()I" } : Jvm.MethodName)) ∈ mm_T := tw_of (i := 492) (by decide +kernel) rfl
theorem tw_493 : (Jvm.Cond.code ({ cls := "PatternBench$Reader", name := "readReference", desc := "()I" } : Jvm.MethodName) prog_7_method_12_code (2 : Nat) (Option.some Jvm.ClassFile.FieldType.int)) ∈ mm_T := tw_of (i := 493) (by decide +kernel) rfl
theorem tw_494 : (Jvm.Cond.methodLink "PatternBench$Reader" (109 : Nat) ({ cls := "PatternBench$Reader", name := "readSign", desc := "()I" } : Jvm.MethodName)) ∈ mm_T := tw_of (i := 494) (by decide +kernel) rfl
theorem tw_496 : (Jvm.Cond.instanceMethod ({ cls := "PatternBench$Reader", name := "readSign", desc := "()I" } : Jvm.MethodName)) ∈ mm_T := tw_of (i := 496) (by decide +kernel) rfl
theorem tw_497 : (Jvm.Cond.code ({ cls := "PatternBench$Reader", name := "readSign", desc := "()I" } : Jvm.MethodName) prog_7_method_13_code (2 : Nat) (Option.some Jvm.ClassFile.FieldType.int)) ∈ mm_T := tw_of (i := 497) (by decide +kernel) rfl
theorem tw_498 : (Jvm.Cond.methodLink "PatternBench$Reader" (74 : Nat) ({ cls := "PatternBench$Reader", name := "readRepeat", desc := "(I)V" } : Jvm.MethodName)) ∈ mm_T := tw_of (i := 498) (by decide +kernel) rfl
theorem tw_500 : (Jvm.Cond.instanceMethod ({ cls := "PatternBench$Reader", name := "readRepeat", desc := "(I)V" } : Jvm.MethodName)) ∈ mm_T := tw_of (i := 500) (by decide +kernel) rfl
theorem tw_501 : (Jvm.Cond.code ({ cls := "PatternBench$Reader", name := "readRepeat", desc := "(I)V" } : Jvm.MethodName) prog_7_method_18_code (2 : Nat) (Option.none : Option Jvm.ClassFile.FieldType)) ∈ mm_T := tw_of (i := 501) (by decide +kernel) rfl
theorem tw_502 : (Jvm.Cond.methodLink "PatternBench$Reader" (158 : Nat) ({ cls := "PatternBench$Reader", name := "setRepeat", desc := "(IIII)V" } : Jvm.MethodName)) ∈ mm_T := tw_of (i := 502) (by decide +kernel) rfl
theorem tw_504 : (Jvm.Cond.instanceMethod ({ cls := "PatternBench$Reader", name := "setRepeat", desc := "(IIII)V" } : Jvm.MethodName)) ∈ mm_T := tw_of (i := 504) (by decide +kernel) rfl
theorem tw_505 : (Jvm.Cond.code ({ cls := "PatternBench$Reader", name := "setRepeat", desc := "(IIII)V" } : Jvm.MethodName) prog_7_method_20_code (5 : Nat) (Option.none : Option Jvm.ClassFile.FieldType)) ∈ mm_T := tw_of (i := 505) (by decide +kernel) rfl
theorem tw_506 : (Jvm.Cond.methodLink "PatternBench$Reader" (162 : Nat) ({ cls := "PatternBench$Reader", name := "readTimes", desc := "(I)V" } : Jvm.MethodName)) ∈ mm_T := tw_of (i := 506) (by decide +kernel) rfl
theorem tw_508 : (Jvm.Cond.instanceMethod ({ cls := "PatternBench$Reader", name := "readTimes", desc := "(I)V" } : Jvm.MethodName)) ∈ mm_T := tw_of (i := 508) (by decide +kernel) rfl
theorem tw_509 : (Jvm.Cond.code ({ cls := "PatternBench$Reader", name := "readTimes", desc := "(I)V" } : Jvm.MethodName) prog_7_method_19_code (3 : Nat) (Option.none : Option Jvm.ClassFile.FieldType)) ∈ mm_T := tw_of (i := 509) (by decide +kernel) rfl
theorem tw_510 : (Jvm.Cond.methodLink "PatternBenchLaw" (31 : Nat) ({ cls := "PatternBench", name := "feed", desc := "(I)I" } : Jvm.MethodName)) ∈ mm_T := tw_of (i := 510) (by decide +kernel) rfl
theorem tw_511 : (Jvm.Cond.instanceMethod ({ cls := "PatternBench", name := "feed", desc := "(I)I" } : Jvm.MethodName)) ∈ mm_T := tw_of (i := 511) (by decide +kernel) rfl
theorem tw_512 : (Jvm.Cond.selects "PatternBench" ({ cls := "PatternBench", name := "feed", desc := "(I)I" } : Jvm.MethodName) ({ cls := "PatternBench", name := "feed", desc := "(I)I" } : Jvm.MethodName)) ∈ mm_T := tw_of (i := 512) (by decide +kernel) rfl
theorem tw_513 : (Jvm.Cond.code ({ cls := "PatternBench", name := "feed", desc := "(I)I" } : Jvm.MethodName) prog_1_method_4_code (2 : Nat) (Option.some Jvm.ClassFile.FieldType.int)) ∈ mm_T := tw_of (i := 513) (by decide +kernel) rfl
theorem tw_514 : (Jvm.Cond.methodLink "PatternBenchLaw" (35 : Nat) ({ cls := "PatternBench", name := "clear", desc := "()I" } : Jvm.MethodName)) ∈ mm_T := tw_of (i := 514) (by decide +kernel) rfl
theorem tw_515 : (Jvm.Cond.instanceMethod ({ cls := "PatternBench", name := "clear", desc := "()I" } : Jvm.MethodName)) ∈ mm_T := tw_of (i := 515) (by decide +kernel) rfl
theorem tw_516 : (Jvm.Cond.selects "PatternBench" ({ cls := "PatternBench", name := "clear", desc := "()I" } : Jvm.MethodName) ({ cls := "PatternBench", name := "clear", desc := "()I" } : Jvm.MethodName)) ∈ mm_T := tw_of (i := 516) (by decide +kernel) rfl
theorem tw_517 : (Jvm.Cond.code ({ cls := "PatternBench", name := "clear", desc := "()I" } : Jvm.MethodName) prog_1_method_5_code (2 : Nat) (Option.some Jvm.ClassFile.FieldType.int)) ∈ mm_T := tw_of (i := 517) (by decide +kernel) rfl
theorem tw_518 : (Jvm.Cond.methodLink "PatternBenchLaw" (39 : Nat) ({ cls := "PatternBench", name := "search", desc := "(I)I" } : Jvm.MethodName)) ∈ mm_T := tw_of (i := 518) (by decide +kernel) rfl
theorem tw_519 : (Jvm.Cond.instanceMethod ({ cls := "PatternBench", name := "search", desc := "(I)I" } : Jvm.MethodName)) ∈ mm_T := tw_of (i := 519) (by decide +kernel) rfl
theorem tw_520 : (Jvm.Cond.selects "PatternBench" ({ cls := "PatternBench", name := "search", desc := "(I)I" } : Jvm.MethodName) ({ cls := "PatternBench", name := "search", desc := "(I)I" } : Jvm.MethodName)) ∈ mm_T := tw_of (i := 520) (by decide +kernel) rfl
theorem tw_521 : (Jvm.Cond.code ({ cls := "PatternBench", name := "search", desc := "(I)I" } : Jvm.MethodName) prog_1_method_6_code (2 : Nat) (Option.some Jvm.ClassFile.FieldType.int)) ∈ mm_T := tw_of (i := 521) (by decide +kernel) rfl
theorem tw_522 : (Jvm.Cond.methodLink "PatternBench" (98 : Nat) ({ cls := "PatternBench", name := "searchFrom", desc := "(I)I" } : Jvm.MethodName)) ∈ mm_T := tw_of (i := 522) (by decide +kernel) rfl
theorem tw_524 : (Jvm.Cond.instanceMethod ({ cls := "PatternBench", name := "searchFrom", desc := "(I)I" } : Jvm.MethodName)) ∈ mm_T := tw_of (i := 524) (by decide +kernel) rfl
theorem tw_525 : (Jvm.Cond.code ({ cls := "PatternBench", name := "searchFrom", desc := "(I)I" } : Jvm.MethodName) prog_1_method_13_code (3 : Nat) (Option.some Jvm.ClassFile.FieldType.int)) ∈ mm_T := tw_of (i := 525) (by decide +kernel) rfl
theorem tw_526 : (Jvm.Cond.methodLink "PatternBench" (114 : Nat) ({ cls := "PatternBench$Matcher", name := "find", desc := "(I)I" } : Jvm.MethodName)) ∈ mm_T := tw_of (i := 526) (by decide +kernel) rfl
theorem tw_527 : (Jvm.Cond.instanceMethod ({ cls := "PatternBench$Matcher", name := "find", desc := "(I)I" } : Jvm.MethodName)) ∈ mm_T := tw_of (i := 527) (by decide +kernel) rfl
theorem tw_528 : (Jvm.Cond.selects "PatternBench$Matcher" ({ cls := "PatternBench$Matcher", name := "find", desc := "(I)I" } : Jvm.MethodName) ({ cls := "PatternBench$Matcher", name := "find", desc := "(I)I" } : Jvm.MethodName)) ∈ mm_T := tw_of (i := 528) (by decide +kernel) rfl
theorem tw_529 : (Jvm.Cond.code ({ cls := "PatternBench$Matcher", name := "find", desc := "(I)I" } : Jvm.MethodName) prog_5_method_2_code (4 : Nat) (Option.some Jvm.ClassFile.FieldType.int)) ∈ mm_T := tw_of (i := 529) (by decide +kernel) rfl
theorem tw_530 : (Jvm.Cond.methodLink "PatternBench$Matcher" (67 : Nat) ({ cls := "PatternBench$Matcher", name := "beginAt", desc := "(I)V" } : Jvm.MethodName)) ∈ mm_T := tw_of (i := 530) (by decide +kernel) rfl
theorem tw_532 : (Jvm.Cond.instanceMethod ({ cls := "PatternBench$Matcher", name := "beginAt", desc := "(I)V" } : Jvm.MethodName)) ∈ mm_T := tw_of (i := 532) (by decide +kernel) rfl
theorem tw_533 : (Jvm.Cond.code ({ cls := "PatternBench$Matcher", name := "beginAt", desc := "(I)V" } : Jvm.MethodName) prog_5_method_3_code (2 : Nat) (Option.none : Option Jvm.ClassFile.FieldType)) ∈ mm_T := tw_of (i := 533) (by decide +kernel) rfl
theorem tw_534 : (Jvm.Cond.methodLink "PatternBench$Matcher" (78 : Nat) ({ cls := "PatternBench$Frames", name := "empty", desc := "()V" } : Jvm.MethodName)) ∈ mm_T := tw_of (i := 534) (by decide +kernel) rfl
theorem tw_535 : (Jvm.Cond.instanceMethod ({ cls := "PatternBench$Frames", name := "empty", desc := "()V" } : Jvm.MethodName)) ∈ mm_T := tw_of (i := 535) (by decide +kernel) rfl
theorem tw_536 : (Jvm.Cond.selects "PatternBench$Frames" ({ cls := "PatternBench$Frames", name := "empty", desc := "()V" } : Jvm.MethodName) ({ cls := "PatternBench$Frames", name := "empty", desc := "()V" } : Jvm.MethodName)) ∈ mm_T := tw_of (i := 536) (by decide +kernel) rfl
theorem tw_537 : (Jvm.Cond.code ({ cls := "PatternBench$Frames", name := "empty", desc := "()V" } : Jvm.MethodName) prog_4_method_2_code (1 : Nat) (Option.none : Option Jvm.ClassFile.FieldType)) ∈ mm_T := tw_of (i := 537) (by decide +kernel) rfl
theorem tw_538 : (Jvm.Cond.methodLink "PatternBench$Matcher" (81 : Nat) ({ cls := "PatternBench$Choices", name := "cutTo", desc := "(I)V" } : Jvm.MethodName)) ∈ mm_T := tw_of (i := 538) (by decide +kernel) rfl
theorem tw_539 : (Jvm.Cond.instanceMethod ({ cls := "PatternBench$Choices", name := "cutTo", desc := "(I)V" } : Jvm.MethodName)) ∈ mm_T := tw_of (i := 539) (by decide +kernel) rfl
theorem tw_540 : (Jvm.Cond.selects "PatternBench$Choices" ({ cls := "PatternBench$Choices", name := "cutTo", desc := "(I)V" } : Jvm.MethodName) ({ cls := "PatternBench$Choices", name := "cutTo", desc := "(I)V" } : Jvm.MethodName)) ∈ mm_T := tw_of (i := 540) (by decide +kernel) rfl
theorem tw_541 : (Jvm.Cond.code ({ cls := "PatternBench$Choices", name := "cutTo", desc := "(I)V" } : Jvm.MethodName) prog_3_method_4_code (2 : Nat) (Option.none : Option Jvm.ClassFile.FieldType)) ∈ mm_T := tw_of (i := 541) (by decide +kernel) rfl
theorem tw_542 : (Jvm.Cond.methodLink "PatternBench$Matcher" (88 : Nat) ({ cls := "PatternBench$Matcher", name := "go", desc := "(II)V" } : Jvm.MethodName)) ∈ mm_T := tw_of (i := 542) (by decide +kernel) rfl
theorem tw_544 : (Jvm.Cond.instanceMethod ({ cls := "PatternBench$Matcher", name := "go", desc := "(II)V" } : Jvm.MethodName)) ∈ mm_T := tw_of (i := 544) (by decide +kernel) rfl
theorem tw_545 : (Jvm.Cond.code ({ cls := "PatternBench$Matcher", name := "go", desc := "(II)V" } : Jvm.MethodName) prog_5_method_5_code (3 : Nat) (Option.none : Option Jvm.ClassFile.FieldType)) ∈ mm_T := tw_of (i := 545) (by decide +kernel) rfl
theorem tw_546 : (Jvm.Cond.constant "PatternBench$Matcher" (70 : Nat) (1000000 : Int32)) ∈ mm_T := tw_of (i := 546) (by decide +kernel) rfl
theorem tw_547 : (Jvm.Cond.methodLink "PatternBench$Matcher" (71 : Nat) ({ cls := "PatternBench$Matcher", name := "goesOn", desc := "()Z" } : Jvm.MethodName)) ∈ mm_T := tw_of (i := 547) (by decide +kernel) rfl
theorem tw_549 : (Jvm.Cond.instanceMethod ({ cls := "PatternBench$Matcher", name := "goesOn", desc := "()Z" } : Jvm.MethodName)) ∈ mm_T := tw_of (i := 549) (by decide +kernel) rfl
theorem tw_550 : (Jvm.Cond.code ({ cls := "PatternBench$Matcher", name := "goesOn", desc := "()Z" } : Jvm.MethodName) prog_5_method_4_code (1 : Nat) (Option.some Jvm.ClassFile.FieldType.boolean)) ∈ mm_T := tw_of (i := 550) (by decide +kernel) rfl
theorem tw_551 : (Jvm.Cond.methodLink "PatternBench$Matcher" (92 : Nat) ({ cls := "PatternBench$Frames", name := "hasRoom", desc := "(I)Z" } : Jvm.MethodName)) ∈ mm_T := tw_of (i := 551) (by decide +kernel) rfl
theorem tw_552 : (Jvm.Cond.instanceMethod ({ cls := "PatternBench$Frames", name := "hasRoom", desc := "(I)Z" } : Jvm.MethodName)) ∈ mm_T := tw_of (i := 552) (by decide +kernel) rfl
theorem tw_553 : (Jvm.Cond.selects "PatternBench$Frames" ({ cls := "PatternBench$Frames", name := "hasRoom", desc := "(I)Z" } : Jvm.MethodName) ({ cls := "PatternBench$Frames", name := "hasRoom", desc := "(I)Z" } : Jvm.MethodName)) ∈ mm_T := tw_of (i := 553) (by decide +kernel) rfl
theorem tw_554 : (Jvm.Cond.code ({ cls := "PatternBench$Frames", name := "hasRoom", desc := "(I)Z" } : Jvm.MethodName) prog_4_method_3_code (2 : Nat) (Option.some Jvm.ClassFile.FieldType.boolean)) ∈ mm_T := tw_of (i := 554) (by decide +kernel) rfl
theorem tw_555 : (Jvm.Cond.methodLink "PatternBench$Matcher" (96 : Nat) ({ cls := "PatternBench$Choices", name := "hasRoom", desc := "(I)Z" } : Jvm.MethodName)) ∈ mm_T := tw_of (i := 555) (by decide +kernel) rfl
theorem tw_556 : (Jvm.Cond.instanceMethod ({ cls := "PatternBench$Choices", name := "hasRoom", desc := "(I)Z" } : Jvm.MethodName)) ∈ mm_T := tw_of (i := 556) (by decide +kernel) rfl
theorem tw_557 : (Jvm.Cond.selects "PatternBench$Choices" ({ cls := "PatternBench$Choices", name := "hasRoom", desc := "(I)Z" } : Jvm.MethodName) ({ cls := "PatternBench$Choices", name := "hasRoom", desc := "(I)Z" } : Jvm.MethodName)) ∈ mm_T := tw_of (i := 557) (by decide +kernel) rfl
theorem tw_558 : (Jvm.Cond.code ({ cls := "PatternBench$Choices", name := "hasRoom", desc := "(I)Z" } : Jvm.MethodName) prog_3_method_2_code (2 : Nat) (Option.some Jvm.ClassFile.FieldType.boolean)) ∈ mm_T := tw_of (i := 558) (by decide +kernel) rfl
theorem tw_559 : (Jvm.Cond.methodLink "PatternBench$Matcher" (75 : Nat) ({ cls := "PatternBench$Matcher", name := "takeTurn", desc := "()V" } : Jvm.MethodName)) ∈ mm_T := tw_of (i := 559) (by decide +kernel) rfl
theorem tw_561 : (Jvm.Cond.instanceMethod ({ cls := "PatternBench$Matcher", name := "takeTurn", desc := "()V" } : Jvm.MethodName)) ∈ mm_T := tw_of (i := 561) (by decide +kernel) rfl
theorem tw_562 : (Jvm.Cond.code ({ cls := "PatternBench$Matcher", name := "takeTurn", desc := "()V" } : Jvm.MethodName) prog_5_method_6_code (1 : Nat) (Option.none : Option Jvm.ClassFile.FieldType)) ∈ mm_T := tw_of (i := 562) (by decide +kernel) rfl
theorem tw_563 : (Jvm.Cond.methodLink "PatternBench$Matcher" (97 : Nat) ({ cls := "PatternBench$Matcher", name := "enterRow", desc := "(I)V" } : Jvm.MethodName)) ∈ mm_T := tw_of (i := 563) (by decide +kernel) rfl
theorem tw_565 : (Jvm.Cond.instanceMethod ({ cls := "PatternBench$Matcher", name := "enterRow", desc := "(I)V" } : Jvm.MethodName)) ∈ mm_T := tw_of (i := 565) (by decide +kernel) rfl
theorem tw_566 : (Jvm.Cond.code ({ cls := "PatternBench$Matcher", name := "enterRow", desc := "(I)V" } : Jvm.MethodName) prog_5_method_7_code (3 : Nat) (Option.none : Option Jvm.ClassFile.FieldType)) ∈ mm_T := tw_of (i := 566) (by decide +kernel) rfl
theorem tw_567 : (Jvm.Cond.methodLink "PatternBench$Matcher" (124 : Nat) ({ cls := "PatternBench$Choices", name := "add", desc := "(IIIJI)V" } : Jvm.MethodName)) ∈ mm_T := tw_of (i := 567) (by decide +kernel) rfl
theorem tw_568 : (Jvm.Cond.instanceMethod ({ cls := "PatternBench$Choices", name := "add", desc := "(IIIJI)V" } : Jvm.MethodName)) ∈ mm_T := tw_of (i := 568) (by decide +kernel) rfl
theorem tw_569 : (Jvm.Cond.selects "PatternBench$Choices" ({ cls := "PatternBench$Choices", name := "add", desc := "(IIIJI)V" } : Jvm.MethodName) ({ cls := "PatternBench$Choices", name := "add", desc := "(IIIJI)V" } : Jvm.MethodName)) ∈ mm_T := tw_of (i := 569) (by decide +kernel) rfl
theorem tw_570 : (Jvm.Cond.code ({ cls := "PatternBench$Choices", name := "add", desc := "(IIIJI)V" } : Jvm.MethodName) prog_3_method_3_code (7 : Nat) (Option.none : Option Jvm.ClassFile.FieldType)) ∈ mm_T := tw_of (i := 570) (by decide +kernel) rfl
theorem tw_571 : (Jvm.Cond.methodLink "PatternBench$Matcher" (100 : Nat) ({ cls := "PatternBench$Matcher", name := "enterItem", desc := "(I)V" } : Jvm.MethodName)) ∈ mm_T := tw_of (i := 571) (by decide +kernel) rfl
theorem tw_573 : (Jvm.Cond.instanceMethod ({ cls := "PatternBench$Matcher", name := "enterItem", desc := "(I)V" } : Jvm.MethodName)) ∈ mm_T := tw_of (i := 573) (by decide +kernel) rfl
theorem tw_574 : (Jvm.Cond.code ({ cls := "PatternBench$Matcher", name := "enterItem", desc := "(I)V" } : Jvm.MethodName) prog_5_method_8_code (3 : Nat) (Option.none : Option Jvm.ClassFile.FieldType)) ∈ mm_T := tw_of (i := 574) (by decide +kernel) rfl
theorem tw_575 : (Jvm.Cond.methodLink "PatternBench$Matcher" (143 : Nat) ({ cls := "PatternBench$Frames", name := "add", desc := "(IIIIJI)I" } : Jvm.MethodName)) ∈ mm_T := tw_of (i := 575) (by decide +kernel) rfl
theorem tw_576 : (Jvm.Cond.instanceMethod ({ cls := "PatternBench$Frames", name := "add", desc := "(IIIIJI)I" } : Jvm.MethodName)) ∈ mm_T := tw_of (i := 576) (by decide +kernel) rfl
theorem tw_577 : (Jvm.Cond.selects "PatternBench$Frames" ({ cls := "PatternBench$Frames", name := "add", desc := "(IIIIJI)I" } : Jvm.MethodName) ({ cls := "PatternBench$Frames", name := "add", desc := "(IIIIJI)I" } : Jvm.MethodName)) ∈ mm_T := tw_of (i := 577) (by decide +kernel) rfl
theorem tw_578 : (Jvm.Cond.code ({ cls := "PatternBench$Frames", name := "add", desc := "(IIIIJI)I" } : Jvm.MethodName) prog_4_method_4_code (9 : Nat) (Option.some Jvm.ClassFile.FieldType.int)) ∈ mm_T := tw_of (i := 578) (by decide +kernel) rfl
theorem tw_579 : (Jvm.Cond.methodLink "PatternBench$Matcher" (146 : Nat) ({ cls := "PatternBench$Matcher", name := "fork", desc := "(I)V" } : Jvm.MethodName)) ∈ mm_T := tw_of (i := 579) (by decide +kernel) rfl
theorem tw_581 : (Jvm.Cond.instanceMethod ({ cls := "PatternBench$Matcher", name := "fork", desc := "(I)V" } : Jvm.MethodName)) ∈ mm_T := tw_of (i := 581) (by decide +kernel) rfl
theorem tw_582 : (Jvm.Cond.code ({ cls := "PatternBench$Matcher", name := "fork", desc := "(I)V" } : Jvm.MethodName) prog_5_method_9_code (3 : Nat) (Option.none : Option Jvm.ClassFile.FieldType)) ∈ mm_T := tw_of (i := 582) (by decide +kernel) rfl
theorem tw_583 : (Jvm.Cond.methodLink "PatternBench$Matcher" (103 : Nat) ({ cls := "PatternBench$Matcher", name := "tryAtom", desc := "(I)V" } : Jvm.MethodName)) ∈ mm_T := tw_of (i := 583) (by decide +kernel) rfl
theorem tw_585 : (Jvm.Cond.instanceMethod ({ cls := "PatternBench$Matcher", name := "tryAtom", desc := "(I)V" } : Jvm.MethodName)) ∈ mm_T := tw_of (i := 585) (by decide +kernel) rfl
theorem tw_586 : (Jvm.Cond.code ({ cls := "PatternBench$Matcher", name := "tryAtom", desc := "(I)V" } : Jvm.MethodName) prog_5_method_10_code (2 : Nat) (Option.none : Option Jvm.ClassFile.FieldType)) ∈ mm_T := tw_of (i := 586) (by decide +kernel) rfl
theorem tw_587 : (Jvm.Cond.methodLink "PatternBench$Matcher" (106 : Nat) ({ cls := "PatternBench$Matcher", name := "ask", desc := "(I)V" } : Jvm.MethodName)) ∈ mm_T := tw_of (i := 587) (by decide +kernel) rfl
theorem tw_589 : (Jvm.Cond.instanceMethod ({ cls := "PatternBench$Matcher", name := "ask", desc := "(I)V" } : Jvm.MethodName)) ∈ mm_T := tw_of (i := 589) (by decide +kernel) rfl
theorem tw_590 : (Jvm.Cond.code ({ cls := "PatternBench$Matcher", name := "ask", desc := "(I)V" } : Jvm.MethodName) prog_5_method_14_code (2 : Nat) (Option.none : Option Jvm.ClassFile.FieldType)) ∈ mm_T := tw_of (i := 590) (by decide +kernel) rfl
theorem tw_591 : (Jvm.Cond.methodLink "PatternBench$Matcher" (166 : Nat) ({ cls := "PatternBench$Matcher", name := "askLetter", desc := "(I)V" } : Jvm.MethodName)) ∈ mm_T := tw_of (i := 591) (by decide +kernel) rfl
theorem tw_593 : (Jvm.Cond.instanceMethod ({ cls := "PatternBench$Matcher", name := "askLetter", desc := "(I)V" } : Jvm.MethodName)) ∈ mm_T := tw_of (i := 593) (by decide +kernel) rfl
theorem tw_594 : (Jvm.Cond.code ({ cls := "PatternBench$Matcher", name := "askLetter", desc := "(I)V" } : Jvm.MethodName) prog_5_method_15_code (2 : Nat) (Option.none : Option Jvm.ClassFile.FieldType)) ∈ mm_T := tw_of (i := 594) (by decide +kernel) rfl
theorem tw_595 : (Jvm.Cond.methodLink "PatternBench$Matcher" (172 : Nat) ({ cls := "PatternBench$Matcher", name := "askSame", desc := "(I)V" } : Jvm.MethodName)) ∈ mm_T := tw_of (i := 595) (by decide +kernel) rfl
theorem tw_597 : (Jvm.Cond.instanceMethod ({ cls := "PatternBench$Matcher", name := "askSame", desc := "(I)V" } : Jvm.MethodName)) ∈ mm_T := tw_of (i := 597) (by decide +kernel) rfl
theorem tw_598 : (Jvm.Cond.code ({ cls := "PatternBench$Matcher", name := "askSame", desc := "(I)V" } : Jvm.MethodName) prog_5_method_16_code (4 : Nat) (Option.none : Option Jvm.ClassFile.FieldType)) ∈ mm_T := tw_of (i := 598) (by decide +kernel) rfl
theorem tw_599 : (Jvm.Cond.methodLink "PatternBench$Matcher" (184 : Nat) ({ cls := "PatternBench$Captures", name := "from", desc := "(JI)I" } : Jvm.MethodName)) ∈ mm_T := tw_of (i := 599) (by decide +kernel) rfl
theorem tw_600 : (Jvm.Cond.static ({ cls := "PatternBench$Captures", name := "from", desc := "(JI)I" } : Jvm.MethodName)) ∈ mm_T := tw_of (i := 600) (by decide +kernel) rfl
theorem tw_601 : (Jvm.Cond.code ({ cls := "PatternBench$Captures", name := "from", desc := "(JI)I" } : Jvm.MethodName) prog_2_method_3_code (4 : Nat) (Option.some Jvm.ClassFile.FieldType.int)) ∈ mm_T := tw_of (i := 601) (by decide +kernel) rfl
theorem tw_602 : (Jvm.Cond.methodLink "PatternBench$Matcher" (190 : Nat) ({ cls := "PatternBench$Captures", name := "to", desc := "(JI)I" } : Jvm.MethodName)) ∈ mm_T := tw_of (i := 602) (by decide +kernel) rfl
theorem tw_603 : (Jvm.Cond.static ({ cls := "PatternBench$Captures", name := "to", desc := "(JI)I" } : Jvm.MethodName)) ∈ mm_T := tw_of (i := 603) (by decide +kernel) rfl
theorem tw_604 : (Jvm.Cond.code ({ cls := "PatternBench$Captures", name := "to", desc := "(JI)I" } : Jvm.MethodName) prog_2_method_4_code (4 : Nat) (Option.some Jvm.ClassFile.FieldType.int)) ∈ mm_T := tw_of (i := 604) (by decide +kernel) rfl
theorem tw_605 : (Jvm.Cond.methodLink "PatternBench$Matcher" (193 : Nat) ({ cls := "PatternBench$Matcher", name := "standsHere", desc := "(II)Z" } : Jvm.MethodName)) ∈ mm_T := tw_of (i := 605) (by decide +kernel) rfl
theorem tw_607 : (Jvm.Cond.instanceMethod ({ cls := "PatternBench$Matcher", name := "standsHere", desc := "(II)Z" } : Jvm.MethodName)) ∈ mm_T := tw_of (i := 607) (by decide +kernel) rfl
theorem tw_608 : (Jvm.Cond.code ({ cls := "PatternBench$Matcher", name := "standsHere", desc := "(II)Z" } : Jvm.MethodName) prog_5_method_17_code (4 : Nat) (Option.some Jvm.ClassFile.FieldType.boolean)) ∈ mm_T := tw_of (i := 608) (by decide +kernel) rfl
theorem tw_609 : (Jvm.Cond.methodLink "PatternBench$Matcher" (175 : Nat) ({ cls := "PatternBench$Matcher", name := "askCall", desc := "(I)V" } : Jvm.MethodName)) ∈ mm_T := tw_of (i := 609) (by decide +kernel) rfl
theorem tw_611 : (Jvm.Cond.instanceMethod ({ cls := "PatternBench$Matcher", name := "askCall", desc := "(I)V" } : Jvm.MethodName)) ∈ mm_T := tw_of (i := 611) (by decide +kernel) rfl
theorem tw_612 : (Jvm.Cond.code ({ cls := "PatternBench$Matcher", name := "askCall", desc := "(I)V" } : Jvm.MethodName) prog_5_method_18_code (2 : Nat) (Option.none : Option Jvm.ClassFile.FieldType)) ∈ mm_T := tw_of (i := 612) (by decide +kernel) rfl
theorem tw_613 : (Jvm.Cond.methodLink "PatternBench$Matcher" (178 : Nat) ({ cls := "PatternBench$Matcher", name := "askBody", desc := "(I)V" } : Jvm.MethodName)) ∈ mm_T := tw_of (i := 613) (by decide +kernel) rfl
theorem tw_615 : (Jvm.Cond.instanceMethod ({ cls := "PatternBench$Matcher", name := "askBody", desc := "(I)V" } : Jvm.MethodName)) ∈ mm_T := tw_of (i := 615) (by decide +kernel) rfl
theorem tw_616 : (Jvm.Cond.code ({ cls := "PatternBench$Matcher", name := "askBody", desc := "(I)V" } : Jvm.MethodName) prog_5_method_19_code (3 : Nat) (Option.none : Option Jvm.ClassFile.FieldType)) ∈ mm_T := tw_of (i := 616) (by decide +kernel) rfl
theorem tw_617 : (Jvm.Cond.methodLink "PatternBench$Matcher" (109 : Nat) ({ cls := "PatternBench$Matcher", name := "goAfterAtom", desc := "(I)V" } : Jvm.MethodName)) ∈ mm_T := tw_of (i := 617) (by decide +kernel) rfl
theorem tw_619 : (Jvm.Cond.instanceMethod ({ cls := "PatternBench$Matcher", name := "goAfterAtom", desc := "(I)V" } : Jvm.MethodName)) ∈ mm_T := tw_of (i := 619) (by decide +kernel) rfl
theorem tw_620 : (Jvm.Cond.code ({ cls := "PatternBench$Matcher", name := "goAfterAtom", desc := "(I)V" } : Jvm.MethodName) prog_5_method_11_code (3 : Nat) (Option.none : Option Jvm.ClassFile.FieldType)) ∈ mm_T := tw_of (i := 620) (by decide +kernel) rfl
theorem tw_621 : (Jvm.Cond.methodLink "PatternBench$Matcher" (112 : Nat) ({ cls := "PatternBench$Matcher", name := "goAfterItem", desc := "(I)V" } : Jvm.MethodName)) ∈ mm_T := tw_of (i := 621) (by decide +kernel) rfl
theorem tw_623 : (Jvm.Cond.instanceMethod ({ cls := "PatternBench$Matcher", name := "goAfterItem", desc := "(I)V" } : Jvm.MethodName)) ∈ mm_T := tw_of (i := 623) (by decide +kernel) rfl
theorem tw_624 : (Jvm.Cond.code ({ cls := "PatternBench$Matcher", name := "goAfterItem", desc := "(I)V" } : Jvm.MethodName) prog_5_method_12_code (2 : Nat) (Option.none : Option Jvm.ClassFile.FieldType)) ∈ mm_T := tw_of (i := 624) (by decide +kernel) rfl
theorem tw_625 : (Jvm.Cond.methodLink "PatternBench$Matcher" (115 : Nat) ({ cls := "PatternBench$Matcher", name := "resume", desc := "(I)V" } : Jvm.MethodName)) ∈ mm_T := tw_of (i := 625) (by decide +kernel) rfl
theorem tw_627 : (Jvm.Cond.instanceMethod ({ cls := "PatternBench$Matcher", name := "resume", desc := "(I)V" } : Jvm.MethodName)) ∈ mm_T := tw_of (i := 627) (by decide +kernel) rfl
theorem tw_628 : (Jvm.Cond.code ({ cls := "PatternBench$Matcher", name := "resume", desc := "(I)V" } : Jvm.MethodName) prog_5_method_20_code (3 : Nat) (Option.none : Option Jvm.ClassFile.FieldType)) ∈ mm_T := tw_of (i := 628) (by decide +kernel) rfl
theorem tw_629 : (Jvm.Cond.methodLink "PatternBench$Matcher" (210 : Nat) ({ cls := "PatternBench$Matcher", name := "leaveBody", desc := "(II)V" } : Jvm.MethodName)) ∈ mm_T := tw_of (i := 629) (by decide +kernel) rfl
theorem tw_631 : (Jvm.Cond.instanceMethod ({ cls := "PatternBench$Matcher", name := "leaveBody", desc := "(II)V" } : Jvm.MethodName)) ∈ mm_T := tw_of (i := 631) (by decide +kernel) rfl
theorem tw_632 : (Jvm.Cond.code ({ cls := "PatternBench$Matcher", name := "leaveBody", desc := "(II)V" } : Jvm.MethodName) prog_5_method_22_code (4 : Nat) (Option.none : Option Jvm.ClassFile.FieldType)) ∈ mm_T := tw_of (i := 632) (by decide +kernel) rfl
theorem tw_633 : (Jvm.Cond.methodLink "PatternBench$Matcher" (221 : Nat) ({ cls := "PatternBench$Captures", name := "with", desc := "(JIII)J" } : Jvm.MethodName)) ∈ mm_T := tw_of (i := 633) (by decide +kernel) rfl
theorem tw_634 : (Jvm.Cond.static ({ cls := "PatternBench$Captures", name := "with", desc := "(JIII)J" } : Jvm.MethodName)) ∈ mm_T := tw_of (i := 634) (by decide +kernel) rfl
theorem tw_635 : (Jvm.Cond.code ({ cls := "PatternBench$Captures", name := "with", desc := "(JIII)J" } : Jvm.MethodName) prog_2_method_2_code (8 : Nat) (Option.some Jvm.ClassFile.FieldType.long)) ∈ mm_T := tw_of (i := 635) (by decide +kernel) rfl
theorem tw_636 : (Jvm.Cond.constantLong "PatternBench$Captures" (11 : Nat) (4095 : Int64)) ∈ mm_T := tw_of (i := 636) (by decide +kernel) rfl
theorem tw_637 : (Jvm.Cond.constantLong "PatternBench$Captures" (13 : Nat) (-1 : Int64)) ∈ mm_T := tw_of (i := 637) (by decide +kernel) rfl
theorem tw_638 : (Jvm.Cond.methodLink "PatternBench$Matcher" (215 : Nat) ({ cls := "PatternBench$Matcher", name := "leaveTimesTurn", desc := "(II)V" } : Jvm.MethodName)) ∈ mm_T := tw_of (i := 638) (by decide +kernel) rfl
theorem tw_640 : (Jvm.Cond.instanceMethod ({ cls := "PatternBench$Matcher", name := "leaveTimesTurn", desc := "(II)V" } : Jvm.MethodName)) ∈ mm_T := tw_of (i := 640) (by decide +kernel) rfl
theorem tw_641 : (Jvm.Cond.code ({ cls := "PatternBench$Matcher", name := "leaveTimesTurn", desc := "(II)V" } : Jvm.MethodName) prog_5_method_21_code (4 : Nat) (Option.none : Option Jvm.ClassFile.FieldType)) ∈ mm_T := tw_of (i := 641) (by decide +kernel) rfl
theorem tw_642 : (Jvm.Cond.methodLink "PatternBench$Matcher" (118 : Nat) ({ cls := "PatternBench$Matcher", name := "takeChoice", desc := "()V" } : Jvm.MethodName)) ∈ mm_T := tw_of (i := 642) (by decide +kernel) rfl
theorem tw_644 : (Jvm.Cond.instanceMethod ({ cls := "PatternBench$Matcher", name := "takeChoice", desc := "()V" } : Jvm.MethodName)) ∈ mm_T := tw_of (i := 644) (by decide +kernel) rfl
theorem tw_645 : (Jvm.Cond.code ({ cls := "PatternBench$Matcher", name := "takeChoice", desc := "()V" } : Jvm.MethodName) prog_5_method_13_code (2 : Nat) (Option.none : Option Jvm.ClassFile.FieldType)) ∈ mm_T := tw_of (i := 645) (by decide +kernel) rfl
theorem tw_646 : (Jvm.Cond.methodLink "PatternBenchLaw" (43 : Nat) ({ cls := "PatternBench", name := "again", desc := "()I" } : Jvm.MethodName)) ∈ mm_T := tw_of (i := 646) (by decide +kernel) rfl
theorem tw_647 : (Jvm.Cond.instanceMethod ({ cls := "PatternBench", name := "again", desc := "()I" } : Jvm.MethodName)) ∈ mm_T := tw_of (i := 647) (by decide +kernel) rfl
theorem tw_648 : (Jvm.Cond.selects "PatternBench" ({ cls := "PatternBench", name := "again", desc := "()I" } : Jvm.MethodName) ({ cls := "PatternBench", name := "again", desc := "()I" } : Jvm.MethodName)) ∈ mm_T := tw_of (i := 648) (by decide +kernel) rfl
theorem tw_649 : (Jvm.Cond.code ({ cls := "PatternBench", name := "again", desc := "()I" } : Jvm.MethodName) prog_1_method_7_code (2 : Nat) (Option.some Jvm.ClassFile.FieldType.int)) ∈ mm_T := tw_of (i := 649) (by decide +kernel) rfl
theorem tw_650 : (Jvm.Cond.methodLink "PatternBench" (101 : Nat) ({ cls := "PatternBench", name := "placeBehindMatch", desc := "()I" } : Jvm.MethodName)) ∈ mm_T := tw_of (i := 650) (by decide +kernel) rfl
theorem tw_652 : (Jvm.Cond.instanceMethod ({ cls := "PatternBench", name := "placeBehindMatch", desc := "()I" } : Jvm.MethodName)) ∈ mm_T := tw_of (i := 652) (by decide +kernel) rfl
theorem tw_653 : (Jvm.Cond.code ({ cls := "PatternBench", name := "placeBehindMatch", desc := "()I" } : Jvm.MethodName) prog_1_method_14_code (1 : Nat) (Option.some Jvm.ClassFile.FieldType.int)) ∈ mm_T := tw_of (i := 653) (by decide +kernel) rfl
theorem tw_654 : (Jvm.Cond.methodLink "PatternBenchLaw" (47 : Nat) ({ cls := "PatternBench", name := "start", desc := "(I)I" } : Jvm.MethodName)) ∈ mm_T := tw_of (i := 654) (by decide +kernel) rfl
theorem tw_655 : (Jvm.Cond.instanceMethod ({ cls := "PatternBench", name := "start", desc := "(I)I" } : Jvm.MethodName)) ∈ mm_T := tw_of (i := 655) (by decide +kernel) rfl
theorem tw_656 : (Jvm.Cond.selects "PatternBench" ({ cls := "PatternBench", name := "start", desc := "(I)I" } : Jvm.MethodName) ({ cls := "PatternBench", name := "start", desc := "(I)I" } : Jvm.MethodName)) ∈ mm_T := tw_of (i := 656) (by decide +kernel) rfl
theorem tw_657 : (Jvm.Cond.code ({ cls := "PatternBench", name := "start", desc := "(I)I" } : Jvm.MethodName) prog_1_method_8_code (2 : Nat) (Option.some Jvm.ClassFile.FieldType.int)) ∈ mm_T := tw_of (i := 657) (by decide +kernel) rfl
theorem tw_658 : (Jvm.Cond.methodLink "PatternBench" (105 : Nat) ({ cls := "PatternBench$Captures", name := "from", desc := "(JI)I" } : Jvm.MethodName)) ∈ mm_T := tw_of (i := 658) (by decide +kernel) rfl
theorem tw_659 : (Jvm.Cond.methodLink "PatternBenchLaw" (51 : Nat) ({ cls := "PatternBench", name := "end", desc := "(I)I" } : Jvm.MethodName)) ∈ mm_T := tw_of (i := 659) (by decide +kernel) rfl
theorem tw_660 : (Jvm.Cond.instanceMethod ({ cls := "PatternBench", name := "end", desc := "(I)I" } : Jvm.MethodName)) ∈ mm_T := tw_of (i := 660) (by decide +kernel) rfl
theorem tw_661 : (Jvm.Cond.selects "PatternBench" ({ cls := "PatternBench", name := "end", desc := "(I)I" } : Jvm.MethodName) ({ cls := "PatternBench", name := "end", desc := "(I)I" } : Jvm.MethodName)) ∈ mm_T := tw_of (i := 661) (by decide +kernel) rfl
theorem tw_662 : (Jvm.Cond.code ({ cls := "PatternBench", name := "end", desc := "(I)I" } : Jvm.MethodName) prog_1_method_9_code (2 : Nat) (Option.some Jvm.ClassFile.FieldType.int)) ∈ mm_T := tw_of (i := 662) (by decide +kernel) rfl
theorem tw_663 : (Jvm.Cond.methodLink "PatternBench" (111 : Nat) ({ cls := "PatternBench$Captures", name := "to", desc := "(JI)I" } : Jvm.MethodName)) ∈ mm_T := tw_of (i := 663) (by decide +kernel) rfl
theorem tw_664 : (Jvm.Cond.methodLink "PatternBenchLaw" (55 : Nat) ({ cls := "PatternBench", name := "steps", desc := "()I" } : Jvm.MethodName)) ∈ mm_T := tw_of (i := 664) (by decide +kernel) rfl
theorem tw_665 : (Jvm.Cond.instanceMethod ({ cls := "PatternBench", name := "steps", desc := "()I" } : Jvm.MethodName)) ∈ mm_T := tw_of (i := 665) (by decide +kernel) rfl
theorem tw_666 : (Jvm.Cond.selects "PatternBench" ({ cls := "PatternBench", name := "steps", desc := "()I" } : Jvm.MethodName) ({ cls := "PatternBench", name := "steps", desc := "()I" } : Jvm.MethodName)) ∈ mm_T := tw_of (i := 666) (by decide +kernel) rfl
theorem tw_667 : (Jvm.Cond.code ({ cls := "PatternBench", name := "steps", desc := "()I" } : Jvm.MethodName) prog_1_method_10_code (1 : Nat) (Option.some Jvm.ClassFile.FieldType.int)) ∈ mm_T := tw_of (i := 667) (by decide +kernel) rfl
theorem tw_668 : (Jvm.Cond.methodLink "PatternBenchLaw" (59 : Nat) ({ cls := "PatternBench", name := "matches", desc := "()I" } : Jvm.MethodName)) ∈ mm_T := tw_of (i := 668) (by decide +kernel) rfl
theorem tw_669 : (Jvm.Cond.instanceMethod ({ cls := "PatternBench", name := "matches", desc := "()I" } : Jvm.MethodName)) ∈ mm_T := tw_of (i := 669) (by decide +kernel) rfl
theorem tw_670 : (Jvm.Cond.selects "PatternBench" ({ cls := "PatternBench", name := "matches", desc := "()I" } : Jvm.MethodName) ({ cls := "PatternBench", name := "matches", desc := "()I" } : Jvm.MethodName)) ∈ mm_T := tw_of (i := 670) (by decide +kernel) rfl
theorem tw_671 : (Jvm.Cond.code ({ cls := "PatternBench", name := "matches", desc := "()I" } : Jvm.MethodName) prog_1_method_11_code (5 : Nat) (Option.some Jvm.ClassFile.FieldType.int)) ∈ mm_T := tw_of (i := 671) (by decide +kernel) rfl
theorem tw_672 : (Jvm.Cond.methodLink "PatternBenchLaw" (63 : Nat) ({ cls := "PatternBench", name := "count", desc := "(I)I" } : Jvm.MethodName)) ∈ mm_T := tw_of (i := 672) (by decide +kernel) rfl
theorem tw_673 : (Jvm.Cond.instanceMethod ({ cls := "PatternBench", name := "count", desc := "(I)I" } : Jvm.MethodName)) ∈ mm_T := tw_of (i := 673) (by decide +kernel) rfl
theorem tw_674 : (Jvm.Cond.selects "PatternBench" ({ cls := "PatternBench", name := "count", desc := "(I)I" } : Jvm.MethodName) ({ cls := "PatternBench", name := "count", desc := "(I)I" } : Jvm.MethodName)) ∈ mm_T := tw_of (i := 674) (by decide +kernel) rfl
theorem tw_675 : (Jvm.Cond.code ({ cls := "PatternBench", name := "count", desc := "(I)I" } : Jvm.MethodName) prog_1_method_12_code (2 : Nat) (Option.some Jvm.ClassFile.FieldType.int)) ∈ mm_T := tw_of (i := 675) (by decide +kernel) rfl
theorem tw_676 : (Jvm.Cond.methodLink "PatternBenchLaw" (9 : Nat) ({ cls := "PatternBenchLaw", name := "cell", desc := "([II)I" } : Jvm.MethodName)) ∈ mm_T := tw_of (i := 676) (by decide +kernel) rfl
theorem tw_677 : (Jvm.Cond.static ({ cls := "PatternBenchLaw", name := "cell", desc := "([II)I" } : Jvm.MethodName)) ∈ mm_T := tw_of (i := 677) (by decide +kernel) rfl
theorem tw_678 : (Jvm.Cond.code ({ cls := "PatternBenchLaw", name := "cell", desc := "([II)I" } : Jvm.MethodName) method_2_code (2 : Nat) (Option.some Jvm.ClassFile.FieldType.int)) ∈ mm_T := tw_of (i := 678) (by decide +kernel) rfl
theorem tw_975 : (Jvm.Cond.fieldLink "java/lang/String" (15 : Nat) "java/lang/String" "coder" "B") ∈ mm_T := tw_of (i := 975) (by decide +kernel) rfl
theorem tw_976 : (Jvm.Cond.fieldLink "java/lang/String" (9 : Nat) "java/lang/String" "value" "[B") ∈ mm_T := tw_of (i := 976) (by decide +kernel) rfl
theorem ts_Reader_openLevel : Cond.selects r_Reader y_Reader_openLevel y_Reader_openLevel ∈ mm_T := tw_s (i := 0) (q := (y_Reader_openLevel, 11)) (by decide +kernel)
theorem ts_Reader_readPart : Cond.selects r_Reader y_Reader_readPart y_Reader_readPart ∈ mm_T := tw_s (i := 1) (q := (y_Reader_readPart, 11)) (by decide +kernel)
theorem ts_Reader_ahead : Cond.selects r_Reader y_Reader_ahead y_Reader_ahead ∈ mm_T := tw_s (i := 2) (q := (y_Reader_ahead, 11)) (by decide +kernel)
theorem ts_Reader_openNextRow : Cond.selects r_Reader y_Reader_openNextRow y_Reader_openNextRow ∈ mm_T := tw_s (i := 3) (q := (y_Reader_openNextRow, 11)) (by decide +kernel)
theorem ts_Reader_closeChoice : Cond.selects r_Reader y_Reader_closeChoice y_Reader_closeChoice ∈ mm_T := tw_s (i := 4) (q := (y_Reader_closeChoice, 11)) (by decide +kernel)
theorem ts_Reader_refuse : Cond.selects r_Reader y_Reader_refuse y_Reader_refuse ∈ mm_T := tw_s (i := 5) (q := (y_Reader_refuse, 11)) (by decide +kernel)
theorem ts_Reader_readCall : Cond.selects r_Reader y_Reader_readCall y_Reader_readCall ∈ mm_T := tw_s (i := 6) (q := (y_Reader_readCall, 11)) (by decide +kernel)
theorem ts_Reader_appendItem : Cond.selects r_Reader y_Reader_appendItem y_Reader_appendItem ∈ mm_T := tw_s (i := 7) (q := (y_Reader_appendItem, 11)) (by decide +kernel)
theorem ts_Reader_openChoice : Cond.selects r_Reader y_Reader_openChoice y_Reader_openChoice ∈ mm_T := tw_s (i := 8) (q := (y_Reader_openChoice, 11)) (by decide +kernel)
theorem ts_Reader_kindOfChoice : Cond.selects r_Reader y_Reader_kindOfChoice y_Reader_kindOfChoice ∈ mm_T := tw_s (i := 9) (q := (y_Reader_kindOfChoice, 11)) (by decide +kernel)
theorem ts_Reader_readClass : Cond.selects r_Reader y_Reader_readClass y_Reader_readClass ∈ mm_T := tw_s (i := 10) (q := (y_Reader_readClass, 11)) (by decide +kernel)
theorem ts_Reader_readClassPart : Cond.selects r_Reader y_Reader_readClassPart y_Reader_readClassPart ∈ mm_T := tw_s (i := 11) (q := (y_Reader_readClassPart, 11)) (by decide +kernel)
theorem ts_Reader_readReference : Cond.selects r_Reader y_Reader_readReference y_Reader_readReference ∈ mm_T := tw_s (i := 12) (q := (y_Reader_readReference, 11)) (by decide +kernel)
theorem ts_Reader_readSign : Cond.selects r_Reader y_Reader_readSign y_Reader_readSign ∈ mm_T := tw_s (i := 13) (q := (y_Reader_readSign, 11)) (by decide +kernel)
theorem ts_Reader_readRepeat : Cond.selects r_Reader y_Reader_readRepeat y_Reader_readRepeat ∈ mm_T := tw_s (i := 14) (q := (y_Reader_readRepeat, 11)) (by decide +kernel)
theorem ts_Reader_setRepeat : Cond.selects r_Reader y_Reader_setRepeat y_Reader_setRepeat ∈ mm_T := tw_s (i := 15) (q := (y_Reader_setRepeat, 11)) (by decide +kernel)
theorem ts_Reader_readTimes : Cond.selects r_Reader y_Reader_readTimes y_Reader_readTimes ∈ mm_T := tw_s (i := 16) (q := (y_Reader_readTimes, 11)) (by decide +kernel)
theorem ts_Bench_searchFrom : Cond.selects r_Bench y_Bench_searchFrom y_Bench_searchFrom ∈ mm_T := tw_s (i := 17) (q := (y_Bench_searchFrom, 8)) (by decide +kernel)
theorem ts_Matcher_beginAt : Cond.selects r_Matcher y_Matcher_beginAt y_Matcher_beginAt ∈ mm_T := tw_s (i := 18) (q := (y_Matcher_beginAt, 11)) (by decide +kernel)
theorem ts_Matcher_go : Cond.selects r_Matcher y_Matcher_go y_Matcher_go ∈ mm_T := tw_s (i := 19) (q := (y_Matcher_go, 11)) (by decide +kernel)
theorem ts_Matcher_goesOn : Cond.selects r_Matcher y_Matcher_goesOn y_Matcher_goesOn ∈ mm_T := tw_s (i := 20) (q := (y_Matcher_goesOn, 11)) (by decide +kernel)
theorem ts_Matcher_takeTurn : Cond.selects r_Matcher y_Matcher_takeTurn y_Matcher_takeTurn ∈ mm_T := tw_s (i := 21) (q := (y_Matcher_takeTurn, 11)) (by decide +kernel)
theorem ts_Matcher_enterRow : Cond.selects r_Matcher y_Matcher_enterRow y_Matcher_enterRow ∈ mm_T := tw_s (i := 22) (q := (y_Matcher_enterRow, 11)) (by decide +kernel)
theorem ts_Matcher_enterItem : Cond.selects r_Matcher y_Matcher_enterItem y_Matcher_enterItem ∈ mm_T := tw_s (i := 23) (q := (y_Matcher_enterItem, 11)) (by decide +kernel)
theorem ts_Matcher_fork : Cond.selects r_Matcher y_Matcher_fork y_Matcher_fork ∈ mm_T := tw_s (i := 24) (q := (y_Matcher_fork, 11)) (by decide +kernel)
theorem ts_Matcher_tryAtom : Cond.selects r_Matcher y_Matcher_tryAtom y_Matcher_tryAtom ∈ mm_T := tw_s (i := 25) (q := (y_Matcher_tryAtom, 11)) (by decide +kernel)
theorem ts_Matcher_ask : Cond.selects r_Matcher y_Matcher_ask y_Matcher_ask ∈ mm_T := tw_s (i := 26) (q := (y_Matcher_ask, 11)) (by decide +kernel)
theorem ts_Matcher_askLetter : Cond.selects r_Matcher y_Matcher_askLetter y_Matcher_askLetter ∈ mm_T := tw_s (i := 27) (q := (y_Matcher_askLetter, 11)) (by decide +kernel)
theorem ts_Matcher_askSame : Cond.selects r_Matcher y_Matcher_askSame y_Matcher_askSame ∈ mm_T := tw_s (i := 28) (q := (y_Matcher_askSame, 11)) (by decide +kernel)
theorem ts_Matcher_standsHere : Cond.selects r_Matcher y_Matcher_standsHere y_Matcher_standsHere ∈ mm_T := tw_s (i := 29) (q := (y_Matcher_standsHere, 11)) (by decide +kernel)
theorem ts_Matcher_askCall : Cond.selects r_Matcher y_Matcher_askCall y_Matcher_askCall ∈ mm_T := tw_s (i := 30) (q := (y_Matcher_askCall, 11)) (by decide +kernel)
theorem ts_Matcher_askBody : Cond.selects r_Matcher y_Matcher_askBody y_Matcher_askBody ∈ mm_T := tw_s (i := 31) (q := (y_Matcher_askBody, 11)) (by decide +kernel)
theorem ts_Matcher_goAfterAtom : Cond.selects r_Matcher y_Matcher_goAfterAtom y_Matcher_goAfterAtom ∈ mm_T := tw_s (i := 32) (q := (y_Matcher_goAfterAtom, 11)) (by decide +kernel)
theorem ts_Matcher_goAfterItem : Cond.selects r_Matcher y_Matcher_goAfterItem y_Matcher_goAfterItem ∈ mm_T := tw_s (i := 33) (q := (y_Matcher_goAfterItem, 11)) (by decide +kernel)
theorem ts_Matcher_resume : Cond.selects r_Matcher y_Matcher_resume y_Matcher_resume ∈ mm_T := tw_s (i := 34) (q := (y_Matcher_resume, 11)) (by decide +kernel)
theorem ts_Matcher_leaveBody : Cond.selects r_Matcher y_Matcher_leaveBody y_Matcher_leaveBody ∈ mm_T := tw_s (i := 35) (q := (y_Matcher_leaveBody, 11)) (by decide +kernel)
theorem ts_Matcher_leaveTimesTurn : Cond.selects r_Matcher y_Matcher_leaveTimesTurn y_Matcher_leaveTimesTurn ∈ mm_T := tw_s (i := 36) (q := (y_Matcher_leaveTimesTurn, 11)) (by decide +kernel)
theorem ts_Matcher_takeChoice : Cond.selects r_Matcher y_Matcher_takeChoice y_Matcher_takeChoice ∈ mm_T := tw_s (i := 37) (q := (y_Matcher_takeChoice, 11)) (by decide +kernel)
theorem ts_Bench_placeBehindMatch : Cond.selects r_Bench y_Bench_placeBehindMatch y_Bench_placeBehindMatch ∈ mm_T := tw_s (i := 38) (q := (y_Bench_placeBehindMatch, 8)) (by decide +kernel)
end
section
/-! THE MINI LAYER: worlds with addresses 0, 1, 2 .. ; a judgement mm_V over them; blocks of instructions that run by computation -/
abbrev mm_C : Type := (FieldType × vp_A) ⊕ (Nat × List Value)
abbrev mm_H : Type := List mm_C
abbrev mm_L : Type := List (Option Value)
/-- pc, instruction, its length, a constant, two numbers (a class and a field; a target) -/
abbrev mm_I : Type := Nat × Instr × Nat × Value × Nat × Nat
def mm_v (ρ : List Nat) (u v : Value) : Prop := match u with
  | .ref a => ∃ b, ρ[a]? = some b ∧ v = .ref b
  | u => v = u
def mm_vs (ρ : List Nat) : List Value → List Value → Prop
  | [], vs => vs = []
  | u :: us, vs => ∃ v vs', vs = v :: vs' ∧ mm_v ρ u v ∧ mm_vs ρ us vs'
def mm_ov (ρ : List Nat) (u v : Option Value) : Prop := match u with
  | none => v = none
  | some x => ∃ y, v = some y ∧ mm_v ρ x y
def mm_e (cA : FieldType → ClassId) (ρ : List Nat) (x : mm_C) (y : va_E) : Prop := match x with
  | .inl a => y = .inl (cA a.1, a.2)
  | .inr o => ∃ fs, y = .inr (o.1, fs) ∧ mm_vs ρ o.2 fs
def mm_w (cA : FieldType → ClassId) (ρ : List Nat) (w : mm_H) (ws : va_W) : Prop := ρ.length = w.length ∧ ws.length = w.length ∧ ∀ (i : Nat) (x : mm_C), w[i]? = some x → ∃ (b : Nat) (y : va_E), ρ[i]? = some b ∧ ws[i]? = some (b, y) ∧ mm_e cA ρ x y
def mm_l (nL : Nat) (ρ : List Nat) (ls : Array Slot) (L : mm_L) : Prop := ls.size = nL ∧ L.length = nL ∧ lv_wf ls ∧ ∀ (i : Nat) (u : Value), L[i]? = some (some u) → ∃ v, ls[i]? = some (.val v) ∧ mm_v ρ u v
theorem mm_v_mono {ρ ρ' : List Nat} (h : ∀ a, a < ρ.length → ρ'[a]? = ρ[a]?) {u v : Value} (hv : mm_v ρ u v) : mm_v ρ' u v := by
  cases u with
  | ref a =>
    obtain ⟨b, h1, h2⟩ := hv
    exact ⟨b, by rw [h a (List.getElem?_eq_some_iff.mp h1).1]; exact h1, h2⟩
  | _ => exact hv
theorem mm_vs_mono {ρ ρ' : List Nat} (h : ∀ a, a < ρ.length → ρ'[a]? = ρ[a]?) : ∀ {us vs : List Value}, mm_vs ρ us vs → mm_vs ρ' us vs
  | [], _, hv => hv
  | _ :: _, _, ⟨v, vs', e, h1, h2⟩ => ⟨v, vs', e, mm_v_mono h h1, mm_vs_mono h h2⟩
theorem mm_e_mono {cA : FieldType → ClassId} {ρ ρ' : List Nat} (h : ∀ a, a < ρ.length → ρ'[a]? = ρ[a]?) {x : mm_C} {y : va_E} (hv : mm_e cA ρ x y) : mm_e cA ρ' x y := by
  cases x with
  | inl a => exact hv
  | inr o =>
    obtain ⟨fs, h1, h2⟩ := hv
    exact ⟨fs, h1, mm_vs_mono h h2⟩
theorem mm_l_mono {nL : Nat} {ρ ρ' : List Nat} (h : ∀ a, a < ρ.length → ρ'[a]? = ρ[a]?) {ls : Array Slot} {L : mm_L} (hl : mm_l nL ρ ls L) : mm_l nL ρ' ls L :=
  ⟨hl.1, hl.2.1, hl.2.2.1, fun i u hi => by
    obtain ⟨v, h1, h2⟩ := hl.2.2.2 i u hi
    exact ⟨v, h1, mm_v_mono h h2⟩⟩
theorem mm_v_cat {ρ : List Nat} {u v : Value} (h : mm_v ρ u v) : v.category = u.category := by
  cases u with
  | ref a =>
    obtain ⟨b, h1, h2⟩ := h
    rw [h2]; rfl
  | _ => rw [show v = _ from h]
theorem mm_vs_cat {ρ : List Nat} : ∀ {us vs : List Value}, mm_vs ρ us vs → (vs.map fun v => v.category) = (us.map fun v => v.category)
  | [], _, hv => by rw [show _ = [] from hv]
  | _ :: _, _, ⟨v, vs', e, h1, h2⟩ => by rw [e, List.map_cons, List.map_cons, mm_v_cat h1, mm_vs_cat h2]
theorem mm_vs_len {ρ : List Nat} : ∀ {us vs : List Value}, mm_vs ρ us vs → vs.length = us.length
  | [], _, hv => by rw [show _ = [] from hv]
  | _ :: _, _, ⟨v, vs', e, h1, h2⟩ => by rw [e, List.length_cons, List.length_cons, mm_vs_len h2]
theorem mm_vs_i {ρ : List Nat} {x : Int32} {us vs : List Value} (h : mm_vs ρ (.int x :: us) vs) : ∃ vs', vs = .int x :: vs' ∧ mm_vs ρ us vs' := by
  obtain ⟨v, vs', e, h1, h2⟩ := h
  have h1 : v = .int x := h1
  exact ⟨vs', by rw [e, h1], h2⟩
theorem mm_vs_j {ρ : List Nat} {x : Int64} {us vs : List Value} (h : mm_vs ρ (.long x :: us) vs) : ∃ vs', vs = .long x :: vs' ∧ mm_vs ρ us vs' := by
  obtain ⟨v, vs', e, h1, h2⟩ := h
  have h1 : v = .long x := h1
  exact ⟨vs', by rw [e, h1], h2⟩
theorem mm_vs_n {ρ : List Nat} {us vs : List Value} (h : mm_vs ρ (.null :: us) vs) : ∃ vs', vs = .null :: vs' ∧ mm_vs ρ us vs' := by
  obtain ⟨v, vs', e, h1, h2⟩ := h
  have h1 : v = .null := h1
  exact ⟨vs', by rw [e, h1], h2⟩
theorem mm_vs_r {ρ : List Nat} {a : Nat} {us vs : List Value} (h : mm_vs ρ (.ref a :: us) vs) : ∃ b vs', vs = .ref b :: vs' ∧ ρ[a]? = some b ∧ mm_vs ρ us vs' := by
  obtain ⟨v, vs', e, ⟨b, h1, h3⟩, h2⟩ := h
  exact ⟨b, vs', by rw [e, h3], h1, h2⟩
theorem mm_vs_app {ρ : List Nat} : ∀ {us us2 vs : List Value}, mm_vs ρ (us ++ us2) vs → ∃ v1 v2, vs = v1 ++ v2 ∧ mm_vs ρ us v1 ∧ mm_vs ρ us2 v2
  | [], _, vs, h => ⟨[], vs, rfl, rfl, h⟩
  | _ :: _, _, _, ⟨v, vs', e, h1, h2⟩ => by
    obtain ⟨v1, v2, e2, h3, h4⟩ := mm_vs_app h2
    exact ⟨v :: v1, v2, by rw [e, e2]; rfl, ⟨v, v1, rfl, h1, h3⟩, h4⟩
theorem mm_vs_join {ρ : List Nat} : ∀ {us us2 v1 v2 : List Value}, mm_vs ρ us v1 → mm_vs ρ us2 v2 → mm_vs ρ (us ++ us2) (v1 ++ v2)
  | [], _, _, _, h, h2 => by rw [show _ = [] from h]; exact h2
  | _ :: _, _, _, _, ⟨v, vs', e, h1, h2⟩, h3 => ⟨v, vs' ++ _, by rw [e]; rfl, h1, mm_vs_join h2 h3⟩
theorem mm_vs_rev {ρ : List Nat} : ∀ {us vs : List Value}, mm_vs ρ us vs → mm_vs ρ us.reverse vs.reverse
  | [], _, h => by rw [show _ = [] from h]; exact rfl
  | _ :: _, _, ⟨v, vs', e, h1, h2⟩ => by
    rw [e, List.reverse_cons, List.reverse_cons]
    exact mm_vs_join (mm_vs_rev h2) ⟨v, [], rfl, h1, rfl⟩
theorem mm_vs_get {ρ : List Nat} : ∀ {us vs : List Value}, mm_vs ρ us vs → ∀ {k : Nat} {u : Value}, us[k]? = some u → ∃ v, vs[k]? = some v ∧ mm_v ρ u v
  | [], _, _, _, _, hk => by simp at hk
  | _ :: _, _, ⟨v, vs', e, h1, h2⟩, 0, _, hk => by
    cases hk
    exact ⟨v, by rw [e]; rfl, h1⟩
  | _ :: _, _, ⟨v, vs', e, h1, h2⟩, k + 1, _, hk => by
    rw [List.getElem?_cons_succ] at hk
    obtain ⟨y, h3, h4⟩ := mm_vs_get h2 hk
    exact ⟨y, by rw [e, List.getElem?_cons_succ]; exact h3, h4⟩
theorem mm_vs_set {ρ : List Nat} {x y : Value} (hxy : mm_v ρ x y) : ∀ {us vs : List Value}, mm_vs ρ us vs → ∀ (k : Nat), mm_vs ρ (us.set k x) (vs.set k y)
  | [], _, h, _ => by rw [show _ = [] from h]; exact rfl
  | _ :: _, _, ⟨v, vs', e, h1, h2⟩, 0 => by rw [e]; exact ⟨y, vs', rfl, hxy, h2⟩
  | _ :: _, _, ⟨v, vs', e, h1, h2⟩, k + 1 => by rw [e]; exact ⟨v, vs'.set k y, rfl, h1, mm_vs_set hxy h2 k⟩
/-! locals -/
def mm_k1 (L : mm_L) (i : Nat) : mm_L := match i with
  | 0 => L
  | j + 1 => match L[j]? with
    | some (some (.long _)) => L.set j none
    | some (some (.double _)) => L.set j none
    | _ => L
def mm_s1 (L : mm_L) (i : Nat) (v : Value) : mm_L := (mm_k1 L i).set i (some v)
def mm_s2 (L : mm_L) (i : Nat) (v : Value) : mm_L := ((mm_k1 L i).set i (some v)).set (i + 1) none
theorem mm_k1_len (L : mm_L) (i : Nat) : (mm_k1 L i).length = L.length := by
  cases i with
  | zero => rfl
  | succ j =>
    show (match L[j]? with | some (some (.long _)) => L.set j none | some (some (.double _)) => L.set j none | _ => L).length = _
    split <;> simp
theorem mm_k1_get {L : mm_L} {i j : Nat} {u : Value} (h : (mm_k1 L i)[j]? = some (some u)) : L[j]? = some (some u) ∧ ¬ (j + 1 = i ∧ u.category = 2) := by
  cases i with
  | zero => exact ⟨h, fun q => by omega⟩
  | succ n =>
    have g : (match L[n]? with | some (some (.long _)) => L.set n none | some (some (.double _)) => L.set n none | _ => L)[j]? = some (some u) := h
    clear h
    revert g
    split
    · intro h
      rw [List.getElem?_set] at h
      by_cases e : n = j
      · rw [if_pos e] at h
        split at h <;> cases h
      · rw [if_neg e] at h
        exact ⟨h, fun q => e (by omega)⟩
    · intro h
      rw [List.getElem?_set] at h
      by_cases e : n = j
      · rw [if_pos e] at h
        split at h <;> cases h
      · rw [if_neg e] at h
        exact ⟨h, fun q => e (by omega)⟩
    · rename_i h1 h2
      intro h
      refine ⟨h, fun q => ?_⟩
      have e : j = n := by omega
      subst e
      cases u with
      | long x => exact h1 x h
      | double x => exact h2 x h
      | _ => exact absurd q.2 (by simp [Value.category])
def mm_lv (ls : Array Slot) : List (Nat × Value) := (List.range ls.size).filterMap (fun (i : Nat) => match ls[i]? with
  | some (.val v) => some (i, v)
  | _ => none)
theorem mm_lv_mem {ls : Array Slot} {i : Nat} {v : Value} : (i, v) ∈ mm_lv ls ↔ ls[i]? = some (.val v) := by
  constructor
  · intro h
    obtain ⟨j, -, hj⟩ := List.mem_filterMap.mp h
    split at hj
    · rename_i x hx
      cases hj
      exact hx
    · cases hj
  · intro h
    refine List.mem_filterMap.mpr ⟨i, List.mem_range.mpr (Array.getElem?_eq_some_iff.mp h).1, ?_⟩
    rw [h]
theorem mm_lv_has {ls : Array Slot} {nL : Nat} (hs : ls.size = nL) (hw : lv_wf ls) : lv_has ls nL (mm_lv ls) := ⟨hs, hw, fun q hq => mm_lv_mem.mp hq⟩
theorem mm_l_s1 {nL i : Nat} {ρ : List Nat} {ls ls' : Array Slot} {L : mm_L} {u v : Value} (hl : mm_l nL ρ ls L) (hv : mm_v ρ u v) (hi : i < nL)
    (h : lv_has ls' nL ((i, v) :: (mm_lv ls).filter (fun q => !(q.1 == i) && !(q.1 + 1 == i && q.2.category == 2)))) : mm_l nL ρ ls' (mm_s1 L i u) := by
  refine ⟨h.1, by rw [mm_s1, List.length_set, mm_k1_len]; exact hl.2.1, h.2.1, fun j x hj => ?_⟩
  rw [mm_s1, List.getElem?_set] at hj
  by_cases e : i = j
  · rw [if_pos e, mm_k1_len] at hj
    split at hj
    · cases hj
      exact ⟨v, by rw [← e]; exact h.2.2 (i, v) List.mem_cons_self, hv⟩
    · cases hj
  · rw [if_neg e] at hj
    obtain ⟨h1, h2⟩ := mm_k1_get hj
    obtain ⟨y, h3, h4⟩ := hl.2.2.2 j x h1
    refine ⟨y, h.2.2 (j, y) (List.mem_cons_of_mem _ (List.mem_filter.mpr ⟨mm_lv_mem.mpr h3, ?_⟩)), h4⟩
    have e2 : ¬ j = i := fun q => e q.symm
    rw [mm_v_cat h4]
    by_cases e3 : j + 1 = i
    · have e4 : ¬ x.category = 2 := fun q => h2 ⟨e3, q⟩
      simp [e2, e4]
    · simp [e2, e3]
theorem mm_l_s2 {nL i : Nat} {ρ : List Nat} {ls ls' : Array Slot} {L : mm_L} {u v : Value} (hl : mm_l nL ρ ls L) (hv : mm_v ρ u v) (hi : i + 1 < nL)
    (h : lv_has ls' nL ((i, v) :: (mm_lv ls).filter (fun q => !(q.1 == i) && (!(q.1 == i + 1) && !(q.1 + 1 == i && q.2.category == 2))))) : mm_l nL ρ ls' (mm_s2 L i u) := by
  refine ⟨h.1, by rw [mm_s2, List.length_set, List.length_set, mm_k1_len]; exact hl.2.1, h.2.1, fun j x hj => ?_⟩
  rw [mm_s2, List.getElem?_set] at hj
  by_cases e0 : i + 1 = j
  · rw [if_pos e0] at hj
    split at hj <;> cases hj
  · rw [if_neg e0, List.getElem?_set] at hj
    by_cases e : i = j
    · rw [if_pos e, mm_k1_len] at hj
      split at hj
      · cases hj
        exact ⟨v, by rw [← e]; exact h.2.2 (i, v) List.mem_cons_self, hv⟩
      · cases hj
    · rw [if_neg e] at hj
      obtain ⟨h1, h2⟩ := mm_k1_get hj
      obtain ⟨y, h3, h4⟩ := hl.2.2.2 j x h1
      refine ⟨y, h.2.2 (j, y) (List.mem_cons_of_mem _ (List.mem_filter.mpr ⟨mm_lv_mem.mpr h3, ?_⟩)), h4⟩
      have e2 : ¬ j = i := fun q => e q.symm
      have e5 : ¬ j = i + 1 := fun q => e0 q.symm
      rw [mm_v_cat h4]
      by_cases e3 : j + 1 = i
      · have e4 : ¬ x.category = 2 := fun q => h2 ⟨e3, q⟩
        simp [e2, e4, e5]
      · simp [e2, e3, e5]
/-- a method's arguments as its first locals -/
def mm_ar : List Value → mm_L
  | [] => []
  | v :: vs => if v.category = 2 then some v :: none :: mm_ar vs else some v :: mm_ar vs
def mm_args (nL : Nat) (vs : List Value) : mm_L := mm_ar vs ++ List.replicate (nL - (mm_ar vs).length) none
theorem mm_ar_len : ∀ (vs : List Value), (mm_ar vs).length = (lg_sl vs).length
  | [] => rfl
  | v :: vs => by
    have ih := mm_ar_len vs
    by_cases hc : v.category = 2
    · simp [mm_ar, lg_sl, hc] at *; omega
    · simp [mm_ar, lg_sl, hc] at *; omega
theorem mm_ar_get {ρ : List Nat} : ∀ {us vs : List Value}, mm_vs ρ us vs → ∀ (n i : Nat) (u : Value), (mm_ar us)[i]? = some (some u) → ∃ v, (n + i, v) ∈ lv_args n vs ∧ mm_v ρ u v
  | [], _, _, n, i, u, hi => by simp [mm_ar] at hi
  | x :: us, _, ⟨v, vs', e, h1, h2⟩, n, i, u, hi => by
    rw [e]
    by_cases hc : x.category = 2
    · have hc' : v.category = 2 := by rw [mm_v_cat h1]; exact hc
      simp only [mm_ar, hc, if_true] at hi
      match i, hi with
      | 0, hi =>
        cases hi
        exact ⟨v, by simp [lv_args], h1⟩
      | 1, hi => simp at hi
      | i + 2, hi =>
        rw [List.getElem?_cons_succ, List.getElem?_cons_succ] at hi
        obtain ⟨y, h3, h4⟩ := mm_ar_get h2 (n + 2) i u hi
        refine ⟨y, ?_, h4⟩
        simp only [lv_args, hc', if_true]
        rw [show n + (i + 2) = n + 2 + i by omega]
        exact List.mem_cons_of_mem _ h3
    · have hc' : ¬ v.category = 2 := by rw [mm_v_cat h1]; exact hc
      simp only [mm_ar, hc, if_false] at hi
      match i, hi with
      | 0, hi =>
        cases hi
        exact ⟨v, by simp [lv_args], h1⟩
      | i + 1, hi =>
        rw [List.getElem?_cons_succ] at hi
        obtain ⟨y, h3, h4⟩ := mm_ar_get h2 (n + 1) i u hi
        refine ⟨y, ?_, h4⟩
        simp only [lv_args, hc', if_false]
        rw [show n + (i + 1) = n + 1 + i by omega]
        exact List.mem_cons_of_mem _ h3
theorem mm_sl_cons (v : Value) (vs : List Value) : (lg_sl (v :: vs)).length = (if v.category = 2 then 2 else 1) + (lg_sl vs).length := by
  unfold lg_sl
  rw [List.flatMap_cons, List.length_append]
  split <;> rfl
theorem mm_sl_len {ρ : List Nat} : ∀ {us vs : List Value}, mm_vs ρ us vs → (lg_sl vs).length = (lg_sl us).length
  | [], _, h => by rw [show _ = [] from h]
  | x :: us, _, ⟨v, vs', e, h1, h2⟩ => by
    rw [e, mm_sl_cons, mm_sl_cons, mm_sl_len h2, mm_v_cat h1]
theorem mm_l_entry {nL : Nat} {ρ : List Nat} {us vs : List Value} (h : mm_vs ρ us vs) (hn : (mm_ar us).length ≤ nL) {ls : Array Slot} (hl : lv_has ls nL (lv_args 0 vs)) : mm_l nL ρ ls (mm_args nL us) := by
  refine ⟨hl.1, by simp [mm_args]; omega, hl.2.1, fun i u hi => ?_⟩
  rw [mm_args] at hi
  by_cases hi2 : i < (mm_ar us).length
  · rw [List.getElem?_append_left hi2] at hi
    obtain ⟨v, h1, h2⟩ := mm_ar_get h 0 i u hi
    rw [Nat.zero_add] at h1
    exact ⟨v, hl.2.2 (i, v) h1, h2⟩
  · rw [List.getElem?_append_right (by omega)] at hi
    have := List.eq_of_mem_replicate (List.mem_of_getElem? hi)
    cases this
/-! worlds -/
theorem mm_w_get {cA : FieldType → ClassId} {ρ : List Nat} {w : mm_H} {ws : va_W} (h : mm_w cA ρ w ws) {a b : Nat} {x : mm_C} (ha : w[a]? = some x) (hb : ρ[a]? = some b) : ∃ y, ws[a]? = some (b, y) ∧ mm_e cA ρ x y := by
  obtain ⟨b', y, h1, h2, h3⟩ := h.2.2 a x ha
  rw [hb] at h1
  cases h1
  exact ⟨y, h2, h3⟩
theorem mm_w_set {cA : FieldType → ClassId} {ρ : List Nat} {w : mm_H} {ws : va_W} (h : mm_w cA ρ w ws) {a b : Nat} {x : mm_C} {y : va_E} (hb : ρ[a]? = some b) (he : mm_e cA ρ x y) : mm_w cA ρ (w.set a x) (ws.set a (b, y)) := by
  refine ⟨by rw [List.length_set]; exact h.1, by rw [List.length_set, List.length_set]; exact h.2.1, fun i z hz => ?_⟩
  rw [List.getElem?_set] at hz
  by_cases e : a = i
  · rw [if_pos e] at hz
    split at hz
    · rename_i hlt
      cases hz
      refine ⟨b, y, by rw [← e]; exact hb, ?_, he⟩
      rw [List.getElem?_set, if_pos e, if_pos (by rw [h.2.1]; exact hlt)]
    · cases hz
  · rw [if_neg e] at hz
    obtain ⟨b', y', h1, h2, h3⟩ := h.2.2 i z hz
    exact ⟨b', y', h1, by rw [List.getElem?_set, if_neg e]; exact h2, h3⟩
theorem mm_w_push {cA : FieldType → ClassId} {ρ : List Nat} {w : mm_H} {ws : va_W} (h : mm_w cA ρ w ws) {q : Nat} {x : mm_C} {y : va_E} (he : mm_e cA (ρ ++ [q]) x y) : mm_w cA (ρ ++ [q]) (w ++ [x]) (ws ++ [(q, y)]) := by
  have hm : ∀ a, a < ρ.length → (ρ ++ [q])[a]? = ρ[a]? := fun a ha => List.getElem?_append_left ha
  refine ⟨by simp [h.1], by simp [h.2.1], fun i z hz => ?_⟩
  by_cases hi : i < w.length
  · rw [List.getElem?_append_left hi] at hz
    obtain ⟨b', y', h1, h2, h3⟩ := h.2.2 i z hz
    exact ⟨b', y', by rw [hm i (by rw [h.1]; exact hi)]; exact h1, by rw [List.getElem?_append_left (by rw [h.2.1]; exact hi)]; exact h2, mm_e_mono hm h3⟩
  · rw [List.getElem?_append_right (by omega)] at hz
    have hi2 : i = w.length := by
      have := (List.getElem?_eq_some_iff.mp hz).1
      simp at this
      omega
    subst hi2
    rw [Nat.sub_self] at hz
    cases hz
    exact ⟨q, y, by rw [← h.1]; simp, by rw [← h.2.1]; simp, he⟩
/-! THE JUDGEMENT -/
/-- words of locals that a call may cost, all told -/
def mm_K : Nat := 36
def mm_tys (cA : FieldType → ClassId) : List (ClassId × FieldType) := [(cA .int, .int), (cA .long, .long)]
/-- class, code, locals, is it <init>, what it returns -/
abbrev mm_M : Type := String × ByteArray × Nat × Bool × Option FieldType
def mm_X (M : mm_M) (d : Nat) (p : Program) (R : Room) (s : State) (m : MethodId) (args : Array Value) (meth : Method) (c : Code) (D : va_G) (cA : FieldType → ClassId) (A : Nat → Prop) : Prop :=
  p.tables.exec = Jvm.exec ∧ c.code = M.2.1 ∧ c.maxLocals = M.2.2.1 ∧ s.vm.findClass M.1 = some m.cls ∧ (∀ w ∈ mm_T, w.before args s = true) ∧ (∀ w ∈ mm_N, va_Nw w s) ∧ va_K D mmCl (mm_tys cA) s ∧ (d ≤ R.frames ∧ mm_K * d ≤ R.locals) ∧ (∀ q : Nat, s.heap.size ≤ q → A q) ∧ (M.2.2.2.1 = true → meth.name = "<init>")
def mm_rd (M : mm_M) (pc : Nat) (v : Option Value) : Prop := match v with
  | none => M.2.2.2.2 = none ∧ decode M.2.1 pc = .ok (.return_, 1)
  | some (.int x) => ∃ ty, M.2.2.2.2 = some ty ∧ narrow ty (.int x) = .int x ∧ decode M.2.1 pc = .ok (.ireturn, 1)
  | some (.long _) => M.2.2.2.2 = some .long ∧ decode M.2.1 pc = .ok (.lreturn, 1)
  | some .null => (∃ rt, M.2.2.2.2 = some rt ∧ ((∃ n, rt = .object n) ∨ ∃ t, rt = .array t)) ∧ decode M.2.1 pc = .ok (.areturn, 1)
  | some (.ref _) => (∃ rt, M.2.2.2.2 = some rt ∧ ((∃ n, rt = .object n) ∨ ∃ t, rt = .array t)) ∧ decode M.2.1 pc = .ok (.areturn, 1)
  | _ => False
def mm_G (M : mm_M) (d k0 : Nat) (post : Option Value → mm_H → Prop) (p : Program) (l : Launch) (e : Env) (R : Room) (s : State) (m : MethodId) (args : Array Value) (below : List Frame) (meth : Method) (c : Code) (D : va_G) (cA : FieldType → ClassId) (A : Nat → Prop) (Q : State → Prop) (ρ0 : List Nat) (mc ms : Nat) : Prop :=
  mm_X M d p R s m args meth c D cA A ∧ (mc ≤ R.cells ∧ ms ≤ R.slots) ∧ k0 ≤ ρ0.length ∧ ∀ (pc : Nat) (ls : Array Slot) (v v' : Option Value) (w : mm_H) (ρ : List Nat) (ws : va_W) (H : Heap) (locs : List Loc), post v w → mm_ov ρ v v' → mm_rd M pc v → (∀ a, a < k0 → ρ[a]? = ρ0[a]?) → mm_w cA ρ w ws → va_P D mmCl ws H → va_D A ws → va_S A s.heap H locs → W p l e R s m args below meth c H locs mc ms Q (F0 m pc ls v'.toList)
def mm_R (M : mm_M) (k0 : Nat) (s : State) (D : va_G) (cA : FieldType → ClassId) (A : Nat → Prop) (ρ0 : List Nat) (mc ms kc ks : Nat) (ρ : List Nat) (w : mm_H) (H : Heap) (locs : List Loc) (ls : Array Slot) (L : mm_L) (st st' : List Value) (cells slots : Nat) : Prop :=
  (∀ a, a < k0 → ρ[a]? = ρ0[a]?) ∧ (∃ ws : va_W, mm_w cA ρ w ws ∧ va_P D mmCl ws H ∧ va_D A ws) ∧ va_S A s.heap H locs ∧ mm_l M.2.2.1 ρ ls L ∧ mm_vs ρ st st' ∧ cells + kc ≤ mc ∧ slots + ks ≤ ms
def mm_V (M : mm_M) (d k0 : Nat) (post : Option Value → mm_H → Prop) (kc ks pc : Nat) (L : mm_L) (st : List Value) (w : mm_H) : Prop :=
  ∀ {p : Program} {l : Launch} {e : Env} {R : Room} {s : State} {m : MethodId} {args : Array Value} {below : List Frame} {meth : Method} {c : Code} {D : va_G} {cA : FieldType → ClassId} {A : Nat → Prop} {Q : State → Prop} {ρ0 : List Nat} {mc ms : Nat}, mm_G M d k0 post p l e R s m args below meth c D cA A Q ρ0 mc ms →
  ∀ {ρ : List Nat} {H : Heap} {locs : List Loc} {ls : Array Slot} {st' : List Value} {cells slots : Nat}, mm_R M k0 s D cA A ρ0 mc ms kc ks ρ w H locs ls L st st' cells slots → W p l e R s m args below meth c H locs cells slots Q (F0 m pc ls st')
theorem mm_in_Text : ∀ w ∈ u_ws r_Text t_Text 2, w ∈ mm_T := by
  intro w hw
  obtain ⟨k, hk, rfl⟩ := List.mem_map.mp hw
  have hk := List.mem_range.mp hk
  match k, hk with
  | 0, _ => exact tw_42
  | 1, _ => exact tw_44
  | k + 2, hk => omega
theorem mm_in_Program : ∀ w ∈ u_ws r_Program t_Program 14, w ∈ mm_T := by
  intro w hw
  obtain ⟨k, hk, rfl⟩ := List.mem_map.mp hw
  have hk := List.mem_range.mp hk
  match k, hk with
  | 0, _ => exact tw_90
  | 1, _ => exact tw_92
  | 2, _ => exact tw_94
  | 3, _ => exact tw_96
  | 4, _ => exact tw_98
  | 5, _ => exact tw_100
  | 6, _ => exact tw_102
  | 7, _ => exact tw_104
  | 8, _ => exact tw_106
  | 9, _ => exact tw_108
  | 10, _ => exact tw_110
  | 11, _ => exact tw_112
  | 12, _ => exact tw_114
  | 13, _ => exact tw_116
  | k + 14, hk => omega
theorem mm_in_Reader : ∀ w ∈ u_ws r_Reader t_Reader 11, w ∈ mm_T := by
  intro w hw
  obtain ⟨k, hk, rfl⟩ := List.mem_map.mp hw
  have hk := List.mem_range.mp hk
  match k, hk with
  | 0, _ => exact tw_132
  | 1, _ => exact tw_134
  | 2, _ => exact tw_136
  | 3, _ => exact tw_138
  | 4, _ => exact tw_140
  | 5, _ => exact tw_142
  | 6, _ => exact tw_144
  | 7, _ => exact tw_146
  | 8, _ => exact tw_148
  | 9, _ => exact tw_150
  | 10, _ => exact tw_152
  | k + 11, hk => omega
theorem mm_in_Frames : ∀ w ∈ u_ws r_Frames t_Frames 8, w ∈ mm_T := by
  intro w hw
  obtain ⟨k, hk, rfl⟩ := List.mem_map.mp hw
  have hk := List.mem_range.mp hk
  match k, hk with
  | 0, _ => exact tw_192
  | 1, _ => exact tw_194
  | 2, _ => exact tw_196
  | 3, _ => exact tw_198
  | 4, _ => exact tw_200
  | 5, _ => exact tw_202
  | 6, _ => exact tw_204
  | 7, _ => exact tw_206
  | k + 8, hk => omega
theorem mm_in_Choices : ∀ w ∈ u_ws r_Choices t_Choices 6, w ∈ mm_T := by
  intro w hw
  obtain ⟨k, hk, rfl⟩ := List.mem_map.mp hw
  have hk := List.mem_range.mp hk
  match k, hk with
  | 0, _ => exact tw_228
  | 1, _ => exact tw_230
  | 2, _ => exact tw_232
  | 3, _ => exact tw_234
  | 4, _ => exact tw_236
  | 5, _ => exact tw_238
  | k + 6, hk => omega
theorem mm_in_Matcher : ∀ w ∈ u_ws r_Matcher t_Matcher 11, w ∈ mm_T := by
  intro w hw
  obtain ⟨k, hk, rfl⟩ := List.mem_map.mp hw
  have hk := List.mem_range.mp hk
  match k, hk with
  | 0, _ => exact tw_257
  | 1, _ => exact tw_259
  | 2, _ => exact tw_261
  | 3, _ => exact tw_263
  | 4, _ => exact tw_265
  | 5, _ => exact tw_267
  | 6, _ => exact tw_269
  | 7, _ => exact tw_271
  | 8, _ => exact tw_273
  | 9, _ => exact tw_275
  | 10, _ => exact tw_277
  | k + 11, hk => omega
theorem mm_in_Bench : ∀ w ∈ u_ws r_Bench t_Bench 8, w ∈ mm_T := by
  intro w hw
  obtain ⟨k, hk, rfl⟩ := List.mem_map.mp hw
  have hk := List.mem_range.mp hk
  match k, hk with
  | 0, _ => exact tw_288
  | 1, _ => exact tw_290
  | 2, _ => exact tw_292
  | 3, _ => exact tw_294
  | 4, _ => exact tw_296
  | 5, _ => exact tw_298
  | 6, _ => exact tw_300
  | 7, _ => exact tw_302
  | k + 8, hk => omega
theorem mm_in : ∀ q ∈ mmCl, ∀ w ∈ u_ws q.1 q.2.1 q.2.2, w ∈ mm_T := by
  intro q hq
  simp only [mmCl, List.mem_cons, List.not_mem_nil, or_false] at hq
  rcases hq with rfl | rfl | rfl | rfl | rfl | rfl | rfl
  · exact mm_in_Text
  · exact mm_in_Program
  · exact mm_in_Reader
  · exact mm_in_Frames
  · exact mm_in_Choices
  · exact mm_in_Matcher
  · exact mm_in_Bench
section MMV
variable {M : mm_M} {d k0 kc ks pc : Nat} {post : Option Value → mm_H → Prop} {L : mm_L} {r : List Value} {w : mm_H}
theorem mm_iconst {n : Int} {v : Int32} (hd : decode M.2.1 pc = .ok (.iconst n, 1)) (hv : Int32.ofInt n = v) (k : mm_V M d k0 post kc ks (pc + 1) L (.int v :: r) w) : mm_V M d k0 post kc ks pc L r w := by
  intro p l e R s m args below meth c D cA A Q ρ0 mc ms hG ρ H locs ls st' cells slots ⟨h0, hw, hS, hl, hst, hb⟩
  exact lv_iconst hG.1.1 hG.1.2.1 hd hv (k hG ⟨h0, hw, hS, hl, ⟨_, _, rfl, rfl, hst⟩, hb⟩)
theorem mm_bipush {n : Int} {v : Int32} (hd : decode M.2.1 pc = .ok (.bipush n, 2)) (hv : (Int8.ofInt n).toInt32 = v) (k : mm_V M d k0 post kc ks (pc + 2) L (.int v :: r) w) : mm_V M d k0 post kc ks pc L r w := by
  intro p l e R s m args below meth c D cA A Q ρ0 mc ms hG ρ H locs ls st' cells slots ⟨h0, hw, hS, hl, hst, hb⟩
  exact lv_bipush hG.1.1 hG.1.2.1 hd hv (k hG ⟨h0, hw, hS, hl, ⟨_, _, rfl, rfl, hst⟩, hb⟩)
theorem mm_sipush {n : Int} {v : Int32} (hd : decode M.2.1 pc = .ok (.sipush n, 3)) (hv : (Int16.ofInt n).toInt32 = v) (k : mm_V M d k0 post kc ks (pc + 3) L (.int v :: r) w) : mm_V M d k0 post kc ks pc L r w := by
  intro p l e R s m args below meth c D cA A Q ρ0 mc ms hG ρ H locs ls st' cells slots ⟨h0, hw, hS, hl, hst, hb⟩
  exact lv_sipush hG.1.1 hG.1.2.1 hd hv (k hG ⟨h0, hw, hS, hl, ⟨_, _, rfl, rfl, hst⟩, hb⟩)
theorem mm_lconst {n : Fin 2} {v : Int64} (hd : decode M.2.1 pc = .ok (.lconst n, 1)) (hv : Int64.ofNat (n : Nat) = v) (k : mm_V M d k0 post kc ks (pc + 1) L (.long v :: r) w) : mm_V M d k0 post kc ks pc L r w := by
  intro p l e R s m args below meth c D cA A Q ρ0 mc ms hG ρ H locs ls st' cells slots ⟨h0, hw, hS, hl, hst, hb⟩
  exact lv_lconst hG.1.1 hG.1.2.1 hd hv (k hG ⟨h0, hw, hS, hl, ⟨_, _, rfl, rfl, hst⟩, hb⟩)
theorem mm_null  (hd : decode M.2.1 pc = .ok (.aconst_null, 1)) (k : mm_V M d k0 post kc ks (pc + 1) L (.null :: r) w) : mm_V M d k0 post kc ks pc L r w := by
  intro p l e R s m args below meth c D cA A Q ρ0 mc ms hG ρ H locs ls st' cells slots ⟨h0, hw, hS, hl, hst, hb⟩
  exact lv_null hG.1.1 hG.1.2.1 hd (k hG ⟨h0, hw, hS, hl, ⟨_, _, rfl, rfl, hst⟩, hb⟩)
theorem mm_ldc {idx : Nat} {v : Int32} (hd : decode M.2.1 pc = .ok (.ldc idx, 2)) (hv : Cond.constant M.1 idx v ∈ mm_T) (k : mm_V M d k0 post kc ks (pc + 2) L (.int v :: r) w) : mm_V M d k0 post kc ks pc L r w := by
  intro p l e R s m args below meth c D cA A Q ρ0 mc ms hG ρ H locs ls st' cells slots ⟨h0, hw, hS, hl, hst, hb⟩
  exact lv_ldc hG.1.1 hG.1.2.1 hG.1.2.2.2.1 (hG.1.2.2.2.2.1 _ hv) hd (k hG ⟨h0, hw, hS, hl, ⟨_, _, rfl, rfl, hst⟩, hb⟩)
theorem mm_ldc2 {idx : Nat} {v : Int64} (hd : decode M.2.1 pc = .ok (.ldc2_w idx, 3)) (hv : Cond.constantLong M.1 idx v ∈ mm_T) (k : mm_V M d k0 post kc ks (pc + 3) L (.long v :: r) w) : mm_V M d k0 post kc ks pc L r w := by
  intro p l e R s m args below meth c D cA A Q ρ0 mc ms hG ρ H locs ls st' cells slots ⟨h0, hw, hS, hl, hst, hb⟩
  exact lv_ldc2 hG.1.1 hG.1.2.1 hG.1.2.2.2.1 (hG.1.2.2.2.2.1 _ hv) hd (k hG ⟨h0, hw, hS, hl, ⟨_, _, rfl, rfl, hst⟩, hb⟩)
theorem mm_iload {n : Nat} {x : Int32} (hd : decode M.2.1 pc = .ok (.iload n, 2)) (hx : L[n]? = some (some (.int x))) (k : mm_V M d k0 post kc ks (pc + 2) L (.int x :: r) w) : mm_V M d k0 post kc ks pc L r w := by
  intro p l e R s m args below meth c D cA A Q ρ0 mc ms hG ρ H locs ls st' cells slots ⟨h0, hw, hS, hl, hst, hb⟩
  obtain ⟨v, h1, h2⟩ := hl.2.2.2 _ _ hx
  have h2 : v = .int x := h2
  subst h2
  exact lv_iload hG.1.1 hG.1.2.1 hd h1 (k hG ⟨h0, hw, hS, hl, ⟨_, _, rfl, rfl, hst⟩, hb⟩)
theorem mm_iload_n {n : Fin 4} {x : Int32} (hd : decode M.2.1 pc = .ok (.iload_n n, 1)) (hx : L[(n : Nat)]? = some (some (.int x))) (k : mm_V M d k0 post kc ks (pc + 1) L (.int x :: r) w) : mm_V M d k0 post kc ks pc L r w := by
  intro p l e R s m args below meth c D cA A Q ρ0 mc ms hG ρ H locs ls st' cells slots ⟨h0, hw, hS, hl, hst, hb⟩
  obtain ⟨v, h1, h2⟩ := hl.2.2.2 _ _ hx
  have h2 : v = .int x := h2
  subst h2
  exact lv_iload_n hG.1.1 hG.1.2.1 hd rfl h1 (k hG ⟨h0, hw, hS, hl, ⟨_, _, rfl, rfl, hst⟩, hb⟩)
theorem mm_lload {n : Nat} {x : Int64} (hd : decode M.2.1 pc = .ok (.lload n, 2)) (hx : L[n]? = some (some (.long x))) (k : mm_V M d k0 post kc ks (pc + 2) L (.long x :: r) w) : mm_V M d k0 post kc ks pc L r w := by
  intro p l e R s m args below meth c D cA A Q ρ0 mc ms hG ρ H locs ls st' cells slots ⟨h0, hw, hS, hl, hst, hb⟩
  obtain ⟨v, h1, h2⟩ := hl.2.2.2 _ _ hx
  have h2 : v = .long x := h2
  subst h2
  exact lv_lload hG.1.1 hG.1.2.1 hd h1 (k hG ⟨h0, hw, hS, hl, ⟨_, _, rfl, rfl, hst⟩, hb⟩)
theorem mm_lload_n {n : Fin 4} {x : Int64} (hd : decode M.2.1 pc = .ok (.lload_n n, 1)) (hx : L[(n : Nat)]? = some (some (.long x))) (k : mm_V M d k0 post kc ks (pc + 1) L (.long x :: r) w) : mm_V M d k0 post kc ks pc L r w := by
  intro p l e R s m args below meth c D cA A Q ρ0 mc ms hG ρ H locs ls st' cells slots ⟨h0, hw, hS, hl, hst, hb⟩
  obtain ⟨v, h1, h2⟩ := hl.2.2.2 _ _ hx
  have h2 : v = .long x := h2
  subst h2
  exact lv_lload_n hG.1.1 hG.1.2.1 hd rfl h1 (k hG ⟨h0, hw, hS, hl, ⟨_, _, rfl, rfl, hst⟩, hb⟩)
theorem mm_aload {n : Nat} {a : Nat} (hd : decode M.2.1 pc = .ok (.aload n, 2)) (hx : L[n]? = some (some (.ref a))) (k : mm_V M d k0 post kc ks (pc + 2) L (.ref a :: r) w) : mm_V M d k0 post kc ks pc L r w := by
  intro p l e R s m args below meth c D cA A Q ρ0 mc ms hG ρ H locs ls st' cells slots ⟨h0, hw, hS, hl, hst, hb⟩
  obtain ⟨v, h1, b, h2, h3⟩ := hl.2.2.2 _ _ hx
  subst h3
  exact lv_aload hG.1.1 hG.1.2.1 hd h1 (k hG ⟨h0, hw, hS, hl, ⟨_, _, rfl, ⟨b, h2, rfl⟩, hst⟩, hb⟩)
theorem mm_aloadN {n : Nat} (hd : decode M.2.1 pc = .ok (.aload n, 2)) (hx : L[n]? = some (some .null)) (k : mm_V M d k0 post kc ks (pc + 2) L (.null :: r) w) : mm_V M d k0 post kc ks pc L r w := by
  intro p l e R s m args below meth c D cA A Q ρ0 mc ms hG ρ H locs ls st' cells slots ⟨h0, hw, hS, hl, hst, hb⟩
  obtain ⟨v, h1, h2⟩ := hl.2.2.2 _ _ hx
  have h2 : v = .null := h2
  subst h2
  exact lv_aloadN hG.1.1 hG.1.2.1 hd h1 (k hG ⟨h0, hw, hS, hl, ⟨_, _, rfl, rfl, hst⟩, hb⟩)
theorem mm_aload_n {n : Fin 4} {a : Nat} (hd : decode M.2.1 pc = .ok (.aload_n n, 1)) (hx : L[(n : Nat)]? = some (some (.ref a))) (k : mm_V M d k0 post kc ks (pc + 1) L (.ref a :: r) w) : mm_V M d k0 post kc ks pc L r w := by
  intro p l e R s m args below meth c D cA A Q ρ0 mc ms hG ρ H locs ls st' cells slots ⟨h0, hw, hS, hl, hst, hb⟩
  obtain ⟨v, h1, b, h2, h3⟩ := hl.2.2.2 _ _ hx
  subst h3
  exact lv_aload_n hG.1.1 hG.1.2.1 hd rfl h1 (k hG ⟨h0, hw, hS, hl, ⟨_, _, rfl, ⟨b, h2, rfl⟩, hst⟩, hb⟩)
theorem mm_aload_nN {n : Fin 4} (hd : decode M.2.1 pc = .ok (.aload_n n, 1)) (hx : L[(n : Nat)]? = some (some .null)) (k : mm_V M d k0 post kc ks (pc + 1) L (.null :: r) w) : mm_V M d k0 post kc ks pc L r w := by
  intro p l e R s m args below meth c D cA A Q ρ0 mc ms hG ρ H locs ls st' cells slots ⟨h0, hw, hS, hl, hst, hb⟩
  obtain ⟨v, h1, h2⟩ := hl.2.2.2 _ _ hx
  have h2 : v = .null := h2
  subst h2
  exact lv_aload_nN hG.1.1 hG.1.2.1 hd rfl h1 (k hG ⟨h0, hw, hS, hl, ⟨_, _, rfl, rfl, hst⟩, hb⟩)
theorem mm_istore {n : Nat} {x : Int32} (hd : decode M.2.1 pc = .ok (.istore n, 2)) (hn : n < M.2.2.1) (k : mm_V M d k0 post kc ks (pc + 2) (mm_s1 L n (.int x)) r w) : mm_V M d k0 post kc ks pc L ((.int x) :: r) w := by
  intro p l e R s m args below meth c D cA A Q ρ0 mc ms hG ρ H locs ls st' cells slots ⟨h0, hw, hS, hl, hst, hb⟩
  obtain ⟨t1, rfl, h1⟩ := mm_vs_i hst
  exact lv_istore hG.1.1 hG.1.2.1 hd (mm_lv_has hl.1 hl.2.2.1) hn rfl (fun ls' hl' => k hG ⟨h0, hw, hS, mm_l_s1 hl rfl hn hl', h1, hb⟩)
theorem mm_lstore {n : Nat} {x : Int64} (hd : decode M.2.1 pc = .ok (.lstore n, 2)) (hn : n + 1 < M.2.2.1) (k : mm_V M d k0 post kc ks (pc + 2) (mm_s2 L n (.long x)) r w) : mm_V M d k0 post kc ks pc L ((.long x) :: r) w := by
  intro p l e R s m args below meth c D cA A Q ρ0 mc ms hG ρ H locs ls st' cells slots ⟨h0, hw, hS, hl, hst, hb⟩
  obtain ⟨t1, rfl, h1⟩ := mm_vs_j hst
  exact lv_lstore hG.1.1 hG.1.2.1 hd (mm_lv_has hl.1 hl.2.2.1) hn rfl (fun ls' hl' => k hG ⟨h0, hw, hS, mm_l_s2 hl rfl hn hl', h1, hb⟩)
theorem mm_astore {n : Nat} {a : Nat} (hd : decode M.2.1 pc = .ok (.astore n, 2)) (hn : n < M.2.2.1) (k : mm_V M d k0 post kc ks (pc + 2) (mm_s1 L n (.ref a)) r w) : mm_V M d k0 post kc ks pc L ((.ref a) :: r) w := by
  intro p l e R s m args below meth c D cA A Q ρ0 mc ms hG ρ H locs ls st' cells slots ⟨h0, hw, hS, hl, hst, hb⟩
  obtain ⟨b, t1, rfl, hb1, h1⟩ := mm_vs_r hst
  exact lv_astore hG.1.1 hG.1.2.1 hd (mm_lv_has hl.1 hl.2.2.1) hn rfl (fun ls' hl' => k hG ⟨h0, hw, hS, mm_l_s1 hl ⟨b, hb1, rfl⟩ hn hl', h1, hb⟩)
theorem mm_astoreN {n : Nat} (hd : decode M.2.1 pc = .ok (.astore n, 2)) (hn : n < M.2.2.1) (k : mm_V M d k0 post kc ks (pc + 2) (mm_s1 L n .null) r w) : mm_V M d k0 post kc ks pc L (.null :: r) w := by
  intro p l e R s m args below meth c D cA A Q ρ0 mc ms hG ρ H locs ls st' cells slots ⟨h0, hw, hS, hl, hst, hb⟩
  obtain ⟨t1, rfl, h1⟩ := mm_vs_n hst
  exact lv_astoreN hG.1.1 hG.1.2.1 hd (mm_lv_has hl.1 hl.2.2.1) hn rfl (fun ls' hl' => k hG ⟨h0, hw, hS, mm_l_s1 hl rfl hn hl', h1, hb⟩)
theorem mm_istore_n {n : Fin 4} {x : Int32} (hd : decode M.2.1 pc = .ok (.istore_n n, 1)) (hn : (n : Nat) < M.2.2.1) (k : mm_V M d k0 post kc ks (pc + 1) (mm_s1 L (n : Nat) (.int x)) r w) : mm_V M d k0 post kc ks pc L ((.int x) :: r) w := by
  intro p l e R s m args below meth c D cA A Q ρ0 mc ms hG ρ H locs ls st' cells slots ⟨h0, hw, hS, hl, hst, hb⟩
  obtain ⟨t1, rfl, h1⟩ := mm_vs_i hst
  exact lv_istore_n hG.1.1 hG.1.2.1 hd rfl (mm_lv_has hl.1 hl.2.2.1) hn rfl (fun ls' hl' => k hG ⟨h0, hw, hS, mm_l_s1 hl rfl hn hl', h1, hb⟩)
theorem mm_lstore_n {n : Fin 4} {x : Int64} (hd : decode M.2.1 pc = .ok (.lstore_n n, 1)) (hn : (n : Nat) + 1 < M.2.2.1) (k : mm_V M d k0 post kc ks (pc + 1) (mm_s2 L (n : Nat) (.long x)) r w) : mm_V M d k0 post kc ks pc L ((.long x) :: r) w := by
  intro p l e R s m args below meth c D cA A Q ρ0 mc ms hG ρ H locs ls st' cells slots ⟨h0, hw, hS, hl, hst, hb⟩
  obtain ⟨t1, rfl, h1⟩ := mm_vs_j hst
  exact lv_lstore_n hG.1.1 hG.1.2.1 hd rfl (mm_lv_has hl.1 hl.2.2.1) hn rfl (fun ls' hl' => k hG ⟨h0, hw, hS, mm_l_s2 hl rfl hn hl', h1, hb⟩)
theorem mm_astore_n {n : Fin 4} {a : Nat} (hd : decode M.2.1 pc = .ok (.astore_n n, 1)) (hn : (n : Nat) < M.2.2.1) (k : mm_V M d k0 post kc ks (pc + 1) (mm_s1 L (n : Nat) (.ref a)) r w) : mm_V M d k0 post kc ks pc L ((.ref a) :: r) w := by
  intro p l e R s m args below meth c D cA A Q ρ0 mc ms hG ρ H locs ls st' cells slots ⟨h0, hw, hS, hl, hst, hb⟩
  obtain ⟨b, t1, rfl, hb1, h1⟩ := mm_vs_r hst
  exact lv_astore_n hG.1.1 hG.1.2.1 hd rfl (mm_lv_has hl.1 hl.2.2.1) hn rfl (fun ls' hl' => k hG ⟨h0, hw, hS, mm_l_s1 hl ⟨b, hb1, rfl⟩ hn hl', h1, hb⟩)
theorem mm_astore_nN {n : Fin 4} (hd : decode M.2.1 pc = .ok (.astore_n n, 1)) (hn : (n : Nat) < M.2.2.1) (k : mm_V M d k0 post kc ks (pc + 1) (mm_s1 L (n : Nat) .null) r w) : mm_V M d k0 post kc ks pc L (.null :: r) w := by
  intro p l e R s m args below meth c D cA A Q ρ0 mc ms hG ρ H locs ls st' cells slots ⟨h0, hw, hS, hl, hst, hb⟩
  obtain ⟨t1, rfl, h1⟩ := mm_vs_n hst
  exact lv_astore_nN hG.1.1 hG.1.2.1 hd rfl (mm_lv_has hl.1 hl.2.2.1) hn rfl (fun ls' hl' => k hG ⟨h0, hw, hS, mm_l_s1 hl rfl hn hl', h1, hb⟩)
theorem mm_iinc {n : Nat} {i : Int} {x v : Int32} (hd : decode M.2.1 pc = .ok (.iinc n i, 3)) (hx : L[n]? = some (some (.int x))) (hv : Int32.ofInt i = v) (hn : n < M.2.2.1) (k : mm_V M d k0 post kc ks (pc + 3) (mm_s1 L n (.int (x + v))) r w) : mm_V M d k0 post kc ks pc L r w := by
  intro p l e R s m args below meth c D cA A Q ρ0 mc ms hG ρ H locs ls st' cells slots ⟨h0, hw, hS, hl, hst, hb⟩
  obtain ⟨y, h1, h2⟩ := hl.2.2.2 _ _ hx
  have h2 : y = .int x := h2
  subst h2
  obtain ⟨j, hj⟩ := List.getElem?_of_mem (mm_lv_mem.mpr h1)
  exact lv_iinc hG.1.1 hG.1.2.1 hd (mm_lv_has hl.1 hl.2.2.1) hj (by rw [hv]) hn rfl (fun ls' hl' => k hG ⟨h0, hw, hS, mm_l_s1 hl rfl hn hl', hst, hb⟩)
theorem mm_iadd {x y : Int32} (hd : decode M.2.1 pc = .ok (.iadd, 1)) (k : mm_V M d k0 post kc ks (pc + 1) L (.int (x + y) :: r) w) : mm_V M d k0 post kc ks pc L (.int y :: .int x :: r) w := by
  intro p l e R s m args below meth c D cA A Q ρ0 mc ms hG ρ H locs ls st' cells slots ⟨h0, hw, hS, hl, hst, hb⟩
  obtain ⟨t1, rfl, h1⟩ := mm_vs_i hst
  obtain ⟨t2, rfl, h2⟩ := mm_vs_i h1
  exact lv_iadd hG.1.1 hG.1.2.1 hd (k hG ⟨h0, hw, hS, hl, ⟨_, _, rfl, rfl, h2⟩, hb⟩)
theorem mm_isub {x y : Int32} (hd : decode M.2.1 pc = .ok (.isub, 1)) (k : mm_V M d k0 post kc ks (pc + 1) L (.int (x - y) :: r) w) : mm_V M d k0 post kc ks pc L (.int y :: .int x :: r) w := by
  intro p l e R s m args below meth c D cA A Q ρ0 mc ms hG ρ H locs ls st' cells slots ⟨h0, hw, hS, hl, hst, hb⟩
  obtain ⟨t1, rfl, h1⟩ := mm_vs_i hst
  obtain ⟨t2, rfl, h2⟩ := mm_vs_i h1
  exact lv_isub hG.1.1 hG.1.2.1 hd (k hG ⟨h0, hw, hS, hl, ⟨_, _, rfl, rfl, h2⟩, hb⟩)
theorem mm_imul {x y : Int32} (hd : decode M.2.1 pc = .ok (.imul, 1)) (k : mm_V M d k0 post kc ks (pc + 1) L (.int (x * y) :: r) w) : mm_V M d k0 post kc ks pc L (.int y :: .int x :: r) w := by
  intro p l e R s m args below meth c D cA A Q ρ0 mc ms hG ρ H locs ls st' cells slots ⟨h0, hw, hS, hl, hst, hb⟩
  obtain ⟨t1, rfl, h1⟩ := mm_vs_i hst
  obtain ⟨t2, rfl, h2⟩ := mm_vs_i h1
  exact lv_imul hG.1.1 hG.1.2.1 hd (k hG ⟨h0, hw, hS, hl, ⟨_, _, rfl, rfl, h2⟩, hb⟩)
theorem mm_iand {x y : Int32} (hd : decode M.2.1 pc = .ok (.iand, 1)) (k : mm_V M d k0 post kc ks (pc + 1) L (.int (x &&& y) :: r) w) : mm_V M d k0 post kc ks pc L (.int y :: .int x :: r) w := by
  intro p l e R s m args below meth c D cA A Q ρ0 mc ms hG ρ H locs ls st' cells slots ⟨h0, hw, hS, hl, hst, hb⟩
  obtain ⟨t1, rfl, h1⟩ := mm_vs_i hst
  obtain ⟨t2, rfl, h2⟩ := mm_vs_i h1
  exact lv_iand hG.1.1 hG.1.2.1 hd (k hG ⟨h0, hw, hS, hl, ⟨_, _, rfl, rfl, h2⟩, hb⟩)
theorem mm_ior {x y : Int32} (hd : decode M.2.1 pc = .ok (.ior, 1)) (k : mm_V M d k0 post kc ks (pc + 1) L (.int (x ||| y) :: r) w) : mm_V M d k0 post kc ks pc L (.int y :: .int x :: r) w := by
  intro p l e R s m args below meth c D cA A Q ρ0 mc ms hG ρ H locs ls st' cells slots ⟨h0, hw, hS, hl, hst, hb⟩
  obtain ⟨t1, rfl, h1⟩ := mm_vs_i hst
  obtain ⟨t2, rfl, h2⟩ := mm_vs_i h1
  exact lv_ior hG.1.1 hG.1.2.1 hd (k hG ⟨h0, hw, hS, hl, ⟨_, _, rfl, rfl, h2⟩, hb⟩)
theorem mm_ixor {x y : Int32} (hd : decode M.2.1 pc = .ok (.ixor, 1)) (k : mm_V M d k0 post kc ks (pc + 1) L (.int (x ^^^ y) :: r) w) : mm_V M d k0 post kc ks pc L (.int y :: .int x :: r) w := by
  intro p l e R s m args below meth c D cA A Q ρ0 mc ms hG ρ H locs ls st' cells slots ⟨h0, hw, hS, hl, hst, hb⟩
  obtain ⟨t1, rfl, h1⟩ := mm_vs_i hst
  obtain ⟨t2, rfl, h2⟩ := mm_vs_i h1
  exact lv_ixor hG.1.1 hG.1.2.1 hd (k hG ⟨h0, hw, hS, hl, ⟨_, _, rfl, rfl, h2⟩, hb⟩)
theorem mm_ishl {x y : Int32} (hd : decode M.2.1 pc = .ok (.ishl, 1)) (k : mm_V M d k0 post kc ks (pc + 1) L (.int (x <<< (y &&& 31)) :: r) w) : mm_V M d k0 post kc ks pc L (.int y :: .int x :: r) w := by
  intro p l e R s m args below meth c D cA A Q ρ0 mc ms hG ρ H locs ls st' cells slots ⟨h0, hw, hS, hl, hst, hb⟩
  obtain ⟨t1, rfl, h1⟩ := mm_vs_i hst
  obtain ⟨t2, rfl, h2⟩ := mm_vs_i h1
  exact lv_ishl hG.1.1 hG.1.2.1 hd (k hG ⟨h0, hw, hS, hl, ⟨_, _, rfl, rfl, h2⟩, hb⟩)
theorem mm_ishr {x y : Int32} (hd : decode M.2.1 pc = .ok (.ishr, 1)) (k : mm_V M d k0 post kc ks (pc + 1) L (.int (x >>> (y &&& 31)) :: r) w) : mm_V M d k0 post kc ks pc L (.int y :: .int x :: r) w := by
  intro p l e R s m args below meth c D cA A Q ρ0 mc ms hG ρ H locs ls st' cells slots ⟨h0, hw, hS, hl, hst, hb⟩
  obtain ⟨t1, rfl, h1⟩ := mm_vs_i hst
  obtain ⟨t2, rfl, h2⟩ := mm_vs_i h1
  exact lv_ishr hG.1.1 hG.1.2.1 hd (k hG ⟨h0, hw, hS, hl, ⟨_, _, rfl, rfl, h2⟩, hb⟩)
theorem mm_idiv {x y : Int32} (hd : decode M.2.1 pc = .ok (.idiv, 1)) (hne : ¬ y = 0) (k : mm_V M d k0 post kc ks (pc + 1) L (.int (x / y) :: r) w) : mm_V M d k0 post kc ks pc L (.int y :: .int x :: r) w := by
  intro p l e R s m args below meth c D cA A Q ρ0 mc ms hG ρ H locs ls st' cells slots ⟨h0, hw, hS, hl, hst, hb⟩
  obtain ⟨t1, rfl, h1⟩ := mm_vs_i hst
  obtain ⟨t2, rfl, h2⟩ := mm_vs_i h1
  exact lv_idiv hG.1.1 hG.1.2.1 hd hne (k hG ⟨h0, hw, hS, hl, ⟨_, _, rfl, rfl, h2⟩, hb⟩)
theorem mm_irem {x y : Int32} (hd : decode M.2.1 pc = .ok (.irem, 1)) (hne : ¬ y = 0) (k : mm_V M d k0 post kc ks (pc + 1) L (.int (x - x / y * y) :: r) w) : mm_V M d k0 post kc ks pc L (.int y :: .int x :: r) w := by
  intro p l e R s m args below meth c D cA A Q ρ0 mc ms hG ρ H locs ls st' cells slots ⟨h0, hw, hS, hl, hst, hb⟩
  obtain ⟨t1, rfl, h1⟩ := mm_vs_i hst
  obtain ⟨t2, rfl, h2⟩ := mm_vs_i h1
  exact lv_irem hG.1.1 hG.1.2.1 hd hne (k hG ⟨h0, hw, hS, hl, ⟨_, _, rfl, rfl, h2⟩, hb⟩)
theorem mm_iushr {x y : Int32} (hd : decode M.2.1 pc = .ok (.iushr, 1)) (k : mm_V M d k0 post kc ks (pc + 1) L (.int (x.toUInt32 >>> (y.toUInt32 &&& Int32.toUInt32 31)).toInt32 :: r) w) : mm_V M d k0 post kc ks pc L (.int y :: .int x :: r) w := by
  intro p l e R s m args below meth c D cA A Q ρ0 mc ms hG ρ H locs ls st' cells slots ⟨h0, hw, hS, hl, hst, hb⟩
  obtain ⟨t1, rfl, h1⟩ := mm_vs_i hst
  obtain ⟨t2, rfl, h2⟩ := mm_vs_i h1
  exact lv_iushr hG.1.1 hG.1.2.1 hd rfl (k hG ⟨h0, hw, hS, hl, ⟨_, _, rfl, rfl, h2⟩, hb⟩)
theorem mm_ladd {x y : Int64} (hd : decode M.2.1 pc = .ok (.ladd, 1)) (k : mm_V M d k0 post kc ks (pc + 1) L (.long (x + y) :: r) w) : mm_V M d k0 post kc ks pc L (.long y :: .long x :: r) w := by
  intro p l e R s m args below meth c D cA A Q ρ0 mc ms hG ρ H locs ls st' cells slots ⟨h0, hw, hS, hl, hst, hb⟩
  obtain ⟨t1, rfl, h1⟩ := mm_vs_j hst
  obtain ⟨t2, rfl, h2⟩ := mm_vs_j h1
  exact lv_ladd hG.1.1 hG.1.2.1 hd (k hG ⟨h0, hw, hS, hl, ⟨_, _, rfl, rfl, h2⟩, hb⟩)
theorem mm_lsub {x y : Int64} (hd : decode M.2.1 pc = .ok (.lsub, 1)) (k : mm_V M d k0 post kc ks (pc + 1) L (.long (x - y) :: r) w) : mm_V M d k0 post kc ks pc L (.long y :: .long x :: r) w := by
  intro p l e R s m args below meth c D cA A Q ρ0 mc ms hG ρ H locs ls st' cells slots ⟨h0, hw, hS, hl, hst, hb⟩
  obtain ⟨t1, rfl, h1⟩ := mm_vs_j hst
  obtain ⟨t2, rfl, h2⟩ := mm_vs_j h1
  exact lv_lsub hG.1.1 hG.1.2.1 hd (k hG ⟨h0, hw, hS, hl, ⟨_, _, rfl, rfl, h2⟩, hb⟩)
theorem mm_lmul {x y : Int64} (hd : decode M.2.1 pc = .ok (.lmul, 1)) (k : mm_V M d k0 post kc ks (pc + 1) L (.long (x * y) :: r) w) : mm_V M d k0 post kc ks pc L (.long y :: .long x :: r) w := by
  intro p l e R s m args below meth c D cA A Q ρ0 mc ms hG ρ H locs ls st' cells slots ⟨h0, hw, hS, hl, hst, hb⟩
  obtain ⟨t1, rfl, h1⟩ := mm_vs_j hst
  obtain ⟨t2, rfl, h2⟩ := mm_vs_j h1
  exact lv_lmul hG.1.1 hG.1.2.1 hd (k hG ⟨h0, hw, hS, hl, ⟨_, _, rfl, rfl, h2⟩, hb⟩)
theorem mm_land {x y : Int64} (hd : decode M.2.1 pc = .ok (.land, 1)) (k : mm_V M d k0 post kc ks (pc + 1) L (.long (x &&& y) :: r) w) : mm_V M d k0 post kc ks pc L (.long y :: .long x :: r) w := by
  intro p l e R s m args below meth c D cA A Q ρ0 mc ms hG ρ H locs ls st' cells slots ⟨h0, hw, hS, hl, hst, hb⟩
  obtain ⟨t1, rfl, h1⟩ := mm_vs_j hst
  obtain ⟨t2, rfl, h2⟩ := mm_vs_j h1
  exact lv_land hG.1.1 hG.1.2.1 hd (k hG ⟨h0, hw, hS, hl, ⟨_, _, rfl, rfl, h2⟩, hb⟩)
theorem mm_lor {x y : Int64} (hd : decode M.2.1 pc = .ok (.lor, 1)) (k : mm_V M d k0 post kc ks (pc + 1) L (.long (x ||| y) :: r) w) : mm_V M d k0 post kc ks pc L (.long y :: .long x :: r) w := by
  intro p l e R s m args below meth c D cA A Q ρ0 mc ms hG ρ H locs ls st' cells slots ⟨h0, hw, hS, hl, hst, hb⟩
  obtain ⟨t1, rfl, h1⟩ := mm_vs_j hst
  obtain ⟨t2, rfl, h2⟩ := mm_vs_j h1
  exact lv_lor hG.1.1 hG.1.2.1 hd (k hG ⟨h0, hw, hS, hl, ⟨_, _, rfl, rfl, h2⟩, hb⟩)
theorem mm_lxor {x y : Int64} (hd : decode M.2.1 pc = .ok (.lxor, 1)) (k : mm_V M d k0 post kc ks (pc + 1) L (.long (x ^^^ y) :: r) w) : mm_V M d k0 post kc ks pc L (.long y :: .long x :: r) w := by
  intro p l e R s m args below meth c D cA A Q ρ0 mc ms hG ρ H locs ls st' cells slots ⟨h0, hw, hS, hl, hst, hb⟩
  obtain ⟨t1, rfl, h1⟩ := mm_vs_j hst
  obtain ⟨t2, rfl, h2⟩ := mm_vs_j h1
  exact lv_lxor hG.1.1 hG.1.2.1 hd (k hG ⟨h0, hw, hS, hl, ⟨_, _, rfl, rfl, h2⟩, hb⟩)
theorem mm_lshl {x : Int64} {y : Int32} (hd : decode M.2.1 pc = .ok (.lshl, 1)) (k : mm_V M d k0 post kc ks (pc + 1) L (.long (x <<< (y.toInt64 &&& 63)) :: r) w) : mm_V M d k0 post kc ks pc L (.int y :: .long x :: r) w := by
  intro p l e R s m args below meth c D cA A Q ρ0 mc ms hG ρ H locs ls st' cells slots ⟨h0, hw, hS, hl, hst, hb⟩
  obtain ⟨t1, rfl, h1⟩ := mm_vs_i hst
  obtain ⟨t2, rfl, h2⟩ := mm_vs_j h1
  exact lv_lshl hG.1.1 hG.1.2.1 hd rfl (k hG ⟨h0, hw, hS, hl, ⟨_, _, rfl, rfl, h2⟩, hb⟩)
theorem mm_lshr {x : Int64} {y : Int32} (hd : decode M.2.1 pc = .ok (.lshr, 1)) (k : mm_V M d k0 post kc ks (pc + 1) L (.long (x >>> (y.toInt64 &&& 63)) :: r) w) : mm_V M d k0 post kc ks pc L (.int y :: .long x :: r) w := by
  intro p l e R s m args below meth c D cA A Q ρ0 mc ms hG ρ H locs ls st' cells slots ⟨h0, hw, hS, hl, hst, hb⟩
  obtain ⟨t1, rfl, h1⟩ := mm_vs_i hst
  obtain ⟨t2, rfl, h2⟩ := mm_vs_j h1
  exact lv_lshr hG.1.1 hG.1.2.1 hd rfl (k hG ⟨h0, hw, hS, hl, ⟨_, _, rfl, rfl, h2⟩, hb⟩)
theorem mm_lushr {x : Int64} {y : Int32} (hd : decode M.2.1 pc = .ok (.lushr, 1)) (k : mm_V M d k0 post kc ks (pc + 1) L (.long ((x.toUInt64 >>> (y.toInt64.toUInt64 &&& Int64.toUInt64 63)).toInt64) :: r) w) : mm_V M d k0 post kc ks pc L (.int y :: .long x :: r) w := by
  intro p l e R s m args below meth c D cA A Q ρ0 mc ms hG ρ H locs ls st' cells slots ⟨h0, hw, hS, hl, hst, hb⟩
  obtain ⟨t1, rfl, h1⟩ := mm_vs_i hst
  obtain ⟨t2, rfl, h2⟩ := mm_vs_j h1
  exact lv_lushr hG.1.1 hG.1.2.1 hd rfl (k hG ⟨h0, hw, hS, hl, ⟨_, _, rfl, rfl, h2⟩, hb⟩)
theorem mm_ineg {x : Int32} (hd : decode M.2.1 pc = .ok (.ineg, 1)) (k : mm_V M d k0 post kc ks (pc + 1) L (.int (-x) :: r) w) : mm_V M d k0 post kc ks pc L (.int x :: r) w := by
  intro p l e R s m args below meth c D cA A Q ρ0 mc ms hG ρ H locs ls st' cells slots ⟨h0, hw, hS, hl, hst, hb⟩
  obtain ⟨t1, rfl, h1⟩ := mm_vs_i hst
  exact lv_ineg hG.1.1 hG.1.2.1 hd (k hG ⟨h0, hw, hS, hl, ⟨_, _, rfl, rfl, h1⟩, hb⟩)
theorem mm_i2b {x : Int32} (hd : decode M.2.1 pc = .ok (.i2b, 1)) (k : mm_V M d k0 post kc ks (pc + 1) L (.int x.toInt8.toInt32 :: r) w) : mm_V M d k0 post kc ks pc L (.int x :: r) w := by
  intro p l e R s m args below meth c D cA A Q ρ0 mc ms hG ρ H locs ls st' cells slots ⟨h0, hw, hS, hl, hst, hb⟩
  obtain ⟨t1, rfl, h1⟩ := mm_vs_i hst
  exact lv_i2b hG.1.1 hG.1.2.1 hd rfl (k hG ⟨h0, hw, hS, hl, ⟨_, _, rfl, rfl, h1⟩, hb⟩)
theorem mm_i2s {x : Int32} (hd : decode M.2.1 pc = .ok (.i2s, 1)) (k : mm_V M d k0 post kc ks (pc + 1) L (.int x.toInt16.toInt32 :: r) w) : mm_V M d k0 post kc ks pc L (.int x :: r) w := by
  intro p l e R s m args below meth c D cA A Q ρ0 mc ms hG ρ H locs ls st' cells slots ⟨h0, hw, hS, hl, hst, hb⟩
  obtain ⟨t1, rfl, h1⟩ := mm_vs_i hst
  exact lv_i2s hG.1.1 hG.1.2.1 hd rfl (k hG ⟨h0, hw, hS, hl, ⟨_, _, rfl, rfl, h1⟩, hb⟩)
theorem mm_i2c {x : Int32} (hd : decode M.2.1 pc = .ok (.i2c, 1)) (k : mm_V M d k0 post kc ks (pc + 1) L (.int (x.toUInt32 % 65536).toInt32 :: r) w) : mm_V M d k0 post kc ks pc L (.int x :: r) w := by
  intro p l e R s m args below meth c D cA A Q ρ0 mc ms hG ρ H locs ls st' cells slots ⟨h0, hw, hS, hl, hst, hb⟩
  obtain ⟨t1, rfl, h1⟩ := mm_vs_i hst
  exact lv_i2c hG.1.1 hG.1.2.1 hd rfl (k hG ⟨h0, hw, hS, hl, ⟨_, _, rfl, rfl, h1⟩, hb⟩)
theorem mm_i2l {x : Int32} (hd : decode M.2.1 pc = .ok (.i2l, 1)) (k : mm_V M d k0 post kc ks (pc + 1) L (.long x.toInt64 :: r) w) : mm_V M d k0 post kc ks pc L (.int x :: r) w := by
  intro p l e R s m args below meth c D cA A Q ρ0 mc ms hG ρ H locs ls st' cells slots ⟨h0, hw, hS, hl, hst, hb⟩
  obtain ⟨t1, rfl, h1⟩ := mm_vs_i hst
  exact lv_i2l hG.1.1 hG.1.2.1 hd rfl (k hG ⟨h0, hw, hS, hl, ⟨_, _, rfl, rfl, h1⟩, hb⟩)
theorem mm_l2i {x : Int64} (hd : decode M.2.1 pc = .ok (.l2i, 1)) (k : mm_V M d k0 post kc ks (pc + 1) L (.int x.toInt32 :: r) w) : mm_V M d k0 post kc ks pc L (.long x :: r) w := by
  intro p l e R s m args below meth c D cA A Q ρ0 mc ms hG ρ H locs ls st' cells slots ⟨h0, hw, hS, hl, hst, hb⟩
  obtain ⟨t1, rfl, h1⟩ := mm_vs_j hst
  exact lv_l2i hG.1.1 hG.1.2.1 hd rfl (k hG ⟨h0, hw, hS, hl, ⟨_, _, rfl, rfl, h1⟩, hb⟩)
theorem mm_lcmp {x y : Int64} (hd : decode M.2.1 pc = .ok (.lcmp, 1)) (k : mm_V M d k0 post kc ks (pc + 1) L (.int (lg_cmp x y) :: r) w) : mm_V M d k0 post kc ks pc L (.long y :: .long x :: r) w := by
  intro p l e R s m args below meth c D cA A Q ρ0 mc ms hG ρ H locs ls st' cells slots ⟨h0, hw, hS, hl, hst, hb⟩
  obtain ⟨t1, rfl, h1⟩ := mm_vs_j hst
  obtain ⟨t2, rfl, h2⟩ := mm_vs_j h1
  exact W.lcmp hG.1.1 hG.1.2.1 hd (k hG ⟨h0, hw, hS, hl, ⟨_, _, rfl, rfl, h2⟩, hb⟩)
theorem mm_dup {u : Value} (hd : decode M.2.1 pc = .ok (.dup, 1)) (hu : u.category = 1) (k : mm_V M d k0 post kc ks (pc + 1) L (u :: u :: r) w) : mm_V M d k0 post kc ks pc L (u :: r) w := by
  intro p l e R s m args below meth c D cA A Q ρ0 mc ms hG ρ H locs ls st' cells slots ⟨h0, hw, hS, hl, hst, hb⟩
  obtain ⟨v, t1, rfl, h1, h2⟩ := hst
  exact lv_dup hG.1.1 hG.1.2.1 hd (by rw [mm_v_cat h1]; exact hu) (k hG ⟨h0, hw, hS, hl, ⟨_, _, rfl, h1, _, _, rfl, h1, h2⟩, hb⟩)
theorem mm_pop {u : Value} (hd : decode M.2.1 pc = .ok (.pop, 1)) (hu : u.category = 1) (k : mm_V M d k0 post kc ks (pc + 1) L r w) : mm_V M d k0 post kc ks pc L (u :: r) w := by
  intro p l e R s m args below meth c D cA A Q ρ0 mc ms hG ρ H locs ls st' cells slots ⟨h0, hw, hS, hl, hst, hb⟩
  obtain ⟨v, t1, rfl, h1, h2⟩ := hst
  exact lv_pop hG.1.1 hG.1.2.1 hd (by rw [mm_v_cat h1]; exact hu) (k hG ⟨h0, hw, hS, hl, h2, hb⟩)
theorem mm_dup_x1 {u u2 : Value} (hd : decode M.2.1 pc = .ok (.dup_x1, 1)) (hu : u.category = 1) (hu2 : u2.category = 1) (k : mm_V M d k0 post kc ks (pc + 1) L (u :: u2 :: u :: r) w) : mm_V M d k0 post kc ks pc L (u :: u2 :: r) w := by
  intro p l e R s m args below meth c D cA A Q ρ0 mc ms hG ρ H locs ls st' cells slots ⟨h0, hw, hS, hl, hst, hb⟩
  obtain ⟨v, t1, rfl, h1, v2, t2, rfl, h2, h3⟩ := hst
  exact lv_dup_x1 hG.1.1 hG.1.2.1 hd (by rw [mm_v_cat h1]; exact hu) (by rw [mm_v_cat h2]; exact hu2) (k hG ⟨h0, hw, hS, hl, ⟨_, _, rfl, h1, _, _, rfl, h2, _, _, rfl, h1, h3⟩, hb⟩)
theorem mm_dup_x2 {u u2 u3 : Value} (hd : decode M.2.1 pc = .ok (.dup_x2, 1)) (hu : u.category = 1) (hu2 : u2.category = 1) (hu3 : u3.category = 1) (k : mm_V M d k0 post kc ks (pc + 1) L (u :: u2 :: u3 :: u :: r) w) : mm_V M d k0 post kc ks pc L (u :: u2 :: u3 :: r) w := by
  intro p l e R s m args below meth c D cA A Q ρ0 mc ms hG ρ H locs ls st' cells slots ⟨h0, hw, hS, hl, hst, hb⟩
  obtain ⟨v, t1, rfl, h1, v2, t2, rfl, h2, v3, t3, rfl, h3, h4⟩ := hst
  exact lv_dup_x2 hG.1.1 hG.1.2.1 hd (by rw [mm_v_cat h1]; exact hu) (by rw [mm_v_cat h2]; exact hu2) (by rw [mm_v_cat h3]; exact hu3) (k hG ⟨h0, hw, hS, hl, ⟨_, _, rfl, h1, _, _, rfl, h2, _, _, rfl, h3, _, _, rfl, h1, h4⟩, hb⟩)
theorem mm_dup2 {u u2 : Value} (hd : decode M.2.1 pc = .ok (.dup2, 1)) (hu : u.category = 1) (hu2 : u2.category = 1) (k : mm_V M d k0 post kc ks (pc + 1) L (u :: u2 :: u :: u2 :: r) w) : mm_V M d k0 post kc ks pc L (u :: u2 :: r) w := by
  intro p l e R s m args below meth c D cA A Q ρ0 mc ms hG ρ H locs ls st' cells slots ⟨h0, hw, hS, hl, hst, hb⟩
  obtain ⟨v, t1, rfl, h1, v2, t2, rfl, h2, h3⟩ := hst
  exact lv_dup2_11 hG.1.1 hG.1.2.1 hd (by rw [mm_v_cat h1]; exact hu) (by rw [mm_v_cat h2]; exact hu2) (k hG ⟨h0, hw, hS, hl, ⟨_, _, rfl, h1, _, _, rfl, h2, _, _, rfl, h1, _, _, rfl, h2, h3⟩, hb⟩)
theorem mm_goto {off : Int} {tgt : Nat} (hd : decode M.2.1 pc = .ok (.goto off, 3)) (ht : (pc : Int) + off = (tgt : Int)) (k : mm_V M d k0 post kc ks tgt L r w) : mm_V M d k0 post kc ks pc L r w := by
  intro p l e R s m args below meth c D cA A Q ρ0 mc ms hG ρ H locs ls st' cells slots ⟨h0, hw, hS, hl, hst, hb⟩
  exact lv_goto hG.1.1 hG.1.2.1 hd ht (k hG ⟨h0, hw, hS, hl, hst, hb⟩)
theorem mm_if_eq {x : Int32} {off : Int} (tgt : Nat) (hd : decode M.2.1 pc = .ok (.ifCond .eq off, 3)) (ht : (pc : Int) + off = (tgt : Int)) (kt : x = 0 → mm_V M d k0 post kc ks tgt L r w) (kf : ¬ x = 0 → mm_V M d k0 post kc ks (pc + 3) L r w) : mm_V M d k0 post kc ks pc L (.int x :: r) w := by
  intro p l e R s m args below meth c D cA A Q ρ0 mc ms hG ρ H locs ls st' cells slots ⟨h0, hw, hS, hl, hst, hb⟩
  obtain ⟨t1, rfl, h1⟩ := mm_vs_i hst
  exact lv_if_eq hG.1.1 hG.1.2.1 hd ht (fun q => kt q hG ⟨h0, hw, hS, hl, h1, hb⟩) (fun q => kf q hG ⟨h0, hw, hS, hl, h1, hb⟩)
theorem mm_icmp_eq {x y : Int32} {off : Int} (tgt : Nat) (hd : decode M.2.1 pc = .ok (.if_icmp .eq off, 3)) (ht : (pc : Int) + off = (tgt : Int)) (kt : x = y → mm_V M d k0 post kc ks tgt L r w) (kf : ¬ x = y → mm_V M d k0 post kc ks (pc + 3) L r w) : mm_V M d k0 post kc ks pc L (.int y :: .int x :: r) w := by
  intro p l e R s m args below meth c D cA A Q ρ0 mc ms hG ρ H locs ls st' cells slots ⟨h0, hw, hS, hl, hst, hb⟩
  obtain ⟨t1, rfl, h1⟩ := mm_vs_i hst
  obtain ⟨t2, rfl, h2⟩ := mm_vs_i h1
  exact lv_icmp_eq hG.1.1 hG.1.2.1 hd ht (fun q => kt q hG ⟨h0, hw, hS, hl, h2, hb⟩) (fun q => kf q hG ⟨h0, hw, hS, hl, h2, hb⟩)
theorem mm_if_ne {x : Int32} {off : Int} (tgt : Nat) (hd : decode M.2.1 pc = .ok (.ifCond .ne off, 3)) (ht : (pc : Int) + off = (tgt : Int)) (kt : ¬ x = 0 → mm_V M d k0 post kc ks tgt L r w) (kf : x = 0 → mm_V M d k0 post kc ks (pc + 3) L r w) : mm_V M d k0 post kc ks pc L (.int x :: r) w := by
  intro p l e R s m args below meth c D cA A Q ρ0 mc ms hG ρ H locs ls st' cells slots ⟨h0, hw, hS, hl, hst, hb⟩
  obtain ⟨t1, rfl, h1⟩ := mm_vs_i hst
  exact lv_if_ne hG.1.1 hG.1.2.1 hd ht (fun q => kt q hG ⟨h0, hw, hS, hl, h1, hb⟩) (fun q => kf q hG ⟨h0, hw, hS, hl, h1, hb⟩)
theorem mm_icmp_ne {x y : Int32} {off : Int} (tgt : Nat) (hd : decode M.2.1 pc = .ok (.if_icmp .ne off, 3)) (ht : (pc : Int) + off = (tgt : Int)) (kt : ¬ x = y → mm_V M d k0 post kc ks tgt L r w) (kf : x = y → mm_V M d k0 post kc ks (pc + 3) L r w) : mm_V M d k0 post kc ks pc L (.int y :: .int x :: r) w := by
  intro p l e R s m args below meth c D cA A Q ρ0 mc ms hG ρ H locs ls st' cells slots ⟨h0, hw, hS, hl, hst, hb⟩
  obtain ⟨t1, rfl, h1⟩ := mm_vs_i hst
  obtain ⟨t2, rfl, h2⟩ := mm_vs_i h1
  exact lv_icmp_ne hG.1.1 hG.1.2.1 hd ht (fun q => kt q hG ⟨h0, hw, hS, hl, h2, hb⟩) (fun q => kf q hG ⟨h0, hw, hS, hl, h2, hb⟩)
theorem mm_if_lt {x : Int32} {off : Int} (tgt : Nat) (hd : decode M.2.1 pc = .ok (.ifCond .lt off, 3)) (ht : (pc : Int) + off = (tgt : Int)) (kt : x < 0 → mm_V M d k0 post kc ks tgt L r w) (kf : ¬ x < 0 → mm_V M d k0 post kc ks (pc + 3) L r w) : mm_V M d k0 post kc ks pc L (.int x :: r) w := by
  intro p l e R s m args below meth c D cA A Q ρ0 mc ms hG ρ H locs ls st' cells slots ⟨h0, hw, hS, hl, hst, hb⟩
  obtain ⟨t1, rfl, h1⟩ := mm_vs_i hst
  exact lv_if_lt hG.1.1 hG.1.2.1 hd ht (fun q => kt q hG ⟨h0, hw, hS, hl, h1, hb⟩) (fun q => kf q hG ⟨h0, hw, hS, hl, h1, hb⟩)
theorem mm_icmp_lt {x y : Int32} {off : Int} (tgt : Nat) (hd : decode M.2.1 pc = .ok (.if_icmp .lt off, 3)) (ht : (pc : Int) + off = (tgt : Int)) (kt : x < y → mm_V M d k0 post kc ks tgt L r w) (kf : ¬ x < y → mm_V M d k0 post kc ks (pc + 3) L r w) : mm_V M d k0 post kc ks pc L (.int y :: .int x :: r) w := by
  intro p l e R s m args below meth c D cA A Q ρ0 mc ms hG ρ H locs ls st' cells slots ⟨h0, hw, hS, hl, hst, hb⟩
  obtain ⟨t1, rfl, h1⟩ := mm_vs_i hst
  obtain ⟨t2, rfl, h2⟩ := mm_vs_i h1
  exact lv_icmp_lt hG.1.1 hG.1.2.1 hd ht (fun q => kt q hG ⟨h0, hw, hS, hl, h2, hb⟩) (fun q => kf q hG ⟨h0, hw, hS, hl, h2, hb⟩)
theorem mm_if_ge {x : Int32} {off : Int} (tgt : Nat) (hd : decode M.2.1 pc = .ok (.ifCond .ge off, 3)) (ht : (pc : Int) + off = (tgt : Int)) (kt : 0 ≤ x → mm_V M d k0 post kc ks tgt L r w) (kf : ¬ 0 ≤ x → mm_V M d k0 post kc ks (pc + 3) L r w) : mm_V M d k0 post kc ks pc L (.int x :: r) w := by
  intro p l e R s m args below meth c D cA A Q ρ0 mc ms hG ρ H locs ls st' cells slots ⟨h0, hw, hS, hl, hst, hb⟩
  obtain ⟨t1, rfl, h1⟩ := mm_vs_i hst
  exact lv_if_ge hG.1.1 hG.1.2.1 hd ht (fun q => kt q hG ⟨h0, hw, hS, hl, h1, hb⟩) (fun q => kf q hG ⟨h0, hw, hS, hl, h1, hb⟩)
theorem mm_icmp_ge {x y : Int32} {off : Int} (tgt : Nat) (hd : decode M.2.1 pc = .ok (.if_icmp .ge off, 3)) (ht : (pc : Int) + off = (tgt : Int)) (kt : y ≤ x → mm_V M d k0 post kc ks tgt L r w) (kf : ¬ y ≤ x → mm_V M d k0 post kc ks (pc + 3) L r w) : mm_V M d k0 post kc ks pc L (.int y :: .int x :: r) w := by
  intro p l e R s m args below meth c D cA A Q ρ0 mc ms hG ρ H locs ls st' cells slots ⟨h0, hw, hS, hl, hst, hb⟩
  obtain ⟨t1, rfl, h1⟩ := mm_vs_i hst
  obtain ⟨t2, rfl, h2⟩ := mm_vs_i h1
  exact lv_icmp_ge hG.1.1 hG.1.2.1 hd ht (fun q => kt q hG ⟨h0, hw, hS, hl, h2, hb⟩) (fun q => kf q hG ⟨h0, hw, hS, hl, h2, hb⟩)
theorem mm_if_gt {x : Int32} {off : Int} (tgt : Nat) (hd : decode M.2.1 pc = .ok (.ifCond .gt off, 3)) (ht : (pc : Int) + off = (tgt : Int)) (kt : 0 < x → mm_V M d k0 post kc ks tgt L r w) (kf : ¬ 0 < x → mm_V M d k0 post kc ks (pc + 3) L r w) : mm_V M d k0 post kc ks pc L (.int x :: r) w := by
  intro p l e R s m args below meth c D cA A Q ρ0 mc ms hG ρ H locs ls st' cells slots ⟨h0, hw, hS, hl, hst, hb⟩
  obtain ⟨t1, rfl, h1⟩ := mm_vs_i hst
  exact lv_if_gt hG.1.1 hG.1.2.1 hd ht (fun q => kt q hG ⟨h0, hw, hS, hl, h1, hb⟩) (fun q => kf q hG ⟨h0, hw, hS, hl, h1, hb⟩)
theorem mm_icmp_gt {x y : Int32} {off : Int} (tgt : Nat) (hd : decode M.2.1 pc = .ok (.if_icmp .gt off, 3)) (ht : (pc : Int) + off = (tgt : Int)) (kt : y < x → mm_V M d k0 post kc ks tgt L r w) (kf : ¬ y < x → mm_V M d k0 post kc ks (pc + 3) L r w) : mm_V M d k0 post kc ks pc L (.int y :: .int x :: r) w := by
  intro p l e R s m args below meth c D cA A Q ρ0 mc ms hG ρ H locs ls st' cells slots ⟨h0, hw, hS, hl, hst, hb⟩
  obtain ⟨t1, rfl, h1⟩ := mm_vs_i hst
  obtain ⟨t2, rfl, h2⟩ := mm_vs_i h1
  exact lv_icmp_gt hG.1.1 hG.1.2.1 hd ht (fun q => kt q hG ⟨h0, hw, hS, hl, h2, hb⟩) (fun q => kf q hG ⟨h0, hw, hS, hl, h2, hb⟩)
theorem mm_if_le {x : Int32} {off : Int} (tgt : Nat) (hd : decode M.2.1 pc = .ok (.ifCond .le off, 3)) (ht : (pc : Int) + off = (tgt : Int)) (kt : x ≤ 0 → mm_V M d k0 post kc ks tgt L r w) (kf : ¬ x ≤ 0 → mm_V M d k0 post kc ks (pc + 3) L r w) : mm_V M d k0 post kc ks pc L (.int x :: r) w := by
  intro p l e R s m args below meth c D cA A Q ρ0 mc ms hG ρ H locs ls st' cells slots ⟨h0, hw, hS, hl, hst, hb⟩
  obtain ⟨t1, rfl, h1⟩ := mm_vs_i hst
  exact lv_if_le hG.1.1 hG.1.2.1 hd ht (fun q => kt q hG ⟨h0, hw, hS, hl, h1, hb⟩) (fun q => kf q hG ⟨h0, hw, hS, hl, h1, hb⟩)
theorem mm_icmp_le {x y : Int32} {off : Int} (tgt : Nat) (hd : decode M.2.1 pc = .ok (.if_icmp .le off, 3)) (ht : (pc : Int) + off = (tgt : Int)) (kt : x ≤ y → mm_V M d k0 post kc ks tgt L r w) (kf : ¬ x ≤ y → mm_V M d k0 post kc ks (pc + 3) L r w) : mm_V M d k0 post kc ks pc L (.int y :: .int x :: r) w := by
  intro p l e R s m args below meth c D cA A Q ρ0 mc ms hG ρ H locs ls st' cells slots ⟨h0, hw, hS, hl, hst, hb⟩
  obtain ⟨t1, rfl, h1⟩ := mm_vs_i hst
  obtain ⟨t2, rfl, h2⟩ := mm_vs_i h1
  exact lv_icmp_le hG.1.1 hG.1.2.1 hd ht (fun q => kt q hG ⟨h0, hw, hS, hl, h2, hb⟩) (fun q => kf q hG ⟨h0, hw, hS, hl, h2, hb⟩)
theorem mm_ifnull {off : Int} {a : Nat} (hd : decode M.2.1 pc = .ok (.ifnull off, 3)) (k : mm_V M d k0 post kc ks (pc + 3) L r w) : mm_V M d k0 post kc ks pc L (.ref a :: r) w := by
  intro p l e R s m args below meth c D cA A Q ρ0 mc ms hG ρ H locs ls st' cells slots ⟨h0, hw, hS, hl, hst, hb⟩
  obtain ⟨b, t1, rfl, hb1, h1⟩ := mm_vs_r hst
  exact lv_ifnull hG.1.1 hG.1.2.1 hd (k hG ⟨h0, hw, hS, hl, h1, hb⟩)
theorem mm_ifnonnull {off : Int} {a : Nat} (tgt : Nat) (hd : decode M.2.1 pc = .ok (.ifnonnull off, 3)) (ht : (pc : Int) + off = (tgt : Int)) (k : mm_V M d k0 post kc ks tgt L r w) : mm_V M d k0 post kc ks pc L (.ref a :: r) w := by
  intro p l e R s m args below meth c D cA A Q ρ0 mc ms hG ρ H locs ls st' cells slots ⟨h0, hw, hS, hl, hst, hb⟩
  obtain ⟨b, t1, rfl, hb1, h1⟩ := mm_vs_r hst
  exact lv_ifnonnull hG.1.1 hG.1.2.1 hd ht (k hG ⟨h0, hw, hS, hl, h1, hb⟩)
theorem mm_ifnullN {off : Int} (tgt : Nat) (hd : decode M.2.1 pc = .ok (.ifnull off, 3)) (ht : (pc : Int) + off = (tgt : Int)) (k : mm_V M d k0 post kc ks tgt L r w) : mm_V M d k0 post kc ks pc L (.null :: r) w := by
  intro p l e R s m args below meth c D cA A Q ρ0 mc ms hG ρ H locs ls st' cells slots ⟨h0, hw, hS, hl, hst, hb⟩
  obtain ⟨t1, rfl, h1⟩ := mm_vs_n hst
  exact lv_ifnullN hG.1.1 hG.1.2.1 hd ht (k hG ⟨h0, hw, hS, hl, h1, hb⟩)
theorem mm_ifnonnullN {off : Int} (hd : decode M.2.1 pc = .ok (.ifnonnull off, 3)) (k : mm_V M d k0 post kc ks (pc + 3) L r w) : mm_V M d k0 post kc ks pc L (.null :: r) w := by
  intro p l e R s m args below meth c D cA A Q ρ0 mc ms hG ρ H locs ls st' cells slots ⟨h0, hw, hS, hl, hst, hb⟩
  obtain ⟨t1, rfl, h1⟩ := mm_vs_n hst
  exact lv_ifnonnullN hG.1.1 hG.1.2.1 hd (k hG ⟨h0, hw, hS, hl, h1, hb⟩)
/-- a switch as a row of questions -/
def mm_Sel (P : Nat → Prop) (x : Int32) : List (Int32 × Nat) → Nat → Prop
  | [], t => P t
  | (c, t) :: cs, d => (x = c → P t) ∧ (¬ x = c → mm_Sel P x cs d)
theorem mm_Sel_off {P : Nat → Prop} {x : Int32} {pc : Nat} {dflt : Int} {dt : Nat} (hdt : (pc : Int) + dflt = (dt : Int)) : ∀ {cs : List (Int32 × Nat)} {ps : List (Int × Int)}, ps = cs.map (fun q => (q.1.toInt, (q.2 : Int) - (pc : Int))) → mm_Sel P x cs dt → ∃ tgt : Nat, (pc : Int) + Op.lookupswitch.offset ps dflt x.toInt = (tgt : Int) ∧ P tgt
  | [], ps, h, hs => by rw [h]; exact ⟨dt, hdt, hs⟩
  | (c, t) :: cs, ps, h, hs => by
    rw [h, List.map_cons]
    by_cases hx : x = c
    · refine ⟨t, ?_, hs.1 hx⟩
      have e : Op.lookupswitch.offset ((c.toInt, (t : Int) - (pc : Int)) :: cs.map (fun q => (q.1.toInt, (q.2 : Int) - (pc : Int)))) dflt x.toInt = (t : Int) - (pc : Int) := by
        rw [hx]; simp [Op.lookupswitch.offset]
      rw [e]; omega
    · obtain ⟨tgt, h1, h2⟩ := mm_Sel_off hdt rfl (hs.2 hx)
      exact ⟨tgt, by rw [lv_osw hx rfl]; exact h1, h2⟩
theorem mm_lookup {dflt : Int} {ps : Array (Int × Int)} {len : Nat} {x : Int32} (cs : List (Int32 × Nat)) (dt : Nat) (hd : decode M.2.1 pc = .ok (.lookupswitch dflt ps, len)) (hp : (ps.toList.zip (ps.toList.drop 1)).all (fun (a, next) => a.1 < next.1) = true) (hc : ps.toList = cs.map (fun q => (q.1.toInt, (q.2 : Int) - (pc : Int)))) (hdt : (pc : Int) + dflt = (dt : Int)) (k : mm_Sel (fun t => mm_V M d k0 post kc ks t L r w) x cs dt) : mm_V M d k0 post kc ks pc L (.int x :: r) w := by
  intro p l e R s m args below meth c D cA A Q ρ0 mc ms hG ρ H locs ls st' cells slots ⟨h0, hw, hS, hl, hst, hb⟩
  obtain ⟨t1, rfl, h1⟩ := mm_vs_i hst
  obtain ⟨tgt, e1, hk⟩ := mm_Sel_off hdt hc k
  exact lv_lookup hG.1.1 hG.1.2.1 hd hp rfl e1 (hk hG ⟨h0, hw, hS, hl, h1, hb⟩)
theorem mm_Sel_tab {P : Nat → Prop} {x : Int32} {lo : Int} {dt : Nat} : ∀ {cs : List (Int32 × Nat)} (i : Nat), (∀ (j : Nat) (q : Int32 × Nat), cs[j]? = some q → q.1.toInt = lo + ((i + j : Nat) : Int)) → mm_Sel P x cs dt → (∃ (j : Nat) (q : Int32 × Nat), cs[j]? = some q ∧ x.toInt = lo + ((i + j : Nat) : Int) ∧ P q.2) ∨ ((∀ (j : Nat) (q : Int32 × Nat), cs[j]? = some q → ¬ x = q.1) ∧ P dt)
  | [], i, _, hs => Or.inr ⟨fun j q hj => by simp at hj, hs⟩
  | (c, t) :: cs, i, h, hs => by
    by_cases hx : x = c
    · refine Or.inl ⟨0, (c, t), rfl, ?_, hs.1 hx⟩
      rw [hx]
      exact h 0 (c, t) rfl
    · rcases mm_Sel_tab (i + 1) (fun j q hj => by
        have := h (j + 1) q (by rw [List.getElem?_cons_succ]; exact hj)
        rw [this]
        congr 1
        omega) (hs.2 hx) with ⟨j, q, h1, h2, h3⟩ | ⟨h1, h2⟩
      · exact Or.inl ⟨j + 1, q, by rw [List.getElem?_cons_succ]; exact h1, by rw [h2]; congr 1; omega, h3⟩
      · refine Or.inr ⟨fun j q hj => ?_, h2⟩
        match j, hj with
        | 0, hj => cases hj; exact hx
        | j + 1, hj => exact h1 j q (by rw [List.getElem?_cons_succ] at hj; exact hj)
theorem mm_table {dflt lo hi : Int} {offs : Array Int} {len : Nat} {x : Int32} (cs : List (Int32 × Nat)) (dt : Nat) (hd : decode M.2.1 pc = .ok (.tableswitch dflt lo hi offs, len)) (hlo : lo + cs.length = hi + 1) (hc : offs.toList = cs.map (fun q => (q.2 : Int) - (pc : Int))) (hv : cs.map (fun q => q.1.toInt) = (List.range cs.length).map (fun (j : Nat) => lo + (j : Int))) (hdt : (pc : Int) + dflt = (dt : Int)) (k : mm_Sel (fun t => mm_V M d k0 post kc ks t L r w) x cs dt) : mm_V M d k0 post kc ks pc L (.int x :: r) w := by
  intro p l e R s m args below meth c D cA A Q ρ0 mc ms hG ρ H locs ls st' cells slots ⟨h0, hw, hS, hl, hst, hb⟩
  obtain ⟨t1, rfl, h1⟩ := mm_vs_i hst
  have hcs : ∀ (j : Nat) (q : Int32 × Nat), cs[j]? = some q → q.1.toInt = lo + ((0 + j : Nat) : Int) := by
    intro j q hj
    have e1 : (cs.map (fun q => q.1.toInt))[j]? = some q.1.toInt := by rw [List.getElem?_map, hj]; rfl
    have hlt : j < cs.length := (List.getElem?_eq_some_iff.mp hj).1
    rw [hv, List.getElem?_map, List.getElem?_range hlt] at e1
    rw [Nat.zero_add]
    exact (Option.some.inj e1).symm
  rcases mm_Sel_tab 0 hcs k with ⟨j, q, e1, e2, hk⟩ | ⟨e1, hk⟩
  · have hlt : j < cs.length := (List.getElem?_eq_some_iff.mp e1).1
    rw [Nat.zero_add] at e2
    have e3 : offs[(x.toInt - lo).toNat]? = some ((q.2 : Int) - (pc : Int)) := by
      rw [show (x.toInt - lo).toNat = j by omega, ← Array.getElem?_toList, hc, List.getElem?_map, e1]; rfl
    exact lv_tableIn hG.1.1 hG.1.2.1 hd (by omega) (by omega) e3 (tgt := q.2) (by omega) (hk hG ⟨h0, hw, hS, hl, h1, hb⟩)
  · refine lv_tableOut hG.1.1 hG.1.2.1 hd ?_ hdt (hk hG ⟨h0, hw, hS, hl, h1, hb⟩)
    rcases Int.lt_or_le x.toInt lo with q1 | q1
    · exact Or.inl q1
    · rcases Int.lt_or_le hi x.toInt with q2 | q2
      · exact Or.inr q2
      · exfalso
        have hlt : (x.toInt - lo).toNat < cs.length := by omega
        obtain ⟨q, hq⟩ : ∃ q, cs[(x.toInt - lo).toNat]? = some q := ⟨_, List.getElem?_eq_getElem hlt⟩
        refine e1 _ q hq (Int32.toInt_inj.mp ?_)
        rw [hcs _ q hq]
        omega
def mm_fl (own : String) (idx ci k : Nat) : Prop := ∃ (C : String) (T : u_T) (N : Nat), mmCl[ci]? = some (C, T, N) ∧ k < N ∧ (Cond.fieldLink own idx (T k).1 (T k).2.1 (T k).2.2.1 ∈ mm_T ∨ ∃ host, Cond.fieldLinkNest own idx (T k).1 (T k).2.1 (T k).2.2.1 host ∈ mm_N)
theorem mm_Cin {ci : Nat} {C : String} {T : u_T} {N : Nat} (h : mmCl[ci]? = some (C, T, N)) : ∀ w ∈ u_ws C T N, w ∈ mm_T := mm_in (C, T, N) (List.mem_of_getElem? h)
theorem mm_getf {idx a : Nat} {fs : List Value} {u : Value} (ci j : Nat) (hd : decode M.2.1 pc = .ok (.getfield idx, 3)) (hf : mm_fl M.1 idx ci j) (ha : w[a]? = some (.inr (ci, fs))) (hu : fs[j]? = some u) (k : mm_V M d k0 post kc ks (pc + 3) L (u :: r) w) : mm_V M d k0 post kc ks pc L (.ref a :: r) w := by
  intro p l e R s m args below meth c D cA A Q ρ0 mc ms hG ρ H locs ls st' cells slots ⟨h0, hw, hS, hl, hst, hb⟩
  obtain ⟨b, t1, rfl, hb1, h1⟩ := mm_vs_r hst
  obtain ⟨ws, hws, hP, hD⟩ := hw
  obtain ⟨y, hy1, fs', hy2, hy3⟩ := mm_w_get hws ha hb1
  subst hy2
  obtain ⟨v, hv1, hv2⟩ := mm_vs_get hy3 hu
  obtain ⟨C, T, N, hc, hk, hlk⟩ := hf
  have hts := hG.1.2.2.2.2.1
  have kk := k hG ⟨h0, ⟨ws, hws, hP, hD⟩, hS, hl, ⟨_, _, rfl, hv2, h1⟩, hb⟩
  rcases hlk with hlk | ⟨host, hlk⟩
  · exact va_get hG.1.1 hG.1.2.1 hts (mm_Cin hc) hG.1.2.2.2.1 hG.1.2.2.2.2.2.2.1 hP a hy1 hc j hk (hts _ hlk) (fun _ q => q) hv1 hd kk
  · exact va_getN hG.1.1 hG.1.2.1 hts (mm_Cin hc) hG.1.2.2.2.1 hG.1.2.2.2.2.2.2.1 hP a hy1 hc j hk ((hG.1.2.2.2.2.2.1 _ hlk).use rfl) (fun _ q => q) hv1 hd kk
/-- what a field of this type may be given -/
def mm_fit (ty : FieldType) (u : Value) : Prop := match ty, u with
  | .int, .int _ => True
  | .boolean, .int x => x = 0 ∨ x = 1
  | .long, .long _ => True
  | .object _, .ref _ => True
  | .object _, .null => True
  | .array _, .ref _ => True
  | .array _, .null => True
  | _, _ => False
theorem mm_fit_spec {ρ : List Nat} {ty : FieldType} {u v : Value} (h : mm_fit ty u) (hv : mm_v ρ u v) : narrow ty v = v ∧ fits ty v = true := by
  unfold mm_fit at h
  split at h
  · rw [show v = _ from hv]; exact ⟨rfl, rfl⟩
  · rw [show v = _ from hv]
    rcases h with rfl | rfl
    · exact ⟨by decide, by decide⟩
    · exact ⟨by decide, by decide⟩
  · rw [show v = _ from hv]; exact ⟨rfl, rfl⟩
  · obtain ⟨b, -, e⟩ := hv; rw [e]; exact ⟨rfl, rfl⟩
  · rw [show v = _ from hv]; exact ⟨rfl, rfl⟩
  · obtain ⟨b, -, e⟩ := hv; rw [e]; exact ⟨rfl, rfl⟩
  · rw [show v = _ from hv]; exact ⟨rfl, rfl⟩
  · exact h.elim
def mm_ty (q : vw_C) (k : Nat) : FieldType := (parseFieldDescriptor (q.2.1 k).2.2.1).getD .int
theorem mm_tyok : ∀ q ∈ mmCl, ∀ k, k < q.2.2 → parseFieldDescriptor (q.2.1 k).2.2.1 = some (mm_ty q k) := by decide +kernel
theorem mm_nmok : ∀ q ∈ mmCl, ∀ a, a < q.2.2 → ∀ b, b < q.2.2 → a ≠ b → (q.2.1 a).2.1 ≠ (q.2.1 b).2.1 := by decide +kernel
/-- may the field be written here -/
def mm_fp (M : mm_M) (idx ci k : Nat) : Prop := ∃ (C : String) (T : u_T) (N : Nat), mmCl[ci]? = some (C, T, N) ∧ ((T k).2.2.2 = false ∨ ((M.2.2.2.1 = true ∧ (T k).1 = M.1) ∧ Cond.fieldLink M.1 idx (T k).1 (T k).2.1 (T k).2.2.1 ∈ mm_T))
def mm_ft (ci k : Nat) (ty : FieldType) : Prop := ∃ (C : String) (T : u_T) (N : Nat), mmCl[ci]? = some (C, T, N) ∧ parseFieldDescriptor (T k).2.2.1 = some ty
theorem mm_putf {idx a : Nat} {fs : List Value} {u : Value} (ci j : Nat) (ty : FieldType) (hd : decode M.2.1 pc = .ok (.putfield idx, 3)) (hf : mm_fl M.1 idx ci j) (hp : mm_fp M idx ci j) (ht : mm_ft ci j ty) (ha : w[a]? = some (.inr (ci, fs))) (hj : j < fs.length) (hu : mm_fit ty u) (k : mm_V M d k0 post kc ks (pc + 3) L r (w.set a (.inr (ci, fs.set j u)))) : mm_V M d k0 post kc ks pc L (u :: .ref a :: r) w := by
  intro p l e R s m args below meth c D cA A Q ρ0 mc ms hG ρ H locs ls st' cells slots ⟨h0, hw, hS, hl, hst, hb⟩
  obtain ⟨v, t0, rfl, hv, hst⟩ := hst
  obtain ⟨b, t1, rfl, hb1, h1⟩ := mm_vs_r hst
  obtain ⟨ws, hws, hP, hD⟩ := hw
  obtain ⟨y, hy1, fs', hy2, hy3⟩ := mm_w_get hws ha hb1
  subst hy2
  obtain ⟨C, T, N, hc, hk, hlk⟩ := hf
  have hts := hG.1.2.2.2.2.1
  obtain ⟨hn, hfit⟩ := mm_fit_spec hu hv
  have hlen : j < fs'.length := by rw [mm_vs_len hy3]; exact hj
  have hmem := List.mem_of_getElem? hc
  have hty : parseFieldDescriptor (T j).2.2.1 = some ty := by
    obtain ⟨C2, T2, N2, hc2, ht⟩ := ht
    rw [hc] at hc2
    cases hc2
    exact ht
  have kk : ∀ (H1 : Heap) (locs1 : List Loc), va_P D mmCl (ws.set a (b, .inr (ci, fs'.set j v))) H1 → va_D A (ws.set a (b, .inr (ci, fs'.set j v))) → va_S A s.heap H1 locs1 → W p l e R s m args below meth c H1 locs1 cells slots Q (F0 m (pc + 3) ls t1) := fun H1 locs1 q1 q2 q3 =>
    k hG ⟨h0, ⟨_, mm_w_set hws hb1 ⟨_, rfl, mm_vs_set hv hy3 j⟩, q1, q2⟩, q3, hl, h1, hb⟩
  by_cases hfin : (T j).2.2.2 = false
  · rcases hlk with hlk | ⟨host, hlk⟩
    · exact va_put hG.1.1 hG.1.2.1 hts (mm_Cin hc) (mm_ty (C, T, N)) (mm_tyok (C, T, N) hmem) (mm_nmok (C, T, N) hmem) hG.1.2.2.2.1 hG.1.2.2.2.2.2.2.1 hP hD hS a hy1 hc j hk (hts _ hlk) (fun _ q => q) hfin hty hn hfit hlen hd kk
    · exact va_putN hG.1.1 hG.1.2.1 hts (mm_Cin hc) (mm_ty (C, T, N)) (mm_tyok (C, T, N) hmem) (mm_nmok (C, T, N) hmem) hG.1.2.2.2.1 hG.1.2.2.2.2.2.2.1 hP hD hS a hy1 hc j hk ((hG.1.2.2.2.2.2.1 _ hlk).use rfl) (fun _ q => q) hfin hty hn hfit hlen hd kk
  · have hp2 : (M.2.2.2.1 = true ∧ (T j).1 = M.1) ∧ Cond.fieldLink M.1 idx (T j).1 (T j).2.1 (T j).2.2.1 ∈ mm_T := by
      obtain ⟨C2, T2, N2, hc2, hp⟩ := hp
      rw [hc] at hc2
      cases hc2
      exact hp.resolve_left hfin
    exact va_putF hG.1.1 hG.1.2.1 hts (mm_Cin hc) (mm_ty (C, T, N)) (mm_tyok (C, T, N) hmem) (mm_nmok (C, T, N) hmem) hG.1.2.2.2.1 hG.1.2.2.2.2.2.2.1 hP hD hS a hy1 hc j hk (hts _ hp2.2) (fun _ q => q) (by simpa using hfin) (hG.1.2.2.2.2.2.2.2.2.2 hp2.1.1) hp2.1.2 hty hn hfit hlen hd kk
theorem mm_iald {a n : Nat} {f : Nat → Int32} {i : Int32} (hd : decode M.2.1 pc = .ok (.iaload, 1)) (ha : w[a]? = some (.inl (.int, (n, .inl f)))) (hin : vp_in i n) (k : mm_V M d k0 post kc ks (pc + 1) L (.int (f i.toNatClampNeg) :: r) w) : mm_V M d k0 post kc ks pc L (.int i :: .ref a :: r) w := by
  intro p l e R s m args below meth c D cA A Q ρ0 mc ms hG ρ H locs ls st' cells slots ⟨h0, hw, hS, hl, hst, hb⟩
  obtain ⟨t0, rfl, h8⟩ := mm_vs_i hst
  obtain ⟨b, t1, rfl, hb1, h1⟩ := mm_vs_r h8
  obtain ⟨ws, hws, hP, hD⟩ := hw
  obtain ⟨y, hy1, hy2⟩ := mm_w_get hws ha hb1
  have hy2 : y = .inl (cA .int, (n, .inl f)) := hy2
  subst hy2
  exact va_iald hG.1.1 hG.1.2.1 hG.1.2.2.2.2.2.2.1 hP a 0 hy1 rfl hin hd (k hG ⟨h0, ⟨ws, hws, hP, hD⟩, hS, hl, ⟨_, _, rfl, rfl, h1⟩, hb⟩)
theorem mm_lald {a n : Nat} {f : Nat → Int64} {i : Int32} (hd : decode M.2.1 pc = .ok (.laload, 1)) (ha : w[a]? = some (.inl (.long, (n, .inr (.inl f))))) (hin : vp_in i n) (k : mm_V M d k0 post kc ks (pc + 1) L (.long (f i.toNatClampNeg) :: r) w) : mm_V M d k0 post kc ks pc L (.int i :: .ref a :: r) w := by
  intro p l e R s m args below meth c D cA A Q ρ0 mc ms hG ρ H locs ls st' cells slots ⟨h0, hw, hS, hl, hst, hb⟩
  obtain ⟨t0, rfl, h8⟩ := mm_vs_i hst
  obtain ⟨b, t1, rfl, hb1, h1⟩ := mm_vs_r h8
  obtain ⟨ws, hws, hP, hD⟩ := hw
  obtain ⟨y, hy1, hy2⟩ := mm_w_get hws ha hb1
  have hy2 : y = .inl (cA .long, (n, .inr (.inl f))) := hy2
  subst hy2
  exact va_lald hG.1.1 hG.1.2.1 hG.1.2.2.2.2.2.2.1 hP a 1 hy1 rfl hin hd (k hG ⟨h0, ⟨ws, hws, hP, hD⟩, hS, hl, ⟨_, _, rfl, rfl, h1⟩, hb⟩)
theorem mm_iast {a n : Nat} {f : Nat → Int32} {i : Int32} {x : Int32} (hd : decode M.2.1 pc = .ok (.iastore, 1)) (ha : w[a]? = some (.inl (.int, (n, .inl (f))))) (hin : vp_in i n) (k : mm_V M d k0 post kc ks (pc + 1) L r (w.set a (.inl (.int, (n, .inl (upd f i.toNatClampNeg x)))))) : mm_V M d k0 post kc ks pc L (.int x :: .int i :: .ref a :: r) w := by
  intro p l e R s m args below meth c D cA A Q ρ0 mc ms hG ρ H locs ls st' cells slots ⟨h0, hw, hS, hl, hst, hb⟩
  obtain ⟨t9, rfl, h7⟩ := mm_vs_i hst
  obtain ⟨t0, rfl, h8⟩ := mm_vs_i h7
  obtain ⟨b, t1, rfl, hb1, h1⟩ := mm_vs_r h8
  obtain ⟨ws, hws, hP, hD⟩ := hw
  obtain ⟨y, hy1, hy2⟩ := mm_w_get hws ha hb1
  have hy2 : y = .inl (cA .int, (n, .inl (f))) := hy2
  subst hy2
  exact va_iast hG.1.1 hG.1.2.1 hG.1.2.2.2.2.2.2.1 hP hD hS a 0 hy1 rfl hin hd (fun H1 locs1 q1 q2 q3 => k hG ⟨h0, ⟨_, mm_w_set hws hb1 rfl, q1, q2⟩, q3, hl, h1, hb⟩)
theorem mm_last {a n : Nat} {f : Nat → Int64} {i : Int32} {x : Int64} (hd : decode M.2.1 pc = .ok (.lastore, 1)) (ha : w[a]? = some (.inl (.long, (n, .inr (.inl (f)))))) (hin : vp_in i n) (k : mm_V M d k0 post kc ks (pc + 1) L r (w.set a (.inl (.long, (n, .inr (.inl (vp_updL f i.toNatClampNeg x))))))) : mm_V M d k0 post kc ks pc L (.long x :: .int i :: .ref a :: r) w := by
  intro p l e R s m args below meth c D cA A Q ρ0 mc ms hG ρ H locs ls st' cells slots ⟨h0, hw, hS, hl, hst, hb⟩
  obtain ⟨t9, rfl, h7⟩ := mm_vs_j hst
  obtain ⟨t0, rfl, h8⟩ := mm_vs_i h7
  obtain ⟨b, t1, rfl, hb1, h1⟩ := mm_vs_r h8
  obtain ⟨ws, hws, hP, hD⟩ := hw
  obtain ⟨y, hy1, hy2⟩ := mm_w_get hws ha hb1
  have hy2 : y = .inl (cA .long, (n, .inr (.inl (f)))) := hy2
  subst hy2
  exact va_last hG.1.1 hG.1.2.1 hG.1.2.2.2.2.2.2.1 hP hD hS a 1 hy1 rfl hin hd (fun H1 locs1 q1 q2 q3 => k hG ⟨h0, ⟨_, mm_w_set hws hb1 rfl, q1, q2⟩, q3, hl, h1, hb⟩)
theorem mm_alen0 {a : Nat} {x : vp_A} {v : Int32} (hd : decode M.2.1 pc = .ok (.arraylength, 1)) (ha : w[a]? = some (.inl (.int, x))) (hv : Int32.ofNat x.1 = v) (k : mm_V M d k0 post kc ks (pc + 1) L (.int v :: r) w) : mm_V M d k0 post kc ks pc L (.ref a :: r) w := by
  intro p l e R s m args below meth c D cA A Q ρ0 mc ms hG ρ H locs ls st' cells slots ⟨h0, hw, hS, hl, hst, hb⟩
  obtain ⟨b, t1, rfl, hb1, h1⟩ := mm_vs_r hst
  obtain ⟨ws, hws, hP, hD⟩ := hw
  obtain ⟨y, hy1, hy2⟩ := mm_w_get hws ha hb1
  have hy2 : y = .inl (cA .int, x) := hy2
  subst hy2
  exact va_alen hG.1.1 hG.1.2.1 hG.1.2.2.2.2.2.2.1 hP a 0 hy1 rfl hv hd (k hG ⟨h0, ⟨ws, hws, hP, hD⟩, hS, hl, ⟨_, _, rfl, rfl, h1⟩, hb⟩)
theorem mm_alen1 {a : Nat} {x : vp_A} {v : Int32} (hd : decode M.2.1 pc = .ok (.arraylength, 1)) (ha : w[a]? = some (.inl (.long, x))) (hv : Int32.ofNat x.1 = v) (k : mm_V M d k0 post kc ks (pc + 1) L (.int v :: r) w) : mm_V M d k0 post kc ks pc L (.ref a :: r) w := by
  intro p l e R s m args below meth c D cA A Q ρ0 mc ms hG ρ H locs ls st' cells slots ⟨h0, hw, hS, hl, hst, hb⟩
  obtain ⟨b, t1, rfl, hb1, h1⟩ := mm_vs_r hst
  obtain ⟨ws, hws, hP, hD⟩ := hw
  obtain ⟨y, hy1, hy2⟩ := mm_w_get hws ha hb1
  have hy2 : y = .inl (cA .long, x) := hy2
  subst hy2
  exact va_alen hG.1.1 hG.1.2.1 hG.1.2.2.2.2.2.2.1 hP a 1 hy1 rfl hv hd (k hG ⟨h0, ⟨ws, hws, hP, hD⟩, hS, hl, ⟨_, _, rfl, rfl, h1⟩, hb⟩)
def mm_nr (v : Value) : Bool := match v with
  | .ref _ => false
  | _ => true
theorem mm_vs_nr {ρ : List Nat} : ∀ {fs : List Value}, fs.all mm_nr = true → mm_vs ρ fs fs
  | [], _ => rfl
  | u :: us, h => by
    simp only [List.all_cons, Bool.and_eq_true] at h
    refine ⟨u, us, rfl, ?_, mm_vs_nr h.2⟩
    cases u with
    | ref a => simp [mm_nr] at h
    | _ => exact rfl
def mm_nw (own : String) (idx ci : Nat) (fs : List Value) (N : Nat) : Prop := ∃ (C : String) (T : u_T), mmCl[ci]? = some (C, T, N) ∧ Cond.classLink own idx C ∈ mm_T ∧ Cond.instantiable C N ∈ mm_T ∧ Cond.initialized C ∈ mm_T ∧ fs.all mm_nr = true ∧ (List.range N).all (fun j => decide (defaultValue (mm_ty (C, T, N) j) = vp_V fs j)) = true
theorem mm_ext {ρ : List Nat} {k0 q : Nat} {ρ0 : List Nat} (hk : k0 ≤ ρ0.length) (h : ∀ a, a < k0 → ρ[a]? = ρ0[a]?) : ∀ a, a < k0 → (ρ ++ [q])[a]? = ρ0[a]? := fun a ha => by
  have h1 := h a ha
  rw [List.getElem?_eq_getElem (by omega : a < ρ0.length)] at h1
  rw [List.getElem?_append_left (List.getElem?_eq_some_iff.mp h1).1]
  exact h a ha
theorem mm_newo {idx N : Nat} (ci : Nat) (fs : List Value) (hd : decode M.2.1 pc = .ok (.new idx, 3)) (hf : mm_nw M.1 idx ci fs N) (k : mm_V M d k0 post kc ks (pc + 3) L (.ref w.length :: r) (w ++ [.inr (ci, fs)])) : mm_V M d k0 post (kc + 1) (ks + N) pc L r w := by
  intro p l e R s m args below meth c D cA A Q ρ0 mc ms hG ρ H locs ls st' cells slots ⟨h0, hw, hS, hl, hst, hb⟩
  obtain ⟨ws, hws, hP, hD⟩ := hw
  obtain ⟨C, T, hc, f1, f2, f3, f4, f5⟩ := hf
  have hts := hG.1.2.2.2.2.1
  have hmem := List.mem_of_getElem? hc
  have hR := hG.2.1
  refine va_new hG.1.1 hG.1.2.1 hts (mm_Cin hc) (mm_ty (C, T, N)) (mm_tyok (C, T, N) hmem) hG.1.2.2.2.1 (hts _ f1) (hts _ f2) (hts _ f3) hG.1.2.2.2.2.2.2.1 hP hD hS hG.1.2.2.2.2.2.2.2.2.1 hc (fun j hj => of_decide_eq_true (List.all_eq_true.mp f5 j (List.mem_range.mpr hj))) (by omega) (by omega) hd (fun q H1 q1 q2 q3 => ?_)
  have hm : ∀ a, a < ρ.length → (ρ ++ [q])[a]? = ρ[a]? := fun a ha => List.getElem?_append_left ha
  exact k hG ⟨mm_ext hG.2.2.1 h0, ⟨_, mm_w_push hws ⟨fs, rfl, mm_vs_nr f4⟩, q1, q2⟩, q3, mm_l_mono hm hl, ⟨_, _, rfl, ⟨q, by rw [← hws.1]; simp, rfl⟩, mm_vs_mono hm hst⟩, by omega, by omega⟩
theorem mm_newi {n : Int32} (N : Nat) (hd : decode M.2.1 pc = .ok (.newarray .int, 2)) (hw0 : Cond.arrayClass .int ∈ mm_T) (hn : ¬ n < 0) (hN : n.toNatClampNeg = N) (hb8 : N * componentBytes .int ≤ 536870912) (k : mm_V M d k0 post kc ks (pc + 2) L (.ref w.length :: r) (w ++ [.inl (.int, (N, .inl (fun _ => 0)))])) : mm_V M d k0 post (kc + 1) (ks + N) pc L (.int n :: r) w := by
  intro p l e R s m args below meth c D cA A Q ρ0 mc ms hG ρ H locs ls st' cells slots ⟨h0, hw, hS, hl, hst, hb⟩
  obtain ⟨t1, rfl, h1⟩ := mm_vs_i hst
  obtain ⟨ws, hws, hP, hD⟩ := hw
  have hR := hG.2.1
  refine va_newa (atype := .int) hG.1.1 hG.1.2.1 (hG.1.2.2.2.2.1 _ hw0) rfl hG.1.2.2.2.2.2.2.1 hP hD hS hG.1.2.2.2.2.2.2.2.2.1 (a0 := (N, .inl (fun _ => 0))) (fun _ => rfl) hn hN hb8 (by omega) (by omega) hd (fun q cA' H1 q0 q1 q2 q3 => ?_)
  have e1 : va_RA s (cA .int) .int := (hG.1.2.2.2.2.2.2.1.2 0 _ rfl).2
  have e2 : va_RA s cA' .int := (q0.2 2 _ rfl).2
  have e3 : cA' = cA .int := Option.some.inj (Eq.trans (Eq.symm e2) e1)
  subst e3
  have hm : ∀ a, a < ρ.length → (ρ ++ [q])[a]? = ρ[a]? := fun a ha => List.getElem?_append_left ha
  exact k hG ⟨mm_ext hG.2.2.1 h0, ⟨_, mm_w_push hws rfl, q1, q2⟩, q3, mm_l_mono hm hl, ⟨_, _, rfl, ⟨q, by rw [← hws.1]; simp, rfl⟩, mm_vs_mono hm h1⟩, by omega⟩
theorem mm_newl {n : Int32} (N : Nat) (hd : decode M.2.1 pc = .ok (.newarray .long, 2)) (hw0 : Cond.arrayClass .long ∈ mm_T) (hn : ¬ n < 0) (hN : n.toNatClampNeg = N) (hb8 : N * componentBytes .long ≤ 536870912) (k : mm_V M d k0 post kc ks (pc + 2) L (.ref w.length :: r) (w ++ [.inl (.long, (N, .inr (.inl (fun _ => 0))))])) : mm_V M d k0 post (kc + 1) (ks + N) pc L (.int n :: r) w := by
  intro p l e R s m args below meth c D cA A Q ρ0 mc ms hG ρ H locs ls st' cells slots ⟨h0, hw, hS, hl, hst, hb⟩
  obtain ⟨t1, rfl, h1⟩ := mm_vs_i hst
  obtain ⟨ws, hws, hP, hD⟩ := hw
  have hR := hG.2.1
  refine va_newa (atype := .long) hG.1.1 hG.1.2.1 (hG.1.2.2.2.2.1 _ hw0) rfl hG.1.2.2.2.2.2.2.1 hP hD hS hG.1.2.2.2.2.2.2.2.2.1 (a0 := (N, .inr (.inl (fun _ => 0)))) (fun _ => rfl) hn hN hb8 (by omega) (by omega) hd (fun q cA' H1 q0 q1 q2 q3 => ?_)
  have e1 : va_RA s (cA .long) .long := (hG.1.2.2.2.2.2.2.1.2 1 _ rfl).2
  have e2 : va_RA s cA' .long := (q0.2 2 _ rfl).2
  have e3 : cA' = cA .long := Option.some.inj (Eq.trans (Eq.symm e2) e1)
  subst e3
  have hm : ∀ a, a < ρ.length → (ρ ++ [q])[a]? = ρ[a]? := fun a ha => List.getElem?_append_left ha
  exact k hG ⟨mm_ext hG.2.2.1 h0, ⟨_, mm_w_push hws rfl, q1, q2⟩, q3, mm_l_mono hm hl, ⟨_, _, rfl, ⟨q, by rw [← hws.1]; simp, rfl⟩, mm_vs_mono hm h1⟩, by omega⟩
theorem mm_obj {idx a : Nat} (hd : decode M.2.1 pc = .ok (.invokespecial idx, 3)) (hw1 : Cond.methodLink M.1 idx Lib.objectInit ∈ mm_T) (hw2 : Cond.instanceMethod Lib.objectInit ∈ mm_T) (hw3 : Cond.code Lib.objectInit ⟨#[0xb1]⟩ 1 none ∈ mm_T) (hr : (r.map fun v => v.category).sum ≤ 8) (hd0 : 0 < d) (k : mm_V M d k0 post kc ks (pc + 3) L r w) : mm_V M d k0 post kc ks pc L (.ref a :: r) w := by
  intro p l e R s m args below meth c D cA A Q ρ0 mc ms hG ρ H locs ls st' cells slots ⟨h0, hw, hS, hl, hst, hb⟩
  obtain ⟨b, t1, rfl, hb1, h1⟩ := mm_vs_r hst
  have hts := hG.1.2.2.2.2.1
  have hrm := hG.1.2.2.2.2.2.2.2.1
  unfold mm_K at hrm
  refine W.objInit hG.1.1 hG.1.2.1 hG.1.2.2.2.1 (hts _ hw1) (hts _ hw2) (hts _ hw3) rfl (by rw [hG.1.2.2.1]; exact hl.1) rfl hd (by omega) ?_ (k hG ⟨h0, hw, hS, hl, h1, hb⟩)
  have e : (t1.map fun v => v.category).sum ≤ 8 := by rw [mm_vs_cat h1]; exact hr
  have e2 := lv_room (m := m) (pc := pc) (ls := ls) (rest := .ref b :: t1) e
  omega
theorem mm_mmax {idx : Nat} {x y : Int32} (hd : decode M.2.1 pc = .ok (.invokestatic idx, 3)) (hw1 : Cond.methodLink M.1 idx Lib.Math.max.name ∈ mm_T) (hw2 : Cond.static Lib.Math.max.name ∈ mm_T) (hw4 : Cond.initialized "java/lang/Math" ∈ mm_T) (hw3 : Cond.code Lib.Math.max.name Lib.Math.max.code 2 (some .int) ∈ mm_T) (hr : (r.map fun v => v.category).sum ≤ 8) (hd0 : 0 < d) (k : mm_V M d k0 post kc ks (pc + 3) L (.int (if x < y then y else x) :: r) w) : mm_V M d k0 post kc ks pc L (.int y :: .int x :: r) w := by
  intro p l e R s m args below meth c D cA A Q ρ0 mc ms hG ρ H locs ls st' cells slots ⟨h0, hw, hS, hl, hst, hb⟩
  obtain ⟨t0, rfl, h8⟩ := mm_vs_i hst
  obtain ⟨t1, rfl, h1⟩ := mm_vs_i h8
  have hts := hG.1.2.2.2.2.1
  have hrm := hG.1.2.2.2.2.2.2.2.1
  unfold mm_K at hrm
  have hR := hG.2.1
  refine va_mmax hG.1.1 hG.1.2.1 (by rw [hG.1.2.2.1]; exact hl.1.symm) hG.1.2.2.2.1 (hts _ hw1) (hts _ hw2) (hts _ hw4) (hts _ hw3) (by omega) ?_ (by omega) (by omega) hd (k hG ⟨h0, hw, hS, hl, ⟨_, _, rfl, rfl, h1⟩, hb⟩)
  have e : (t1.map fun v => v.category).sum ≤ 8 := by rw [mm_vs_cat h1]; exact hr
  omega
theorem mm_mmin {idx : Nat} {x y : Int32} (hd : decode M.2.1 pc = .ok (.invokestatic idx, 3)) (hw1 : Cond.methodLink M.1 idx Lib.Math.min.name ∈ mm_T) (hw2 : Cond.static Lib.Math.min.name ∈ mm_T) (hw4 : Cond.initialized "java/lang/Math" ∈ mm_T) (hw3 : Cond.code Lib.Math.min.name Lib.Math.min.code 2 (some .int) ∈ mm_T) (hr : (r.map fun v => v.category).sum ≤ 8) (hd0 : 0 < d) (k : mm_V M d k0 post kc ks (pc + 3) L (.int (if y < x then y else x) :: r) w) : mm_V M d k0 post kc ks pc L (.int y :: .int x :: r) w := by
  intro p l e R s m args below meth c D cA A Q ρ0 mc ms hG ρ H locs ls st' cells slots ⟨h0, hw, hS, hl, hst, hb⟩
  obtain ⟨t0, rfl, h8⟩ := mm_vs_i hst
  obtain ⟨t1, rfl, h1⟩ := mm_vs_i h8
  have hts := hG.1.2.2.2.2.1
  have hrm := hG.1.2.2.2.2.2.2.2.1
  unfold mm_K at hrm
  have hR := hG.2.1
  refine va_mmin hG.1.1 hG.1.2.1 (by rw [hG.1.2.2.1]; exact hl.1.symm) hG.1.2.2.2.1 (hts _ hw1) (hts _ hw2) (hts _ hw4) (hts _ hw3) (by omega) ?_ (by omega) (by omega) hd (k hG ⟨h0, hw, hS, hl, ⟨_, _, rfl, rfl, h1⟩, hb⟩)
  have e : (t1.map fun v => v.category).sum ≤ 8 := by rw [mm_vs_cat h1]; exact hr
  omega
theorem mm_ret (hr : mm_rd M pc none) (hp : post none w) : mm_V M d k0 post kc ks pc L [] w := by
  intro p l e R s m args below meth c D cA A Q ρ0 mc ms hG ρ H locs ls st' cells slots ⟨h0, hw, hS, hl, hst, hb⟩
  have hst : st' = [] := hst
  subst hst
  obtain ⟨ws, hws, hP, hD⟩ := hw
  exact W.widen (by omega) (by omega) (hG.2.2.2 pc ls none none w ρ ws H locs hp rfl hr h0 hws hP hD hS)
theorem mm_retv {u : Value} (hr : mm_rd M pc (some u)) (hp : post (some u) w) : mm_V M d k0 post kc ks pc L [u] w := by
  intro p l e R s m args below meth c D cA A Q ρ0 mc ms hG ρ H locs ls st' cells slots ⟨h0, hw, hS, hl, hst, hb⟩
  obtain ⟨v, t1, rfl, hv, h1⟩ := hst
  have h1 : t1 = [] := h1
  subst h1
  obtain ⟨ws, hws, hP, hD⟩ := hw
  exact W.widen (by omega) (by omega) (hG.2.2.2 pc ls (some u) (some v) w ρ ws H locs hp ⟨v, rfl, hv⟩ hr h0 hws hP hD hS)
theorem mm_eqw {st : List Value} {w' : mm_H} (h : w = w') (k : mm_V M d k0 post kc ks pc L st w') : mm_V M d k0 post kc ks pc L st w := h ▸ k
theorem mm_eqL {st : List Value} {L' : mm_L} (h : L = L') (k : mm_V M d k0 post kc ks pc L' st w) : mm_V M d k0 post kc ks pc L st w := h ▸ k
theorem mm_eqp {st : List Value} {pc' : Nat} (h : pc = pc') (k : mm_V M d k0 post kc ks pc' L st w) : mm_V M d k0 post kc ks pc L st w := h ▸ k
theorem mm_eqs {st st2 : List Value} (h : st = st2) (k : mm_V M d k0 post kc ks pc L st2 w) : mm_V M d k0 post kc ks pc L st w := h ▸ k
end MMV
/-! CONTRACTS -/
def mm_Pc (D : va_G) (cA : FieldType → ClassId) (ws : va_W) (sz : Nat) (av : List Value) : Array Value → State → Prop := va_Pc av (fun U => U.heap.size = sz ∧ va_P D mmCl ws U.heap ∧ va_K D mmCl (mm_tys cA) U ∧ va_D (fun _ => True) ws ∧ ∀ w ∈ mm_N, va_Nw w U)
def mm_Q (D : va_G) (cA : FieldType → ClassId) (ρ : List Nat) (A : Nat → Prop) (k0 : Nat) (post : Option Value → mm_H → Prop) : Array Value → State → Outcome → State → Prop := fun _ st oc t =>
  (∃ (v v' : Option Value) (w' : mm_H) (ρ' : List Nat) (ws' : va_W), oc = .returned v' ∧ post v w' ∧ mm_ov ρ' v v' ∧ (∀ a, a < k0 → ρ'[a]? = ρ[a]?) ∧ mm_w cA ρ' w' ws' ∧ va_P D mmCl ws' t.heap ∧ va_D A ws') ∧ va_F A st t
def mm_Ct (y : MethodName) (M : mm_M) (d kc ks : Nat) (av : List Value) (w : mm_H) (post : Option Value → mm_H → Prop) : Prop :=
  ∀ (l : Launch) (D : va_G) (cA : FieldType → ClassId) (ρ : List Nat) (av' : List Value) (ws : va_W) (sz : Nat), mm_w cA ρ w ws → mm_vs ρ av av' →
    Met l y (.code y M.2.1 M.2.2.1 M.2.2.2.2 :: mm_T) { frames := d, cells := kc, slots := ks, locals := mm_K * d } (mm_Pc D cA ws sz av') (mm_Q D cA ρ (va_A ws sz) w.length post) kc ks (va_A ws sz)
theorem mm_Nw_onT {w : Cond} (h : w ∈ mm_N) : w.onTables = true := by
  have h2 := (List.mem_filter.mp h).2
  unfold mm_nest at h2
  split at h2
  · rfl
  · rfl
  · cases h2
theorem mm_Nw_warm {w : Cond} (h : w ∈ mm_N) {s U : State} (hW : s.WarmedH U.vm) (hZ : va_Nw w s) : va_Nw w U := by
  have h2 := (List.mem_filter.mp h).2
  unfold mm_nest at h2
  split at h2
  · exact va_Nw.warmF hW hZ
  · exact va_Nw.warmM hW hZ
  · cases h2
theorem mm_blind (D : va_G) (cA : FieldType → ClassId) (ws : va_W) (sz : Nat) (av : List Value) : FrameBlind (mm_Pc D cA ws sz av) := by
  intro a U g mk q
  obtain ⟨q0, q1, qP, qK, qD, qN⟩ := q
  exact ⟨q0, q1, qP, va_K.moved (u := U) (U := U.calling g mk a) (Vm.Alike.refl U.vm) qK, qD, fun w hw => va_Nw.same (u := U) (U := U.calling g mk a) (mm_Nw_onT hw) rfl (qN w hw)⟩
theorem mm_ws_good {y : MethodName} {M : mm_M} (hc : Cond.code y M.2.1 M.2.2.1 M.2.2.2.2 ∈ mm_T) : GoodIn mm_T (.code y M.2.1 M.2.2.1 M.2.2.2.2 :: mm_T) := by
  have hg : ∀ w ∈ mm_T, w ∈ mm_T ∧ ((w.onTables && w.keeps) = true ∨ ∃ ty, w = .arrayClass ty) := by
    intro w hw
    refine ⟨hw, ?_⟩
    have h2 := (List.mem_filter.mp hw).2
    unfold mm_good at h2
    rw [Bool.or_eq_true] at h2
    rcases h2 with h2 | h2
    · exact Or.inl h2
    · split at h2
      · exact Or.inr ⟨_, rfl⟩
      · cases h2
  intro w hw
  rcases List.mem_cons.mp hw with rfl | hw
  · exact hg _ hc
  · exact hg _ hw
theorem mm_Ct.of {y : MethodName} {M : mm_M} {d kc ks : Nat} {av : List Value} {w : mm_H} {post : Option Value → mm_H → Prop} (hy : plainName y.cls = true) (ho : y.cls = M.1) (hi : M.2.2.2.1 = true → y.name = "<init>") (hn : (mm_ar av).length ≤ M.2.2.1)
    (hV : mm_V M d w.length post kc ks 0 (mm_args M.2.2.1 av) [] w) : mm_Ct y M d kc ks av w post := by
  intro l D cA ρ av' ws sz hw hav
  refine Met.ofW (cc := M.2.1) (maxL := M.2.2.1) (ret := M.2.2.2.2) hy rfl ?_
  intro p e s m args below meth c s₁ B hml hv
  obtain ⟨rfl, hsz, hP, hK, hD0, hN⟩ := hv
  subst hsz
  have hts := atoms_spec (ws := .code y M.2.1 M.2.2.1 M.2.2.2.2 :: mm_T) B.pre
  have hown : s.vm.findClass M.1 = some m.cls := by rw [← ho]; exact findClass_of_methodNamed B.named
  have hlocks := B.notSynchronized
  have hD := hD0.self (sz := s.heap.size)
  have hle : (lg_sl av').length ≤ M.2.2.1 := by rw [mm_sl_len hav, ← mm_ar_len]; exact hn
  have hl := lv_entry av' (n := M.2.2.1) hle
  rw [lg_entry_eq]
  generalize (lg_sl av' ++ List.replicate (M.2.2.1 - (lg_sl av').length) Slot.unset).toArray = ls at hl ⊢
  refine hV (A := va_A ws s.heap.size) (ρ0 := ρ) (mc := kc) (ms := ks) (cA := cA) (D := D) ⟨⟨B.exec, B.bytes, hml, hown, fun w hw => hts w (List.mem_cons_of_mem _ hw), hN, hK, ⟨Nat.le_refl _, Nat.le_refl _⟩, fun q h => Or.inr h, fun h => by rw [(name_of_methodNamed B.named B.method).1]; exact hi h⟩, ⟨Nat.le_refl _, Nat.le_refl _⟩, by rw [hw.1]; exact Nat.le_refl _, ?_⟩ ⟨fun _ _ => rfl, ⟨ws, hw, hP, hD⟩, va_S.rf, mm_l_entry hav hn hl, rfl, by omega, by omega⟩
  intro pc ls v v' w' ρ' ws' H locs hp hov hrd hpre hw' hP' hD' hS'
  have fin : ∀ t : State, t.heap = H → s.WarmedH t.vm → mm_Q D cA ρ (va_A ws s.heap.size) w.length post av'.toArray s (.returned v') t := fun t ht _ => ⟨⟨v, v', w', ρ', ws', rfl, hp, hov, hpre, hw', by rw [ht]; exact hP', hD'⟩, hS'.F ht⟩
  unfold mm_rd at hrd
  split at hrd
  · have hov : v' = none := hov
    subst hov
    exact W.vret B.exec B.bytes (by rw [B.returns]; exact hrd.1) fin hS'.2.2 hrd.2
  · obtain ⟨ty, h1, h2, h3⟩ := hrd
    obtain ⟨z, rfl, hz⟩ := hov
    have hz : z = .int _ := hz
    subst hz
    exact W.zret B.exec B.bytes (by rw [B.returns]; exact h1) h2 fin hS'.2.2 h3
  · obtain ⟨z, rfl, hz⟩ := hov
    have hz : z = .long _ := hz
    subst hz
    exact W.lret B.exec B.bytes (by rw [B.returns]; exact hrd.1) fin hS'.2.2 hrd.2
  · obtain ⟨⟨rt, h1, h2⟩, h3⟩ := hrd
    obtain ⟨z, rfl, hz⟩ := hov
    have hz : z = .null := hz
    subst hz
    exact W.aret B.exec B.bytes (by rw [B.returns]; exact h1) h2 (Or.inl rfl) fin hS'.2.2 h3
  · obtain ⟨⟨rt, h1, h2⟩, h3⟩ := hrd
    obtain ⟨z, rfl, b, hb, hz⟩ := hov
    subst hz
    exact W.aret B.exec B.bytes (by rw [B.returns]; exact h1) h2 (Or.inr ⟨b, rfl⟩) fin hS'.2.2 h3
  · exact hrd.elim
/-- the same contract with a weaker end -/
theorem mm_Ct.imp {y : MethodName} {M : mm_M} {d kc ks : Nat} {av : List Value} {w : mm_H} {post post' : Option Value → mm_H → Prop} (h : mm_Ct y M d kc ks av w post) (hp : ∀ v w', post v w' → post' v w') : mm_Ct y M d kc ks av w post' := by
  intro l D cA ρ av' ws sz hw hav p e ha hc hk s m args below hf happ hP hK
  obtain ⟨n, o, h1, h2, h3, ⟨⟨v, v', w', ρ', ws', q0, q1, q2⟩, hF⟩, q3⟩ := h l D cA ρ av' ws sz hw hav p e ha hc hk s m args below hf happ hP hK
  exact ⟨n, o, h1, h2, h3, ⟨⟨v, v', w', ρ', ws', q0, hp v w' q1, q2⟩, hF⟩, q3⟩
section MMC
variable {M : mm_M} {d k0 kc ks pc : Nat} {post : Option Value → mm_H → Prop} {L : mm_L} {r : List Value} {w : mm_H} {y : MethodName} {M' : mm_M} {d' kc' ks' idx n : Nat} {av : List Value} {post' : Option Value → mm_H → Prop}
/-- what a call of y asks of the tables, wherever it stands -/
def mm_okM (y : MethodName) (M' : mm_M) (n : Nat) : Prop := Cond.code y M'.2.1 M'.2.2.1 M'.2.2.2.2 ∈ mm_T ∧ Cond.initialized y.cls ∈ mm_T ∧ (y.cls ≠ "java/lang/invoke/MethodHandle" ∧ y.cls ≠ "java/lang/invoke/VarHandle") ∧ (parseMethodDescriptor y.desc).map (fun d => d.parameters.length) = some n ∧ M'.2.2.1 + 19 ≤ mm_K
def mm_ml (own : String) (idx : Nat) (y : MethodName) : Prop := Cond.methodLink own idx y ∈ mm_T ∨ ∃ host, Cond.methodLinkNest own idx y host ∈ mm_N
theorem mm_ov_list {ρ : List Nat} {v v' : Option Value} (h : mm_ov ρ v v') {r r' : List Value} (hr : mm_vs ρ r r') : mm_vs ρ (v.toList ++ r) (v'.toList ++ r') := by
  cases v with
  | none => rw [show v' = none from h]; exact hr
  | some x =>
    obtain ⟨y, rfl, hy⟩ := h
    exact ⟨y, r', rfl, hy, hr⟩
theorem mm_after {p : Program} {l : Launch} {e : Env} {R : Room} {s : State} {m : MethodId} {args : Array Value} {below : List Frame} {meth : Method} {c : Code} {D : va_G} {cA : FieldType → ClassId} {A : Nat → Prop} {Q : State → Prop} {ρ0 : List Nat} {mc ms : Nat} (hG : mm_G M d k0 post p l e R s m args below meth c D cA A Q ρ0 mc ms)
    {ρ : List Nat} {H : Heap} {locs : List Loc} {ls : Array Slot} {st0 r' : List Value} {cells slots : Nat} (h0 : ∀ a, a < k0 → ρ[a]? = ρ0[a]?) {ws : va_W} (hws : mm_w cA ρ w ws) (hD : va_D A ws) (hS : va_S A s.heap H locs) (hl : mm_l M.2.2.1 ρ ls L) (hr' : mm_vs ρ r r') (hb : cells + (kc + kc') ≤ mc ∧ slots + (ks + ks') ≤ ms) {a : Array Value}
    (hr : va_Run p l e R s m args below meth c H locs cells slots kc' ks' (F0 m pc ls st0) r' (mm_Q D cA ρ (va_A ws H.size) w.length post' a) (va_A ws H.size))
    (k : ∀ v w', post' v w' → mm_V M d k0 post kc ks (pc + 3) L (v.toList ++ r) w') : W p l e R s m args below meth c H locs cells slots Q (F0 m pc ls st0) := by
  intro T hT X
  obtain ⟨v', st₀, t, T', Lx, e0, X', hL, e1, e2, ⟨⟨v, v2, w', ρ', ws', ho, hpost, hov, hpre, hw', hP', hD'⟩, hz, hk⟩, st⟩ := hr T hT X
  cases ho
  rw [e0] at hz hk
  have hA : ∀ q, va_A ws H.size q → A q := by
    intro q hq
    rcases hq with ⟨i, x, hx⟩ | hq
    · exact hD.2 i (q, x) hx
    · exact hG.1.2.2.2.2.2.2.2.2.1 q (Nat.le_trans hS.1 hq)
  have hm : ∀ a, a < ρ.length → ρ'[a]? = ρ[a]? := fun a ha => hpre a (by rw [← hws.1]; exact ha)
  have hpre0 : ∀ a, a < k0 → ρ'[a]? = ρ0[a]? := fun a ha => by
    have h1 := h0 a ha
    have h2 := hG.2.2.1
    rw [List.getElem?_eq_getElem (by omega : a < ρ0.length)] at h1
    rw [hm a (List.getElem?_eq_some_iff.mp h1).1]
    exact h0 a ha
  have hS1 : va_S A s.heap T'.heap (locs ++ Lx) := ⟨Nat.le_trans hS.1 (by rw [e1]; exact hz), fun q h1 h2 => by rw [e1, hk q (Nat.lt_of_lt_of_le h1 hS.1) (fun z => h2 (hA q z))]; exact hS.2.1 q h1 h2, fun q hq => by
      rcases List.mem_append.mp hq with h | h
      · exact hS.2.2 q h
      · exact hA _ (hL q h)⟩
  have kk : W p l e R s m args below meth c T'.heap (locs ++ Lx) (cells + kc') (slots + ks') Q (F0 m (pc + 3) ls (v'.toList ++ r')) :=
    k v w' hpost hG ⟨hpre0, ⟨ws', hw', by rw [e1]; exact hP', hD'.weaken (fun _ _ _ h => hA _ h)⟩, hS1, mm_l_mono hm hl, mm_ov_list hov (mm_vs_mono hm hr'), by omega⟩
  obtain ⟨t2, a1, b1⟩ := kk T' rfl X'
  exact ⟨t2, st t2 a1, b1⟩
theorem mm_callB {p : Program} {l : Launch} {e : Env} {R : Room} {s : State} {m : MethodId} {args : Array Value} {below : List Frame} {meth : Method} {c : Code} {D : va_G} {cA : FieldType → ClassId} {A : Nat → Prop} {Q : State → Prop} {ρ0 : List Nat} {mc ms : Nat} (hG : mm_G M d k0 post p l e R s m args below meth c D cA A Q ρ0 mc ms) (hM : mm_okM y M' n) (hd1 : d' < d) :
    ((({ frames := d', cells := kc', slots := ks', locals := mm_K * d' } : Room).cells = kc' ∧ ({ frames := d', cells := kc', slots := ks', locals := mm_K * d' } : Room).slots = ks' ∧ ({ frames := d', cells := kc', slots := ks', locals := mm_K * d' } : Room).frames + 1 ≤ R.frames ∧ 8 + (M'.2.2.1 + 11) + ({ frames := d', cells := kc', slots := ks', locals := mm_K * d' } : Room).locals ≤ R.locals ∧ (∀ w ∈ (Cond.code y M'.2.1 M'.2.2.1 M'.2.2.2.2 :: mm_T), ∀ (a' : Array Value) (U : State), s.WarmedH U.vm → w.before a' U = true) ∧ Cond.code y M'.2.1 M'.2.2.1 M'.2.2.2.2 ∈ (Cond.code y M'.2.1 M'.2.2.1 M'.2.2.2.2 :: mm_T)) ∧ (Cond.code y M'.2.1 M'.2.2.1 M'.2.2.2.2).before args s = true ∧ (Cond.initialized y.cls).before args s = true ∧ (y.cls ≠ "java/lang/invoke/MethodHandle" ∧ y.cls ≠ "java/lang/invoke/VarHandle") ∧ (∀ sig, parseMethodDescriptor y.desc = some sig → n = sig.parameters.length)) := by
  obtain ⟨hc, hini, hy, hn, hL⟩ := hM
  have hts := hG.1.2.2.2.2.1
  have hrm := hG.1.2.2.2.2.2.2.2.1
  unfold mm_K at hrm hL ⊢
  refine ⟨⟨rfl, rfl, ?_, ?_, pay_in hts (mm_ws_good hc), List.mem_cons_self⟩, hts _ hc, hts _ hini, hy, fun sig h => ?_⟩
  · show d' + 1 ≤ R.frames
    omega
  · show 8 + (M'.2.2.1 + 11) + 36 * d' ≤ R.locals
    omega
  · rw [h] at hn
    exact (Option.some.inj hn).symm
theorem mm_pre {p : Program} {l : Launch} {e : Env} {R : Room} {s : State} {m : MethodId} {args : Array Value} {below : List Frame} {meth : Method} {c : Code} {D : va_G} {cA : FieldType → ClassId} {A : Nat → Prop} {Q : State → Prop} {ρ0 : List Nat} {mc ms : Nat} (hG : mm_G M d k0 post p l e R s m args below meth c D cA A Q ρ0 mc ms) {ws : va_W} {H : Heap} (hP : va_P D mmCl ws H) (hD : va_D A ws) (av' : List Value) : ∀ U : State, U.heap = H → s.WarmedH U.vm → mm_Pc D cA ws H.size av' av'.toArray U :=
  fun U hU hW => ⟨rfl, by rw [hU], by rw [hU]; exact hP, va_K.moved hW.alike hG.1.2.2.2.2.2.2.1, hD.weaken (fun _ _ _ _ => trivial), fun w hw => mm_Nw_warm hw hW (hG.1.2.2.2.2.2.1 w hw)⟩
theorem mm_callV {a ci : Nat} {fs : List Value} (hd : decode M.2.1 pc = .ok (.invokevirtual idx, 3)) (hM : mm_okM y M' n) (hlk : mm_ml M.1 idx y) (hd1 : d' < d) (hn : av.length = n) (hr8 : (r.map fun v => v.category).sum ≤ 8) (hi : Cond.instanceMethod y ∈ mm_T ∧ Cond.selects y.cls y y ∈ mm_T) (ha : w[a]? = some (.inr (ci, fs))) (hcl : (mmCl[ci]?.map (fun q => q.1)) = some y.cls) (hC : mm_Ct y M' d' kc' ks' (.ref a :: av) w post') (k : ∀ v w', post' v w' → mm_V M d k0 post kc ks (pc + 3) L (v.toList ++ r) w') : mm_V M d k0 post (kc + kc') (ks + ks') pc L (av.reverse ++ .ref a :: r) w := by
  intro p l e R s m args below meth c D cA A Q ρ0 mc ms hG ρ H locs ls st' cells slots ⟨h0, hw, hS, hl, hst, hb⟩
  obtain ⟨v1, v2, rfl, hv1, hv2⟩ := mm_vs_app hst
  obtain ⟨b, r', rfl, hb1, hr'⟩ := mm_vs_r hv2
  obtain ⟨ws, hws, hP, hD⟩ := hw
  obtain ⟨yy, hy1, fs', hy2, hy3⟩ := mm_w_get hws ha hb1
  subst hy2
  have hav : mm_vs ρ (.ref a :: av) (.ref b :: v1.reverse) := ⟨_, _, rfl, ⟨b, hb1, rfl⟩, by have := mm_vs_rev hv1; rw [List.reverse_reverse] at this; exact this⟩
  have hMet := hC l D cA ρ _ ws H.size hws hav
  have hB := mm_callB (kc' := kc') (ks' := ks') hG hM hd1
  have hts := hG.1.2.2.2.2.1
  have hR := hG.2.1
  have h8 := lv_room (m := m) (pc := pc) (ls := ls) (rest := v1 ++ .ref b :: r') (st := r') (by rw [mm_vs_cat hr']; exact hr8)
  have hlen : v1.reverse.length = n := by rw [List.length_reverse, mm_vs_len hv1, List.length_reverse]; exact hn
  have hrecv : ∃ cellB : Cell, H[b]? = some cellB ∧ cellB.vm.isStatics = false ∧ s.vm.findClass y.cls = some cellB.cls := by
    cases hq : mmCl[ci]? with
    | none => rw [hq] at hcl; cases hcl
    | some q =>
      rw [hq] at hcl
      have e : q.1 = y.cls := Option.some.inj hcl
      rw [← e]
      exact va_recv hG.1.2.2.2.2.2.2.1 hP hq hy1
  rcases hlk with hlk | ⟨host, hlk⟩
  · exact mm_after hG h0 hws hD hS hl hr' (by omega) (va_runV (C := y.cls) ⟨hG.1.1, hG.1.2.1, hG.1.2.2.1, hG.1.2.2.2.1, hts⟩ hMet ⟨⟨hB.1.1, hB.1.2.1, hB.1.2.2.1, hB.1.2.2.2.1, hB.1.2.2.2.2.1, hB.1.2.2.2.2.2, hB.2.1, hB.2.2.1, hB.2.2.2.1, hB.2.2.2.2, hts _ hlk⟩, hts _ hi.1, hts _ hi.2⟩ ⟨mm_blind _ _ _ _ _, hrecv, mm_pre hG hP hD _⟩ rfl hlen hl.1 (by rw [List.reverse_reverse]) h8 hd (by omega)) k
  · exact mm_after hG h0 hws hD hS hl hr' (by omega) (va_runVN (C := y.cls) (host := host) ⟨hG.1.1, hG.1.2.1, hG.1.2.2.1, hG.1.2.2.2.1, hts⟩ hMet ⟨⟨hB.1, hB.2.1, hB.2.2.1, hB.2.2.2.1, hB.2.2.2.2, (hG.1.2.2.2.2.2.1 _ hlk).use rfl⟩, hts _ hi.1, hts _ hi.2⟩ ⟨mm_blind _ _ _ _ _, hrecv, mm_pre hG hP hD _⟩ rfl hlen hl.1 (by rw [List.reverse_reverse]) h8 hd (by omega)) k
theorem mm_callS (hd : decode M.2.1 pc = .ok (.invokestatic idx, 3)) (hM : mm_okM y M' n) (hlk : mm_ml M.1 idx y) (hd1 : d' < d) (hn : av.length = n) (hr8 : (r.map fun v => v.category).sum ≤ 8) (hi : Cond.static y ∈ mm_T) (hC : mm_Ct y M' d' kc' ks' av w post') (k : ∀ v w', post' v w' → mm_V M d k0 post kc ks (pc + 3) L (v.toList ++ r) w') : mm_V M d k0 post (kc + kc') (ks + ks') pc L (av.reverse ++ r) w := by
  intro p l e R s m args below meth c D cA A Q ρ0 mc ms hG ρ H locs ls st' cells slots ⟨h0, hw, hS, hl, hst, hb⟩
  obtain ⟨v1, r', rfl, hv1, hr'⟩ := mm_vs_app hst
  obtain ⟨ws, hws, hP, hD⟩ := hw
  have hav : mm_vs ρ av v1.reverse := by have := mm_vs_rev hv1; rw [List.reverse_reverse] at this; exact this
  have hMet := hC l D cA ρ _ ws H.size hws hav
  have hB := mm_callB (kc' := kc') (ks' := ks') hG hM hd1
  have hts := hG.1.2.2.2.2.1
  have hR := hG.2.1
  have h8 := lv_room (m := m) (pc := pc) (ls := ls) (rest := v1 ++ r') (st := r') (by rw [mm_vs_cat hr']; exact hr8)
  have hlen : v1.reverse.length = n := by rw [List.length_reverse, mm_vs_len hv1, List.length_reverse]; exact hn
  rcases hlk with hlk | ⟨host, hlk⟩
  · exact mm_after hG h0 hws hD hS hl hr' (by omega) (va_runS ⟨hG.1.1, hG.1.2.1, hG.1.2.2.1, hG.1.2.2.2.1, hts⟩ hMet ⟨⟨hB.1.1, hB.1.2.1, hB.1.2.2.1, hB.1.2.2.2.1, hB.1.2.2.2.2.1, hB.1.2.2.2.2.2, hB.2.1, hB.2.2.1, hB.2.2.2.1, hB.2.2.2.2, hts _ hlk⟩, hts _ hi⟩ ⟨mm_blind _ _ _ _ _, mm_pre hG hP hD _⟩ rfl hlen hl.1 (by rw [List.reverse_reverse]) h8 hd (by omega)) k
  · exact mm_after hG h0 hws hD hS hl hr' (by omega) (va_runSN (host := host) ⟨hG.1.1, hG.1.2.1, hG.1.2.2.1, hG.1.2.2.2.1, hts⟩ hMet ⟨⟨hB.1, hB.2.1, hB.2.2.1, hB.2.2.2.1, hB.2.2.2.2, (hG.1.2.2.2.2.2.1 _ hlk).use rfl⟩, hts _ hi, trivial⟩ ⟨mm_blind _ _ _ _ _, mm_pre hG hP hD _⟩ rfl hlen hl.1 (by rw [List.reverse_reverse]) h8 hd (by omega)) k
theorem mm_callI {a : Nat} (hd : decode M.2.1 pc = .ok (.invokespecial idx, 3)) (hM : mm_okM y M' n) (hlk : mm_ml M.1 idx y) (hd1 : d' < d) (hn : av.length = n) (hr8 : (r.map fun v => v.category).sum ≤ 8) (hi : y.name = "<init>" ∧ Cond.instanceMethod y ∈ mm_T) (hvo : M'.2.2.2.2 = none) (hC : mm_Ct y M' d' kc' ks' (.ref a :: av) w post') (k : ∀ v w', post' v w' → mm_V M d k0 post kc ks (pc + 3) L (v.toList ++ r) w') : mm_V M d k0 post (kc + kc') (ks + ks') pc L (av.reverse ++ .ref a :: r) w := by
  intro p l e R s m args below meth c D cA A Q ρ0 mc ms hG ρ H locs ls st' cells slots ⟨h0, hw, hS, hl, hst, hb⟩
  obtain ⟨v1, v2, rfl, hv1, hv2⟩ := mm_vs_app hst
  obtain ⟨b, r', rfl, hb1, hr'⟩ := mm_vs_r hv2
  obtain ⟨ws, hws, hP, hD⟩ := hw
  have hav : mm_vs ρ (.ref a :: av) (.ref b :: v1.reverse) := ⟨_, _, rfl, ⟨b, hb1, rfl⟩, by have := mm_vs_rev hv1; rw [List.reverse_reverse] at this; exact this⟩
  have hMet := hC l D cA ρ _ ws H.size hws hav
  have hB := mm_callB (kc' := kc') (ks' := ks') hG hM hd1
  rw [hvo] at hMet hB
  have hts := hG.1.2.2.2.2.1
  have hR := hG.2.1
  have h8 := lv_room (m := m) (pc := pc) (ls := ls) (rest := v1 ++ .ref b :: r') (st := r') (by rw [mm_vs_cat hr']; exact hr8)
  have hlen : v1.reverse.length = n := by rw [List.length_reverse, mm_vs_len hv1, List.length_reverse]; exact hn
  rcases hlk with hlk | ⟨host, hlk⟩
  · exact mm_after hG h0 hws hD hS hl hr' (by omega) (va_runI ⟨hG.1.1, hG.1.2.1, hG.1.2.2.1, hG.1.2.2.2.1, hts⟩ hMet ⟨⟨hB.1.1, hB.1.2.1, hB.1.2.2.1, hB.1.2.2.2.1, hB.1.2.2.2.2.1, hB.1.2.2.2.2.2, hB.2.1, hB.2.2.1, hB.2.2.2.1, hB.2.2.2.2, hts _ hlk⟩, hi.1, hts _ hi.2⟩ ⟨mm_blind _ _ _ _ _, mm_pre hG hP hD _⟩ rfl hlen hl.1 (by rw [List.reverse_reverse]) h8 hd (by omega)) k
  · exact mm_after hG h0 hws hD hS hl hr' (by omega) (va_runIN (host := host) ⟨hG.1.1, hG.1.2.1, hG.1.2.2.1, hG.1.2.2.2.1, hts⟩ hMet ⟨⟨hB.1, hB.2.1, hB.2.2.1, hB.2.2.2.1, hB.2.2.2.2, (hG.1.2.2.2.2.2.1 _ hlk).use rfl⟩, hi.1, hts _ hi.2⟩ ⟨mm_blind _ _ _ _ _, mm_pre hG hP hD _⟩ rfl hlen hl.1 (by rw [List.reverse_reverse]) h8 hd (by omega)) k
end MMC
end
