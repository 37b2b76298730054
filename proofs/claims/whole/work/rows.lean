section
-- ===== PART A: goes FIRST, ahead of the names: the tables' words, and 'selects' of the private methods out of them =====
/-- a private method of a class that the tables say can be made, by its rows of tables_1 -/
def lw_okq (q : MethodName × Nat) : Prop := (q.1.cls ≠ "java/lang/invoke/MethodHandle" ∧ q.1.cls ≠ "java/lang/invoke/VarHandle") ∧ Cond.instantiable q.1.cls q.2 ∈ tables_1 ∧ Cond.privateMethod q.1 ∈ tables_1 ∧ Cond.instanceMethod q.1 ∈ tables_1
theorem lw_p0 : lw_okq (⟨"FoldedStrip$Folds", "keep", "(I)V"⟩, 5) := ⟨⟨by decide +kernel, by decide +kernel⟩, List.mem_of_getElem? (i := 40) (by decide +kernel), List.mem_of_getElem? (i := 329) (by decide +kernel), List.mem_of_getElem? (i := 330) (by decide +kernel)⟩
theorem lw_p1 : lw_okq (⟨"FoldedStrip$Folds", "canComeNext", "(I)Z"⟩, 5) := ⟨⟨by decide +kernel, by decide +kernel⟩, List.mem_of_getElem? (i := 40) (by decide +kernel), List.mem_of_getElem? (i := 333) (by decide +kernel), List.mem_of_getElem? (i := 334) (by decide +kernel)⟩
theorem lw_p2 : lw_okq (⟨"FoldedStrip$Folds", "crossesAbove", "(II)Z"⟩, 5) := ⟨⟨by decide +kernel, by decide +kernel⟩, List.mem_of_getElem? (i := 40) (by decide +kernel), List.mem_of_getElem? (i := 337) (by decide +kernel), List.mem_of_getElem? (i := 338) (by decide +kernel)⟩
theorem lw_p3 : lw_okq (⟨"FoldedStrip$Folds", "mateOf", "(II)I"⟩, 5) := ⟨⟨by decide +kernel, by decide +kernel⟩, List.mem_of_getElem? (i := 40) (by decide +kernel), List.mem_of_getElem? (i := 341) (by decide +kernel), List.mem_of_getElem? (i := 342) (by decide +kernel)⟩
theorem lw_p4 : lw_okq (⟨"FoldedStrip$Verdicts", "areAllContent", "(I)Z"⟩, 5) := ⟨⟨by decide +kernel, by decide +kernel⟩, List.mem_of_getElem? (i := 107) (by decide +kernel), List.mem_of_getElem? (i := 352) (by decide +kernel), List.mem_of_getElem? (i := 353) (by decide +kernel)⟩
theorem lw_p5 : lw_okq (⟨"FoldedStrip$Verdicts", "hasWaxAt", "(II)Z"⟩, 5) := ⟨⟨by decide +kernel, by decide +kernel⟩, List.mem_of_getElem? (i := 107) (by decide +kernel), List.mem_of_getElem? (i := 367) (by decide +kernel), List.mem_of_getElem? (i := 368) (by decide +kernel)⟩
theorem lw_p6 : lw_okq (⟨"FoldedStrip$Verdicts", "widestHinge", "(I)I"⟩, 5) := ⟨⟨by decide +kernel, by decide +kernel⟩, List.mem_of_getElem? (i := 107) (by decide +kernel), List.mem_of_getElem? (i := 378) (by decide +kernel), List.mem_of_getElem? (i := 379) (by decide +kernel)⟩
theorem lw_p7 : lw_okq (⟨"FoldedStrip", "isLeaf", "(I)Z"⟩, 9) := ⟨⟨by decide +kernel, by decide +kernel⟩, List.mem_of_getElem? (i := 16) (by decide +kernel), List.mem_of_getElem? (i := 396) (by decide +kernel), List.mem_of_getElem? (i := 397) (by decide +kernel)⟩
theorem lw_p8 : lw_okq (⟨"FoldedStrip", "isPlace", "(I)Z"⟩, 9) := ⟨⟨by decide +kernel, by decide +kernel⟩, List.mem_of_getElem? (i := 16) (by decide +kernel), List.mem_of_getElem? (i := 424) (by decide +kernel), List.mem_of_getElem? (i := 425) (by decide +kernel)⟩
theorem lw_p9 : lw_okq (⟨"FoldedStrip$Folds", "find", "(I)I"⟩, 5) := ⟨⟨by decide +kernel, by decide +kernel⟩, List.mem_of_getElem? (i := 40) (by decide +kernel), List.mem_of_getElem? (i := 447) (by decide +kernel), List.mem_of_getElem? (i := 448) (by decide +kernel)⟩
theorem lw_p10 : lw_okq (⟨"FoldedStrip", "openHinges", "()I"⟩, 9) := ⟨⟨by decide +kernel, by decide +kernel⟩, List.mem_of_getElem? (i := 16) (by decide +kernel), List.mem_of_getElem? (i := 455) (by decide +kernel), List.mem_of_getElem? (i := 456) (by decide +kernel)⟩
theorem lw_p11 : lw_okq (⟨"FoldedStrip", "isWithoutStrip", "()Z"⟩, 9) := ⟨⟨by decide +kernel, by decide +kernel⟩, List.mem_of_getElem? (i := 16) (by decide +kernel), List.mem_of_getElem? (i := 463) (by decide +kernel), List.mem_of_getElem? (i := 464) (by decide +kernel)⟩
theorem lw_p12 : lw_okq (⟨"FoldedStrip", "isOrder", "(I)Z"⟩, 9) := ⟨⟨by decide +kernel, by decide +kernel⟩, List.mem_of_getElem? (i := 16) (by decide +kernel), List.mem_of_getElem? (i := 476) (by decide +kernel), List.mem_of_getElem? (i := 477) (by decide +kernel)⟩
theorem lw_p13 : lw_okq (⟨"FoldedStrip$Paths", "findSteps", "()V"⟩, 8) := ⟨⟨by decide +kernel, by decide +kernel⟩, List.mem_of_getElem? (i := 130) (by decide +kernel), List.mem_of_getElem? (i := 512) (by decide +kernel), List.mem_of_getElem? (i := 513) (by decide +kernel)⟩
theorem lw_p14 : lw_okq (⟨"FoldedStrip$Paths", "findStepsFrom", "(I)V"⟩, 8) := ⟨⟨by decide +kernel, by decide +kernel⟩, List.mem_of_getElem? (i := 130) (by decide +kernel), List.mem_of_getElem? (i := 516) (by decide +kernel), List.mem_of_getElem? (i := 517) (by decide +kernel)⟩
theorem lw_p15 : lw_okq (⟨"FoldedStrip$Paths", "addStep", "(I)V"⟩, 8) := ⟨⟨by decide +kernel, by decide +kernel⟩, List.mem_of_getElem? (i := 130) (by decide +kernel), List.mem_of_getElem? (i := 522) (by decide +kernel), List.mem_of_getElem? (i := 523) (by decide +kernel)⟩
def lw_privs_1 : List (MethodName × Nat) := [(⟨"FoldedStrip$Folds", "keep", "(I)V"⟩, 5), (⟨"FoldedStrip$Folds", "canComeNext", "(I)Z"⟩, 5), (⟨"FoldedStrip$Folds", "crossesAbove", "(II)Z"⟩, 5), (⟨"FoldedStrip$Folds", "mateOf", "(II)I"⟩, 5), (⟨"FoldedStrip$Verdicts", "areAllContent", "(I)Z"⟩, 5), (⟨"FoldedStrip$Verdicts", "hasWaxAt", "(II)Z"⟩, 5), (⟨"FoldedStrip$Verdicts", "widestHinge", "(I)I"⟩, 5), (⟨"FoldedStrip", "isLeaf", "(I)Z"⟩, 9), (⟨"FoldedStrip", "isPlace", "(I)Z"⟩, 9), (⟨"FoldedStrip$Folds", "find", "(I)I"⟩, 5), (⟨"FoldedStrip", "openHinges", "()I"⟩, 9), (⟨"FoldedStrip", "isWithoutStrip", "()Z"⟩, 9), (⟨"FoldedStrip", "isOrder", "(I)Z"⟩, 9), (⟨"FoldedStrip$Paths", "findSteps", "()V"⟩, 8), (⟨"FoldedStrip$Paths", "findStepsFrom", "(I)V"⟩, 8), (⟨"FoldedStrip$Paths", "addStep", "(I)V"⟩, 8)]
theorem lw_r1 : ∀ q ∈ lw_privs_1, lw_okq q := List.forall_mem_cons.mpr ⟨lw_p0, List.forall_mem_cons.mpr ⟨lw_p1, List.forall_mem_cons.mpr ⟨lw_p2, List.forall_mem_cons.mpr ⟨lw_p3, List.forall_mem_cons.mpr ⟨lw_p4, List.forall_mem_cons.mpr ⟨lw_p5, List.forall_mem_cons.mpr ⟨lw_p6, List.forall_mem_cons.mpr ⟨lw_p7, List.forall_mem_cons.mpr ⟨lw_p8, List.forall_mem_cons.mpr ⟨lw_p9, List.forall_mem_cons.mpr ⟨lw_p10, List.forall_mem_cons.mpr ⟨lw_p11, List.forall_mem_cons.mpr ⟨lw_p12, List.forall_mem_cons.mpr ⟨lw_p13, List.forall_mem_cons.mpr ⟨lw_p14, List.forall_mem_cons.mpr ⟨lw_p15, fun _ h => absurd h List.not_mem_nil⟩⟩⟩⟩⟩⟩⟩⟩⟩⟩⟩⟩⟩⟩⟩⟩
theorem lw_p16 : lw_okq (⟨"FoldedStrip$Paths", "spread", "(II)I"⟩, 8) := ⟨⟨by decide +kernel, by decide +kernel⟩, List.mem_of_getElem? (i := 130) (by decide +kernel), List.mem_of_getElem? (i := 526) (by decide +kernel), List.mem_of_getElem? (i := 527) (by decide +kernel)⟩
theorem lw_p17 : lw_okq (⟨"FoldedStrip", "farthest", "()I"⟩, 9) := ⟨⟨by decide +kernel, by decide +kernel⟩, List.mem_of_getElem? (i := 16) (by decide +kernel), List.mem_of_getElem? (i := 538) (by decide +kernel), List.mem_of_getElem? (i := 539) (by decide +kernel)⟩
theorem lw_p18 : lw_okq (⟨"FoldedStrip", "home", "()I"⟩, 9) := ⟨⟨by decide +kernel, by decide +kernel⟩, List.mem_of_getElem? (i := 16) (by decide +kernel), List.mem_of_getElem? (i := 542) (by decide +kernel), List.mem_of_getElem? (i := 543) (by decide +kernel)⟩
theorem lw_p19 : lw_okq (⟨"FoldedStrip$Needle", "isPossible", "(I)Z"⟩, 3) := ⟨⟨by decide +kernel, by decide +kernel⟩, List.mem_of_getElem? (i := 161) (by decide +kernel), List.mem_of_getElem? (i := 586) (by decide +kernel), List.mem_of_getElem? (i := 587) (by decide +kernel)⟩
theorem lw_p20 : lw_okq (⟨"FoldedStrip$Needle", "countThrough", "()I"⟩, 3) := ⟨⟨by decide +kernel, by decide +kernel⟩, List.mem_of_getElem? (i := 161) (by decide +kernel), List.mem_of_getElem? (i := 599) (by decide +kernel), List.mem_of_getElem? (i := 600) (by decide +kernel)⟩
theorem lw_p21 : lw_okq (⟨"FoldedStrip", "wholeThickness", "()I"⟩, 9) := ⟨⟨by decide +kernel, by decide +kernel⟩, List.mem_of_getElem? (i := 16) (by decide +kernel), List.mem_of_getElem? (i := 637) (by decide +kernel), List.mem_of_getElem? (i := 638) (by decide +kernel)⟩
theorem lw_p22 : lw_okq (⟨"FoldedStrip", "contentLeaves", "()I"⟩, 9) := ⟨⟨by decide +kernel, by decide +kernel⟩, List.mem_of_getElem? (i := 16) (by decide +kernel), List.mem_of_getElem? (i := 641) (by decide +kernel), List.mem_of_getElem? (i := 642) (by decide +kernel)⟩
theorem lw_p23 : lw_okq (⟨"FoldedStrip", "possibleMoves", "()I"⟩, 9) := ⟨⟨by decide +kernel, by decide +kernel⟩, List.mem_of_getElem? (i := 16) (by decide +kernel), List.mem_of_getElem? (i := 645) (by decide +kernel), List.mem_of_getElem? (i := 646) (by decide +kernel)⟩
theorem lw_p24 : lw_okq (⟨"FoldedStrip", "withOrders", "(J)J"⟩, 9) := ⟨⟨by decide +kernel, by decide +kernel⟩, List.mem_of_getElem? (i := 16) (by decide +kernel), List.mem_of_getElem? (i := 658) (by decide +kernel), List.mem_of_getElem? (i := 659) (by decide +kernel)⟩
theorem lw_p25 : lw_okq (⟨"FoldedStripModel", "faultOf", "()I"⟩, 26) := ⟨⟨by decide +kernel, by decide +kernel⟩, List.mem_of_getElem? (i := 667) (by decide +kernel), List.mem_of_getElem? (i := 768) (by decide +kernel), List.mem_of_getElem? (i := 769) (by decide +kernel)⟩
theorem lw_p26 : lw_okq (⟨"FoldedStripModel", "layOrders", "()V"⟩, 26) := ⟨⟨by decide +kernel, by decide +kernel⟩, List.mem_of_getElem? (i := 667) (by decide +kernel), List.mem_of_getElem? (i := 779) (by decide +kernel), List.mem_of_getElem? (i := 780) (by decide +kernel)⟩
theorem lw_p27 : lw_okq (⟨"FoldedStripModel", "isFolded", "([I)Z"⟩, 26) := ⟨⟨by decide +kernel, by decide +kernel⟩, List.mem_of_getElem? (i := 667) (by decide +kernel), List.mem_of_getElem? (i := 783) (by decide +kernel), List.mem_of_getElem? (i := 784) (by decide +kernel)⟩
theorem lw_p28 : lw_okq (⟨"FoldedStripModel", "layPlaces", "([I)V"⟩, 26) := ⟨⟨by decide +kernel, by decide +kernel⟩, List.mem_of_getElem? (i := 667) (by decide +kernel), List.mem_of_getElem? (i := 787) (by decide +kernel), List.mem_of_getElem? (i := 788) (by decide +kernel)⟩
theorem lw_p29 : lw_okq (⟨"FoldedStripModel", "isStepped", "()Z"⟩, 26) := ⟨⟨by decide +kernel, by decide +kernel⟩, List.mem_of_getElem? (i := 667) (by decide +kernel), List.mem_of_getElem? (i := 797) (by decide +kernel), List.mem_of_getElem? (i := 798) (by decide +kernel)⟩
theorem lw_p30 : lw_okq (⟨"FoldedStripModel", "trade", "(II)V"⟩, 26) := ⟨⟨by decide +kernel, by decide +kernel⟩, List.mem_of_getElem? (i := 667) (by decide +kernel), List.mem_of_getElem? (i := 801) (by decide +kernel), List.mem_of_getElem? (i := 802) (by decide +kernel)⟩
theorem lw_p31 : lw_okq (⟨"FoldedStripModel", "isOrder", "(I)Z"⟩, 26) := ⟨⟨by decide +kernel, by decide +kernel⟩, List.mem_of_getElem? (i := 667) (by decide +kernel), List.mem_of_getElem? (i := 809) (by decide +kernel), List.mem_of_getElem? (i := 810) (by decide +kernel)⟩
def lw_privs_2 : List (MethodName × Nat) := [(⟨"FoldedStrip$Paths", "spread", "(II)I"⟩, 8), (⟨"FoldedStrip", "farthest", "()I"⟩, 9), (⟨"FoldedStrip", "home", "()I"⟩, 9), (⟨"FoldedStrip$Needle", "isPossible", "(I)Z"⟩, 3), (⟨"FoldedStrip$Needle", "countThrough", "()I"⟩, 3), (⟨"FoldedStrip", "wholeThickness", "()I"⟩, 9), (⟨"FoldedStrip", "contentLeaves", "()I"⟩, 9), (⟨"FoldedStrip", "possibleMoves", "()I"⟩, 9), (⟨"FoldedStrip", "withOrders", "(J)J"⟩, 9), (⟨"FoldedStripModel", "faultOf", "()I"⟩, 26), (⟨"FoldedStripModel", "layOrders", "()V"⟩, 26), (⟨"FoldedStripModel", "isFolded", "([I)Z"⟩, 26), (⟨"FoldedStripModel", "layPlaces", "([I)V"⟩, 26), (⟨"FoldedStripModel", "isStepped", "()Z"⟩, 26), (⟨"FoldedStripModel", "trade", "(II)V"⟩, 26), (⟨"FoldedStripModel", "isOrder", "(I)Z"⟩, 26)]
theorem lw_r2 : ∀ q ∈ lw_privs_2, lw_okq q := List.forall_mem_cons.mpr ⟨lw_p16, List.forall_mem_cons.mpr ⟨lw_p17, List.forall_mem_cons.mpr ⟨lw_p18, List.forall_mem_cons.mpr ⟨lw_p19, List.forall_mem_cons.mpr ⟨lw_p20, List.forall_mem_cons.mpr ⟨lw_p21, List.forall_mem_cons.mpr ⟨lw_p22, List.forall_mem_cons.mpr ⟨lw_p23, List.forall_mem_cons.mpr ⟨lw_p24, List.forall_mem_cons.mpr ⟨lw_p25, List.forall_mem_cons.mpr ⟨lw_p26, List.forall_mem_cons.mpr ⟨lw_p27, List.forall_mem_cons.mpr ⟨lw_p28, List.forall_mem_cons.mpr ⟨lw_p29, List.forall_mem_cons.mpr ⟨lw_p30, List.forall_mem_cons.mpr ⟨lw_p31, fun _ h => absurd h List.not_mem_nil⟩⟩⟩⟩⟩⟩⟩⟩⟩⟩⟩⟩⟩⟩⟩⟩
theorem lw_p32 : lw_okq (⟨"FoldedStripModel", "lacks", "()Z"⟩, 26) := ⟨⟨by decide +kernel, by decide +kernel⟩, List.mem_of_getElem? (i := 667) (by decide +kernel), List.mem_of_getElem? (i := 813) (by decide +kernel), List.mem_of_getElem? (i := 814) (by decide +kernel)⟩
theorem lw_p33 : lw_okq (⟨"FoldedStripModel", "nearOf", "(I)I"⟩, 26) := ⟨⟨by decide +kernel, by decide +kernel⟩, List.mem_of_getElem? (i := 667) (by decide +kernel), List.mem_of_getElem? (i := 817) (by decide +kernel), List.mem_of_getElem? (i := 818) (by decide +kernel)⟩
theorem lw_p34 : lw_okq (⟨"FoldedStripModel", "layFar", "()V"⟩, 26) := ⟨⟨by decide +kernel, by decide +kernel⟩, List.mem_of_getElem? (i := 667) (by decide +kernel), List.mem_of_getElem? (i := 821) (by decide +kernel), List.mem_of_getElem? (i := 822) (by decide +kernel)⟩
theorem lw_p35 : lw_okq (⟨"FoldedStripModel", "orderNow", "()I"⟩, 26) := ⟨⟨by decide +kernel, by decide +kernel⟩, List.mem_of_getElem? (i := 667) (by decide +kernel), List.mem_of_getElem? (i := 825) (by decide +kernel), List.mem_of_getElem? (i := 826) (by decide +kernel)⟩
theorem lw_p36 : lw_okq (⟨"FoldedStripModel", "orderOf", "(I)I"⟩, 26) := ⟨⟨by decide +kernel, by decide +kernel⟩, List.mem_of_getElem? (i := 667) (by decide +kernel), List.mem_of_getElem? (i := 829) (by decide +kernel), List.mem_of_getElem? (i := 830) (by decide +kernel)⟩
theorem lw_p37 : lw_okq (⟨"FoldedStripModel", "layRow", "(I[I)V"⟩, 26) := ⟨⟨by decide +kernel, by decide +kernel⟩, List.mem_of_getElem? (i := 667) (by decide +kernel), List.mem_of_getElem? (i := 833) (by decide +kernel), List.mem_of_getElem? (i := 834) (by decide +kernel)⟩
theorem lw_p38 : lw_okq (⟨"FoldedStripModel", "codeBy", "([III)I"⟩, 26) := ⟨⟨by decide +kernel, by decide +kernel⟩, List.mem_of_getElem? (i := 667) (by decide +kernel), List.mem_of_getElem? (i := 837) (by decide +kernel), List.mem_of_getElem? (i := 838) (by decide +kernel)⟩
theorem lw_p39 : lw_okq (⟨"FoldedStripModel", "farthestOf", "(I)I"⟩, 26) := ⟨⟨by decide +kernel, by decide +kernel⟩, List.mem_of_getElem? (i := 667) (by decide +kernel), List.mem_of_getElem? (i := 855) (by decide +kernel), List.mem_of_getElem? (i := 856) (by decide +kernel)⟩
theorem lw_p40 : lw_okq (⟨"FoldedStripModel", "homeOf", "(I)I"⟩, 26) := ⟨⟨by decide +kernel, by decide +kernel⟩, List.mem_of_getElem? (i := 667) (by decide +kernel), List.mem_of_getElem? (i := 859) (by decide +kernel), List.mem_of_getElem? (i := 860) (by decide +kernel)⟩
theorem lw_p41 : lw_okq (⟨"FoldedStripModel", "isFitOrder", "(I)Z"⟩, 26) := ⟨⟨by decide +kernel, by decide +kernel⟩, List.mem_of_getElem? (i := 667) (by decide +kernel), List.mem_of_getElem? (i := 863) (by decide +kernel), List.mem_of_getElem? (i := 864) (by decide +kernel)⟩
theorem lw_p42 : lw_okq (⟨"FoldedStripModel", "isFit", "([I)Z"⟩, 26) := ⟨⟨by decide +kernel, by decide +kernel⟩, List.mem_of_getElem? (i := 667) (by decide +kernel), List.mem_of_getElem? (i := 867) (by decide +kernel), List.mem_of_getElem? (i := 868) (by decide +kernel)⟩
theorem lw_p43 : lw_okq (⟨"FoldedStripModel", "rightMany", "([I)I"⟩, 26) := ⟨⟨by decide +kernel, by decide +kernel⟩, List.mem_of_getElem? (i := 667) (by decide +kernel), List.mem_of_getElem? (i := 871) (by decide +kernel), List.mem_of_getElem? (i := 872) (by decide +kernel)⟩
theorem lw_p44 : lw_okq (⟨"FoldedStripModel", "isRight", "([II)Z"⟩, 26) := ⟨⟨by decide +kernel, by decide +kernel⟩, List.mem_of_getElem? (i := 667) (by decide +kernel), List.mem_of_getElem? (i := 875) (by decide +kernel), List.mem_of_getElem? (i := 876) (by decide +kernel)⟩
theorem lw_p45 : lw_okq (⟨"FoldedStripModel", "isSticky", "(I)Z"⟩, 26) := ⟨⟨by decide +kernel, by decide +kernel⟩, List.mem_of_getElem? (i := 667) (by decide +kernel), List.mem_of_getElem? (i := 879) (by decide +kernel), List.mem_of_getElem? (i := 880) (by decide +kernel)⟩
theorem lw_p46 : lw_okq (⟨"FoldedStripModel", "trimOf", "(I)I"⟩, 26) := ⟨⟨by decide +kernel, by decide +kernel⟩, List.mem_of_getElem? (i := 667) (by decide +kernel), List.mem_of_getElem? (i := 887) (by decide +kernel), List.mem_of_getElem? (i := 888) (by decide +kernel)⟩
theorem lw_p47 : lw_okq (⟨"FoldedStripModel", "widest", "([I)I"⟩, 26) := ⟨⟨by decide +kernel, by decide +kernel⟩, List.mem_of_getElem? (i := 667) (by decide +kernel), List.mem_of_getElem? (i := 891) (by decide +kernel), List.mem_of_getElem? (i := 892) (by decide +kernel)⟩
def lw_privs_3 : List (MethodName × Nat) := [(⟨"FoldedStripModel", "lacks", "()Z"⟩, 26), (⟨"FoldedStripModel", "nearOf", "(I)I"⟩, 26), (⟨"FoldedStripModel", "layFar", "()V"⟩, 26), (⟨"FoldedStripModel", "orderNow", "()I"⟩, 26), (⟨"FoldedStripModel", "orderOf", "(I)I"⟩, 26), (⟨"FoldedStripModel", "layRow", "(I[I)V"⟩, 26), (⟨"FoldedStripModel", "codeBy", "([III)I"⟩, 26), (⟨"FoldedStripModel", "farthestOf", "(I)I"⟩, 26), (⟨"FoldedStripModel", "homeOf", "(I)I"⟩, 26), (⟨"FoldedStripModel", "isFitOrder", "(I)Z"⟩, 26), (⟨"FoldedStripModel", "isFit", "([I)Z"⟩, 26), (⟨"FoldedStripModel", "rightMany", "([I)I"⟩, 26), (⟨"FoldedStripModel", "isRight", "([II)Z"⟩, 26), (⟨"FoldedStripModel", "isSticky", "(I)Z"⟩, 26), (⟨"FoldedStripModel", "trimOf", "(I)I"⟩, 26), (⟨"FoldedStripModel", "widest", "([I)I"⟩, 26)]
theorem lw_r3 : ∀ q ∈ lw_privs_3, lw_okq q := List.forall_mem_cons.mpr ⟨lw_p32, List.forall_mem_cons.mpr ⟨lw_p33, List.forall_mem_cons.mpr ⟨lw_p34, List.forall_mem_cons.mpr ⟨lw_p35, List.forall_mem_cons.mpr ⟨lw_p36, List.forall_mem_cons.mpr ⟨lw_p37, List.forall_mem_cons.mpr ⟨lw_p38, List.forall_mem_cons.mpr ⟨lw_p39, List.forall_mem_cons.mpr ⟨lw_p40, List.forall_mem_cons.mpr ⟨lw_p41, List.forall_mem_cons.mpr ⟨lw_p42, List.forall_mem_cons.mpr ⟨lw_p43, List.forall_mem_cons.mpr ⟨lw_p44, List.forall_mem_cons.mpr ⟨lw_p45, List.forall_mem_cons.mpr ⟨lw_p46, List.forall_mem_cons.mpr ⟨lw_p47, fun _ h => absurd h List.not_mem_nil⟩⟩⟩⟩⟩⟩⟩⟩⟩⟩⟩⟩⟩⟩⟩⟩
theorem lw_p48 : lw_okq (⟨"FoldedStripModel", "wideOf", "([II)I"⟩, 26) := ⟨⟨by decide +kernel, by decide +kernel⟩, List.mem_of_getElem? (i := 667) (by decide +kernel), List.mem_of_getElem? (i := 895) (by decide +kernel), List.mem_of_getElem? (i := 896) (by decide +kernel)⟩
theorem lw_p49 : lw_okq (⟨"FoldedStripModel", "thick", "(I)I"⟩, 26) := ⟨⟨by decide +kernel, by decide +kernel⟩, List.mem_of_getElem? (i := 667) (by decide +kernel), List.mem_of_getElem? (i := 899) (by decide +kernel), List.mem_of_getElem? (i := 900) (by decide +kernel)⟩
theorem lw_p50 : lw_okq (⟨"FoldedStripModel", "isLeaf", "(I)Z"⟩, 26) := ⟨⟨by decide +kernel, by decide +kernel⟩, List.mem_of_getElem? (i := 667) (by decide +kernel), List.mem_of_getElem? (i := 907) (by decide +kernel), List.mem_of_getElem? (i := 908) (by decide +kernel)⟩
theorem lw_p51 : lw_okq (⟨"FoldedStripModel", "oddsOf", "(III)I"⟩, 26) := ⟨⟨by decide +kernel, by decide +kernel⟩, List.mem_of_getElem? (i := 667) (by decide +kernel), List.mem_of_getElem? (i := 911) (by decide +kernel), List.mem_of_getElem? (i := 912) (by decide +kernel)⟩
theorem lw_p52 : lw_okq (⟨"FoldedStripModel", "tellLeaf", "(II)I"⟩, 26) := ⟨⟨by decide +kernel, by decide +kernel⟩, List.mem_of_getElem? (i := 667) (by decide +kernel), List.mem_of_getElem? (i := 919) (by decide +kernel), List.mem_of_getElem? (i := 920) (by decide +kernel)⟩
theorem lw_p53 : lw_okq (⟨"FoldedStripModel", "ordersOf", "(I)I"⟩, 26) := ⟨⟨by decide +kernel, by decide +kernel⟩, List.mem_of_getElem? (i := 667) (by decide +kernel), List.mem_of_getElem? (i := 944) (by decide +kernel), List.mem_of_getElem? (i := 945) (by decide +kernel)⟩
theorem lw_p54 : lw_okq (⟨"FoldedStripModel", "fitMany", "()I"⟩, 26) := ⟨⟨by decide +kernel, by decide +kernel⟩, List.mem_of_getElem? (i := 667) (by decide +kernel), List.mem_of_getElem? (i := 948) (by decide +kernel), List.mem_of_getElem? (i := 949) (by decide +kernel)⟩
theorem lw_p55 : lw_okq (⟨"FoldedStripModel", "tellOrder", "(II)I"⟩, 26) := ⟨⟨by decide +kernel, by decide +kernel⟩, List.mem_of_getElem? (i := 667) (by decide +kernel), List.mem_of_getElem? (i := 958) (by decide +kernel), List.mem_of_getElem? (i := 959) (by decide +kernel)⟩
theorem lw_p56 : lw_okq (⟨"FoldedStripModel", "topsOf", "(II)I"⟩, 26) := ⟨⟨by decide +kernel, by decide +kernel⟩, List.mem_of_getElem? (i := 667) (by decide +kernel), List.mem_of_getElem? (i := 966) (by decide +kernel), List.mem_of_getElem? (i := 967) (by decide +kernel)⟩
theorem lw_p57 : lw_okq (⟨"FoldedStripModel", "widerMany", "([I)I"⟩, 26) := ⟨⟨by decide +kernel, by decide +kernel⟩, List.mem_of_getElem? (i := 667) (by decide +kernel), List.mem_of_getElem? (i := 974) (by decide +kernel), List.mem_of_getElem? (i := 975) (by decide +kernel)⟩
theorem lw_p58 : lw_okq (⟨"FoldedStripModel", "couldOf", "()I"⟩, 26) := ⟨⟨by decide +kernel, by decide +kernel⟩, List.mem_of_getElem? (i := 667) (by decide +kernel), List.mem_of_getElem? (i := 1002) (by decide +kernel), List.mem_of_getElem? (i := 1003) (by decide +kernel)⟩
theorem lw_p59 : lw_okq (⟨"FoldedStripModel", "isLikely", "(I)Z"⟩, 26) := ⟨⟨by decide +kernel, by decide +kernel⟩, List.mem_of_getElem? (i := 667) (by decide +kernel), List.mem_of_getElem? (i := 1006) (by decide +kernel), List.mem_of_getElem? (i := 1007) (by decide +kernel)⟩
theorem lw_p60 : lw_okq (⟨"FoldedStripModel", "trialOf", "()I"⟩, 26) := ⟨⟨by decide +kernel, by decide +kernel⟩, List.mem_of_getElem? (i := 667) (by decide +kernel), List.mem_of_getElem? (i := 1014) (by decide +kernel), List.mem_of_getElem? (i := 1015) (by decide +kernel)⟩
theorem lw_p61 : lw_okq (⟨"FoldedStripModel", "worstBy", "(III)I"⟩, 26) := ⟨⟨by decide +kernel, by decide +kernel⟩, List.mem_of_getElem? (i := 667) (by decide +kernel), List.mem_of_getElem? (i := 1018) (by decide +kernel), List.mem_of_getElem? (i := 1019) (by decide +kernel)⟩
theorem lw_p62 : lw_okq (⟨"FoldedStripModel", "draw", "(I)I"⟩, 26) := ⟨⟨by decide +kernel, by decide +kernel⟩, List.mem_of_getElem? (i := 667) (by decide +kernel), List.mem_of_getElem? (i := 1028) (by decide +kernel), List.mem_of_getElem? (i := 1029) (by decide +kernel)⟩
theorem lw_p63 : lw_okq (⟨"FoldedStripModel", "countOf", "(I)I"⟩, 26) := ⟨⟨by decide +kernel, by decide +kernel⟩, List.mem_of_getElem? (i := 667) (by decide +kernel), List.mem_of_getElem? (i := 1048) (by decide +kernel), List.mem_of_getElem? (i := 1049) (by decide +kernel)⟩
def lw_privs_4 : List (MethodName × Nat) := [(⟨"FoldedStripModel", "wideOf", "([II)I"⟩, 26), (⟨"FoldedStripModel", "thick", "(I)I"⟩, 26), (⟨"FoldedStripModel", "isLeaf", "(I)Z"⟩, 26), (⟨"FoldedStripModel", "oddsOf", "(III)I"⟩, 26), (⟨"FoldedStripModel", "tellLeaf", "(II)I"⟩, 26), (⟨"FoldedStripModel", "ordersOf", "(I)I"⟩, 26), (⟨"FoldedStripModel", "fitMany", "()I"⟩, 26), (⟨"FoldedStripModel", "tellOrder", "(II)I"⟩, 26), (⟨"FoldedStripModel", "topsOf", "(II)I"⟩, 26), (⟨"FoldedStripModel", "widerMany", "([I)I"⟩, 26), (⟨"FoldedStripModel", "couldOf", "()I"⟩, 26), (⟨"FoldedStripModel", "isLikely", "(I)Z"⟩, 26), (⟨"FoldedStripModel", "trialOf", "()I"⟩, 26), (⟨"FoldedStripModel", "worstBy", "(III)I"⟩, 26), (⟨"FoldedStripModel", "draw", "(I)I"⟩, 26), (⟨"FoldedStripModel", "countOf", "(I)I"⟩, 26)]
theorem lw_r4 : ∀ q ∈ lw_privs_4, lw_okq q := List.forall_mem_cons.mpr ⟨lw_p48, List.forall_mem_cons.mpr ⟨lw_p49, List.forall_mem_cons.mpr ⟨lw_p50, List.forall_mem_cons.mpr ⟨lw_p51, List.forall_mem_cons.mpr ⟨lw_p52, List.forall_mem_cons.mpr ⟨lw_p53, List.forall_mem_cons.mpr ⟨lw_p54, List.forall_mem_cons.mpr ⟨lw_p55, List.forall_mem_cons.mpr ⟨lw_p56, List.forall_mem_cons.mpr ⟨lw_p57, List.forall_mem_cons.mpr ⟨lw_p58, List.forall_mem_cons.mpr ⟨lw_p59, List.forall_mem_cons.mpr ⟨lw_p60, List.forall_mem_cons.mpr ⟨lw_p61, List.forall_mem_cons.mpr ⟨lw_p62, List.forall_mem_cons.mpr ⟨lw_p63, fun _ h => absurd h List.not_mem_nil⟩⟩⟩⟩⟩⟩⟩⟩⟩⟩⟩⟩⟩⟩⟩⟩
theorem lw_p64 : lw_okq (⟨"FoldedStripModel", "thickAll", "()I"⟩, 26) := ⟨⟨by decide +kernel, by decide +kernel⟩, List.mem_of_getElem? (i := 667) (by decide +kernel), List.mem_of_getElem? (i := 1052) (by decide +kernel), List.mem_of_getElem? (i := 1053) (by decide +kernel)⟩
theorem lw_p65 : lw_okq (⟨"FoldedStripModel", "movesNow", "()I"⟩, 26) := ⟨⟨by decide +kernel, by decide +kernel⟩, List.mem_of_getElem? (i := 667) (by decide +kernel), List.mem_of_getElem? (i := 1056) (by decide +kernel), List.mem_of_getElem? (i := 1057) (by decide +kernel)⟩
theorem lw_p66 : lw_okq (⟨"FoldedStripModel", "say", "(J)V"⟩, 26) := ⟨⟨by decide +kernel, by decide +kernel⟩, List.mem_of_getElem? (i := 667) (by decide +kernel), List.mem_of_getElem? (i := 1065) (by decide +kernel), List.mem_of_getElem? (i := 1066) (by decide +kernel)⟩
theorem lw_p67 : lw_okq (⟨"FoldedStripModel", "sayStrip", "()V"⟩, 26) := ⟨⟨by decide +kernel, by decide +kernel⟩, List.mem_of_getElem? (i := 667) (by decide +kernel), List.mem_of_getElem? (i := 1070) (by decide +kernel), List.mem_of_getElem? (i := 1071) (by decide +kernel)⟩
def lw_privs_5 : List (MethodName × Nat) := [(⟨"FoldedStripModel", "thickAll", "()I"⟩, 26), (⟨"FoldedStripModel", "movesNow", "()I"⟩, 26), (⟨"FoldedStripModel", "say", "(J)V"⟩, 26), (⟨"FoldedStripModel", "sayStrip", "()V"⟩, 26)]
theorem lw_r5 : ∀ q ∈ lw_privs_5, lw_okq q := List.forall_mem_cons.mpr ⟨lw_p64, List.forall_mem_cons.mpr ⟨lw_p65, List.forall_mem_cons.mpr ⟨lw_p66, List.forall_mem_cons.mpr ⟨lw_p67, fun _ h => absurd h List.not_mem_nil⟩⟩⟩⟩
def lw_privs : List (MethodName × Nat) := lw_privs_1 ++ (lw_privs_2 ++ (lw_privs_3 ++ (lw_privs_4 ++ (lw_privs_5))))
def lw_tbl : List Cond := k2_sels lw_privs ++ tables_1
theorem lw_privs_ok : ∀ q ∈ lw_privs, lw_okq q := by
  show ∀ q ∈ lw_privs_1 ++ (lw_privs_2 ++ (lw_privs_3 ++ (lw_privs_4 ++ (lw_privs_5)))), lw_okq q
  exact List.forall_mem_append.mpr ⟨lw_r1, List.forall_mem_append.mpr ⟨lw_r2, List.forall_mem_append.mpr ⟨lw_r3, List.forall_mem_append.mpr ⟨lw_r4, lw_r5⟩⟩⟩⟩
-- ===== end of PART A; then your names; then what follows =====
end
section
def RX0 : String := "FoldedStrip$Folds"
def TX0 : u_T := fun k => match k with
  | 0 => ("FoldedStrip$Folds", "leaves", "I", false)
  | 1 => ("FoldedStrip$Folds", "size", "I", false)
  | 2 => ("FoldedStrip$Folds", "leafCodes", "[I", true)
  | 3 => ("FoldedStrip$Folds", "placeCodes", "[I", true)
  | _ => ("FoldedStrip$Folds", "placeNow", "[I", true)
def tyX0 : Nat → FieldType := fun k => match k with
  | 0 => .int
  | 1 => .int
  | 2 => .array .int
  | 3 => .array .int
  | _ => .array .int
abbrev wsX00 : List Cond := u_ws RX0 TX0 5
theorem nmX0 : ∀ a, a < 5 → ∀ b, b < 5 → a ≠ b → (TX0 a).2.1 ≠ (TX0 b).2.1 := by decide +kernel
theorem tyX0_ok : ∀ k, k < 5 → parseFieldDescriptor (TX0 k).2.2.1 = some (tyX0 k) := by decide +kernel
abbrev cX0_init : ByteArray := prog_2_method_1_code
def yX0_init : MethodName := ⟨RX0, "<init>", "()V"⟩
abbrev cX0_foldAll : ByteArray := prog_2_method_2_code
def yX0_foldAll : MethodName := ⟨RX0, "foldAll", "(I)V"⟩
abbrev cX0_leafAt : ByteArray := prog_2_method_3_code
def yX0_leafAt : MethodName := ⟨RX0, "leafAt", "(II)I"⟩
abbrev cX0_placeOf : ByteArray := prog_2_method_4_code
def yX0_placeOf : MethodName := ⟨RX0, "placeOf", "(II)I"⟩
abbrev cX0_afterMove : ByteArray := prog_2_method_5_code
def yX0_afterMove : MethodName := ⟨RX0, "afterMove", "(III)I"⟩
abbrev cX0_afterTurn : ByteArray := prog_2_method_6_code
def yX0_afterTurn : MethodName := ⟨RX0, "afterTurn", "(I)I"⟩
abbrev cX0_addBelow : ByteArray := prog_2_method_7_code
def yX0_addBelow : MethodName := ⟨RX0, "addBelow", "(LFoldedStrip$Folds;II)V"⟩
abbrev cX0_canComeNext : ByteArray := prog_2_method_8_code
def yX0_canComeNext : MethodName := ⟨RX0, "canComeNext", "(I)Z"⟩
abbrev cX0_keep : ByteArray := prog_2_method_9_code
def yX0_keep : MethodName := ⟨RX0, "keep", "(I)V"⟩
abbrev cX0_crossesAbove : ByteArray := prog_2_method_10_code
def yX0_crossesAbove : MethodName := ⟨RX0, "crossesAbove", "(II)Z"⟩
abbrev cX0_mateOf : ByteArray := prog_2_method_11_code
def yX0_mateOf : MethodName := ⟨RX0, "mateOf", "(II)I"⟩
abbrev cX0_find : ByteArray := prog_2_method_12_code
def yX0_find : MethodName := ⟨RX0, "find", "(I)I"⟩
abbrev cX0_shiftOf : ByteArray := prog_2_method_13_code
def yX0_shiftOf : MethodName := ⟨RX0, "shiftOf", "(I)I"⟩
abbrev cX0_leafIn : ByteArray := prog_2_method_14_code
def yX0_leafIn : MethodName := ⟨RX0, "leafIn", "(II)I"⟩
abbrev cX0_takeOut : ByteArray := prog_2_method_15_code
def yX0_takeOut : MethodName := ⟨RX0, "takeOut", "(II)I"⟩
abbrev cX0_putIn : ByteArray := prog_2_method_16_code
def yX0_putIn : MethodName := ⟨RX0, "putIn", "(III)I"⟩
abbrev cX0_upTo : ByteArray := prog_2_method_17_code
def yX0_upTo : MethodName := ⟨RX0, "upTo", "(II)I"⟩
def RX1 : String := "FoldedStrip$Needle"
def TX1 : u_T := fun k => match k with
  | 0 => ("FoldedStrip$Needle", "folds", "LFoldedStrip$Folds;", true)
  | 1 => ("FoldedStrip$Needle", "pile", "LFoldedStrip$Pile;", true)
  | _ => ("FoldedStrip$Needle", "through", "[I", true)
def tyX1 : Nat → FieldType := fun k => match k with
  | 0 => .object "FoldedStrip$Folds"
  | 1 => .object "FoldedStrip$Pile"
  | _ => .array .int
abbrev wsX10 : List Cond := u_ws RX1 TX1 3
theorem nmX1 : ∀ a, a < 3 → ∀ b, b < 3 → a ≠ b → (TX1 a).2.1 ≠ (TX1 b).2.1 := by decide +kernel
theorem tyX1_ok : ∀ k, k < 3 → parseFieldDescriptor (TX1 k).2.2.1 = some (tyX1 k) := by decide +kernel
abbrev cX1_init : ByteArray := prog_3_method_1_code
def yX1_init : MethodName := ⟨RX1, "<init>", "(LFoldedStrip$Folds;LFoldedStrip$Pile;)V"⟩
abbrev cX1_countPossible : ByteArray := prog_3_method_2_code
def yX1_countPossible : MethodName := ⟨RX1, "countPossible", "()I"⟩
abbrev cX1_bestTry : ByteArray := prog_3_method_3_code
def yX1_bestTry : MethodName := ⟨RX1, "bestTry", "()I"⟩
abbrev cX1_countThrough : ByteArray := prog_3_method_4_code
def yX1_countThrough : MethodName := ⟨RX1, "countThrough", "()I"⟩
abbrev cX1_isPossible : ByteArray := prog_3_method_5_code
def yX1_isPossible : MethodName := ⟨RX1, "isPossible", "(I)Z"⟩
abbrev cX1_rowOf : ByteArray := prog_3_method_6_code
def yX1_rowOf : MethodName := ⟨RX1, "rowOf", "(I)I"⟩
def RX2 : String := "FoldedStrip$Page"
def TX2 : u_T := fun k => match k with
  | 0 => ("FoldedStrip$Page", "codes", "[I", true)
  | _ => ("FoldedStrip$Page", "size", "I", false)
def tyX2 : Nat → FieldType := fun k => match k with
  | 0 => .array .int
  | _ => .int
abbrev wsX20 : List Cond := u_ws RX2 TX2 2
theorem nmX2 : ∀ a, a < 2 → ∀ b, b < 2 → a ≠ b → (TX2 a).2.1 ≠ (TX2 b).2.1 := by decide +kernel
theorem tyX2_ok : ∀ k, k < 2 → parseFieldDescriptor (TX2 k).2.2.1 = some (tyX2 k) := by decide +kernel
abbrev cX2_init : ByteArray := prog_4_method_1_code
def yX2_init : MethodName := ⟨RX2, "<init>", "()V"⟩
abbrev cX2_add : ByteArray := prog_4_method_2_code
def yX2_add : MethodName := ⟨RX2, "add", "(I)V"⟩
abbrev cX2_kindAt : ByteArray := prog_4_method_3_code
def yX2_kindAt : MethodName := ⟨RX2, "kindAt", "(I)I"⟩
abbrev cX2_firstWrong : ByteArray := prog_4_method_4_code
def yX2_firstWrong : MethodName := ⟨RX2, "firstWrong", "()I"⟩
def RX3 : String := "FoldedStrip$Paths"
def TX3 : u_T := fun k => match k with
  | 0 => ("FoldedStrip$Paths", "folds", "LFoldedStrip$Folds;", true)
  | 1 => ("FoldedStrip$Paths", "leaves", "I", false)
  | 2 => ("FoldedStrip$Paths", "start", "I", false)
  | 3 => ("FoldedStrip$Paths", "steps", "I", false)
  | 4 => ("FoldedStrip$Paths", "firstStep", "[I", true)
  | 5 => ("FoldedStrip$Paths", "stepTo", "[I", true)
  | 6 => ("FoldedStrip$Paths", "distances", "[I", true)
  | _ => ("FoldedStrip$Paths", "queue", "[I", true)
def tyX3 : Nat → FieldType := fun k => match k with
  | 0 => .object "FoldedStrip$Folds"
  | 1 => .int
  | 2 => .int
  | 3 => .int
  | 4 => .array .int
  | 5 => .array .int
  | 6 => .array .int
  | _ => .array .int
abbrev wsX30 : List Cond := u_ws RX3 TX3 8
theorem nmX3 : ∀ a, a < 8 → ∀ b, b < 8 → a ≠ b → (TX3 a).2.1 ≠ (TX3 b).2.1 := by decide +kernel
theorem tyX3_ok : ∀ k, k < 8 → parseFieldDescriptor (TX3 k).2.2.1 = some (tyX3 k) := by decide +kernel
abbrev cX3_init : ByteArray := prog_5_method_1_code
def yX3_init : MethodName := ⟨RX3, "<init>", "(LFoldedStrip$Folds;)V"⟩
abbrev cX3_distanceTo : ByteArray := prog_5_method_2_code
def yX3_distanceTo : MethodName := ⟨RX3, "distanceTo", "(I)I"⟩
abbrev cX3_measureFrom : ByteArray := prog_5_method_3_code
def yX3_measureFrom : MethodName := ⟨RX3, "measureFrom", "(I)V"⟩
abbrev cX3_spread : ByteArray := prog_5_method_4_code
def yX3_spread : MethodName := ⟨RX3, "spread", "(II)I"⟩
abbrev cX3_findSteps : ByteArray := prog_5_method_5_code
def yX3_findSteps : MethodName := ⟨RX3, "findSteps", "()V"⟩
abbrev cX3_findStepsFrom : ByteArray := prog_5_method_6_code
def yX3_findStepsFrom : MethodName := ⟨RX3, "findStepsFrom", "(I)V"⟩
abbrev cX3_addStep : ByteArray := prog_5_method_7_code
def yX3_addStep : MethodName := ⟨RX3, "addStep", "(I)V"⟩
def RX4 : String := "FoldedStrip$Pile"
def TX4 : u_T := fun k => match k with
  | 0 => ("FoldedStrip$Pile", "kinds", "[I", true)
  | 1 => ("FoldedStrip$Pile", "order", "I", false)
  | 2 => ("FoldedStrip$Pile", "moves", "I", false)
  | 3 => ("FoldedStrip$Pile", "seen", "I", false)
  | 4 => ("FoldedStrip$Pile", "seenLeaf", "[I", true)
  | 5 => ("FoldedStrip$Pile", "seenDeep", "[I", true)
  | _ => ("FoldedStrip$Pile", "seenThrough", "[Z", true)
def tyX4 : Nat → FieldType := fun k => match k with
  | 0 => .array .int
  | 1 => .int
  | 2 => .int
  | 3 => .int
  | 4 => .array .int
  | 5 => .array .int
  | _ => .array .boolean
abbrev wsX40 : List Cond := u_ws RX4 TX4 7
theorem nmX4 : ∀ a, a < 7 → ∀ b, b < 7 → a ≠ b → (TX4 a).2.1 ≠ (TX4 b).2.1 := by decide +kernel
theorem tyX4_ok : ∀ k, k < 7 → parseFieldDescriptor (TX4 k).2.2.1 = some (tyX4 k) := by decide +kernel
abbrev cX4_init : ByteArray := prog_6_method_1_code
def yX4_init : MethodName := ⟨RX4, "<init>", "()V"⟩
abbrev cX4_addSeen : ByteArray := prog_6_method_2_code
def yX4_addSeen : MethodName := ⟨RX4, "addSeen", "(IIZ)V"⟩
abbrev cX4_copyFrom : ByteArray := prog_6_method_3_code
def yX4_copyFrom : MethodName := ⟨RX4, "copyFrom", "(LFoldedStrip$Pile;)V"⟩
def RX5 : String := "FoldedStrip$Verdicts"
def TX5 : u_T := fun k => match k with
  | 0 => ("FoldedStrip$Verdicts", "fits", "I", false)
  | 1 => ("FoldedStrip$Verdicts", "folds", "LFoldedStrip$Folds;", true)
  | 2 => ("FoldedStrip$Verdicts", "kinds", "[I", true)
  | 3 => ("FoldedStrip$Verdicts", "fit", "[Z", true)
  | _ => ("FoldedStrip$Verdicts", "widest", "[I", true)
def tyX5 : Nat → FieldType := fun k => match k with
  | 0 => .int
  | 1 => .object "FoldedStrip$Folds"
  | 2 => .array .int
  | 3 => .array .boolean
  | _ => .array .int
abbrev wsX50 : List Cond := u_ws RX5 TX5 5
theorem nmX5 : ∀ a, a < 5 → ∀ b, b < 5 → a ≠ b → (TX5 a).2.1 ≠ (TX5 b).2.1 := by decide +kernel
theorem tyX5_ok : ∀ k, k < 5 → parseFieldDescriptor (TX5 k).2.2.1 = some (tyX5 k) := by decide +kernel
abbrev cX5_init : ByteArray := prog_7_method_1_code
def yX5_init : MethodName := ⟨RX5, "<init>", "(LFoldedStrip$Folds;[I)V"⟩
abbrev cX5_judgeAll : ByteArray := prog_7_method_2_code
def yX5_judgeAll : MethodName := ⟨RX5, "judgeAll", "()V"⟩
abbrev cX5_isFit : ByteArray := prog_7_method_3_code
def yX5_isFit : MethodName := ⟨RX5, "isFit", "(I)Z"⟩
abbrev cX5_widestOf : ByteArray := prog_7_method_4_code
def yX5_widestOf : MethodName := ⟨RX5, "widestOf", "(I)I"⟩
abbrev cX5_trimmest : ByteArray := prog_7_method_5_code
def yX5_trimmest : MethodName := ⟨RX5, "trimmest", "()I"⟩
abbrev cX5_fitsWithAbove : ByteArray := prog_7_method_6_code
def yX5_fitsWithAbove : MethodName := ⟨RX5, "fitsWithAbove", "(II)I"⟩
abbrev cX5_isContent : ByteArray := prog_7_method_7_code
def yX5_isContent : MethodName := ⟨RX5, "isContent", "(II)Z"⟩
abbrev cX5_width : ByteArray := prog_7_method_8_code
def yX5_width : MethodName := ⟨RX5, "width", "(II)I"⟩
abbrev cX5_areAllContent : ByteArray := prog_7_method_9_code
def yX5_areAllContent : MethodName := ⟨RX5, "areAllContent", "(I)Z"⟩
abbrev cX5_widestHinge : ByteArray := prog_7_method_10_code
def yX5_widestHinge : MethodName := ⟨RX5, "widestHinge", "(I)I"⟩
abbrev cX5_hasWaxAt : ByteArray := prog_7_method_11_code
def yX5_hasWaxAt : MethodName := ⟨RX5, "hasWaxAt", "(II)Z"⟩
def RX6 : String := "FoldedStrip"
def TX6 : u_T := fun k => match k with
  | 0 => ("FoldedStrip", "page", "LFoldedStrip$Page;", true)
  | 1 => ("FoldedStrip", "folds", "LFoldedStrip$Folds;", true)
  | 2 => ("FoldedStrip", "now", "LFoldedStrip$Pile;", true)
  | 3 => ("FoldedStrip", "kept", "LFoldedStrip$Pile;", true)
  | 4 => ("FoldedStrip", "verdicts", "LFoldedStrip$Verdicts;", true)
  | 5 => ("FoldedStrip", "paths", "LFoldedStrip$Paths;", true)
  | 6 => ("FoldedStrip", "needle", "LFoldedStrip$Needle;", true)
  | 7 => ("FoldedStrip", "imageKept", "Z", false)
  | _ => ("FoldedStrip", "stripsRead", "I", false)
def tyX6 : Nat → FieldType := fun k => match k with
  | 0 => .object "FoldedStrip$Page"
  | 1 => .object "FoldedStrip$Folds"
  | 2 => .object "FoldedStrip$Pile"
  | 3 => .object "FoldedStrip$Pile"
  | 4 => .object "FoldedStrip$Verdicts"
  | 5 => .object "FoldedStrip$Paths"
  | 6 => .object "FoldedStrip$Needle"
  | 7 => .boolean
  | _ => .int
abbrev wsX60 : List Cond := u_ws RX6 TX6 9
theorem nmX6 : ∀ a, a < 9 → ∀ b, b < 9 → a ≠ b → (TX6 a).2.1 ≠ (TX6 b).2.1 := by decide +kernel
theorem tyX6_ok : ∀ k, k < 9 → parseFieldDescriptor (TX6 k).2.2.1 = some (tyX6 k) := by decide +kernel
abbrev cX6_init : ByteArray := prog_1_method_1_code
def yX6_init : MethodName := ⟨RX6, "<init>", "()V"⟩
abbrev cX6_letter : ByteArray := prog_1_method_2_code
def yX6_letter : MethodName := ⟨RX6, "letter", "(I)I"⟩
abbrev cX6_blank : ByteArray := prog_1_method_3_code
def yX6_blank : MethodName := ⟨RX6, "blank", "()I"⟩
abbrev cX6_fault : ByteArray := prog_1_method_4_code
def yX6_fault : MethodName := ⟨RX6, "fault", "()I"⟩
abbrev cX6_strip : ByteArray := prog_1_method_5_code
def yX6_strip : MethodName := ⟨RX6, "strip", "()I"⟩
abbrev cX6_leaf : ByteArray := prog_1_method_6_code
def yX6_leaf : MethodName := ⟨RX6, "leaf", "(II)I"⟩
abbrev cX6_as : ByteArray := prog_1_method_7_code
def yX6_as : MethodName := ⟨RX6, "as", "(II)I"⟩
abbrev cX6_hinge : ByteArray := prog_1_method_8_code
def yX6_hinge : MethodName := ⟨RX6, "hinge", "(II)I"⟩
abbrev cX6_at : ByteArray := prog_1_method_9_code
def yX6_at : MethodName := ⟨RX6, "at", "(I)I"⟩
abbrev cX6_may : ByteArray := prog_1_method_10_code
def yX6_may : MethodName := ⟨RX6, "may", "(II)I"⟩
abbrev cX6_move : ByteArray := prog_1_method_11_code
def yX6_move : MethodName := ⟨RX6, "move", "(II)I"⟩
abbrev cX6_turn : ByteArray := prog_1_method_12_code
def yX6_turn : MethodName := ⟨RX6, "turn", "()I"⟩
abbrev cX6_lay : ByteArray := prog_1_method_13_code
def yX6_lay : MethodName := ⟨RX6, "lay", "(I)I"⟩
abbrev cX6_change : ByteArray := prog_1_method_14_code
def yX6_change : MethodName := ⟨RX6, "change", "(II)I"⟩
abbrev cX6_orders : ByteArray := prog_1_method_15_code
def yX6_orders : MethodName := ⟨RX6, "orders", "(I)I"⟩
abbrev cX6_order : ByteArray := prog_1_method_16_code
def yX6_order : MethodName := ⟨RX6, "order", "(II)I"⟩
abbrev cX6_tops : ByteArray := prog_1_method_17_code
def yX6_tops : MethodName := ⟨RX6, "tops", "(II)I"⟩
abbrev cX6_near : ByteArray := prog_1_method_18_code
def yX6_near : MethodName := ⟨RX6, "near", "(I)I"⟩
abbrev cX6_far : ByteArray := prog_1_method_19_code
def yX6_far : MethodName := ⟨RX6, "far", "(I)I"⟩
abbrev cX6_trim : ByteArray := prog_1_method_20_code
def yX6_trim : MethodName := ⟨RX6, "trim", "(I)I"⟩
abbrev cX6_odds : ByteArray := prog_1_method_21_code
def yX6_odds : MethodName := ⟨RX6, "odds", "(III)I"⟩
abbrev cX6_see : ByteArray := prog_1_method_22_code
def yX6_see : MethodName := ⟨RX6, "see", "(IIZ)I"⟩
abbrev cX6_forget : ByteArray := prog_1_method_23_code
def yX6_forget : MethodName := ⟨RX6, "forget", "()I"⟩
abbrev cX6_could : ByteArray := prog_1_method_24_code
def yX6_could : MethodName := ⟨RX6, "could", "()I"⟩
abbrev cX6_trial : ByteArray := prog_1_method_25_code
def yX6_trial : MethodName := ⟨RX6, "trial", "()I"⟩
abbrev cX6_shuffles : ByteArray := prog_1_method_26_code
def yX6_shuffles : MethodName := ⟨RX6, "shuffles", "(III)I"⟩
abbrev cX6_image : ByteArray := prog_1_method_27_code
def yX6_image : MethodName := ⟨RX6, "image", "()I"⟩
abbrev cX6_restore : ByteArray := prog_1_method_28_code
def yX6_restore : MethodName := ⟨RX6, "restore", "()I"⟩
abbrev cX6_count : ByteArray := prog_1_method_29_code
def yX6_count : MethodName := ⟨RX6, "count", "(I)I"⟩
abbrev cX6_digest : ByteArray := prog_1_method_30_code
def yX6_digest : MethodName := ⟨RX6, "digest", "()J"⟩
abbrev cX6_withOrders : ByteArray := prog_1_method_31_code
def yX6_withOrders : MethodName := ⟨RX6, "withOrders", "(J)J"⟩
abbrev cX6_isWithoutStrip : ByteArray := prog_1_method_32_code
def yX6_isWithoutStrip : MethodName := ⟨RX6, "isWithoutStrip", "()Z"⟩
abbrev cX6_isLeaf : ByteArray := prog_1_method_33_code
def yX6_isLeaf : MethodName := ⟨RX6, "isLeaf", "(I)Z"⟩
abbrev cX6_isPlace : ByteArray := prog_1_method_34_code
def yX6_isPlace : MethodName := ⟨RX6, "isPlace", "(I)Z"⟩
abbrev cX6_isOrder : ByteArray := prog_1_method_35_code
def yX6_isOrder : MethodName := ⟨RX6, "isOrder", "(I)Z"⟩
abbrev cX6_farthest : ByteArray := prog_1_method_36_code
def yX6_farthest : MethodName := ⟨RX6, "farthest", "()I"⟩
abbrev cX6_home : ByteArray := prog_1_method_37_code
def yX6_home : MethodName := ⟨RX6, "home", "()I"⟩
abbrev cX6_wholeThickness : ByteArray := prog_1_method_38_code
def yX6_wholeThickness : MethodName := ⟨RX6, "wholeThickness", "()I"⟩
abbrev cX6_openHinges : ByteArray := prog_1_method_39_code
def yX6_openHinges : MethodName := ⟨RX6, "openHinges", "()I"⟩
abbrev cX6_contentLeaves : ByteArray := prog_1_method_40_code
def yX6_contentLeaves : MethodName := ⟨RX6, "contentLeaves", "()I"⟩
abbrev cX6_possibleMoves : ByteArray := prog_1_method_41_code
def yX6_possibleMoves : MethodName := ⟨RX6, "possibleMoves", "()I"⟩
abbrev cX6_asNumber : ByteArray := prog_1_method_42_code
def yX6_asNumber : MethodName := ⟨RX6, "asNumber", "(Z)I"⟩
abbrev cX6_isKind : ByteArray := prog_1_method_43_code
def yX6_isKind : MethodName := ⟨RX6, "isKind", "(I)Z"⟩
abbrev cX6_isOfKind : ByteArray := prog_1_method_44_code
def yX6_isOfKind : MethodName := ⟨RX6, "isOfKind", "(II)Z"⟩
abbrev cX6_thickness : ByteArray := prog_1_method_45_code
def yX6_thickness : MethodName := ⟨RX6, "thickness", "(I)I"⟩
abbrev cX6_seedAfter : ByteArray := prog_1_method_46_code
def yX6_seedAfter : MethodName := ⟨RX6, "seedAfter", "(I)I"⟩
abbrev cX6_draw : ByteArray := prog_1_method_47_code
def yX6_draw : MethodName := ⟨RX6, "draw", "(II)I"⟩
abbrev cX6_commonDivisor : ByteArray := prog_1_method_48_code
def yX6_commonDivisor : MethodName := ⟨RX6, "commonDivisor", "(II)I"⟩
def RX7 : String := "FoldedStripModel"
def TX7 : u_T := fun k => match k with
  | 0 => ("FoldedStripModel", "page", "[I", true)
  | 1 => ("FoldedStripModel", "pageMany", "I", false)
  | 2 => ("FoldedStripModel", "leaves", "I", false)
  | 3 => ("FoldedStripModel", "moves", "I", false)
  | 4 => ("FoldedStripModel", "stripsRead", "I", false)
  | 5 => ("FoldedStripModel", "kinds", "[I", true)
  | 6 => ("FoldedStripModel", "lies", "[I", true)
  | 7 => ("FoldedStripModel", "orders", "[I", true)
  | 8 => ("FoldedStripModel", "orderMany", "I", false)
  | 9 => ("FoldedStripModel", "places", "[I", true)
  | 10 => ("FoldedStripModel", "tried", "[I", true)
  | 11 => ("FoldedStripModel", "shifted", "[I", true)
  | 12 => ("FoldedStripModel", "far", "[I", true)
  | 13 => ("FoldedStripModel", "queue", "[I", true)
  | 14 => ("FoldedStripModel", "queued", "I", false)
  | 15 => ("FoldedStripModel", "seenMany", "I", false)
  | 16 => ("FoldedStripModel", "sights", "[I", true)
  | 17 => ("FoldedStripModel", "seedNow", "I", false)
  | 18 => ("FoldedStripModel", "then", "[I", true)
  | 19 => ("FoldedStripModel", "keptStrip", "I", false)
  | 20 => ("FoldedStripModel", "keptMoves", "I", false)
  | 21 => ("FoldedStripModel", "keptSeen", "I", false)
  | 22 => ("FoldedStripModel", "keptKinds", "[I", true)
  | 23 => ("FoldedStripModel", "keptLies", "[I", true)
  | 24 => ("FoldedStripModel", "keptSights", "[I", true)
  | _ => ("FoldedStripModel", "hash", "J", false)
def tyX7 : Nat → FieldType := fun k => match k with
  | 0 => .array .int
  | 1 => .int
  | 2 => .int
  | 3 => .int
  | 4 => .int
  | 5 => .array .int
  | 6 => .array .int
  | 7 => .array .int
  | 8 => .int
  | 9 => .array .int
  | 10 => .array .int
  | 11 => .array .int
  | 12 => .array .int
  | 13 => .array .int
  | 14 => .int
  | 15 => .int
  | 16 => .array .int
  | 17 => .int
  | 18 => .array .int
  | 19 => .int
  | 20 => .int
  | 21 => .int
  | 22 => .array .int
  | 23 => .array .int
  | 24 => .array .int
  | _ => .long
abbrev wsX70 : List Cond := u_ws RX7 TX7 26
theorem nmX7 : ∀ a, a < 26 → ∀ b, b < 26 → a ≠ b → (TX7 a).2.1 ≠ (TX7 b).2.1 := by decide +kernel
theorem tyX7_ok : ∀ k, k < 26 → parseFieldDescriptor (TX7 k).2.2.1 = some (tyX7 k) := by decide +kernel
abbrev cX7_init : ByteArray := prog_9_method_1_code
def yX7_init : MethodName := ⟨RX7, "<init>", "()V"⟩
abbrev cX7_in : ByteArray := prog_9_method_2_code
def yX7_in : MethodName := ⟨RX7, "in", "(JJJ)Z"⟩
abbrev cX7_copy : ByteArray := prog_9_method_3_code
def yX7_copy : MethodName := ⟨RX7, "copy", "([I[I)V"⟩
abbrev cX7_letter : ByteArray := prog_9_method_4_code
def yX7_letter : MethodName := ⟨RX7, "letter", "(I)I"⟩
abbrev cX7_blank : ByteArray := prog_9_method_5_code
def yX7_blank : MethodName := ⟨RX7, "blank", "()I"⟩
abbrev cX7_kindBy : ByteArray := prog_9_method_6_code
def yX7_kindBy : MethodName := ⟨RX7, "kindBy", "(I)I"⟩
abbrev cX7_faultOf : ByteArray := prog_9_method_7_code
def yX7_faultOf : MethodName := ⟨RX7, "faultOf", "()I"⟩
abbrev cX7_fault : ByteArray := prog_9_method_8_code
def yX7_fault : MethodName := ⟨RX7, "fault", "()I"⟩
abbrev cX7_strip : ByteArray := prog_9_method_9_code
def yX7_strip : MethodName := ⟨RX7, "strip", "()I"⟩
abbrev cX7_lacks : ByteArray := prog_9_method_10_code
def yX7_lacks : MethodName := ⟨RX7, "lacks", "()Z"⟩
abbrev cX7_isLeaf : ByteArray := prog_9_method_11_code
def yX7_isLeaf : MethodName := ⟨RX7, "isLeaf", "(I)Z"⟩
abbrev cX7_codeOf : ByteArray := prog_9_method_12_code
def yX7_codeOf : MethodName := ⟨RX7, "codeOf", "([II)I"⟩
abbrev cX7_layRow : ByteArray := prog_9_method_13_code
def yX7_layRow : MethodName := ⟨RX7, "layRow", "(I[I)V"⟩
abbrev cX7_layPlaces : ByteArray := prog_9_method_14_code
def yX7_layPlaces : MethodName := ⟨RX7, "layPlaces", "([I)V"⟩
abbrev cX7_isWithin : ByteArray := prog_9_method_15_code
def yX7_isWithin : MethodName := ⟨RX7, "isWithin", "(III)Z"⟩
abbrev cX7_isFolded : ByteArray := prog_9_method_16_code
def yX7_isFolded : MethodName := ⟨RX7, "isFolded", "([I)Z"⟩
abbrev cX7_isStepped : ByteArray := prog_9_method_17_code
def yX7_isStepped : MethodName := ⟨RX7, "isStepped", "()Z"⟩
abbrev cX7_trade : ByteArray := prog_9_method_18_code
def yX7_trade : MethodName := ⟨RX7, "trade", "(II)V"⟩
abbrev cX7_layOrders : ByteArray := prog_9_method_19_code
def yX7_layOrders : MethodName := ⟨RX7, "layOrders", "()V"⟩
abbrev cX7_orderOf : ByteArray := prog_9_method_20_code
def yX7_orderOf : MethodName := ⟨RX7, "orderOf", "(I)I"⟩
abbrev cX7_orderNow : ByteArray := prog_9_method_21_code
def yX7_orderNow : MethodName := ⟨RX7, "orderNow", "()I"⟩
abbrev cX7_isOrder : ByteArray := prog_9_method_22_code
def yX7_isOrder : MethodName := ⟨RX7, "isOrder", "(I)Z"⟩
abbrev cX7_isSticky : ByteArray := prog_9_method_23_code
def yX7_isSticky : MethodName := ⟨RX7, "isSticky", "(I)Z"⟩
abbrev cX7_isRight : ByteArray := prog_9_method_24_code
def yX7_isRight : MethodName := ⟨RX7, "isRight", "([II)Z"⟩
abbrev cX7_rightMany : ByteArray := prog_9_method_25_code
def yX7_rightMany : MethodName := ⟨RX7, "rightMany", "([I)I"⟩
abbrev cX7_isFit : ByteArray := prog_9_method_26_code
def yX7_isFit : MethodName := ⟨RX7, "isFit", "([I)Z"⟩
abbrev cX7_isFitOrder : ByteArray := prog_9_method_27_code
def yX7_isFitOrder : MethodName := ⟨RX7, "isFitOrder", "(I)Z"⟩
abbrev cX7_thick : ByteArray := prog_9_method_28_code
def yX7_thick : MethodName := ⟨RX7, "thick", "(I)I"⟩
abbrev cX7_wideOf : ByteArray := prog_9_method_29_code
def yX7_wideOf : MethodName := ⟨RX7, "wideOf", "([II)I"⟩
abbrev cX7_widest : ByteArray := prog_9_method_30_code
def yX7_widest : MethodName := ⟨RX7, "widest", "([I)I"⟩
abbrev cX7_widerMany : ByteArray := prog_9_method_31_code
def yX7_widerMany : MethodName := ⟨RX7, "widerMany", "([I)I"⟩
abbrev cX7_placeOf : ByteArray := prog_9_method_32_code
def yX7_placeOf : MethodName := ⟨RX7, "placeOf", "([II)I"⟩
abbrev cX7_shift : ByteArray := prog_9_method_33_code
def yX7_shift : MethodName := ⟨RX7, "shift", "([III)V"⟩
abbrev cX7_codeBy : ByteArray := prog_9_method_34_code
def yX7_codeBy : MethodName := ⟨RX7, "codeBy", "([III)I"⟩
abbrev cX7_layFar : ByteArray := prog_9_method_35_code
def yX7_layFar : MethodName := ⟨RX7, "layFar", "()V"⟩
abbrev cX7_nearOf : ByteArray := prog_9_method_36_code
def yX7_nearOf : MethodName := ⟨RX7, "nearOf", "(I)I"⟩
abbrev cX7_near : ByteArray := prog_9_method_37_code
def yX7_near : MethodName := ⟨RX7, "near", "(I)I"⟩
abbrev cX7_farthestOf : ByteArray := prog_9_method_38_code
def yX7_farthestOf : MethodName := ⟨RX7, "farthestOf", "(I)I"⟩
abbrev cX7_homeOf : ByteArray := prog_9_method_39_code
def yX7_homeOf : MethodName := ⟨RX7, "homeOf", "(I)I"⟩
abbrev cX7_far : ByteArray := prog_9_method_40_code
def yX7_far : MethodName := ⟨RX7, "far", "(I)I"⟩
abbrev cX7_trimOf : ByteArray := prog_9_method_41_code
def yX7_trimOf : MethodName := ⟨RX7, "trimOf", "(I)I"⟩
abbrev cX7_trim : ByteArray := prog_9_method_42_code
def yX7_trim : MethodName := ⟨RX7, "trim", "(I)I"⟩
abbrev cX7_oddsOf : ByteArray := prog_9_method_43_code
def yX7_oddsOf : MethodName := ⟨RX7, "oddsOf", "(III)I"⟩
abbrev cX7_odds : ByteArray := prog_9_method_44_code
def yX7_odds : MethodName := ⟨RX7, "odds", "(III)I"⟩
abbrev cX7_tellLeaf : ByteArray := prog_9_method_45_code
def yX7_tellLeaf : MethodName := ⟨RX7, "tellLeaf", "(II)I"⟩
abbrev cX7_leaf : ByteArray := prog_9_method_46_code
def yX7_leaf : MethodName := ⟨RX7, "leaf", "(II)I"⟩
abbrev cX7_as : ByteArray := prog_9_method_47_code
def yX7_as : MethodName := ⟨RX7, "as", "(II)I"⟩
abbrev cX7_hinge : ByteArray := prog_9_method_48_code
def yX7_hinge : MethodName := ⟨RX7, "hinge", "(II)I"⟩
abbrev cX7_at : ByteArray := prog_9_method_49_code
def yX7_at : MethodName := ⟨RX7, "at", "(I)I"⟩
abbrev cX7_may : ByteArray := prog_9_method_50_code
def yX7_may : MethodName := ⟨RX7, "may", "(II)I"⟩
abbrev cX7_fitMany : ByteArray := prog_9_method_51_code
def yX7_fitMany : MethodName := ⟨RX7, "fitMany", "()I"⟩
abbrev cX7_ordersOf : ByteArray := prog_9_method_52_code
def yX7_ordersOf : MethodName := ⟨RX7, "ordersOf", "(I)I"⟩
abbrev cX7_orders : ByteArray := prog_9_method_53_code
def yX7_orders : MethodName := ⟨RX7, "orders", "(I)I"⟩
abbrev cX7_tellOrder : ByteArray := prog_9_method_54_code
def yX7_tellOrder : MethodName := ⟨RX7, "tellOrder", "(II)I"⟩
abbrev cX7_order : ByteArray := prog_9_method_55_code
def yX7_order : MethodName := ⟨RX7, "order", "(II)I"⟩
abbrev cX7_topsOf : ByteArray := prog_9_method_56_code
def yX7_topsOf : MethodName := ⟨RX7, "topsOf", "(II)I"⟩
abbrev cX7_tops : ByteArray := prog_9_method_57_code
def yX7_tops : MethodName := ⟨RX7, "tops", "(II)I"⟩
abbrev cX7_move : ByteArray := prog_9_method_58_code
def yX7_move : MethodName := ⟨RX7, "move", "(II)I"⟩
abbrev cX7_turn : ByteArray := prog_9_method_59_code
def yX7_turn : MethodName := ⟨RX7, "turn", "()I"⟩
abbrev cX7_lay : ByteArray := prog_9_method_60_code
def yX7_lay : MethodName := ⟨RX7, "lay", "(I)I"⟩
abbrev cX7_change : ByteArray := prog_9_method_61_code
def yX7_change : MethodName := ⟨RX7, "change", "(II)I"⟩
abbrev cX7_see : ByteArray := prog_9_method_62_code
def yX7_see : MethodName := ⟨RX7, "see", "(IIZ)I"⟩
abbrev cX7_forget : ByteArray := prog_9_method_63_code
def yX7_forget : MethodName := ⟨RX7, "forget", "()I"⟩
abbrev cX7_isLikely : ByteArray := prog_9_method_64_code
def yX7_isLikely : MethodName := ⟨RX7, "isLikely", "(I)Z"⟩
abbrev cX7_couldOf : ByteArray := prog_9_method_65_code
def yX7_couldOf : MethodName := ⟨RX7, "couldOf", "()I"⟩
abbrev cX7_could : ByteArray := prog_9_method_66_code
def yX7_could : MethodName := ⟨RX7, "could", "()I"⟩
abbrev cX7_worstBy : ByteArray := prog_9_method_67_code
def yX7_worstBy : MethodName := ⟨RX7, "worstBy", "(III)I"⟩
abbrev cX7_trialOf : ByteArray := prog_9_method_68_code
def yX7_trialOf : MethodName := ⟨RX7, "trialOf", "()I"⟩
abbrev cX7_trial : ByteArray := prog_9_method_69_code
def yX7_trial : MethodName := ⟨RX7, "trial", "()I"⟩
abbrev cX7_draw : ByteArray := prog_9_method_70_code
def yX7_draw : MethodName := ⟨RX7, "draw", "(I)I"⟩
abbrev cX7_shuffles : ByteArray := prog_9_method_71_code
def yX7_shuffles : MethodName := ⟨RX7, "shuffles", "(III)I"⟩
abbrev cX7_image : ByteArray := prog_9_method_72_code
def yX7_image : MethodName := ⟨RX7, "image", "()I"⟩
abbrev cX7_restore : ByteArray := prog_9_method_73_code
def yX7_restore : MethodName := ⟨RX7, "restore", "()I"⟩
abbrev cX7_thickAll : ByteArray := prog_9_method_74_code
def yX7_thickAll : MethodName := ⟨RX7, "thickAll", "()I"⟩
abbrev cX7_movesNow : ByteArray := prog_9_method_75_code
def yX7_movesNow : MethodName := ⟨RX7, "movesNow", "()I"⟩
abbrev cX7_countOf : ByteArray := prog_9_method_76_code
def yX7_countOf : MethodName := ⟨RX7, "countOf", "(I)I"⟩
abbrev cX7_count : ByteArray := prog_9_method_77_code
def yX7_count : MethodName := ⟨RX7, "count", "(I)I"⟩
abbrev cX7_say : ByteArray := prog_9_method_78_code
def yX7_say : MethodName := ⟨RX7, "say", "(J)V"⟩
abbrev cX7_sayStrip : ByteArray := prog_9_method_79_code
def yX7_sayStrip : MethodName := ⟨RX7, "sayStrip", "()V"⟩
abbrev cX7_digest : ByteArray := prog_9_method_80_code
def yX7_digest : MethodName := ⟨RX7, "digest", "()J"⟩
def RJ11 : String := "java/lang/Character"
def TJ11 : u_T := fun k => match k with
  | _ => ("", "", "", false)
def tyJ11 : Nat → FieldType := fun k => match k with
  | _ => .int
abbrev wsJ110 : List Cond := u_ws RJ11 TJ11 0
theorem nmJ11 : ∀ a, a < 0 → ∀ b, b < 0 → a ≠ b → (TJ11 a).2.1 ≠ (TJ11 b).2.1 := by decide +kernel
theorem tyJ11_ok : ∀ k, k < 0 → parseFieldDescriptor (TJ11 k).2.2.1 = some (tyJ11 k) := by decide +kernel
abbrev cJ11_isValidCodePoint_9a6ad : ByteArray := prog_10_method_11_code
def yJ11_isValidCodePoint_9a6ad : MethodName := ⟨RJ11, "isValidCodePoint", "(I)Z"⟩
abbrev cJ11_highSurrogate_5068e : ByteArray := prog_10_method_28_code
def yJ11_highSurrogate_5068e : MethodName := ⟨RJ11, "highSurrogate", "(I)C"⟩
abbrev cJ11_lowSurrogate_5068e : ByteArray := prog_10_method_29_code
def yJ11_lowSurrogate_5068e : MethodName := ⟨RJ11, "lowSurrogate", "(I)C"⟩
def RJ9 : String := "java/lang/Math"
def TJ9 : u_T := fun k => match k with
  | _ => ("", "", "", false)
def tyJ9 : Nat → FieldType := fun k => match k with
  | _ => .int
abbrev wsJ90 : List Cond := u_ws RJ9 TJ9 0
theorem nmJ9 : ∀ a, a < 0 → ∀ b, b < 0 → a ≠ b → (TJ9 a).2.1 ≠ (TJ9 b).2.1 := by decide +kernel
theorem tyJ9_ok : ∀ k, k < 0 → parseFieldDescriptor (TJ9 k).2.2.1 = some (tyJ9 k) := by decide +kernel
abbrev cJ9_max_7cf53 : ByteArray := prog_11_method_65_code
def yJ9_max_7cf53 : MethodName := ⟨RJ9, "max", "(II)I"⟩
abbrev cJ9_min_7cf53 : ByteArray := prog_11_method_69_code
def yJ9_min_7cf53 : MethodName := ⟨RJ9, "min", "(II)I"⟩
def RJ0 : String := "java/lang/String"
def TJ0 : u_T := fun k => match k with
  | _ => ("", "", "", false)
def tyJ0 : Nat → FieldType := fun k => match k with
  | _ => .int
abbrev wsJ00 : List Cond := u_ws RJ0 TJ0 0
theorem nmJ0 : ∀ a, a < 0 → ∀ b, b < 0 → a ≠ b → (TJ0 a).2.1 ≠ (TJ0 b).2.1 := by decide +kernel
theorem tyJ0_ok : ∀ k, k < 0 → parseFieldDescriptor (TJ0 k).2.2.1 = some (tyJ0 k) := by decide +kernel
abbrev cJ0_length_8abf5 : ByteArray := prog_12_method_54_code
def yJ0_length_8abf5 : MethodName := ⟨RJ0, "length", "()I"⟩
abbrev cJ0_indexOf_0f7a4 : ByteArray := prog_12_method_79_code
def yJ0_indexOf_0f7a4 : MethodName := ⟨RJ0, "indexOf", "(I)I"⟩
abbrev cJ0_indexOf_7cf53 : ByteArray := prog_12_method_80_code
def yJ0_indexOf_7cf53 : MethodName := ⟨RJ0, "indexOf", "(II)I"⟩
abbrev cJ0_coder_7d493 : ByteArray := prog_12_method_152_code
def yJ0_coder_7d493 : MethodName := ⟨RJ0, "coder", "()B"⟩
abbrev cJ0_isLatin1_aae02 : ByteArray := prog_12_method_154_code
def yJ0_isLatin1_aae02 : MethodName := ⟨RJ0, "isLatin1", "()Z"⟩
abbrev cJ0_checkBoundsBeginEnd_23922 : ByteArray := prog_12_method_158_code
def yJ0_checkBoundsBeginEnd_23922 : MethodName := ⟨RJ0, "checkBoundsBeginEnd", "(III)V"⟩
def RJ1 : String := "java/lang/StringLatin1"
def TJ1 : u_T := fun k => match k with
  | _ => ("", "", "", false)
def tyJ1 : Nat → FieldType := fun k => match k with
  | _ => .int
abbrev wsJ10 : List Cond := u_ws RJ1 TJ1 0
theorem nmJ1 : ∀ a, a < 0 → ∀ b, b < 0 → a ≠ b → (TJ1 a).2.1 ≠ (TJ1 b).2.1 := by decide +kernel
theorem tyJ1_ok : ∀ k, k < 0 → parseFieldDescriptor (TJ1 k).2.2.1 = some (tyJ1 k) := by decide +kernel
abbrev cJ1_canEncode_9a6ad : ByteArray := prog_13_method_4_code
def yJ1_canEncode_9a6ad : MethodName := ⟨RJ1, "canEncode", "(I)Z"⟩
abbrev cJ1_indexOf_4cfef : ByteArray := prog_13_method_22_code
def yJ1_indexOf_4cfef : MethodName := ⟨RJ1, "indexOf", "([BIII)I"⟩
abbrev cJ1_indexOfChar_4cfef : ByteArray := prog_13_method_23_code
def yJ1_indexOfChar_4cfef : MethodName := ⟨RJ1, "indexOfChar", "([BIII)I"⟩
def RJ2 : String := "java/lang/StringUTF16"
def TJ2 : u_T := fun k => match k with
  | _ => ("", "", "", false)
def tyJ2 : Nat → FieldType := fun k => match k with
  | _ => .int
abbrev wsJ20 : List Cond := u_ws RJ2 TJ2 0
theorem nmJ2 : ∀ a, a < 0 → ∀ b, b < 0 → a ≠ b → (TJ2 a).2.1 ≠ (TJ2 b).2.1 := by decide +kernel
theorem tyJ2_ok : ∀ k, k < 0 → parseFieldDescriptor (TJ2 k).2.2.1 = some (tyJ2 k) := by decide +kernel
abbrev cJ2_getChar_3b067 : ByteArray := prog_14_method_5_code
def yJ2_getChar_3b067 : MethodName := ⟨RJ2, "getChar", "([BI)C"⟩
abbrev cJ2_length_9d52b : ByteArray := prog_14_method_6_code
def yJ2_length_9d52b : MethodName := ⟨RJ2, "length", "([B)I"⟩
abbrev cJ2_indexOf_4cfef : ByteArray := prog_14_method_40_code
def yJ2_indexOf_4cfef : MethodName := ⟨RJ2, "indexOf", "([BIII)I"⟩
abbrev cJ2_indexOfChar_4cfef : ByteArray := prog_14_method_47_code
def yJ2_indexOfChar_4cfef : MethodName := ⟨RJ2, "indexOfChar", "([BIII)I"⟩
abbrev cJ2_indexOfCharUnsafe_4cfef : ByteArray := prog_14_method_48_code
def yJ2_indexOfCharUnsafe_4cfef : MethodName := ⟨RJ2, "indexOfCharUnsafe", "([BIII)I"⟩
abbrev cJ2_indexOfSupplementary_4cfef : ByteArray := prog_14_method_49_code
def yJ2_indexOfSupplementary_4cfef : MethodName := ⟨RJ2, "indexOfSupplementary", "([BIII)I"⟩
abbrev cJ2_checkBoundsBeginEnd_d044e : ByteArray := prog_14_method_93_code
def yJ2_checkBoundsBeginEnd_d044e : MethodName := ⟨RJ2, "checkBoundsBeginEnd", "(II[B)V"⟩
def RJ3 : String := "jdk/internal/util/Preconditions"
def TJ3 : u_T := fun k => match k with
  | _ => ("", "", "", false)
def tyJ3 : Nat → FieldType := fun k => match k with
  | _ => .int
abbrev wsJ30 : List Cond := u_ws RJ3 TJ3 0
theorem nmJ3 : ∀ a, a < 0 → ∀ b, b < 0 → a ≠ b → (TJ3 a).2.1 ≠ (TJ3 b).2.1 := by decide +kernel
theorem tyJ3_ok : ∀ k, k < 0 → parseFieldDescriptor (TJ3 k).2.2.1 = some (tyJ3 k) := by decide +kernel
abbrev cJ3_checkFromToIndex_8c36e : ByteArray := prog_15_method_12_code
def yJ3_checkFromToIndex_8c36e : MethodName := ⟨RJ3, "checkFromToIndex", "(IIILjava/util/function/BiFunction;)I"⟩
def RL : String := "FoldedStripLaw"
abbrev cL_law : ByteArray := code
def yL_law : MethodName := ⟨RL, "law", "([I)Z"⟩
abbrev vwCl : List vw_C := [(RX0, TX0, 5), (RX1, TX1, 3), (RX2, TX2, 2), (RX3, TX3, 8), (RX4, TX4, 7), (RX5, TX5, 5), (RX6, TX6, 9), (RX7, TX7, 26)]
end
section
/-- the words of the tables that go from a method to its callees -/
def lwT : List Cond := lw_tbl.filter goodWord
theorem lwT_sub : ∀ w ∈ lwT, w ∈ lw_tbl := fun _ h => (List.mem_filter.mp h).1
theorem lwT_good : ∀ w ∈ lwT, (w.onTables && w.keeps) = true ∨ ∃ ty, w = .arrayClass ty := fun _ h => good_of_word (List.mem_filter.mp h).2
theorem lwT_tbl {w : Cond} (h : w ∈ tables_1) (g : goodWord w = true) : w ∈ lwT := List.mem_filter.mpr ⟨List.mem_append_right _ h, g⟩
theorem inT1 {w : Cond} (i : Nat) (h : tables_1_1[i]? = some w) (g : goodWord w = true) : w ∈ lwT := lwT_tbl (List.mem_append_left _ (List.mem_of_getElem? h)) g
theorem inT2 {w : Cond} (i : Nat) (h : tables_1_2[i]? = some w) (g : goodWord w = true) : w ∈ lwT := lwT_tbl (List.mem_append_right _ (List.mem_append_left _ (List.mem_of_getElem? h))) g
theorem inT3 {w : Cond} (i : Nat) (h : tables_1_3[i]? = some w) (g : goodWord w = true) : w ∈ lwT := lwT_tbl (List.mem_append_right _ (List.mem_append_right _ (List.mem_append_left _ (List.mem_of_getElem? h)))) g
theorem inT4 {w : Cond} (i : Nat) (h : tables_1_4[i]? = some w) (g : goodWord w = true) : w ∈ lwT := lwT_tbl (List.mem_append_right _ (List.mem_append_right _ (List.mem_append_right _ (List.mem_append_left _ (List.mem_of_getElem? h))))) g
theorem inT5 {w : Cond} (i : Nat) (h : tables_1_5[i]? = some w) (g : goodWord w = true) : w ∈ lwT := lwT_tbl (List.mem_append_right _ (List.mem_append_right _ (List.mem_append_right _ (List.mem_append_right _ (List.mem_of_getElem? h))))) g
theorem inSel {q : MethodName × Nat} (h : q ∈ lw_privs) (g : goodWord (Cond.selects q.1.cls q.1 q.1) = true) : Cond.selects q.1.cls q.1 q.1 ∈ lwT := List.mem_filter.mpr ⟨List.mem_append_left _ (List.mem_map.mpr ⟨q, h, rfl⟩), g⟩
theorem inS1 {q : MethodName × Nat} (i : Nat) (h : lw_privs_1[i]? = some q) : q ∈ lw_privs := List.mem_append_left _ (List.mem_of_getElem? h)
theorem inS2 {q : MethodName × Nat} (i : Nat) (h : lw_privs_2[i]? = some q) : q ∈ lw_privs := List.mem_append_right _ (List.mem_append_left _ (List.mem_of_getElem? h))
theorem inS3 {q : MethodName × Nat} (i : Nat) (h : lw_privs_3[i]? = some q) : q ∈ lw_privs := List.mem_append_right _ (List.mem_append_right _ (List.mem_append_left _ (List.mem_of_getElem? h)))
theorem inS4 {q : MethodName × Nat} (i : Nat) (h : lw_privs_4[i]? = some q) : q ∈ lw_privs := List.mem_append_right _ (List.mem_append_right _ (List.mem_append_right _ (List.mem_append_left _ (List.mem_of_getElem? h))))
theorem inS5 {q : MethodName × Nat} (i : Nat) (h : lw_privs_5[i]? = some q) : q ∈ lw_privs := List.mem_append_right _ (List.mem_append_right _ (List.mem_append_right _ (List.mem_append_right _ (List.mem_of_getElem? h))))
theorem q_0 : Cond.initialized "FoldedStripLaw" ∈ lwT := inT1 0 rfl rfl
theorem q_1 : Cond.initialized "FoldedStrip" ∈ lwT := inT1 1 rfl rfl
theorem q_2 : Cond.initialized "FoldedStrip$Page" ∈ lwT := inT1 2 rfl rfl
theorem q_3 : Cond.initialized "FoldedStrip$Folds" ∈ lwT := inT1 3 rfl rfl
theorem q_4 : Cond.initialized "FoldedStrip$Pile" ∈ lwT := inT1 4 rfl rfl
theorem q_5 : Cond.initialized "FoldedStrip$Verdicts" ∈ lwT := inT1 5 rfl rfl
theorem q_6 : Cond.initialized "FoldedStrip$Paths" ∈ lwT := inT1 6 rfl rfl
theorem q_7 : Cond.initialized "FoldedStrip$Needle" ∈ lwT := inT1 7 rfl rfl
theorem q_8 : Cond.initialized "FoldedStripModel" ∈ lwT := inT1 8 rfl rfl
theorem q_9 : Cond.initialized "java/lang/String" ∈ lwT := inT1 9 rfl rfl
theorem q_10 : Cond.initialized "java/lang/StringLatin1" ∈ lwT := inT1 10 rfl rfl
theorem q_11 : Cond.initialized "java/lang/Math" ∈ lwT := inT1 11 rfl rfl
theorem q_12 : Cond.initialized "java/lang/StringUTF16" ∈ lwT := inT1 12 rfl rfl
theorem q_13 : Cond.initialized "jdk/internal/util/Preconditions" ∈ lwT := inT1 13 rfl rfl
theorem q_14 : Cond.initialized "java/lang/Character" ∈ lwT := inT1 14 rfl rfl
theorem q_15 : Cond.classLink "FoldedStripLaw" 7 "FoldedStrip" ∈ lwT := inT1 15 rfl rfl
theorem q_16 : Cond.instantiable "FoldedStrip" 9 ∈ lwT := inT1 16 rfl rfl
theorem q_17 : Cond.methodLink "FoldedStripLaw" 9 yX6_init ∈ lwT := inT1 17 rfl rfl
theorem q_18 : Cond.instanceMethod yX6_init ∈ lwT := inT1 18 rfl rfl
theorem q_19 : Cond.code yX6_init cX6_init 1 (Option.none : Option Jvm.ClassFile.FieldType) ∈ lwT := inT1 19 rfl rfl
theorem q_20 : Cond.methodLink "FoldedStrip" 1 (⟨"java/lang/Object", "<init>", "()V"⟩ : MethodName) ∈ lwT := inT1 20 rfl rfl
theorem q_21 : Cond.instanceMethod (⟨"java/lang/Object", "<init>", "()V"⟩ : MethodName) ∈ lwT := inT1 21 rfl rfl
theorem q_22 : Cond.code (⟨"java/lang/Object", "<init>", "()V"⟩ : MethodName) object_method_1_code 1 (Option.none : Option Jvm.ClassFile.FieldType) ∈ lwT := inT1 22 rfl rfl
theorem q_23 : Cond.classLink "FoldedStrip" 7 "FoldedStrip$Page" ∈ lwT := inT1 23 rfl rfl
theorem q_24 : Cond.instantiable "FoldedStrip$Page" 2 ∈ lwT := inT1 24 rfl rfl
theorem q_26 : Cond.instanceMethod yX2_init ∈ lwT := inT1 26 rfl rfl
theorem q_27 : Cond.code yX2_init cX2_init 1 (Option.none : Option Jvm.ClassFile.FieldType) ∈ lwT := inT1 27 rfl rfl
theorem q_28 : Cond.methodLink "FoldedStrip$Page" 3 (⟨"java/lang/Object", "<init>", "()V"⟩ : MethodName) ∈ lwT := inT1 28 rfl rfl
theorem q_29 : Cond.fieldLink "FoldedStrip$Page" 9 "FoldedStrip$Page" "codes" "[I" ∈ lwT := inT1 29 rfl rfl
theorem q_30 : Cond.fieldLink "FoldedStrip" 233 "FoldedStrip$Page" "codes" "[I" ∈ lwT := inT1 30 rfl rfl
theorem q_31 : Cond.fieldLink "FoldedStrip$Page" 15 "FoldedStrip$Page" "size" "I" ∈ lwT := inT1 31 rfl rfl
theorem q_32 : Cond.fieldLink "FoldedStrip" 72 "FoldedStrip$Page" "size" "I" ∈ lwT := inT1 32 rfl rfl
theorem q_33 : Cond.laysFinal "FoldedStrip$Page" "FoldedStrip$Page" "codes" "[I" ∈ lwT := inT1 33 rfl rfl
theorem q_35 : Cond.lays "FoldedStrip$Page" "FoldedStrip$Page" "size" "I" ∈ lwT := inT1 35 rfl rfl
theorem q_37 : Cond.superclass "FoldedStrip$Page" "java/lang/Object" ∈ lwT := inT1 37 rfl rfl
theorem q_38 : Cond.arrayClass FieldType.int ∈ lwT := inT1 38 rfl rfl
theorem q_39 : Cond.classLink "FoldedStrip" 16 "FoldedStrip$Folds" ∈ lwT := inT1 39 rfl rfl
theorem q_40 : Cond.instantiable "FoldedStrip$Folds" 5 ∈ lwT := inT1 40 rfl rfl
theorem q_42 : Cond.instanceMethod yX0_init ∈ lwT := inT1 42 rfl rfl
theorem q_43 : Cond.code yX0_init cX0_init 1 (Option.none : Option Jvm.ClassFile.FieldType) ∈ lwT := inT1 43 rfl rfl
theorem q_44 : Cond.methodLink "FoldedStrip$Folds" 3 (⟨"java/lang/Object", "<init>", "()V"⟩ : MethodName) ∈ lwT := inT1 44 rfl rfl
theorem q_45 : Cond.fieldLink "FoldedStrip$Folds" 9 "FoldedStrip$Folds" "leaves" "I" ∈ lwT := inT1 45 rfl rfl
theorem q_46 : Cond.fieldLink "FoldedStrip$Needle" 37 "FoldedStrip$Folds" "leaves" "I" ∈ lwT := inT1 46 rfl rfl
theorem q_47 : Cond.fieldLink "FoldedStrip$Paths" 43 "FoldedStrip$Folds" "leaves" "I" ∈ lwT := inT1 47 rfl rfl
theorem q_48 : Cond.fieldLink "FoldedStrip" 102 "FoldedStrip$Folds" "leaves" "I" ∈ lwT := inT1 48 rfl rfl
theorem q_49 : Cond.fieldLink "FoldedStrip$Verdicts" 47 "FoldedStrip$Folds" "leaves" "I" ∈ lwT := inT1 49 rfl rfl
theorem q_50 : Cond.fieldLink "FoldedStrip$Folds" 15 "FoldedStrip$Folds" "size" "I" ∈ lwT := inT1 50 rfl rfl
theorem q_51 : Cond.fieldLink "FoldedStrip$Paths" 38 "FoldedStrip$Folds" "size" "I" ∈ lwT := inT1 51 rfl rfl
theorem q_52 : Cond.fieldLink "FoldedStrip$Needle" 23 "FoldedStrip$Folds" "size" "I" ∈ lwT := inT1 52 rfl rfl
theorem q_53 : Cond.fieldLink "FoldedStrip$Verdicts" 30 "FoldedStrip$Folds" "size" "I" ∈ lwT := inT1 53 rfl rfl
theorem q_54 : Cond.fieldLink "FoldedStrip" 156 "FoldedStrip$Folds" "size" "I" ∈ lwT := inT1 54 rfl rfl
theorem q_55 : Cond.fieldLink "FoldedStrip$Folds" 18 "FoldedStrip$Folds" "leafCodes" "[I" ∈ lwT := inT1 55 rfl rfl
theorem q_56 : Cond.fieldLink "FoldedStrip$Folds" 22 "FoldedStrip$Folds" "placeCodes" "[I" ∈ lwT := inT1 56 rfl rfl
theorem q_57 : Cond.fieldLink "FoldedStrip$Folds" 25 "FoldedStrip$Folds" "placeNow" "[I" ∈ lwT := inT1 57 rfl rfl
theorem q_58 : Cond.lays "FoldedStrip$Folds" "FoldedStrip$Folds" "leaves" "I" ∈ lwT := inT1 58 rfl rfl
theorem q_60 : Cond.lays "FoldedStrip$Folds" "FoldedStrip$Folds" "size" "I" ∈ lwT := inT1 60 rfl rfl
theorem q_62 : Cond.laysFinal "FoldedStrip$Folds" "FoldedStrip$Folds" "leafCodes" "[I" ∈ lwT := inT1 62 rfl rfl
theorem q_64 : Cond.laysFinal "FoldedStrip$Folds" "FoldedStrip$Folds" "placeCodes" "[I" ∈ lwT := inT1 64 rfl rfl
theorem q_66 : Cond.laysFinal "FoldedStrip$Folds" "FoldedStrip$Folds" "placeNow" "[I" ∈ lwT := inT1 66 rfl rfl
theorem q_68 : Cond.superclass "FoldedStrip$Folds" "java/lang/Object" ∈ lwT := inT1 68 rfl rfl
theorem q_69 : Cond.classLink "FoldedStrip" 23 "FoldedStrip$Pile" ∈ lwT := inT1 69 rfl rfl
theorem q_70 : Cond.instantiable "FoldedStrip$Pile" 7 ∈ lwT := inT1 70 rfl rfl
theorem q_72 : Cond.instanceMethod yX4_init ∈ lwT := inT1 72 rfl rfl
theorem q_73 : Cond.code yX4_init cX4_init 1 (Option.none : Option Jvm.ClassFile.FieldType) ∈ lwT := inT1 73 rfl rfl
theorem q_74 : Cond.methodLink "FoldedStrip$Pile" 3 (⟨"java/lang/Object", "<init>", "()V"⟩ : MethodName) ∈ lwT := inT1 74 rfl rfl
theorem q_75 : Cond.fieldLink "FoldedStrip$Pile" 9 "FoldedStrip$Pile" "kinds" "[I" ∈ lwT := inT1 75 rfl rfl
theorem q_76 : Cond.fieldLink "FoldedStrip" 35 "FoldedStrip$Pile" "kinds" "[I" ∈ lwT := inT1 76 rfl rfl
theorem q_77 : Cond.fieldLink "FoldedStrip$Pile" 15 "FoldedStrip$Pile" "order" "I" ∈ lwT := inT1 77 rfl rfl
theorem q_78 : Cond.fieldLink "FoldedStrip" 90 "FoldedStrip$Pile" "order" "I" ∈ lwT := inT1 78 rfl rfl
theorem q_79 : Cond.fieldLink "FoldedStrip$Pile" 19 "FoldedStrip$Pile" "moves" "I" ∈ lwT := inT1 79 rfl rfl
theorem q_80 : Cond.fieldLink "FoldedStrip" 93 "FoldedStrip$Pile" "moves" "I" ∈ lwT := inT1 80 rfl rfl
theorem q_81 : Cond.fieldLink "FoldedStrip$Pile" 22 "FoldedStrip$Pile" "seen" "I" ∈ lwT := inT1 81 rfl rfl
theorem q_82 : Cond.fieldLink "FoldedStrip$Needle" 53 "FoldedStrip$Pile" "seen" "I" ∈ lwT := inT1 82 rfl rfl
theorem q_83 : Cond.fieldLink "FoldedStrip" 96 "FoldedStrip$Pile" "seen" "I" ∈ lwT := inT1 83 rfl rfl
theorem q_84 : Cond.fieldLink "FoldedStrip$Pile" 25 "FoldedStrip$Pile" "seenLeaf" "[I" ∈ lwT := inT1 84 rfl rfl
theorem q_85 : Cond.fieldLink "FoldedStrip$Needle" 58 "FoldedStrip$Pile" "seenLeaf" "[I" ∈ lwT := inT1 85 rfl rfl
theorem q_86 : Cond.fieldLink "FoldedStrip$Pile" 28 "FoldedStrip$Pile" "seenDeep" "[I" ∈ lwT := inT1 86 rfl rfl
theorem q_87 : Cond.fieldLink "FoldedStrip$Needle" 61 "FoldedStrip$Pile" "seenDeep" "[I" ∈ lwT := inT1 87 rfl rfl
theorem q_88 : Cond.fieldLink "FoldedStrip$Pile" 31 "FoldedStrip$Pile" "seenThrough" "[Z" ∈ lwT := inT1 88 rfl rfl
theorem q_89 : Cond.fieldLink "FoldedStrip$Needle" 64 "FoldedStrip$Pile" "seenThrough" "[Z" ∈ lwT := inT1 89 rfl rfl
theorem q_90 : Cond.laysFinal "FoldedStrip$Pile" "FoldedStrip$Pile" "kinds" "[I" ∈ lwT := inT1 90 rfl rfl
theorem q_92 : Cond.lays "FoldedStrip$Pile" "FoldedStrip$Pile" "order" "I" ∈ lwT := inT1 92 rfl rfl
theorem q_94 : Cond.lays "FoldedStrip$Pile" "FoldedStrip$Pile" "moves" "I" ∈ lwT := inT1 94 rfl rfl
theorem q_96 : Cond.lays "FoldedStrip$Pile" "FoldedStrip$Pile" "seen" "I" ∈ lwT := inT1 96 rfl rfl
theorem q_98 : Cond.laysFinal "FoldedStrip$Pile" "FoldedStrip$Pile" "seenLeaf" "[I" ∈ lwT := inT1 98 rfl rfl
theorem q_100 : Cond.laysFinal "FoldedStrip$Pile" "FoldedStrip$Pile" "seenDeep" "[I" ∈ lwT := inT1 100 rfl rfl
theorem q_102 : Cond.laysFinal "FoldedStrip$Pile" "FoldedStrip$Pile" "seenThrough" "[Z" ∈ lwT := inT1 102 rfl rfl
theorem q_104 : Cond.superclass "FoldedStrip$Pile" "java/lang/Object" ∈ lwT := inT1 104 rfl rfl
theorem q_105 : Cond.arrayClass FieldType.boolean ∈ lwT := inT1 105 rfl rfl
theorem q_106 : Cond.classLink "FoldedStrip" 33 "FoldedStrip$Verdicts" ∈ lwT := inT1 106 rfl rfl
theorem q_107 : Cond.instantiable "FoldedStrip$Verdicts" 5 ∈ lwT := inT1 107 rfl rfl
theorem q_108 : Cond.methodLink "FoldedStrip" 39 yX5_init ∈ lwT := inT1 108 rfl rfl
theorem q_109 : Cond.instanceMethod yX5_init ∈ lwT := inT1 109 rfl rfl
theorem q_110 : Cond.code yX5_init cX5_init 3 (Option.none : Option Jvm.ClassFile.FieldType) ∈ lwT := inT1 110 rfl rfl
theorem q_111 : Cond.methodLink "FoldedStrip$Verdicts" 3 (⟨"java/lang/Object", "<init>", "()V"⟩ : MethodName) ∈ lwT := inT1 111 rfl rfl
theorem q_112 : Cond.fieldLink "FoldedStrip$Verdicts" 9 "FoldedStrip$Verdicts" "fits" "I" ∈ lwT := inT1 112 rfl rfl
theorem q_113 : Cond.fieldLink "FoldedStrip" 157 "FoldedStrip$Verdicts" "fits" "I" ∈ lwT := inT1 113 rfl rfl
theorem q_114 : Cond.fieldLink "FoldedStrip$Verdicts" 23 "FoldedStrip$Verdicts" "folds" "LFoldedStrip$Folds;" ∈ lwT := inT1 114 rfl rfl
theorem q_115 : Cond.fieldLink "FoldedStrip$Verdicts" 27 "FoldedStrip$Verdicts" "kinds" "[I" ∈ lwT := inT1 115 rfl rfl
theorem q_116 : Cond.fieldLink "FoldedStrip$Verdicts" 15 "FoldedStrip$Verdicts" "fit" "[Z" ∈ lwT := inT1 116 rfl rfl
theorem q_117 : Cond.fieldLink "FoldedStrip$Verdicts" 19 "FoldedStrip$Verdicts" "widest" "[I" ∈ lwT := inT1 117 rfl rfl
theorem q_118 : Cond.lays "FoldedStrip$Verdicts" "FoldedStrip$Verdicts" "fits" "I" ∈ lwT := inT1 118 rfl rfl
theorem q_120 : Cond.laysFinal "FoldedStrip$Verdicts" "FoldedStrip$Verdicts" "folds" "LFoldedStrip$Folds;" ∈ lwT := inT1 120 rfl rfl
theorem q_122 : Cond.laysFinal "FoldedStrip$Verdicts" "FoldedStrip$Verdicts" "kinds" "[I" ∈ lwT := inT1 122 rfl rfl
theorem q_124 : Cond.laysFinal "FoldedStrip$Verdicts" "FoldedStrip$Verdicts" "fit" "[Z" ∈ lwT := inT1 124 rfl rfl
theorem q_126 : Cond.laysFinal "FoldedStrip$Verdicts" "FoldedStrip$Verdicts" "widest" "[I" ∈ lwT := inT1 126 rfl rfl
theorem q_128 : Cond.superclass "FoldedStrip$Verdicts" "java/lang/Object" ∈ lwT := inT1 128 rfl rfl
theorem q_129 : Cond.classLink "FoldedStrip" 46 "FoldedStrip$Paths" ∈ lwT := inT1 129 rfl rfl
theorem q_130 : Cond.instantiable "FoldedStrip$Paths" 8 ∈ lwT := inT1 130 rfl rfl
theorem q_131 : Cond.methodLink "FoldedStrip" 48 yX3_init ∈ lwT := inT1 131 rfl rfl
theorem q_132 : Cond.instanceMethod yX3_init ∈ lwT := inT1 132 rfl rfl
theorem q_133 : Cond.code yX3_init cX3_init 2 (Option.none : Option Jvm.ClassFile.FieldType) ∈ lwT := inT1 133 rfl rfl
theorem q_134 : Cond.methodLink "FoldedStrip$Paths" 3 (⟨"java/lang/Object", "<init>", "()V"⟩ : MethodName) ∈ lwT := inT1 134 rfl rfl
theorem q_135 : Cond.fieldLink "FoldedStrip$Paths" 34 "FoldedStrip$Paths" "folds" "LFoldedStrip$Folds;" ∈ lwT := inT1 135 rfl rfl
theorem q_136 : Cond.fieldLink "FoldedStrip$Paths" 9 "FoldedStrip$Paths" "leaves" "I" ∈ lwT := inT1 136 rfl rfl
theorem q_137 : Cond.fieldLink "FoldedStrip$Paths" 15 "FoldedStrip$Paths" "start" "I" ∈ lwT := inT1 137 rfl rfl
theorem q_138 : Cond.fieldLink "FoldedStrip$Paths" 18 "FoldedStrip$Paths" "steps" "I" ∈ lwT := inT1 138 rfl rfl
theorem q_139 : Cond.fieldLink "FoldedStrip$Paths" 21 "FoldedStrip$Paths" "firstStep" "[I" ∈ lwT := inT1 139 rfl rfl
theorem q_140 : Cond.fieldLink "FoldedStrip$Paths" 25 "FoldedStrip$Paths" "stepTo" "[I" ∈ lwT := inT1 140 rfl rfl
theorem q_141 : Cond.fieldLink "FoldedStrip$Paths" 28 "FoldedStrip$Paths" "distances" "[I" ∈ lwT := inT1 141 rfl rfl
theorem q_142 : Cond.fieldLink "FoldedStrip$Paths" 31 "FoldedStrip$Paths" "queue" "[I" ∈ lwT := inT1 142 rfl rfl
theorem q_143 : Cond.laysFinal "FoldedStrip$Paths" "FoldedStrip$Paths" "folds" "LFoldedStrip$Folds;" ∈ lwT := inT1 143 rfl rfl
theorem q_145 : Cond.lays "FoldedStrip$Paths" "FoldedStrip$Paths" "leaves" "I" ∈ lwT := inT1 145 rfl rfl
theorem q_147 : Cond.lays "FoldedStrip$Paths" "FoldedStrip$Paths" "start" "I" ∈ lwT := inT1 147 rfl rfl
theorem q_149 : Cond.lays "FoldedStrip$Paths" "FoldedStrip$Paths" "steps" "I" ∈ lwT := inT1 149 rfl rfl
theorem q_151 : Cond.laysFinal "FoldedStrip$Paths" "FoldedStrip$Paths" "firstStep" "[I" ∈ lwT := inT1 151 rfl rfl
theorem q_153 : Cond.laysFinal "FoldedStrip$Paths" "FoldedStrip$Paths" "stepTo" "[I" ∈ lwT := inT1 153 rfl rfl
theorem q_155 : Cond.laysFinal "FoldedStrip$Paths" "FoldedStrip$Paths" "distances" "[I" ∈ lwT := inT1 155 rfl rfl
theorem q_157 : Cond.laysFinal "FoldedStrip$Paths" "FoldedStrip$Paths" "queue" "[I" ∈ lwT := inT1 157 rfl rfl
theorem q_159 : Cond.superclass "FoldedStrip$Paths" "java/lang/Object" ∈ lwT := inT1 159 rfl rfl
theorem q_160 : Cond.classLink "FoldedStrip" 55 "FoldedStrip$Needle" ∈ lwT := inT1 160 rfl rfl
theorem q_161 : Cond.instantiable "FoldedStrip$Needle" 3 ∈ lwT := inT1 161 rfl rfl
theorem q_162 : Cond.methodLink "FoldedStrip" 57 yX1_init ∈ lwT := inT1 162 rfl rfl
theorem q_163 : Cond.instanceMethod yX1_init ∈ lwT := inT1 163 rfl rfl
theorem q_164 : Cond.code yX1_init cX1_init 3 (Option.none : Option Jvm.ClassFile.FieldType) ∈ lwT := inT1 164 rfl rfl
theorem q_165 : Cond.methodLink "FoldedStrip$Needle" 3 (⟨"java/lang/Object", "<init>", "()V"⟩ : MethodName) ∈ lwT := inT1 165 rfl rfl
theorem q_166 : Cond.fieldLink "FoldedStrip$Needle" 15 "FoldedStrip$Needle" "folds" "LFoldedStrip$Folds;" ∈ lwT := inT1 166 rfl rfl
theorem q_167 : Cond.fieldLink "FoldedStrip$Needle" 19 "FoldedStrip$Needle" "pile" "LFoldedStrip$Pile;" ∈ lwT := inT1 167 rfl rfl
theorem q_168 : Cond.fieldLink "FoldedStrip$Needle" 9 "FoldedStrip$Needle" "through" "[I" ∈ lwT := inT1 168 rfl rfl
theorem q_169 : Cond.laysFinal "FoldedStrip$Needle" "FoldedStrip$Needle" "folds" "LFoldedStrip$Folds;" ∈ lwT := inT1 169 rfl rfl
theorem q_171 : Cond.laysFinal "FoldedStrip$Needle" "FoldedStrip$Needle" "pile" "LFoldedStrip$Pile;" ∈ lwT := inT1 171 rfl rfl
theorem q_173 : Cond.laysFinal "FoldedStrip$Needle" "FoldedStrip$Needle" "through" "[I" ∈ lwT := inT1 173 rfl rfl
theorem q_175 : Cond.superclass "FoldedStrip$Needle" "java/lang/Object" ∈ lwT := inT1 175 rfl rfl
theorem q_176 : Cond.fieldLink "FoldedStrip" 10 "FoldedStrip" "page" "LFoldedStrip$Page;" ∈ lwT := inT1 176 rfl rfl
theorem q_177 : Cond.fieldLink "FoldedStrip" 19 "FoldedStrip" "folds" "LFoldedStrip$Folds;" ∈ lwT := inT1 177 rfl rfl
theorem q_178 : Cond.fieldLink "FoldedStrip" 26 "FoldedStrip" "now" "LFoldedStrip$Pile;" ∈ lwT := inT1 178 rfl rfl
theorem q_179 : Cond.fieldLink "FoldedStrip" 30 "FoldedStrip" "kept" "LFoldedStrip$Pile;" ∈ lwT := inT1 179 rfl rfl
theorem q_180 : Cond.fieldLink "FoldedStrip" 42 "FoldedStrip" "verdicts" "LFoldedStrip$Verdicts;" ∈ lwT := inT1 180 rfl rfl
theorem q_181 : Cond.fieldLink "FoldedStrip" 51 "FoldedStrip" "paths" "LFoldedStrip$Paths;" ∈ lwT := inT1 181 rfl rfl
theorem q_182 : Cond.fieldLink "FoldedStrip" 60 "FoldedStrip" "needle" "LFoldedStrip$Needle;" ∈ lwT := inT1 182 rfl rfl
theorem q_183 : Cond.fieldLink "FoldedStrip" 64 "FoldedStrip" "imageKept" "Z" ∈ lwT := inT1 183 rfl rfl
theorem q_184 : Cond.fieldLink "FoldedStrip" 68 "FoldedStrip" "stripsRead" "I" ∈ lwT := inT1 184 rfl rfl
theorem q_185 : Cond.laysFinal "FoldedStrip" "FoldedStrip" "page" "LFoldedStrip$Page;" ∈ lwT := inT1 185 rfl rfl
theorem q_187 : Cond.laysFinal "FoldedStrip" "FoldedStrip" "folds" "LFoldedStrip$Folds;" ∈ lwT := inT1 187 rfl rfl
theorem q_189 : Cond.laysFinal "FoldedStrip" "FoldedStrip" "now" "LFoldedStrip$Pile;" ∈ lwT := inT1 189 rfl rfl
theorem q_191 : Cond.laysFinal "FoldedStrip" "FoldedStrip" "kept" "LFoldedStrip$Pile;" ∈ lwT := inT1 191 rfl rfl
theorem q_193 : Cond.laysFinal "FoldedStrip" "FoldedStrip" "verdicts" "LFoldedStrip$Verdicts;" ∈ lwT := inT1 193 rfl rfl
theorem q_195 : Cond.laysFinal "FoldedStrip" "FoldedStrip" "paths" "LFoldedStrip$Paths;" ∈ lwT := inT1 195 rfl rfl
theorem q_197 : Cond.laysFinal "FoldedStrip" "FoldedStrip" "needle" "LFoldedStrip$Needle;" ∈ lwT := inT1 197 rfl rfl
theorem q_199 : Cond.lays "FoldedStrip" "FoldedStrip" "imageKept" "Z" ∈ lwT := inT1 199 rfl rfl
theorem q_201 : Cond.lays "FoldedStrip" "FoldedStrip" "stripsRead" "I" ∈ lwT := inT1 201 rfl rfl
theorem q_203 : Cond.superclass "FoldedStrip" "java/lang/Object" ∈ lwT := inT1 203 rfl rfl
theorem q_204 : Cond.methodLink "FoldedStripLaw" 13 yX6_letter ∈ lwT := inT1 204 rfl rfl
theorem q_205 : Cond.instanceMethod yX6_letter ∈ lwT := inT1 205 rfl rfl
theorem q_206 : Cond.selects "FoldedStrip" yX6_letter yX6_letter ∈ lwT := inT1 206 rfl rfl
theorem q_207 : Cond.code yX6_letter cX6_letter 2 (Option.some FieldType.int) ∈ lwT := inT1 207 rfl rfl
theorem q_208 : Cond.methodLink "FoldedStrip" 75 yX2_add ∈ lwT := inT1 208 rfl rfl
theorem q_209 : Cond.instanceMethod yX2_add ∈ lwT := inT1 209 rfl rfl
theorem q_210 : Cond.selects "FoldedStrip$Page" yX2_add yX2_add ∈ lwT := inT1 210 rfl rfl
theorem q_211 : Cond.code yX2_add cX2_add 2 (Option.none : Option Jvm.ClassFile.FieldType) ∈ lwT := inT1 211 rfl rfl
theorem q_212 : Cond.methodLink "FoldedStripLaw" 18 yX6_blank ∈ lwT := inT1 212 rfl rfl
theorem q_213 : Cond.instanceMethod yX6_blank ∈ lwT := inT1 213 rfl rfl
theorem q_214 : Cond.selects "FoldedStrip" yX6_blank yX6_blank ∈ lwT := inT1 214 rfl rfl
theorem q_215 : Cond.code yX6_blank cX6_blank 2 (Option.some FieldType.int) ∈ lwT := inT1 215 rfl rfl
theorem q_216 : Cond.methodLink "FoldedStripLaw" 23 yX6_fault ∈ lwT := inT1 216 rfl rfl
theorem q_217 : Cond.instanceMethod yX6_fault ∈ lwT := inT1 217 rfl rfl
theorem q_218 : Cond.selects "FoldedStrip" yX6_fault yX6_fault ∈ lwT := inT1 218 rfl rfl
theorem q_219 : Cond.code yX6_fault cX6_fault 1 (Option.some FieldType.int) ∈ lwT := inT1 219 rfl rfl
theorem q_220 : Cond.methodLink "FoldedStrip" 79 yX2_firstWrong ∈ lwT := inT1 220 rfl rfl
theorem q_221 : Cond.instanceMethod yX2_firstWrong ∈ lwT := inT1 221 rfl rfl
theorem q_222 : Cond.selects "FoldedStrip$Page" yX2_firstWrong yX2_firstWrong ∈ lwT := inT1 222 rfl rfl
theorem q_223 : Cond.code yX2_firstWrong cX2_firstWrong 2 (Option.some FieldType.int) ∈ lwT := inT1 223 rfl rfl
theorem q_224 : Cond.methodLink "FoldedStrip$Page" 27 yX2_kindAt ∈ lwT := inT1 224 rfl rfl
theorem q_225 : Cond.instanceMethod yX2_kindAt ∈ lwT := inT1 225 rfl rfl
theorem q_226 : Cond.selects "FoldedStrip$Page" yX2_kindAt yX2_kindAt ∈ lwT := inT1 226 rfl rfl
theorem q_227 : Cond.code yX2_kindAt cX2_kindAt 2 (Option.some FieldType.int) ∈ lwT := inT1 227 rfl rfl
theorem q_229 : Cond.methodLink "FoldedStrip$Page" 21 yJ0_indexOf_0f7a4 ∈ lwT := inT1 229 rfl rfl
theorem q_230 : Cond.instanceMethod yJ0_indexOf_0f7a4 ∈ lwT := inT1 230 rfl rfl
theorem q_231 : Cond.selects "java/lang/String" yJ0_indexOf_0f7a4 yJ0_indexOf_0f7a4 ∈ lwT := inT1 231 rfl rfl
theorem q_232 : Cond.code yJ0_indexOf_0f7a4 cJ0_indexOf_0f7a4 2 (Option.some FieldType.int) ∈ lwT := inT1 232 rfl rfl
theorem q_233 : Cond.methodLink "java/lang/String" 633 yJ0_indexOf_7cf53 ∈ lwT := inT1 233 rfl rfl
theorem q_234 : Cond.instanceMethod yJ0_indexOf_7cf53 ∈ lwT := inT1 234 rfl rfl
theorem q_235 : Cond.selects "java/lang/String" yJ0_indexOf_7cf53 yJ0_indexOf_7cf53 ∈ lwT := inT1 235 rfl rfl
theorem q_236 : Cond.code yJ0_indexOf_7cf53 cJ0_indexOf_7cf53 3 (Option.some FieldType.int) ∈ lwT := inT1 236 rfl rfl
theorem q_237 : Cond.methodLink "java/lang/String" 492 yJ0_isLatin1_aae02 ∈ lwT := inT1 237 rfl rfl
theorem q_238 : Cond.instanceMethod yJ0_isLatin1_aae02 ∈ lwT := inT1 238 rfl rfl
theorem q_239 : Cond.selects "java/lang/String" yJ0_isLatin1_aae02 yJ0_isLatin1_aae02 ∈ lwT := inT1 239 rfl rfl
theorem q_240 : Cond.code yJ0_isLatin1_aae02 cJ0_isLatin1_aae02 1 (Option.some FieldType.boolean) ∈ lwT := inT2 0 rfl rfl
theorem q_241 : Cond.fieldLink "java/lang/String" 38 "java/lang/String" "COMPACT_STRINGS" "Z" ∈ lwT := inT2 1 rfl rfl
theorem q_243 : Cond.methodLink "java/lang/String" 505 yJ0_length_8abf5 ∈ lwT := inT2 3 rfl rfl
theorem q_244 : Cond.instanceMethod yJ0_length_8abf5 ∈ lwT := inT2 4 rfl rfl
theorem q_245 : Cond.selects "java/lang/String" yJ0_length_8abf5 yJ0_length_8abf5 ∈ lwT := inT2 5 rfl rfl
theorem q_246 : Cond.code yJ0_length_8abf5 cJ0_length_8abf5 1 (Option.some FieldType.int) ∈ lwT := inT2 6 rfl rfl
theorem q_247 : Cond.methodLink "java/lang/String" 335 yJ0_coder_7d493 ∈ lwT := inT2 7 rfl rfl
theorem q_248 : Cond.instanceMethod yJ0_coder_7d493 ∈ lwT := inT2 8 rfl rfl
theorem q_249 : Cond.selects "java/lang/String" yJ0_coder_7d493 yJ0_coder_7d493 ∈ lwT := inT2 9 rfl rfl
theorem q_250 : Cond.code yJ0_coder_7d493 cJ0_coder_7d493 1 (Option.some FieldType.byte) ∈ lwT := inT2 10 rfl rfl
theorem q_251 : Cond.methodLink "java/lang/String" 637 yJ1_indexOf_4cfef ∈ lwT := inT2 11 rfl rfl
theorem q_252 : Cond.static yJ1_indexOf_4cfef ∈ lwT := inT2 12 rfl rfl
theorem q_253 : Cond.code yJ1_indexOf_4cfef cJ1_indexOf_4cfef 4 (Option.some FieldType.int) ∈ lwT := inT2 13 rfl rfl
theorem q_254 : Cond.methodLink "java/lang/StringLatin1" 88 yJ1_canEncode_9a6ad ∈ lwT := inT2 14 rfl rfl
theorem q_255 : Cond.static yJ1_canEncode_9a6ad ∈ lwT := inT2 15 rfl rfl
theorem q_256 : Cond.code yJ1_canEncode_9a6ad cJ1_canEncode_9a6ad 1 (Option.some FieldType.boolean) ∈ lwT := inT2 16 rfl rfl
theorem q_257 : Cond.methodLink "java/lang/StringLatin1" 92 yJ9_max_7cf53 ∈ lwT := inT2 17 rfl rfl
theorem q_258 : Cond.static yJ9_max_7cf53 ∈ lwT := inT2 18 rfl rfl
theorem q_259 : Cond.code yJ9_max_7cf53 cJ9_max_7cf53 2 (Option.some FieldType.int) ∈ lwT := inT2 19 rfl rfl
theorem q_260 : Cond.methodLink "java/lang/StringLatin1" 38 yJ9_min_7cf53 ∈ lwT := inT2 20 rfl rfl
theorem q_261 : Cond.static yJ9_min_7cf53 ∈ lwT := inT2 21 rfl rfl
theorem q_262 : Cond.code yJ9_min_7cf53 cJ9_min_7cf53 2 (Option.some FieldType.int) ∈ lwT := inT2 22 rfl rfl
theorem q_263 : Cond.methodLink "java/lang/StringLatin1" 95 yJ1_indexOfChar_4cfef ∈ lwT := inT2 23 rfl rfl
theorem q_264 : Cond.static yJ1_indexOfChar_4cfef ∈ lwT := inT2 24 rfl rfl
theorem q_265 : Cond.code yJ1_indexOfChar_4cfef cJ1_indexOfChar_4cfef 6 (Option.some FieldType.int) ∈ lwT := inT2 25 rfl rfl
theorem q_266 : Cond.methodLink "java/lang/String" 640 yJ2_indexOf_4cfef ∈ lwT := inT2 26 rfl rfl
theorem q_267 : Cond.static yJ2_indexOf_4cfef ∈ lwT := inT2 27 rfl rfl
theorem q_268 : Cond.code yJ2_indexOf_4cfef cJ2_indexOf_4cfef 4 (Option.some FieldType.int) ∈ lwT := inT2 28 rfl rfl
theorem q_269 : Cond.methodLink "java/lang/StringUTF16" 224 yJ9_max_7cf53 ∈ lwT := inT2 29 rfl rfl
theorem q_270 : Cond.methodLink "java/lang/StringUTF16" 183 yJ9_min_7cf53 ∈ lwT := inT2 30 rfl rfl
theorem q_271 : Cond.constant "java/lang/StringUTF16" 227 (65536 : Int32) ∈ lwT := inT2 31 rfl rfl
theorem q_272 : Cond.methodLink "java/lang/StringUTF16" 228 yJ2_indexOfChar_4cfef ∈ lwT := inT2 32 rfl rfl
theorem q_273 : Cond.static yJ2_indexOfChar_4cfef ∈ lwT := inT2 33 rfl rfl
theorem q_274 : Cond.code yJ2_indexOfChar_4cfef cJ2_indexOfChar_4cfef 4 (Option.some FieldType.int) ∈ lwT := inT2 34 rfl rfl
theorem q_275 : Cond.methodLink "java/lang/StringUTF16" 96 yJ2_checkBoundsBeginEnd_d044e ∈ lwT := inT2 35 rfl rfl
theorem q_276 : Cond.static yJ2_checkBoundsBeginEnd_d044e ∈ lwT := inT2 36 rfl rfl
theorem q_277 : Cond.code yJ2_checkBoundsBeginEnd_d044e cJ2_checkBoundsBeginEnd_d044e 3 (Option.none : Option Jvm.ClassFile.FieldType) ∈ lwT := inT2 37 rfl rfl
theorem q_278 : Cond.methodLink "java/lang/StringUTF16" 48 yJ2_length_9d52b ∈ lwT := inT2 38 rfl rfl
theorem q_279 : Cond.static yJ2_length_9d52b ∈ lwT := inT2 39 rfl rfl
theorem q_280 : Cond.code yJ2_length_9d52b cJ2_length_9d52b 1 (Option.some FieldType.int) ∈ lwT := inT2 40 rfl rfl
theorem q_281 : Cond.methodLink "java/lang/StringUTF16" 241 yJ0_checkBoundsBeginEnd_23922 ∈ lwT := inT2 41 rfl rfl
theorem q_282 : Cond.static yJ0_checkBoundsBeginEnd_23922 ∈ lwT := inT2 42 rfl rfl
theorem q_283 : Cond.code yJ0_checkBoundsBeginEnd_23922 cJ0_checkBoundsBeginEnd_23922 3 (Option.none : Option Jvm.ClassFile.FieldType) ∈ lwT := inT2 43 rfl rfl
theorem q_284 : Cond.fieldLink "java/lang/String" 1053 "jdk/internal/util/Preconditions" "SIOOBE_FORMATTER" "Ljava/util/function/BiFunction;" ∈ lwT := inT2 44 rfl rfl
theorem q_286 : Cond.methodLink "java/lang/String" 1062 yJ3_checkFromToIndex_8c36e ∈ lwT := inT2 46 rfl rfl
theorem q_287 : Cond.static yJ3_checkFromToIndex_8c36e ∈ lwT := inT2 47 rfl rfl
theorem q_288 : Cond.code yJ3_checkFromToIndex_8c36e cJ3_checkFromToIndex_8c36e 4 (Option.some FieldType.int) ∈ lwT := inT2 48 rfl rfl
theorem q_289 : Cond.methodLink "java/lang/StringUTF16" 244 yJ2_indexOfCharUnsafe_4cfef ∈ lwT := inT2 49 rfl rfl
theorem q_290 : Cond.static yJ2_indexOfCharUnsafe_4cfef ∈ lwT := inT2 50 rfl rfl
theorem q_291 : Cond.code yJ2_indexOfCharUnsafe_4cfef cJ2_indexOfCharUnsafe_4cfef 5 (Option.some FieldType.int) ∈ lwT := inT2 51 rfl rfl
theorem q_292 : Cond.methodLink "java/lang/StringUTF16" 71 yJ2_getChar_3b067 ∈ lwT := inT2 52 rfl rfl
theorem q_293 : Cond.static yJ2_getChar_3b067 ∈ lwT := inT2 53 rfl rfl
theorem q_294 : Cond.code yJ2_getChar_3b067 cJ2_getChar_3b067 2 (Option.some FieldType.char) ∈ lwT := inT2 54 rfl rfl
theorem q_295 : Cond.fieldLink "java/lang/StringUTF16" 44 "java/lang/StringUTF16" "$assertionsDisabled" "Z" ∈ lwT := inT2 55 rfl rfl
theorem q_297 : Cond.fieldLink "java/lang/StringUTF16" 59 "java/lang/StringUTF16" "HI_BYTE_SHIFT" "I" ∈ lwT := inT2 57 rfl rfl
theorem q_299 : Cond.fieldLink "java/lang/StringUTF16" 63 "java/lang/StringUTF16" "LO_BYTE_SHIFT" "I" ∈ lwT := inT2 59 rfl rfl
theorem q_301 : Cond.methodLink "java/lang/StringUTF16" 232 yJ2_indexOfSupplementary_4cfef ∈ lwT := inT2 61 rfl rfl
theorem q_302 : Cond.static yJ2_indexOfSupplementary_4cfef ∈ lwT := inT2 62 rfl rfl
theorem q_303 : Cond.code yJ2_indexOfSupplementary_4cfef cJ2_indexOfSupplementary_4cfef 7 (Option.some FieldType.int) ∈ lwT := inT2 63 rfl rfl
theorem q_304 : Cond.methodLink "java/lang/StringUTF16" 164 yJ11_isValidCodePoint_9a6ad ∈ lwT := inT2 64 rfl rfl
theorem q_305 : Cond.static yJ11_isValidCodePoint_9a6ad ∈ lwT := inT2 65 rfl rfl
theorem q_306 : Cond.code yJ11_isValidCodePoint_9a6ad cJ11_isValidCodePoint_9a6ad 2 (Option.some FieldType.boolean) ∈ lwT := inT2 66 rfl rfl
theorem q_307 : Cond.methodLink "java/lang/StringUTF16" 157 yJ11_highSurrogate_5068e ∈ lwT := inT2 67 rfl rfl
theorem q_308 : Cond.static yJ11_highSurrogate_5068e ∈ lwT := inT2 68 rfl rfl
theorem q_309 : Cond.code yJ11_highSurrogate_5068e cJ11_highSurrogate_5068e 1 (Option.some FieldType.char) ∈ lwT := inT2 69 rfl rfl
theorem q_310 : Cond.constant "java/lang/Character" 110 (55232 : Int32) ∈ lwT := inT2 70 rfl rfl
theorem q_311 : Cond.methodLink "java/lang/StringUTF16" 161 yJ11_lowSurrogate_5068e ∈ lwT := inT2 71 rfl rfl
theorem q_312 : Cond.static yJ11_lowSurrogate_5068e ∈ lwT := inT2 72 rfl rfl
theorem q_313 : Cond.code yJ11_lowSurrogate_5068e cJ11_lowSurrogate_5068e 1 (Option.some FieldType.char) ∈ lwT := inT2 73 rfl rfl
theorem q_314 : Cond.constant "java/lang/Character" 76 (56320 : Int32) ∈ lwT := inT2 74 rfl rfl
theorem q_315 : Cond.arrayClass FieldType.byte ∈ lwT := inT2 75 rfl rfl
theorem q_316 : Cond.methodLink "FoldedStripLaw" 27 yX6_strip ∈ lwT := inT2 76 rfl rfl
theorem q_317 : Cond.instanceMethod yX6_strip ∈ lwT := inT2 77 rfl rfl
theorem q_318 : Cond.selects "FoldedStrip" yX6_strip yX6_strip ∈ lwT := inT2 78 rfl rfl
theorem q_319 : Cond.code yX6_strip cX6_strip 2 (Option.some FieldType.int) ∈ lwT := inT2 79 rfl rfl
theorem q_320 : Cond.methodLink "FoldedStrip" 83 yX2_kindAt ∈ lwT := inT2 80 rfl rfl
theorem q_321 : Cond.methodLink "FoldedStrip" 87 yX0_foldAll ∈ lwT := inT2 81 rfl rfl
theorem q_322 : Cond.instanceMethod yX0_foldAll ∈ lwT := inT2 82 rfl rfl
theorem q_323 : Cond.selects "FoldedStrip$Folds" yX0_foldAll yX0_foldAll ∈ lwT := inT2 83 rfl rfl
theorem q_324 : Cond.code yX0_foldAll cX0_foldAll 3 (Option.none : Option Jvm.ClassFile.FieldType) ∈ lwT := inT2 84 rfl rfl
theorem q_325 : Cond.methodLink "FoldedStrip$Folds" 28 yX0_addBelow ∈ lwT := inT2 85 rfl rfl
theorem q_326 : Cond.static yX0_addBelow ∈ lwT := inT2 86 rfl rfl
theorem q_327 : Cond.code yX0_addBelow cX0_addBelow 4 (Option.none : Option Jvm.ClassFile.FieldType) ∈ lwT := inT2 87 rfl rfl
theorem q_328 : Cond.methodLink "FoldedStrip$Folds" 56 yX0_keep ∈ lwT := inT2 88 rfl rfl
theorem q_330 : Cond.instanceMethod yX0_keep ∈ lwT := inT2 90 rfl rfl
theorem q_331 : Cond.code yX0_keep cX0_keep 4 (Option.none : Option Jvm.ClassFile.FieldType) ∈ lwT := inT2 91 rfl rfl
theorem q_332 : Cond.methodLink "FoldedStrip$Folds" 60 yX0_canComeNext ∈ lwT := inT2 92 rfl rfl
theorem q_334 : Cond.instanceMethod yX0_canComeNext ∈ lwT := inT2 94 rfl rfl
theorem q_335 : Cond.code yX0_canComeNext cX0_canComeNext 2 (Option.some FieldType.boolean) ∈ lwT := inT2 95 rfl rfl
theorem q_336 : Cond.methodLink "FoldedStrip$Folds" 64 yX0_crossesAbove ∈ lwT := inT2 96 rfl rfl
theorem q_338 : Cond.instanceMethod yX0_crossesAbove ∈ lwT := inT2 98 rfl rfl
theorem q_339 : Cond.code yX0_crossesAbove cX0_crossesAbove 6 (Option.some FieldType.boolean) ∈ lwT := inT2 99 rfl rfl
theorem q_340 : Cond.methodLink "FoldedStrip$Folds" 68 yX0_mateOf ∈ lwT := inT2 100 rfl rfl
theorem q_342 : Cond.instanceMethod yX0_mateOf ∈ lwT := inT2 102 rfl rfl
theorem q_343 : Cond.code yX0_mateOf cX0_mateOf 4 (Option.some FieldType.int) ∈ lwT := inT2 103 rfl rfl
theorem q_344 : Cond.methodLink "FoldedStrip$Folds" 53 yX0_shiftOf ∈ lwT := inT2 104 rfl rfl
theorem q_345 : Cond.static yX0_shiftOf ∈ lwT := inT2 105 rfl rfl
theorem q_346 : Cond.code yX0_shiftOf cX0_shiftOf 1 (Option.some FieldType.int) ∈ lwT := inT2 106 rfl rfl
theorem q_347 : Cond.methodLink "FoldedStrip" 99 yX5_judgeAll ∈ lwT := inT2 107 rfl rfl
theorem q_348 : Cond.instanceMethod yX5_judgeAll ∈ lwT := inT2 108 rfl rfl
theorem q_349 : Cond.selects "FoldedStrip$Verdicts" yX5_judgeAll yX5_judgeAll ∈ lwT := inT2 109 rfl rfl
theorem q_350 : Cond.code yX5_judgeAll cX5_judgeAll 2 (Option.none : Option Jvm.ClassFile.FieldType) ∈ lwT := inT2 110 rfl rfl
theorem q_351 : Cond.methodLink "FoldedStrip$Verdicts" 35 yX5_areAllContent ∈ lwT := inT2 111 rfl rfl
theorem q_353 : Cond.instanceMethod yX5_areAllContent ∈ lwT := inT2 113 rfl rfl
theorem q_354 : Cond.code yX5_areAllContent cX5_areAllContent 3 (Option.some FieldType.boolean) ∈ lwT := inT2 114 rfl rfl
theorem q_355 : Cond.methodLink "FoldedStrip$Verdicts" 71 yX5_isContent ∈ lwT := inT2 115 rfl rfl
theorem q_356 : Cond.instanceMethod yX5_isContent ∈ lwT := inT2 116 rfl rfl
theorem q_357 : Cond.selects "FoldedStrip$Verdicts" yX5_isContent yX5_isContent ∈ lwT := inT2 117 rfl rfl
theorem q_358 : Cond.code yX5_isContent cX5_isContent 5 (Option.some FieldType.boolean) ∈ lwT := inT2 118 rfl rfl
theorem q_359 : Cond.methodLink "FoldedStrip$Verdicts" 43 yX0_placeOf ∈ lwT := inT2 119 rfl rfl
theorem q_360 : Cond.instanceMethod yX0_placeOf ∈ lwT := inT2 120 rfl rfl
theorem q_361 : Cond.selects "FoldedStrip$Folds" yX0_placeOf yX0_placeOf ∈ lwT := inT2 121 rfl rfl
theorem q_362 : Cond.code yX0_placeOf cX0_placeOf 3 (Option.some FieldType.int) ∈ lwT := inT2 122 rfl rfl
theorem q_364 : Cond.static yX6_isOfKind ∈ lwT := inT2 124 rfl rfl
theorem q_365 : Cond.code yX6_isOfKind cX6_isOfKind 2 (Option.some FieldType.boolean) ∈ lwT := inT2 125 rfl rfl
theorem q_366 : Cond.methodLink "FoldedStrip$Verdicts" 54 yX5_hasWaxAt ∈ lwT := inT2 126 rfl rfl
theorem q_368 : Cond.instanceMethod yX5_hasWaxAt ∈ lwT := inT2 128 rfl rfl
theorem q_369 : Cond.code yX5_hasWaxAt cX5_hasWaxAt 4 (Option.some FieldType.boolean) ∈ lwT := inT2 129 rfl rfl
theorem q_370 : Cond.methodLink "FoldedStrip$Verdicts" 65 yX0_leafAt ∈ lwT := inT2 130 rfl rfl
theorem q_371 : Cond.instanceMethod yX0_leafAt ∈ lwT := inT2 131 rfl rfl
theorem q_372 : Cond.selects "FoldedStrip$Folds" yX0_leafAt yX0_leafAt ∈ lwT := inT2 132 rfl rfl
theorem q_373 : Cond.code yX0_leafAt cX0_leafAt 3 (Option.some FieldType.int) ∈ lwT := inT2 133 rfl rfl
theorem q_374 : Cond.methodLink "FoldedStrip$Folds" 32 yX0_leafIn ∈ lwT := inT2 134 rfl rfl
theorem q_375 : Cond.static yX0_leafIn ∈ lwT := inT2 135 rfl rfl
theorem q_376 : Cond.code yX0_leafIn cX0_leafIn 2 (Option.some FieldType.int) ∈ lwT := inT2 136 rfl rfl
theorem q_377 : Cond.methodLink "FoldedStrip$Verdicts" 39 yX5_widestHinge ∈ lwT := inT2 137 rfl rfl
theorem q_379 : Cond.instanceMethod yX5_widestHinge ∈ lwT := inT2 139 rfl rfl
theorem q_380 : Cond.code yX5_widestHinge cX5_widestHinge 4 (Option.some FieldType.int) ∈ lwT := inT2 140 rfl rfl
theorem q_381 : Cond.methodLink "FoldedStrip$Verdicts" 74 yX5_width ∈ lwT := inT2 141 rfl rfl
theorem q_382 : Cond.instanceMethod yX5_width ∈ lwT := inT2 142 rfl rfl
theorem q_383 : Cond.selects "FoldedStrip$Verdicts" yX5_width yX5_width ∈ lwT := inT2 143 rfl rfl
theorem q_384 : Cond.code yX5_width cX5_width 8 (Option.some FieldType.int) ∈ lwT := inT2 144 rfl rfl
theorem q_385 : Cond.methodLink "FoldedStrip$Verdicts" 57 yJ9_min_7cf53 ∈ lwT := inT2 145 rfl rfl
theorem q_386 : Cond.methodLink "FoldedStrip$Verdicts" 62 yJ9_max_7cf53 ∈ lwT := inT2 146 rfl rfl
theorem q_388 : Cond.static yX6_thickness ∈ lwT := inT2 148 rfl rfl
theorem q_389 : Cond.code yX6_thickness cX6_thickness 1 (Option.some FieldType.int) ∈ lwT := inT2 149 rfl rfl
theorem q_390 : Cond.methodLink "FoldedStrip" 127 yX6_isOfKind ∈ lwT := inT2 150 rfl rfl
theorem q_391 : Cond.methodLink "FoldedStripLaw" 31 yX6_leaf ∈ lwT := inT2 151 rfl rfl
theorem q_392 : Cond.instanceMethod yX6_leaf ∈ lwT := inT2 152 rfl rfl
theorem q_393 : Cond.selects "FoldedStrip" yX6_leaf yX6_leaf ∈ lwT := inT2 153 rfl rfl
theorem q_394 : Cond.code yX6_leaf cX6_leaf 3 (Option.some FieldType.int) ∈ lwT := inT2 154 rfl rfl
theorem q_395 : Cond.methodLink "FoldedStrip" 105 yX6_isLeaf ∈ lwT := inT2 155 rfl rfl
theorem q_397 : Cond.instanceMethod yX6_isLeaf ∈ lwT := inT2 157 rfl rfl
theorem q_398 : Cond.code yX6_isLeaf cX6_isLeaf 2 (Option.some FieldType.boolean) ∈ lwT := inT2 158 rfl rfl
theorem q_399 : Cond.methodLink "FoldedStrip" 109 yX6_thickness ∈ lwT := inT2 159 rfl rfl
theorem q_400 : Cond.methodLink "FoldedStrip" 112 yX0_placeOf ∈ lwT := inT2 160 rfl rfl
theorem q_401 : Cond.methodLink "FoldedStrip" 116 yX5_isContent ∈ lwT := inT2 161 rfl rfl
theorem q_402 : Cond.methodLink "FoldedStrip" 120 yX6_asNumber ∈ lwT := inT2 162 rfl rfl
theorem q_403 : Cond.static yX6_asNumber ∈ lwT := inT2 163 rfl rfl
theorem q_404 : Cond.code yX6_asNumber cX6_asNumber 1 (Option.some FieldType.int) ∈ lwT := inT2 164 rfl rfl
theorem q_405 : Cond.methodLink "FoldedStripLaw" 36 yX6_as ∈ lwT := inT2 165 rfl rfl
theorem q_406 : Cond.instanceMethod yX6_as ∈ lwT := inT2 166 rfl rfl
theorem q_407 : Cond.selects "FoldedStrip" yX6_as yX6_as ∈ lwT := inT2 167 rfl rfl
theorem q_408 : Cond.code yX6_as cX6_as 3 (Option.some FieldType.int) ∈ lwT := inT2 168 rfl rfl
theorem q_409 : Cond.methodLink "FoldedStrip" 124 yX6_isKind ∈ lwT := inT2 169 rfl rfl
theorem q_410 : Cond.static yX6_isKind ∈ lwT := inT2 170 rfl rfl
theorem q_411 : Cond.code yX6_isKind cX6_isKind 1 (Option.some FieldType.boolean) ∈ lwT := inT2 171 rfl rfl
theorem q_413 : Cond.methodLink "FoldedStrip" 253 yJ0_length_8abf5 ∈ lwT := inT2 173 rfl rfl
theorem q_414 : Cond.methodLink "FoldedStripLaw" 40 yX6_hinge ∈ lwT := inT2 174 rfl rfl
theorem q_415 : Cond.instanceMethod yX6_hinge ∈ lwT := inT2 175 rfl rfl
theorem q_416 : Cond.selects "FoldedStrip" yX6_hinge yX6_hinge ∈ lwT := inT2 176 rfl rfl
theorem q_417 : Cond.code yX6_hinge cX6_hinge 3 (Option.some FieldType.int) ∈ lwT := inT2 177 rfl rfl
theorem q_418 : Cond.methodLink "FoldedStrip" 130 yX5_width ∈ lwT := inT2 178 rfl rfl
theorem q_419 : Cond.methodLink "FoldedStripLaw" 44 yX6_at ∈ lwT := inT2 179 rfl rfl
theorem q_420 : Cond.instanceMethod yX6_at ∈ lwT := inT2 180 rfl rfl
theorem q_421 : Cond.selects "FoldedStrip" yX6_at yX6_at ∈ lwT := inT2 181 rfl rfl
theorem q_422 : Cond.code yX6_at cX6_at 2 (Option.some FieldType.int) ∈ lwT := inT2 182 rfl rfl
theorem q_423 : Cond.methodLink "FoldedStrip" 133 yX6_isPlace ∈ lwT := inT2 183 rfl rfl
theorem q_425 : Cond.instanceMethod yX6_isPlace ∈ lwT := inT2 185 rfl rfl
theorem q_426 : Cond.code yX6_isPlace cX6_isPlace 2 (Option.some FieldType.boolean) ∈ lwT := inT2 186 rfl rfl
theorem q_427 : Cond.methodLink "FoldedStrip" 136 yX0_leafAt ∈ lwT := inT2 187 rfl rfl
theorem q_428 : Cond.methodLink "FoldedStripLaw" 48 yX6_may ∈ lwT := inT2 188 rfl rfl
theorem q_429 : Cond.instanceMethod yX6_may ∈ lwT := inT2 189 rfl rfl
theorem q_430 : Cond.selects "FoldedStrip" yX6_may yX6_may ∈ lwT := inT2 190 rfl rfl
theorem q_431 : Cond.code yX6_may cX6_may 3 (Option.some FieldType.int) ∈ lwT := inT2 191 rfl rfl
theorem q_432 : Cond.methodLink "FoldedStrip" 139 yX0_afterMove ∈ lwT := inT2 192 rfl rfl
theorem q_433 : Cond.instanceMethod yX0_afterMove ∈ lwT := inT2 193 rfl rfl
theorem q_434 : Cond.selects "FoldedStrip$Folds" yX0_afterMove yX0_afterMove ∈ lwT := inT2 194 rfl rfl
theorem q_435 : Cond.code yX0_afterMove cX0_afterMove 5 (Option.some FieldType.int) ∈ lwT := inT2 195 rfl rfl
theorem q_436 : Cond.methodLink "FoldedStrip$Folds" 36 yX0_placeOf ∈ lwT := inT2 196 rfl rfl
theorem q_437 : Cond.methodLink "FoldedStrip$Folds" 39 yX0_takeOut ∈ lwT := inT2 197 rfl rfl
theorem q_438 : Cond.static yX0_takeOut ∈ lwT := inT2 198 rfl rfl
theorem q_439 : Cond.code yX0_takeOut cX0_takeOut 4 (Option.some FieldType.int) ∈ lwT := inT2 199 rfl rfl
theorem q_440 : Cond.methodLink "FoldedStrip$Folds" 71 yX0_upTo ∈ lwT := inT2 200 rfl rfl
theorem q_441 : Cond.static yX0_upTo ∈ lwT := inT2 201 rfl rfl
theorem q_442 : Cond.code yX0_upTo cX0_upTo 2 (Option.some FieldType.int) ∈ lwT := inT2 202 rfl rfl
theorem q_443 : Cond.methodLink "FoldedStrip$Folds" 42 yX0_putIn ∈ lwT := inT2 203 rfl rfl
theorem q_444 : Cond.static yX0_putIn ∈ lwT := inT2 204 rfl rfl
theorem q_445 : Cond.code yX0_putIn cX0_putIn 5 (Option.some FieldType.int) ∈ lwT := inT2 205 rfl rfl
theorem q_446 : Cond.methodLink "FoldedStrip$Folds" 46 yX0_find ∈ lwT := inT2 206 rfl rfl
theorem q_448 : Cond.instanceMethod yX0_find ∈ lwT := inT2 208 rfl rfl
theorem q_449 : Cond.code yX0_find cX0_find 4 (Option.some FieldType.int) ∈ lwT := inT2 209 rfl rfl
theorem q_450 : Cond.methodLink "FoldedStripLaw" 52 yX6_move ∈ lwT := inT2 210 rfl rfl
theorem q_451 : Cond.instanceMethod yX6_move ∈ lwT := inT2 211 rfl rfl
theorem q_452 : Cond.selects "FoldedStrip" yX6_move yX6_move ∈ lwT := inT2 212 rfl rfl
theorem q_453 : Cond.code yX6_move cX6_move 4 (Option.some FieldType.int) ∈ lwT := inT2 213 rfl rfl
theorem q_454 : Cond.methodLink "FoldedStrip" 143 yX6_openHinges ∈ lwT := inT2 214 rfl rfl
theorem q_456 : Cond.instanceMethod yX6_openHinges ∈ lwT := inT2 216 rfl rfl
theorem q_457 : Cond.code yX6_openHinges cX6_openHinges 3 (Option.some FieldType.int) ∈ lwT := inT2 217 rfl rfl
theorem q_458 : Cond.methodLink "FoldedStripLaw" 56 yX6_turn ∈ lwT := inT2 218 rfl rfl
theorem q_459 : Cond.instanceMethod yX6_turn ∈ lwT := inT2 219 rfl rfl
theorem q_460 : Cond.selects "FoldedStrip" yX6_turn yX6_turn ∈ lwT := inT2 220 rfl rfl
theorem q_461 : Cond.code yX6_turn cX6_turn 1 (Option.some FieldType.int) ∈ lwT := inT2 221 rfl rfl
theorem q_462 : Cond.methodLink "FoldedStrip" 146 yX6_isWithoutStrip ∈ lwT := inT2 222 rfl rfl
theorem q_464 : Cond.instanceMethod yX6_isWithoutStrip ∈ lwT := inT2 224 rfl rfl
theorem q_465 : Cond.code yX6_isWithoutStrip cX6_isWithoutStrip 1 (Option.some FieldType.boolean) ∈ lwT := inT2 225 rfl rfl
theorem q_466 : Cond.methodLink "FoldedStrip" 150 yX0_afterTurn ∈ lwT := inT2 226 rfl rfl
theorem q_467 : Cond.instanceMethod yX0_afterTurn ∈ lwT := inT2 227 rfl rfl
theorem q_468 : Cond.selects "FoldedStrip$Folds" yX0_afterTurn yX0_afterTurn ∈ lwT := inT2 228 rfl rfl
theorem q_469 : Cond.code yX0_afterTurn cX0_afterTurn 4 (Option.some FieldType.int) ∈ lwT := inT2 229 rfl rfl
theorem q_470 : Cond.methodLink "FoldedStrip$Folds" 50 yX0_leafAt ∈ lwT := inT2 230 rfl rfl
theorem q_471 : Cond.methodLink "FoldedStripLaw" 60 yX6_lay ∈ lwT := inT2 231 rfl rfl
theorem q_472 : Cond.instanceMethod yX6_lay ∈ lwT := inT2 232 rfl rfl
theorem q_473 : Cond.selects "FoldedStrip" yX6_lay yX6_lay ∈ lwT := inT2 233 rfl rfl
theorem q_474 : Cond.code yX6_lay cX6_lay 3 (Option.some FieldType.int) ∈ lwT := inT2 234 rfl rfl
theorem q_475 : Cond.methodLink "FoldedStrip" 153 yX6_isOrder ∈ lwT := inT2 235 rfl rfl
theorem q_477 : Cond.instanceMethod yX6_isOrder ∈ lwT := inT2 237 rfl rfl
theorem q_478 : Cond.code yX6_isOrder cX6_isOrder 2 (Option.some FieldType.boolean) ∈ lwT := inT2 238 rfl rfl
theorem q_479 : Cond.methodLink "FoldedStripLaw" 64 yX6_change ∈ lwT := inT2 239 rfl rfl
theorem q_480 : Cond.instanceMethod yX6_change ∈ lwT := inT3 0 rfl rfl
theorem q_481 : Cond.selects "FoldedStrip" yX6_change yX6_change ∈ lwT := inT3 1 rfl rfl
theorem q_482 : Cond.code yX6_change cX6_change 4 (Option.some FieldType.int) ∈ lwT := inT3 2 rfl rfl
theorem q_483 : Cond.methodLink "FoldedStripLaw" 68 yX6_orders ∈ lwT := inT3 3 rfl rfl
theorem q_484 : Cond.instanceMethod yX6_orders ∈ lwT := inT3 4 rfl rfl
theorem q_485 : Cond.selects "FoldedStrip" yX6_orders yX6_orders ∈ lwT := inT3 5 rfl rfl
theorem q_486 : Cond.code yX6_orders cX6_orders 2 (Option.some FieldType.int) ∈ lwT := inT3 6 rfl rfl
theorem q_487 : Cond.methodLink "FoldedStrip" 160 yX5_isFit ∈ lwT := inT3 7 rfl rfl
theorem q_488 : Cond.instanceMethod yX5_isFit ∈ lwT := inT3 8 rfl rfl
theorem q_489 : Cond.selects "FoldedStrip$Verdicts" yX5_isFit yX5_isFit ∈ lwT := inT3 9 rfl rfl
theorem q_490 : Cond.code yX5_isFit cX5_isFit 2 (Option.some FieldType.boolean) ∈ lwT := inT3 10 rfl rfl
theorem q_491 : Cond.methodLink "FoldedStripLaw" 72 yX6_order ∈ lwT := inT3 11 rfl rfl
theorem q_492 : Cond.instanceMethod yX6_order ∈ lwT := inT3 12 rfl rfl
theorem q_493 : Cond.selects "FoldedStrip" yX6_order yX6_order ∈ lwT := inT3 13 rfl rfl
theorem q_494 : Cond.code yX6_order cX6_order 3 (Option.some FieldType.int) ∈ lwT := inT3 14 rfl rfl
theorem q_495 : Cond.methodLink "FoldedStrip" 163 yX5_widestOf ∈ lwT := inT3 15 rfl rfl
theorem q_496 : Cond.instanceMethod yX5_widestOf ∈ lwT := inT3 16 rfl rfl
theorem q_497 : Cond.selects "FoldedStrip$Verdicts" yX5_widestOf yX5_widestOf ∈ lwT := inT3 17 rfl rfl
theorem q_498 : Cond.code yX5_widestOf cX5_widestOf 2 (Option.some FieldType.int) ∈ lwT := inT3 18 rfl rfl
theorem q_499 : Cond.methodLink "FoldedStripLaw" 76 yX6_tops ∈ lwT := inT3 19 rfl rfl
theorem q_500 : Cond.instanceMethod yX6_tops ∈ lwT := inT3 20 rfl rfl
theorem q_501 : Cond.selects "FoldedStrip" yX6_tops yX6_tops ∈ lwT := inT3 21 rfl rfl
theorem q_502 : Cond.code yX6_tops cX6_tops 5 (Option.some FieldType.int) ∈ lwT := inT3 22 rfl rfl
theorem q_503 : Cond.methodLink "FoldedStripLaw" 80 yX6_near ∈ lwT := inT3 23 rfl rfl
theorem q_504 : Cond.instanceMethod yX6_near ∈ lwT := inT3 24 rfl rfl
theorem q_505 : Cond.selects "FoldedStrip" yX6_near yX6_near ∈ lwT := inT3 25 rfl rfl
theorem q_506 : Cond.code yX6_near cX6_near 2 (Option.some FieldType.int) ∈ lwT := inT3 26 rfl rfl
theorem q_507 : Cond.methodLink "FoldedStrip" 166 yX3_measureFrom ∈ lwT := inT3 27 rfl rfl
theorem q_508 : Cond.instanceMethod yX3_measureFrom ∈ lwT := inT3 28 rfl rfl
theorem q_509 : Cond.selects "FoldedStrip$Paths" yX3_measureFrom yX3_measureFrom ∈ lwT := inT3 29 rfl rfl
theorem q_510 : Cond.code yX3_measureFrom cX3_measureFrom 4 (Option.none : Option Jvm.ClassFile.FieldType) ∈ lwT := inT3 30 rfl rfl
theorem q_511 : Cond.methodLink "FoldedStrip$Paths" 44 yX3_findSteps ∈ lwT := inT3 31 rfl rfl
theorem q_513 : Cond.instanceMethod yX3_findSteps ∈ lwT := inT3 33 rfl rfl
theorem q_514 : Cond.code yX3_findSteps cX3_findSteps 2 (Option.none : Option Jvm.ClassFile.FieldType) ∈ lwT := inT3 34 rfl rfl
theorem q_515 : Cond.methodLink "FoldedStrip$Paths" 51 yX3_findStepsFrom ∈ lwT := inT3 35 rfl rfl
theorem q_517 : Cond.instanceMethod yX3_findStepsFrom ∈ lwT := inT3 37 rfl rfl
theorem q_518 : Cond.code yX3_findStepsFrom cX3_findStepsFrom 5 (Option.none : Option Jvm.ClassFile.FieldType) ∈ lwT := inT3 38 rfl rfl
theorem q_519 : Cond.methodLink "FoldedStrip$Paths" 55 yX0_leafAt ∈ lwT := inT3 39 rfl rfl
theorem q_520 : Cond.methodLink "FoldedStrip$Paths" 58 yX0_afterMove ∈ lwT := inT3 40 rfl rfl
theorem q_521 : Cond.methodLink "FoldedStrip$Paths" 62 yX3_addStep ∈ lwT := inT3 41 rfl rfl
theorem q_523 : Cond.instanceMethod yX3_addStep ∈ lwT := inT3 43 rfl rfl
theorem q_524 : Cond.code yX3_addStep cX3_addStep 2 (Option.none : Option Jvm.ClassFile.FieldType) ∈ lwT := inT3 44 rfl rfl
theorem q_525 : Cond.methodLink "FoldedStrip$Paths" 47 yX3_spread ∈ lwT := inT3 45 rfl rfl
theorem q_527 : Cond.instanceMethod yX3_spread ∈ lwT := inT3 47 rfl rfl
theorem q_528 : Cond.code yX3_spread cX3_spread 6 (Option.some FieldType.int) ∈ lwT := inT3 48 rfl rfl
theorem q_529 : Cond.methodLink "FoldedStrip" 169 yX3_distanceTo ∈ lwT := inT3 49 rfl rfl
theorem q_530 : Cond.instanceMethod yX3_distanceTo ∈ lwT := inT3 50 rfl rfl
theorem q_531 : Cond.selects "FoldedStrip$Paths" yX3_distanceTo yX3_distanceTo ∈ lwT := inT3 51 rfl rfl
theorem q_532 : Cond.code yX3_distanceTo cX3_distanceTo 2 (Option.some FieldType.int) ∈ lwT := inT3 52 rfl rfl
theorem q_533 : Cond.methodLink "FoldedStripLaw" 84 yX6_far ∈ lwT := inT3 53 rfl rfl
theorem q_534 : Cond.instanceMethod yX6_far ∈ lwT := inT3 54 rfl rfl
theorem q_535 : Cond.selects "FoldedStrip" yX6_far yX6_far ∈ lwT := inT3 55 rfl rfl
theorem q_536 : Cond.code yX6_far cX6_far 3 (Option.some FieldType.int) ∈ lwT := inT3 56 rfl rfl
theorem q_537 : Cond.methodLink "FoldedStrip" 172 yX6_farthest ∈ lwT := inT3 57 rfl rfl
theorem q_539 : Cond.instanceMethod yX6_farthest ∈ lwT := inT3 59 rfl rfl
theorem q_540 : Cond.code yX6_farthest cX6_farthest 3 (Option.some FieldType.int) ∈ lwT := inT3 60 rfl rfl
theorem q_541 : Cond.methodLink "FoldedStrip" 175 yX6_home ∈ lwT := inT3 61 rfl rfl
theorem q_543 : Cond.instanceMethod yX6_home ∈ lwT := inT3 63 rfl rfl
theorem q_544 : Cond.code yX6_home cX6_home 4 (Option.some FieldType.int) ∈ lwT := inT3 64 rfl rfl
theorem q_545 : Cond.methodLink "FoldedStripLaw" 88 yX6_trim ∈ lwT := inT3 65 rfl rfl
theorem q_546 : Cond.instanceMethod yX6_trim ∈ lwT := inT3 66 rfl rfl
theorem q_547 : Cond.selects "FoldedStrip" yX6_trim yX6_trim ∈ lwT := inT3 67 rfl rfl
theorem q_548 : Cond.code yX6_trim cX6_trim 3 (Option.some FieldType.int) ∈ lwT := inT3 68 rfl rfl
theorem q_549 : Cond.methodLink "FoldedStrip" 178 yX5_trimmest ∈ lwT := inT3 69 rfl rfl
theorem q_550 : Cond.instanceMethod yX5_trimmest ∈ lwT := inT3 70 rfl rfl
theorem q_551 : Cond.selects "FoldedStrip$Verdicts" yX5_trimmest yX5_trimmest ∈ lwT := inT3 71 rfl rfl
theorem q_552 : Cond.code yX5_trimmest cX5_trimmest 3 (Option.some FieldType.int) ∈ lwT := inT3 72 rfl rfl
theorem q_553 : Cond.methodLink "FoldedStripLaw" 92 yX6_odds ∈ lwT := inT3 73 rfl rfl
theorem q_554 : Cond.instanceMethod yX6_odds ∈ lwT := inT3 74 rfl rfl
theorem q_555 : Cond.selects "FoldedStrip" yX6_odds yX6_odds ∈ lwT := inT3 75 rfl rfl
theorem q_556 : Cond.code yX6_odds cX6_odds 6 (Option.some FieldType.int) ∈ lwT := inT3 76 rfl rfl
theorem q_557 : Cond.methodLink "FoldedStrip" 181 yX5_fitsWithAbove ∈ lwT := inT3 77 rfl rfl
theorem q_558 : Cond.instanceMethod yX5_fitsWithAbove ∈ lwT := inT3 78 rfl rfl
theorem q_559 : Cond.selects "FoldedStrip$Verdicts" yX5_fitsWithAbove yX5_fitsWithAbove ∈ lwT := inT3 79 rfl rfl
theorem q_560 : Cond.code yX5_fitsWithAbove cX5_fitsWithAbove 5 (Option.some FieldType.int) ∈ lwT := inT3 80 rfl rfl
theorem q_561 : Cond.methodLink "FoldedStrip" 184 yX6_commonDivisor ∈ lwT := inT3 81 rfl rfl
theorem q_562 : Cond.static yX6_commonDivisor ∈ lwT := inT3 82 rfl rfl
theorem q_563 : Cond.code yX6_commonDivisor cX6_commonDivisor 6 (Option.some FieldType.int) ∈ lwT := inT3 83 rfl rfl
theorem q_564 : Cond.methodLink "FoldedStrip" 265 yJ9_max_7cf53 ∈ lwT := inT3 84 rfl rfl
theorem q_565 : Cond.methodLink "FoldedStripLaw" 97 yX6_see ∈ lwT := inT3 85 rfl rfl
theorem q_566 : Cond.instanceMethod yX6_see ∈ lwT := inT3 86 rfl rfl
theorem q_567 : Cond.selects "FoldedStrip" yX6_see yX6_see ∈ lwT := inT3 87 rfl rfl
theorem q_568 : Cond.code yX6_see cX6_see 4 (Option.some FieldType.int) ∈ lwT := inT3 88 rfl rfl
theorem q_569 : Cond.methodLink "FoldedStrip" 187 yX4_addSeen ∈ lwT := inT3 89 rfl rfl
theorem q_570 : Cond.instanceMethod yX4_addSeen ∈ lwT := inT3 90 rfl rfl
theorem q_571 : Cond.selects "FoldedStrip$Pile" yX4_addSeen yX4_addSeen ∈ lwT := inT3 91 rfl rfl
theorem q_572 : Cond.code yX4_addSeen cX4_addSeen 4 (Option.none : Option Jvm.ClassFile.FieldType) ∈ lwT := inT3 92 rfl rfl
theorem q_573 : Cond.methodLink "FoldedStripLaw" 102 yX6_forget ∈ lwT := inT3 93 rfl rfl
theorem q_574 : Cond.instanceMethod yX6_forget ∈ lwT := inT3 94 rfl rfl
theorem q_575 : Cond.selects "FoldedStrip" yX6_forget yX6_forget ∈ lwT := inT3 95 rfl rfl
theorem q_576 : Cond.code yX6_forget cX6_forget 2 (Option.some FieldType.int) ∈ lwT := inT3 96 rfl rfl
theorem q_577 : Cond.methodLink "FoldedStripLaw" 106 yX6_could ∈ lwT := inT3 97 rfl rfl
theorem q_578 : Cond.instanceMethod yX6_could ∈ lwT := inT3 98 rfl rfl
theorem q_579 : Cond.selects "FoldedStrip" yX6_could yX6_could ∈ lwT := inT3 99 rfl rfl
theorem q_580 : Cond.code yX6_could cX6_could 1 (Option.some FieldType.int) ∈ lwT := inT3 100 rfl rfl
theorem q_581 : Cond.methodLink "FoldedStrip" 191 yX1_countPossible ∈ lwT := inT3 101 rfl rfl
theorem q_582 : Cond.instanceMethod yX1_countPossible ∈ lwT := inT3 102 rfl rfl
theorem q_583 : Cond.selects "FoldedStrip$Needle" yX1_countPossible yX1_countPossible ∈ lwT := inT3 103 rfl rfl
theorem q_584 : Cond.code yX1_countPossible cX1_countPossible 3 (Option.some FieldType.int) ∈ lwT := inT3 104 rfl rfl
theorem q_585 : Cond.methodLink "FoldedStrip$Needle" 29 yX1_isPossible ∈ lwT := inT3 105 rfl rfl
theorem q_587 : Cond.instanceMethod yX1_isPossible ∈ lwT := inT3 107 rfl rfl
theorem q_588 : Cond.code yX1_isPossible cX1_isPossible 4 (Option.some FieldType.boolean) ∈ lwT := inT3 108 rfl rfl
theorem q_589 : Cond.methodLink "FoldedStrip$Needle" 50 yX0_placeOf ∈ lwT := inT3 109 rfl rfl
theorem q_590 : Cond.methodLink "FoldedStripLaw" 110 yX6_trial ∈ lwT := inT3 110 rfl rfl
theorem q_591 : Cond.instanceMethod yX6_trial ∈ lwT := inT3 111 rfl rfl
theorem q_592 : Cond.selects "FoldedStrip" yX6_trial yX6_trial ∈ lwT := inT3 112 rfl rfl
theorem q_593 : Cond.code yX6_trial cX6_trial 1 (Option.some FieldType.int) ∈ lwT := inT3 113 rfl rfl
theorem q_594 : Cond.methodLink "FoldedStrip" 194 yX1_bestTry ∈ lwT := inT3 114 rfl rfl
theorem q_595 : Cond.instanceMethod yX1_bestTry ∈ lwT := inT3 115 rfl rfl
theorem q_596 : Cond.selects "FoldedStrip$Needle" yX1_bestTry yX1_bestTry ∈ lwT := inT3 116 rfl rfl
theorem q_597 : Cond.code yX1_bestTry cX1_bestTry 8 (Option.some FieldType.int) ∈ lwT := inT3 117 rfl rfl
theorem q_598 : Cond.methodLink "FoldedStrip$Needle" 33 yX1_countThrough ∈ lwT := inT3 118 rfl rfl
theorem q_600 : Cond.instanceMethod yX1_countThrough ∈ lwT := inT3 120 rfl rfl
theorem q_601 : Cond.code yX1_countThrough cX1_countThrough 4 (Option.some FieldType.int) ∈ lwT := inT3 121 rfl rfl
theorem q_602 : Cond.methodLink "FoldedStrip$Needle" 40 yX1_rowOf ∈ lwT := inT3 122 rfl rfl
theorem q_603 : Cond.static yX1_rowOf ∈ lwT := inT3 123 rfl rfl
theorem q_604 : Cond.code yX1_rowOf cX1_rowOf 1 (Option.some FieldType.int) ∈ lwT := inT3 124 rfl rfl
theorem q_605 : Cond.methodLink "FoldedStrip$Needle" 44 yJ9_max_7cf53 ∈ lwT := inT3 125 rfl rfl
theorem q_606 : Cond.methodLink "FoldedStripLaw" 114 yX6_shuffles ∈ lwT := inT3 126 rfl rfl
theorem q_607 : Cond.instanceMethod yX6_shuffles ∈ lwT := inT3 127 rfl rfl
theorem q_608 : Cond.selects "FoldedStrip" yX6_shuffles yX6_shuffles ∈ lwT := inT3 128 rfl rfl
theorem q_609 : Cond.code yX6_shuffles cX6_shuffles 11 (Option.some FieldType.int) ∈ lwT := inT3 129 rfl rfl
theorem q_610 : Cond.methodLink "FoldedStrip" 197 yX6_seedAfter ∈ lwT := inT3 130 rfl rfl
theorem q_611 : Cond.static yX6_seedAfter ∈ lwT := inT3 131 rfl rfl
theorem q_612 : Cond.code yX6_seedAfter cX6_seedAfter 1 (Option.some FieldType.int) ∈ lwT := inT3 132 rfl rfl
theorem q_613 : Cond.constantLong "FoldedStrip" 258 (1103515245 : Int64) ∈ lwT := inT3 133 rfl rfl
theorem q_614 : Cond.constantLong "FoldedStrip" 260 (12345 : Int64) ∈ lwT := inT3 134 rfl rfl
theorem q_615 : Cond.constantLong "FoldedStrip" 262 (2147483648 : Int64) ∈ lwT := inT3 135 rfl rfl
theorem q_616 : Cond.methodLink "FoldedStrip" 200 yX6_draw ∈ lwT := inT3 136 rfl rfl
theorem q_617 : Cond.static yX6_draw ∈ lwT := inT3 137 rfl rfl
theorem q_618 : Cond.code yX6_draw cX6_draw 2 (Option.some FieldType.int) ∈ lwT := inT3 138 rfl rfl
theorem q_619 : Cond.constant "FoldedStrip" 264 (65536 : Int32) ∈ lwT := inT3 139 rfl rfl
theorem q_620 : Cond.methodLink "FoldedStripLaw" 118 yX6_image ∈ lwT := inT3 140 rfl rfl
theorem q_621 : Cond.instanceMethod yX6_image ∈ lwT := inT3 141 rfl rfl
theorem q_622 : Cond.selects "FoldedStrip" yX6_image yX6_image ∈ lwT := inT3 142 rfl rfl
theorem q_623 : Cond.code yX6_image cX6_image 1 (Option.some FieldType.int) ∈ lwT := inT3 143 rfl rfl
theorem q_624 : Cond.methodLink "FoldedStrip" 203 yX4_copyFrom ∈ lwT := inT3 144 rfl rfl
theorem q_625 : Cond.instanceMethod yX4_copyFrom ∈ lwT := inT3 145 rfl rfl
theorem q_626 : Cond.selects "FoldedStrip$Pile" yX4_copyFrom yX4_copyFrom ∈ lwT := inT3 146 rfl rfl
theorem q_627 : Cond.code yX4_copyFrom cX4_copyFrom 3 (Option.none : Option Jvm.ClassFile.FieldType) ∈ lwT := inT3 147 rfl rfl
theorem q_628 : Cond.methodLink "FoldedStripLaw" 122 yX6_restore ∈ lwT := inT3 148 rfl rfl
theorem q_629 : Cond.instanceMethod yX6_restore ∈ lwT := inT3 149 rfl rfl
theorem q_630 : Cond.selects "FoldedStrip" yX6_restore yX6_restore ∈ lwT := inT3 150 rfl rfl
theorem q_631 : Cond.code yX6_restore cX6_restore 1 (Option.some FieldType.int) ∈ lwT := inT3 151 rfl rfl
theorem q_632 : Cond.methodLink "FoldedStripLaw" 126 yX6_count ∈ lwT := inT3 152 rfl rfl
theorem q_633 : Cond.instanceMethod yX6_count ∈ lwT := inT3 153 rfl rfl
theorem q_634 : Cond.selects "FoldedStrip" yX6_count yX6_count ∈ lwT := inT3 154 rfl rfl
theorem q_635 : Cond.code yX6_count cX6_count 2 (Option.some FieldType.int) ∈ lwT := inT3 155 rfl rfl
theorem q_636 : Cond.methodLink "FoldedStrip" 207 yX6_wholeThickness ∈ lwT := inT3 156 rfl rfl
theorem q_638 : Cond.instanceMethod yX6_wholeThickness ∈ lwT := inT3 158 rfl rfl
theorem q_639 : Cond.code yX6_wholeThickness cX6_wholeThickness 3 (Option.some FieldType.int) ∈ lwT := inT3 159 rfl rfl
theorem q_640 : Cond.methodLink "FoldedStrip" 210 yX6_contentLeaves ∈ lwT := inT3 160 rfl rfl
theorem q_642 : Cond.instanceMethod yX6_contentLeaves ∈ lwT := inT3 162 rfl rfl
theorem q_643 : Cond.code yX6_contentLeaves cX6_contentLeaves 3 (Option.some FieldType.int) ∈ lwT := inT3 163 rfl rfl
theorem q_644 : Cond.methodLink "FoldedStrip" 213 yX6_possibleMoves ∈ lwT := inT3 164 rfl rfl
theorem q_646 : Cond.instanceMethod yX6_possibleMoves ∈ lwT := inT3 166 rfl rfl
theorem q_647 : Cond.code yX6_possibleMoves cX6_possibleMoves 5 (Option.some FieldType.int) ∈ lwT := inT3 167 rfl rfl
theorem q_648 : Cond.methodLink "FoldedStripLaw" 130 yX6_digest ∈ lwT := inT3 168 rfl rfl
theorem q_649 : Cond.instanceMethod yX6_digest ∈ lwT := inT3 169 rfl rfl
theorem q_650 : Cond.selects "FoldedStrip" yX6_digest yX6_digest ∈ lwT := inT3 170 rfl rfl
theorem q_651 : Cond.code yX6_digest cX6_digest 5 (Option.some FieldType.long) ∈ lwT := inT3 171 rfl rfl
theorem q_652 : Cond.constantLong "FoldedStrip" 216 (1319 : Int64) ∈ lwT := inT3 172 rfl rfl
theorem q_653 : Cond.constantLong "FoldedStrip" 218 (31 : Int64) ∈ lwT := inT3 173 rfl rfl
theorem q_654 : Cond.methodLink "FoldedStrip" 220 yX6_leaf ∈ lwT := inT3 174 rfl rfl
theorem q_655 : Cond.methodLink "FoldedStrip" 223 yX6_tops ∈ lwT := inT3 175 rfl rfl
theorem q_656 : Cond.methodLink "FoldedStrip" 226 yX6_hinge ∈ lwT := inT3 176 rfl rfl
theorem q_657 : Cond.methodLink "FoldedStrip" 229 yX6_withOrders ∈ lwT := inT3 177 rfl rfl
theorem q_659 : Cond.instanceMethod yX6_withOrders ∈ lwT := inT3 179 rfl rfl
theorem q_660 : Cond.code yX6_withOrders cX6_withOrders 6 (Option.some FieldType.long) ∈ lwT := inT3 180 rfl rfl
theorem q_661 : Cond.methodLink "FoldedStrip" 239 yX6_orders ∈ lwT := inT3 181 rfl rfl
theorem q_662 : Cond.methodLink "FoldedStrip" 242 yX6_trim ∈ lwT := inT3 182 rfl rfl
theorem q_663 : Cond.methodLink "FoldedStrip" 245 yX6_odds ∈ lwT := inT3 183 rfl rfl
theorem q_664 : Cond.methodLink "FoldedStrip" 248 yX6_could ∈ lwT := inT3 184 rfl rfl
theorem q_665 : Cond.methodLink "FoldedStrip" 236 yX6_count ∈ lwT := inT3 185 rfl rfl
theorem q_666 : Cond.classLink "FoldedStripLaw" 10 "FoldedStripModel" ∈ lwT := inT3 186 rfl rfl
theorem q_667 : Cond.instantiable "FoldedStripModel" 26 ∈ lwT := inT3 187 rfl rfl
theorem q_668 : Cond.methodLink "FoldedStripLaw" 12 yX7_init ∈ lwT := inT3 188 rfl rfl
theorem q_669 : Cond.instanceMethod yX7_init ∈ lwT := inT3 189 rfl rfl
theorem q_670 : Cond.code yX7_init cX7_init 1 (Option.none : Option Jvm.ClassFile.FieldType) ∈ lwT := inT3 190 rfl rfl
theorem q_671 : Cond.methodLink "FoldedStripModel" 1 (⟨"java/lang/Object", "<init>", "()V"⟩ : MethodName) ∈ lwT := inT3 191 rfl rfl
theorem q_672 : Cond.fieldLink "FoldedStripModel" 7 "FoldedStripModel" "page" "[I" ∈ lwT := inT3 192 rfl rfl
theorem q_673 : Cond.fieldLink "FoldedStripModel" 62 "FoldedStripModel" "pageMany" "I" ∈ lwT := inT3 193 rfl rfl
theorem q_674 : Cond.fieldLink "FoldedStripModel" 73 "FoldedStripModel" "leaves" "I" ∈ lwT := inT3 194 rfl rfl
theorem q_675 : Cond.fieldLink "FoldedStripModel" 79 "FoldedStripModel" "moves" "I" ∈ lwT := inT3 195 rfl rfl
theorem q_676 : Cond.fieldLink "FoldedStripModel" 85 "FoldedStripModel" "stripsRead" "I" ∈ lwT := inT3 196 rfl rfl
theorem q_677 : Cond.fieldLink "FoldedStripModel" 13 "FoldedStripModel" "kinds" "[I" ∈ lwT := inT3 197 rfl rfl
theorem q_678 : Cond.fieldLink "FoldedStripModel" 16 "FoldedStripModel" "lies" "[I" ∈ lwT := inT3 198 rfl rfl
theorem q_679 : Cond.fieldLink "FoldedStripModel" 19 "FoldedStripModel" "orders" "[I" ∈ lwT := inT3 199 rfl rfl
theorem q_680 : Cond.fieldLink "FoldedStripModel" 100 "FoldedStripModel" "orderMany" "I" ∈ lwT := inT3 200 rfl rfl
theorem q_681 : Cond.fieldLink "FoldedStripModel" 22 "FoldedStripModel" "places" "[I" ∈ lwT := inT3 201 rfl rfl
theorem q_682 : Cond.fieldLink "FoldedStripModel" 25 "FoldedStripModel" "tried" "[I" ∈ lwT := inT3 202 rfl rfl
theorem q_683 : Cond.fieldLink "FoldedStripModel" 28 "FoldedStripModel" "shifted" "[I" ∈ lwT := inT3 203 rfl rfl
theorem q_684 : Cond.fieldLink "FoldedStripModel" 31 "FoldedStripModel" "far" "[I" ∈ lwT := inT3 204 rfl rfl
theorem q_685 : Cond.fieldLink "FoldedStripModel" 34 "FoldedStripModel" "queue" "[I" ∈ lwT := inT3 205 rfl rfl
theorem q_686 : Cond.fieldLink "FoldedStripModel" 160 "FoldedStripModel" "queued" "I" ∈ lwT := inT3 206 rfl rfl
theorem q_687 : Cond.fieldLink "FoldedStripModel" 82 "FoldedStripModel" "seenMany" "I" ∈ lwT := inT3 207 rfl rfl
theorem q_688 : Cond.fieldLink "FoldedStripModel" 37 "FoldedStripModel" "sights" "[I" ∈ lwT := inT3 208 rfl rfl
theorem q_689 : Cond.fieldLink "FoldedStripModel" 239 "FoldedStripModel" "seedNow" "I" ∈ lwT := inT3 209 rfl rfl
theorem q_690 : Cond.fieldLink "FoldedStripModel" 40 "FoldedStripModel" "then" "[I" ∈ lwT := inT3 210 rfl rfl
theorem q_691 : Cond.fieldLink "FoldedStripModel" 52 "FoldedStripModel" "keptStrip" "I" ∈ lwT := inT3 211 rfl rfl
theorem q_692 : Cond.fieldLink "FoldedStripModel" 254 "FoldedStripModel" "keptMoves" "I" ∈ lwT := inT3 212 rfl rfl
theorem q_693 : Cond.fieldLink "FoldedStripModel" 257 "FoldedStripModel" "keptSeen" "I" ∈ lwT := inT3 213 rfl rfl
theorem q_694 : Cond.fieldLink "FoldedStripModel" 43 "FoldedStripModel" "keptKinds" "[I" ∈ lwT := inT3 214 rfl rfl
theorem q_695 : Cond.fieldLink "FoldedStripModel" 46 "FoldedStripModel" "keptLies" "[I" ∈ lwT := inT3 215 rfl rfl
theorem q_696 : Cond.fieldLink "FoldedStripModel" 49 "FoldedStripModel" "keptSights" "[I" ∈ lwT := inT3 216 rfl rfl
theorem q_697 : Cond.fieldLink "FoldedStripModel" 271 "FoldedStripModel" "hash" "J" ∈ lwT := inT3 217 rfl rfl
theorem q_698 : Cond.laysFinal "FoldedStripModel" "FoldedStripModel" "page" "[I" ∈ lwT := inT3 218 rfl rfl
theorem q_700 : Cond.lays "FoldedStripModel" "FoldedStripModel" "pageMany" "I" ∈ lwT := inT3 220 rfl rfl
theorem q_702 : Cond.lays "FoldedStripModel" "FoldedStripModel" "leaves" "I" ∈ lwT := inT3 222 rfl rfl
theorem q_704 : Cond.lays "FoldedStripModel" "FoldedStripModel" "moves" "I" ∈ lwT := inT3 224 rfl rfl
theorem q_706 : Cond.lays "FoldedStripModel" "FoldedStripModel" "stripsRead" "I" ∈ lwT := inT3 226 rfl rfl
theorem q_708 : Cond.laysFinal "FoldedStripModel" "FoldedStripModel" "kinds" "[I" ∈ lwT := inT3 228 rfl rfl
theorem q_710 : Cond.laysFinal "FoldedStripModel" "FoldedStripModel" "lies" "[I" ∈ lwT := inT3 230 rfl rfl
theorem q_712 : Cond.laysFinal "FoldedStripModel" "FoldedStripModel" "orders" "[I" ∈ lwT := inT3 232 rfl rfl
theorem q_714 : Cond.lays "FoldedStripModel" "FoldedStripModel" "orderMany" "I" ∈ lwT := inT3 234 rfl rfl
theorem q_716 : Cond.laysFinal "FoldedStripModel" "FoldedStripModel" "places" "[I" ∈ lwT := inT3 236 rfl rfl
theorem q_718 : Cond.laysFinal "FoldedStripModel" "FoldedStripModel" "tried" "[I" ∈ lwT := inT3 238 rfl rfl
theorem q_720 : Cond.laysFinal "FoldedStripModel" "FoldedStripModel" "shifted" "[I" ∈ lwT := inT4 0 rfl rfl
theorem q_722 : Cond.laysFinal "FoldedStripModel" "FoldedStripModel" "far" "[I" ∈ lwT := inT4 2 rfl rfl
theorem q_724 : Cond.laysFinal "FoldedStripModel" "FoldedStripModel" "queue" "[I" ∈ lwT := inT4 4 rfl rfl
theorem q_726 : Cond.lays "FoldedStripModel" "FoldedStripModel" "queued" "I" ∈ lwT := inT4 6 rfl rfl
theorem q_728 : Cond.lays "FoldedStripModel" "FoldedStripModel" "seenMany" "I" ∈ lwT := inT4 8 rfl rfl
theorem q_730 : Cond.laysFinal "FoldedStripModel" "FoldedStripModel" "sights" "[I" ∈ lwT := inT4 10 rfl rfl
theorem q_732 : Cond.lays "FoldedStripModel" "FoldedStripModel" "seedNow" "I" ∈ lwT := inT4 12 rfl rfl
theorem q_734 : Cond.laysFinal "FoldedStripModel" "FoldedStripModel" "then" "[I" ∈ lwT := inT4 14 rfl rfl
theorem q_736 : Cond.lays "FoldedStripModel" "FoldedStripModel" "keptStrip" "I" ∈ lwT := inT4 16 rfl rfl
theorem q_738 : Cond.lays "FoldedStripModel" "FoldedStripModel" "keptMoves" "I" ∈ lwT := inT4 18 rfl rfl
theorem q_740 : Cond.lays "FoldedStripModel" "FoldedStripModel" "keptSeen" "I" ∈ lwT := inT4 20 rfl rfl
theorem q_742 : Cond.laysFinal "FoldedStripModel" "FoldedStripModel" "keptKinds" "[I" ∈ lwT := inT4 22 rfl rfl
theorem q_744 : Cond.laysFinal "FoldedStripModel" "FoldedStripModel" "keptLies" "[I" ∈ lwT := inT4 24 rfl rfl
theorem q_746 : Cond.laysFinal "FoldedStripModel" "FoldedStripModel" "keptSights" "[I" ∈ lwT := inT4 26 rfl rfl
theorem q_748 : Cond.lays "FoldedStripModel" "FoldedStripModel" "hash" "J" ∈ lwT := inT4 28 rfl rfl
theorem q_750 : Cond.superclass "FoldedStripModel" "java/lang/Object" ∈ lwT := inT4 30 rfl rfl
theorem q_751 : Cond.methodLink "FoldedStripLaw" 17 yX7_letter ∈ lwT := inT4 31 rfl rfl
theorem q_752 : Cond.instanceMethod yX7_letter ∈ lwT := inT4 32 rfl rfl
theorem q_753 : Cond.selects "FoldedStripModel" yX7_letter yX7_letter ∈ lwT := inT4 33 rfl rfl
theorem q_754 : Cond.code yX7_letter cX7_letter 2 (Option.some FieldType.int) ∈ lwT := inT4 34 rfl rfl
theorem q_755 : Cond.constantLong "FoldedStripModel" 56 (126 : Int64) ∈ lwT := inT4 35 rfl rfl
theorem q_756 : Cond.methodLink "FoldedStripModel" 58 yX7_in ∈ lwT := inT4 36 rfl rfl
theorem q_757 : Cond.static yX7_in ∈ lwT := inT4 37 rfl rfl
theorem q_758 : Cond.code yX7_in cX7_in 6 (Option.some FieldType.boolean) ∈ lwT := inT4 38 rfl rfl
theorem q_759 : Cond.methodLink "FoldedStripLaw" 22 yX7_blank ∈ lwT := inT4 39 rfl rfl
theorem q_760 : Cond.instanceMethod yX7_blank ∈ lwT := inT4 40 rfl rfl
theorem q_761 : Cond.selects "FoldedStripModel" yX7_blank yX7_blank ∈ lwT := inT4 41 rfl rfl
theorem q_762 : Cond.code yX7_blank cX7_blank 2 (Option.some FieldType.int) ∈ lwT := inT4 42 rfl rfl
theorem q_763 : Cond.methodLink "FoldedStripLaw" 26 yX7_fault ∈ lwT := inT4 43 rfl rfl
theorem q_764 : Cond.instanceMethod yX7_fault ∈ lwT := inT4 44 rfl rfl
theorem q_765 : Cond.selects "FoldedStripModel" yX7_fault yX7_fault ∈ lwT := inT4 45 rfl rfl
theorem q_766 : Cond.code yX7_fault cX7_fault 1 (Option.some FieldType.int) ∈ lwT := inT4 46 rfl rfl
theorem q_767 : Cond.methodLink "FoldedStripModel" 69 yX7_faultOf ∈ lwT := inT4 47 rfl rfl
theorem q_769 : Cond.instanceMethod yX7_faultOf ∈ lwT := inT4 49 rfl rfl
theorem q_770 : Cond.code yX7_faultOf cX7_faultOf 2 (Option.some FieldType.int) ∈ lwT := inT4 50 rfl rfl
theorem q_771 : Cond.methodLink "FoldedStripModel" 65 yX7_kindBy ∈ lwT := inT4 51 rfl rfl
theorem q_772 : Cond.static yX7_kindBy ∈ lwT := inT4 52 rfl rfl
theorem q_773 : Cond.code yX7_kindBy cX7_kindBy 1 (Option.some FieldType.int) ∈ lwT := inT4 53 rfl rfl
theorem q_774 : Cond.methodLink "FoldedStripLaw" 30 yX7_strip ∈ lwT := inT4 54 rfl rfl
theorem q_775 : Cond.instanceMethod yX7_strip ∈ lwT := inT4 55 rfl rfl
theorem q_776 : Cond.selects "FoldedStripModel" yX7_strip yX7_strip ∈ lwT := inT4 56 rfl rfl
theorem q_777 : Cond.code yX7_strip cX7_strip 2 (Option.some FieldType.int) ∈ lwT := inT4 57 rfl rfl
theorem q_778 : Cond.methodLink "FoldedStripModel" 76 yX7_layOrders ∈ lwT := inT4 58 rfl rfl
theorem q_780 : Cond.instanceMethod yX7_layOrders ∈ lwT := inT4 60 rfl rfl
theorem q_781 : Cond.code yX7_layOrders cX7_layOrders 2 (Option.none : Option Jvm.ClassFile.FieldType) ∈ lwT := inT4 61 rfl rfl
theorem q_782 : Cond.methodLink "FoldedStripModel" 103 yX7_isFolded ∈ lwT := inT4 62 rfl rfl
theorem q_784 : Cond.instanceMethod yX7_isFolded ∈ lwT := inT4 64 rfl rfl
theorem q_785 : Cond.code yX7_isFolded cX7_isFolded 6 (Option.some FieldType.boolean) ∈ lwT := inT4 65 rfl rfl
theorem q_786 : Cond.methodLink "FoldedStripModel" 88 yX7_layPlaces ∈ lwT := inT4 66 rfl rfl
theorem q_788 : Cond.instanceMethod yX7_layPlaces ∈ lwT := inT4 68 rfl rfl
theorem q_789 : Cond.code yX7_layPlaces cX7_layPlaces 3 (Option.none : Option Jvm.ClassFile.FieldType) ∈ lwT := inT4 69 rfl rfl
theorem q_790 : Cond.methodLink "FoldedStripModel" 92 yX7_isWithin ∈ lwT := inT4 70 rfl rfl
theorem q_791 : Cond.static yX7_isWithin ∈ lwT := inT4 71 rfl rfl
theorem q_792 : Cond.code yX7_isWithin cX7_isWithin 3 (Option.some FieldType.boolean) ∈ lwT := inT4 72 rfl rfl
theorem q_793 : Cond.methodLink "FoldedStripModel" 107 yX7_codeOf ∈ lwT := inT4 73 rfl rfl
theorem q_794 : Cond.static yX7_codeOf ∈ lwT := inT4 74 rfl rfl
theorem q_795 : Cond.code yX7_codeOf cX7_codeOf 4 (Option.some FieldType.int) ∈ lwT := inT4 75 rfl rfl
theorem q_796 : Cond.methodLink "FoldedStripModel" 111 yX7_isStepped ∈ lwT := inT4 76 rfl rfl
theorem q_798 : Cond.instanceMethod yX7_isStepped ∈ lwT := inT4 78 rfl rfl
theorem q_799 : Cond.code yX7_isStepped cX7_isStepped 5 (Option.some FieldType.boolean) ∈ lwT := inT4 79 rfl rfl
theorem q_800 : Cond.methodLink "FoldedStripModel" 96 yX7_trade ∈ lwT := inT4 80 rfl rfl
theorem q_802 : Cond.instanceMethod yX7_trade ∈ lwT := inT4 82 rfl rfl
theorem q_803 : Cond.code yX7_trade cX7_trade 4 (Option.none : Option Jvm.ClassFile.FieldType) ∈ lwT := inT4 83 rfl rfl
theorem q_804 : Cond.methodLink "FoldedStripLaw" 83 yX7_near ∈ lwT := inT4 84 rfl rfl
theorem q_805 : Cond.instanceMethod yX7_near ∈ lwT := inT4 85 rfl rfl
theorem q_806 : Cond.selects "FoldedStripModel" yX7_near yX7_near ∈ lwT := inT4 86 rfl rfl
theorem q_807 : Cond.code yX7_near cX7_near 2 (Option.some FieldType.int) ∈ lwT := inT4 87 rfl rfl
theorem q_808 : Cond.methodLink "FoldedStripModel" 170 yX7_isOrder ∈ lwT := inT4 88 rfl rfl
theorem q_810 : Cond.instanceMethod yX7_isOrder ∈ lwT := inT4 90 rfl rfl
theorem q_811 : Cond.code yX7_isOrder cX7_isOrder 2 (Option.some FieldType.boolean) ∈ lwT := inT4 91 rfl rfl
theorem q_812 : Cond.methodLink "FoldedStripModel" 118 yX7_lacks ∈ lwT := inT4 92 rfl rfl
theorem q_814 : Cond.instanceMethod yX7_lacks ∈ lwT := inT4 94 rfl rfl
theorem q_815 : Cond.code yX7_lacks cX7_lacks 1 (Option.some FieldType.boolean) ∈ lwT := inT4 95 rfl rfl
theorem q_816 : Cond.methodLink "FoldedStripModel" 173 yX7_nearOf ∈ lwT := inT4 96 rfl rfl
theorem q_818 : Cond.instanceMethod yX7_nearOf ∈ lwT := inT4 98 rfl rfl
theorem q_819 : Cond.code yX7_nearOf cX7_nearOf 2 (Option.some FieldType.int) ∈ lwT := inT4 99 rfl rfl
theorem q_820 : Cond.methodLink "FoldedStripModel" 167 yX7_layFar ∈ lwT := inT4 100 rfl rfl
theorem q_822 : Cond.instanceMethod yX7_layFar ∈ lwT := inT4 102 rfl rfl
theorem q_823 : Cond.code yX7_layFar cX7_layFar 6 (Option.none : Option Jvm.ClassFile.FieldType) ∈ lwT := inT4 103 rfl rfl
theorem q_824 : Cond.methodLink "FoldedStripModel" 157 yX7_orderNow ∈ lwT := inT4 104 rfl rfl
theorem q_826 : Cond.instanceMethod yX7_orderNow ∈ lwT := inT4 106 rfl rfl
theorem q_827 : Cond.code yX7_orderNow cX7_orderNow 1 (Option.some FieldType.int) ∈ lwT := inT4 107 rfl rfl
theorem q_828 : Cond.methodLink "FoldedStripModel" 115 yX7_orderOf ∈ lwT := inT4 108 rfl rfl
theorem q_830 : Cond.instanceMethod yX7_orderOf ∈ lwT := inT4 110 rfl rfl
theorem q_831 : Cond.code yX7_orderOf cX7_orderOf 3 (Option.some FieldType.int) ∈ lwT := inT4 111 rfl rfl
theorem q_832 : Cond.methodLink "FoldedStripModel" 133 yX7_layRow ∈ lwT := inT4 112 rfl rfl
theorem q_834 : Cond.instanceMethod yX7_layRow ∈ lwT := inT4 114 rfl rfl
theorem q_835 : Cond.code yX7_layRow cX7_layRow 5 (Option.none : Option Jvm.ClassFile.FieldType) ∈ lwT := inT4 115 rfl rfl
theorem q_836 : Cond.methodLink "FoldedStripModel" 163 yX7_codeBy ∈ lwT := inT4 116 rfl rfl
theorem q_838 : Cond.instanceMethod yX7_codeBy ∈ lwT := inT4 118 rfl rfl
theorem q_839 : Cond.code yX7_codeBy cX7_codeBy 4 (Option.some FieldType.int) ∈ lwT := inT4 119 rfl rfl
theorem q_840 : Cond.methodLink "FoldedStripModel" 149 yX7_copy ∈ lwT := inT4 120 rfl rfl
theorem q_841 : Cond.static yX7_copy ∈ lwT := inT4 121 rfl rfl
theorem q_842 : Cond.code yX7_copy cX7_copy 3 (Option.none : Option Jvm.ClassFile.FieldType) ∈ lwT := inT4 122 rfl rfl
theorem q_843 : Cond.methodLink "FoldedStripModel" 146 yX7_placeOf ∈ lwT := inT4 123 rfl rfl
theorem q_844 : Cond.static yX7_placeOf ∈ lwT := inT4 124 rfl rfl
theorem q_845 : Cond.code yX7_placeOf cX7_placeOf 3 (Option.some FieldType.int) ∈ lwT := inT4 125 rfl rfl
theorem q_846 : Cond.methodLink "FoldedStripModel" 153 yX7_shift ∈ lwT := inT4 126 rfl rfl
theorem q_847 : Cond.static yX7_shift ∈ lwT := inT4 127 rfl rfl
theorem q_848 : Cond.code yX7_shift cX7_shift 4 (Option.none : Option Jvm.ClassFile.FieldType) ∈ lwT := inT4 128 rfl rfl
theorem q_849 : Cond.methodLink "FoldedStripLaw" 87 yX7_far ∈ lwT := inT4 129 rfl rfl
theorem q_850 : Cond.instanceMethod yX7_far ∈ lwT := inT4 130 rfl rfl
theorem q_851 : Cond.selects "FoldedStripModel" yX7_far yX7_far ∈ lwT := inT4 131 rfl rfl
theorem q_852 : Cond.code yX7_far cX7_far 2 (Option.some FieldType.int) ∈ lwT := inT4 132 rfl rfl
theorem q_853 : Cond.constantLong "FoldedStripModel" 179 (3 : Int64) ∈ lwT := inT4 133 rfl rfl
theorem q_854 : Cond.methodLink "FoldedStripModel" 181 yX7_farthestOf ∈ lwT := inT4 134 rfl rfl
theorem q_856 : Cond.instanceMethod yX7_farthestOf ∈ lwT := inT4 136 rfl rfl
theorem q_857 : Cond.code yX7_farthestOf cX7_farthestOf 4 (Option.some FieldType.int) ∈ lwT := inT4 137 rfl rfl
theorem q_858 : Cond.methodLink "FoldedStripModel" 184 yX7_homeOf ∈ lwT := inT4 138 rfl rfl
theorem q_860 : Cond.instanceMethod yX7_homeOf ∈ lwT := inT4 140 rfl rfl
theorem q_861 : Cond.code yX7_homeOf cX7_homeOf 5 (Option.some FieldType.int) ∈ lwT := inT4 141 rfl rfl
theorem q_862 : Cond.methodLink "FoldedStripModel" 176 yX7_isFitOrder ∈ lwT := inT4 142 rfl rfl
theorem q_864 : Cond.instanceMethod yX7_isFitOrder ∈ lwT := inT4 144 rfl rfl
theorem q_865 : Cond.code yX7_isFitOrder cX7_isFitOrder 2 (Option.some FieldType.boolean) ∈ lwT := inT4 145 rfl rfl
theorem q_866 : Cond.methodLink "FoldedStripModel" 137 yX7_isFit ∈ lwT := inT4 146 rfl rfl
theorem q_868 : Cond.instanceMethod yX7_isFit ∈ lwT := inT4 148 rfl rfl
theorem q_869 : Cond.code yX7_isFit cX7_isFit 2 (Option.some FieldType.boolean) ∈ lwT := inT4 149 rfl rfl
theorem q_870 : Cond.methodLink "FoldedStripModel" 129 yX7_rightMany ∈ lwT := inT4 150 rfl rfl
theorem q_872 : Cond.instanceMethod yX7_rightMany ∈ lwT := inT4 152 rfl rfl
theorem q_873 : Cond.code yX7_rightMany cX7_rightMany 4 (Option.some FieldType.int) ∈ lwT := inT4 153 rfl rfl
theorem q_874 : Cond.methodLink "FoldedStripModel" 125 yX7_isRight ∈ lwT := inT4 154 rfl rfl
theorem q_876 : Cond.instanceMethod yX7_isRight ∈ lwT := inT4 156 rfl rfl
theorem q_877 : Cond.code yX7_isRight cX7_isRight 5 (Option.some FieldType.boolean) ∈ lwT := inT4 157 rfl rfl
theorem q_878 : Cond.methodLink "FoldedStripModel" 121 yX7_isSticky ∈ lwT := inT4 158 rfl rfl
theorem q_880 : Cond.instanceMethod yX7_isSticky ∈ lwT := inT4 160 rfl rfl
theorem q_881 : Cond.code yX7_isSticky cX7_isSticky 2 (Option.some FieldType.boolean) ∈ lwT := inT4 161 rfl rfl
theorem q_882 : Cond.methodLink "FoldedStripLaw" 91 yX7_trim ∈ lwT := inT4 162 rfl rfl
theorem q_883 : Cond.instanceMethod yX7_trim ∈ lwT := inT4 163 rfl rfl
theorem q_884 : Cond.selects "FoldedStripModel" yX7_trim yX7_trim ∈ lwT := inT4 164 rfl rfl
theorem q_885 : Cond.code yX7_trim cX7_trim 2 (Option.some FieldType.int) ∈ lwT := inT4 165 rfl rfl
theorem q_886 : Cond.methodLink "FoldedStripModel" 190 yX7_trimOf ∈ lwT := inT4 166 rfl rfl
theorem q_888 : Cond.instanceMethod yX7_trimOf ∈ lwT := inT4 168 rfl rfl
theorem q_889 : Cond.code yX7_trimOf cX7_trimOf 6 (Option.some FieldType.int) ∈ lwT := inT4 169 rfl rfl
theorem q_890 : Cond.methodLink "FoldedStripModel" 187 yX7_widest ∈ lwT := inT4 170 rfl rfl
theorem q_892 : Cond.instanceMethod yX7_widest ∈ lwT := inT4 172 rfl rfl
theorem q_893 : Cond.code yX7_widest cX7_widest 5 (Option.some FieldType.int) ∈ lwT := inT4 173 rfl rfl
theorem q_894 : Cond.methodLink "FoldedStripModel" 143 yX7_wideOf ∈ lwT := inT4 174 rfl rfl
theorem q_896 : Cond.instanceMethod yX7_wideOf ∈ lwT := inT4 176 rfl rfl
theorem q_897 : Cond.code yX7_wideOf cX7_wideOf 5 (Option.some FieldType.int) ∈ lwT := inT4 177 rfl rfl
theorem q_898 : Cond.methodLink "FoldedStripModel" 140 yX7_thick ∈ lwT := inT4 178 rfl rfl
theorem q_900 : Cond.instanceMethod yX7_thick ∈ lwT := inT4 180 rfl rfl
theorem q_901 : Cond.code yX7_thick cX7_thick 2 (Option.some FieldType.int) ∈ lwT := inT4 181 rfl rfl
theorem q_902 : Cond.methodLink "FoldedStripLaw" 96 yX7_odds ∈ lwT := inT4 182 rfl rfl
theorem q_903 : Cond.instanceMethod yX7_odds ∈ lwT := inT4 183 rfl rfl
theorem q_904 : Cond.selects "FoldedStripModel" yX7_odds yX7_odds ∈ lwT := inT4 184 rfl rfl
theorem q_905 : Cond.code yX7_odds cX7_odds 4 (Option.some FieldType.int) ∈ lwT := inT4 185 rfl rfl
theorem q_906 : Cond.methodLink "FoldedStripModel" 193 yX7_isLeaf ∈ lwT := inT4 186 rfl rfl
theorem q_908 : Cond.instanceMethod yX7_isLeaf ∈ lwT := inT4 188 rfl rfl
theorem q_909 : Cond.code yX7_isLeaf cX7_isLeaf 2 (Option.some FieldType.boolean) ∈ lwT := inT4 189 rfl rfl
theorem q_910 : Cond.methodLink "FoldedStripModel" 196 yX7_oddsOf ∈ lwT := inT4 190 rfl rfl
theorem q_912 : Cond.instanceMethod yX7_oddsOf ∈ lwT := inT4 192 rfl rfl
theorem q_913 : Cond.code yX7_oddsOf cX7_oddsOf 9 (Option.some FieldType.int) ∈ lwT := inT4 193 rfl rfl
theorem q_914 : Cond.methodLink "FoldedStripLaw" 35 yX7_leaf ∈ lwT := inT4 194 rfl rfl
theorem q_915 : Cond.instanceMethod yX7_leaf ∈ lwT := inT4 195 rfl rfl
theorem q_916 : Cond.selects "FoldedStripModel" yX7_leaf yX7_leaf ∈ lwT := inT4 196 rfl rfl
theorem q_917 : Cond.code yX7_leaf cX7_leaf 3 (Option.some FieldType.int) ∈ lwT := inT4 197 rfl rfl
theorem q_918 : Cond.methodLink "FoldedStripModel" 200 yX7_tellLeaf ∈ lwT := inT4 198 rfl rfl
theorem q_920 : Cond.instanceMethod yX7_tellLeaf ∈ lwT := inT4 200 rfl rfl
theorem q_921 : Cond.code yX7_tellLeaf cX7_tellLeaf 3 (Option.some FieldType.int) ∈ lwT := inT4 201 rfl rfl
theorem q_922 : Cond.methodLink "FoldedStripLaw" 39 yX7_as ∈ lwT := inT4 202 rfl rfl
theorem q_923 : Cond.instanceMethod yX7_as ∈ lwT := inT4 203 rfl rfl
theorem q_924 : Cond.selects "FoldedStripModel" yX7_as yX7_as ∈ lwT := inT4 204 rfl rfl
theorem q_925 : Cond.code yX7_as cX7_as 4 (Option.some FieldType.int) ∈ lwT := inT4 205 rfl rfl
theorem q_926 : Cond.constantLong "FoldedStripModel" 204 (4 : Int64) ∈ lwT := inT4 206 rfl rfl
theorem q_927 : Cond.methodLink "FoldedStripLaw" 43 yX7_hinge ∈ lwT := inT4 207 rfl rfl
theorem q_928 : Cond.instanceMethod yX7_hinge ∈ lwT := inT4 208 rfl rfl
theorem q_929 : Cond.selects "FoldedStripModel" yX7_hinge yX7_hinge ∈ lwT := inT4 209 rfl rfl
theorem q_930 : Cond.code yX7_hinge cX7_hinge 3 (Option.some FieldType.int) ∈ lwT := inT4 210 rfl rfl
theorem q_931 : Cond.methodLink "FoldedStripLaw" 47 yX7_at ∈ lwT := inT4 211 rfl rfl
theorem q_932 : Cond.instanceMethod yX7_at ∈ lwT := inT4 212 rfl rfl
theorem q_933 : Cond.selects "FoldedStripModel" yX7_at yX7_at ∈ lwT := inT4 213 rfl rfl
theorem q_934 : Cond.code yX7_at cX7_at 2 (Option.some FieldType.int) ∈ lwT := inT4 214 rfl rfl
theorem q_935 : Cond.methodLink "FoldedStripLaw" 51 yX7_may ∈ lwT := inT4 215 rfl rfl
theorem q_936 : Cond.instanceMethod yX7_may ∈ lwT := inT4 216 rfl rfl
theorem q_937 : Cond.selects "FoldedStripModel" yX7_may yX7_may ∈ lwT := inT4 217 rfl rfl
theorem q_938 : Cond.code yX7_may cX7_may 3 (Option.some FieldType.int) ∈ lwT := inT4 218 rfl rfl
theorem q_939 : Cond.methodLink "FoldedStripLaw" 71 yX7_orders ∈ lwT := inT4 219 rfl rfl
theorem q_940 : Cond.instanceMethod yX7_orders ∈ lwT := inT4 220 rfl rfl
theorem q_941 : Cond.selects "FoldedStripModel" yX7_orders yX7_orders ∈ lwT := inT4 221 rfl rfl
theorem q_942 : Cond.code yX7_orders cX7_orders 2 (Option.some FieldType.int) ∈ lwT := inT4 222 rfl rfl
theorem q_943 : Cond.methodLink "FoldedStripModel" 209 yX7_ordersOf ∈ lwT := inT4 223 rfl rfl
theorem q_945 : Cond.instanceMethod yX7_ordersOf ∈ lwT := inT4 225 rfl rfl
theorem q_946 : Cond.code yX7_ordersOf cX7_ordersOf 2 (Option.some FieldType.int) ∈ lwT := inT4 226 rfl rfl
theorem q_947 : Cond.methodLink "FoldedStripModel" 206 yX7_fitMany ∈ lwT := inT4 227 rfl rfl
theorem q_949 : Cond.instanceMethod yX7_fitMany ∈ lwT := inT4 229 rfl rfl
theorem q_950 : Cond.code yX7_fitMany cX7_fitMany 3 (Option.some FieldType.int) ∈ lwT := inT4 230 rfl rfl
theorem q_951 : Cond.methodLink "FoldedStripLaw" 75 yX7_order ∈ lwT := inT4 231 rfl rfl
theorem q_952 : Cond.instanceMethod yX7_order ∈ lwT := inT4 232 rfl rfl
theorem q_953 : Cond.selects "FoldedStripModel" yX7_order yX7_order ∈ lwT := inT4 233 rfl rfl
theorem q_954 : Cond.code yX7_order cX7_order 3 (Option.some FieldType.int) ∈ lwT := inT4 234 rfl rfl
theorem q_955 : Cond.constantLong "FoldedStripModel" 212 (10 : Int64) ∈ lwT := inT4 235 rfl rfl
theorem q_956 : Cond.constantLong "FoldedStripModel" 214 (16 : Int64) ∈ lwT := inT4 236 rfl rfl
theorem q_957 : Cond.methodLink "FoldedStripModel" 216 yX7_tellOrder ∈ lwT := inT4 237 rfl rfl
theorem q_959 : Cond.instanceMethod yX7_tellOrder ∈ lwT := inT4 239 rfl rfl
theorem q_960 : Cond.code yX7_tellOrder cX7_tellOrder 3 (Option.some FieldType.int) ∈ lwT := inT5 0 rfl rfl
theorem q_961 : Cond.methodLink "FoldedStripLaw" 79 yX7_tops ∈ lwT := inT5 1 rfl rfl
theorem q_962 : Cond.instanceMethod yX7_tops ∈ lwT := inT5 2 rfl rfl
theorem q_963 : Cond.selects "FoldedStripModel" yX7_tops yX7_tops ∈ lwT := inT5 3 rfl rfl
theorem q_964 : Cond.code yX7_tops cX7_tops 3 (Option.some FieldType.int) ∈ lwT := inT5 4 rfl rfl
theorem q_965 : Cond.methodLink "FoldedStripModel" 219 yX7_topsOf ∈ lwT := inT5 5 rfl rfl
theorem q_967 : Cond.instanceMethod yX7_topsOf ∈ lwT := inT5 7 rfl rfl
theorem q_968 : Cond.code yX7_topsOf cX7_topsOf 6 (Option.some FieldType.int) ∈ lwT := inT5 8 rfl rfl
theorem q_969 : Cond.methodLink "FoldedStripLaw" 55 yX7_move ∈ lwT := inT5 9 rfl rfl
theorem q_970 : Cond.instanceMethod yX7_move ∈ lwT := inT5 10 rfl rfl
theorem q_971 : Cond.selects "FoldedStripModel" yX7_move yX7_move ∈ lwT := inT5 11 rfl rfl
theorem q_972 : Cond.code yX7_move cX7_move 3 (Option.some FieldType.int) ∈ lwT := inT5 12 rfl rfl
theorem q_973 : Cond.methodLink "FoldedStripModel" 222 yX7_widerMany ∈ lwT := inT5 13 rfl rfl
theorem q_975 : Cond.instanceMethod yX7_widerMany ∈ lwT := inT5 15 rfl rfl
theorem q_976 : Cond.code yX7_widerMany cX7_widerMany 4 (Option.some FieldType.int) ∈ lwT := inT5 16 rfl rfl
theorem q_977 : Cond.methodLink "FoldedStripLaw" 59 yX7_turn ∈ lwT := inT5 17 rfl rfl
theorem q_978 : Cond.instanceMethod yX7_turn ∈ lwT := inT5 18 rfl rfl
theorem q_979 : Cond.selects "FoldedStripModel" yX7_turn yX7_turn ∈ lwT := inT5 19 rfl rfl
theorem q_980 : Cond.code yX7_turn cX7_turn 2 (Option.some FieldType.int) ∈ lwT := inT5 20 rfl rfl
theorem q_981 : Cond.methodLink "FoldedStripLaw" 63 yX7_lay ∈ lwT := inT5 21 rfl rfl
theorem q_982 : Cond.instanceMethod yX7_lay ∈ lwT := inT5 22 rfl rfl
theorem q_983 : Cond.selects "FoldedStripModel" yX7_lay yX7_lay ∈ lwT := inT5 23 rfl rfl
theorem q_984 : Cond.code yX7_lay cX7_lay 3 (Option.some FieldType.int) ∈ lwT := inT5 24 rfl rfl
theorem q_985 : Cond.methodLink "FoldedStripLaw" 67 yX7_change ∈ lwT := inT5 25 rfl rfl
theorem q_986 : Cond.instanceMethod yX7_change ∈ lwT := inT5 26 rfl rfl
theorem q_987 : Cond.selects "FoldedStripModel" yX7_change yX7_change ∈ lwT := inT5 27 rfl rfl
theorem q_988 : Cond.code yX7_change cX7_change 4 (Option.some FieldType.int) ∈ lwT := inT5 28 rfl rfl
theorem q_989 : Cond.methodLink "FoldedStripLaw" 101 yX7_see ∈ lwT := inT5 29 rfl rfl
theorem q_990 : Cond.instanceMethod yX7_see ∈ lwT := inT5 30 rfl rfl
theorem q_991 : Cond.selects "FoldedStripModel" yX7_see yX7_see ∈ lwT := inT5 31 rfl rfl
theorem q_992 : Cond.code yX7_see cX7_see 4 (Option.some FieldType.int) ∈ lwT := inT5 32 rfl rfl
theorem q_993 : Cond.methodLink "FoldedStripLaw" 105 yX7_forget ∈ lwT := inT5 33 rfl rfl
theorem q_994 : Cond.instanceMethod yX7_forget ∈ lwT := inT5 34 rfl rfl
theorem q_995 : Cond.selects "FoldedStripModel" yX7_forget yX7_forget ∈ lwT := inT5 35 rfl rfl
theorem q_996 : Cond.code yX7_forget cX7_forget 2 (Option.some FieldType.int) ∈ lwT := inT5 36 rfl rfl
theorem q_997 : Cond.methodLink "FoldedStripLaw" 109 yX7_could ∈ lwT := inT5 37 rfl rfl
theorem q_998 : Cond.instanceMethod yX7_could ∈ lwT := inT5 38 rfl rfl
theorem q_999 : Cond.selects "FoldedStripModel" yX7_could yX7_could ∈ lwT := inT5 39 rfl rfl
theorem q_1000 : Cond.code yX7_could cX7_could 1 (Option.some FieldType.int) ∈ lwT := inT5 40 rfl rfl
theorem q_1001 : Cond.methodLink "FoldedStripModel" 228 yX7_couldOf ∈ lwT := inT5 41 rfl rfl
theorem q_1003 : Cond.instanceMethod yX7_couldOf ∈ lwT := inT5 43 rfl rfl
theorem q_1004 : Cond.code yX7_couldOf cX7_couldOf 3 (Option.some FieldType.int) ∈ lwT := inT5 44 rfl rfl
theorem q_1005 : Cond.methodLink "FoldedStripModel" 225 yX7_isLikely ∈ lwT := inT5 45 rfl rfl
theorem q_1007 : Cond.instanceMethod yX7_isLikely ∈ lwT := inT5 47 rfl rfl
theorem q_1008 : Cond.code yX7_isLikely cX7_isLikely 5 (Option.some FieldType.boolean) ∈ lwT := inT5 48 rfl rfl
theorem q_1009 : Cond.methodLink "FoldedStripLaw" 113 yX7_trial ∈ lwT := inT5 49 rfl rfl
theorem q_1010 : Cond.instanceMethod yX7_trial ∈ lwT := inT5 50 rfl rfl
theorem q_1011 : Cond.selects "FoldedStripModel" yX7_trial yX7_trial ∈ lwT := inT5 51 rfl rfl
theorem q_1012 : Cond.code yX7_trial cX7_trial 1 (Option.some FieldType.int) ∈ lwT := inT5 52 rfl rfl
theorem q_1013 : Cond.methodLink "FoldedStripModel" 234 yX7_trialOf ∈ lwT := inT5 53 rfl rfl
theorem q_1015 : Cond.instanceMethod yX7_trialOf ∈ lwT := inT5 55 rfl rfl
theorem q_1016 : Cond.code yX7_trialOf cX7_trialOf 6 (Option.some FieldType.int) ∈ lwT := inT5 56 rfl rfl
theorem q_1017 : Cond.methodLink "FoldedStripModel" 231 yX7_worstBy ∈ lwT := inT5 57 rfl rfl
theorem q_1019 : Cond.instanceMethod yX7_worstBy ∈ lwT := inT5 59 rfl rfl
theorem q_1020 : Cond.code yX7_worstBy cX7_worstBy 6 (Option.some FieldType.int) ∈ lwT := inT5 60 rfl rfl
theorem q_1021 : Cond.methodLink "FoldedStripLaw" 117 yX7_shuffles ∈ lwT := inT5 61 rfl rfl
theorem q_1022 : Cond.instanceMethod yX7_shuffles ∈ lwT := inT5 62 rfl rfl
theorem q_1023 : Cond.selects "FoldedStripModel" yX7_shuffles yX7_shuffles ∈ lwT := inT5 63 rfl rfl
theorem q_1024 : Cond.code yX7_shuffles cX7_shuffles 8 (Option.some FieldType.int) ∈ lwT := inT5 64 rfl rfl
theorem q_1025 : Cond.constantLong "FoldedStripModel" 247 (99 : Int64) ∈ lwT := inT5 65 rfl rfl
theorem q_1026 : Cond.constantLong "FoldedStripModel" 249 (2 : Int64) ∈ lwT := inT5 66 rfl rfl
theorem q_1027 : Cond.methodLink "FoldedStripModel" 251 yX7_draw ∈ lwT := inT5 67 rfl rfl
theorem q_1029 : Cond.instanceMethod yX7_draw ∈ lwT := inT5 69 rfl rfl
theorem q_1030 : Cond.code yX7_draw cX7_draw 2 (Option.some FieldType.int) ∈ lwT := inT5 70 rfl rfl
theorem q_1031 : Cond.constantLong "FoldedStripModel" 237 (1103515245 : Int64) ∈ lwT := inT5 71 rfl rfl
theorem q_1032 : Cond.constantLong "FoldedStripModel" 242 (12345 : Int64) ∈ lwT := inT5 72 rfl rfl
theorem q_1033 : Cond.constantLong "FoldedStripModel" 244 (2147483647 : Int64) ∈ lwT := inT5 73 rfl rfl
theorem q_1034 : Cond.constant "FoldedStripModel" 246 (65536 : Int32) ∈ lwT := inT5 74 rfl rfl
theorem q_1035 : Cond.methodLink "FoldedStripLaw" 121 yX7_image ∈ lwT := inT5 75 rfl rfl
theorem q_1036 : Cond.instanceMethod yX7_image ∈ lwT := inT5 76 rfl rfl
theorem q_1037 : Cond.selects "FoldedStripModel" yX7_image yX7_image ∈ lwT := inT5 77 rfl rfl
theorem q_1038 : Cond.code yX7_image cX7_image 1 (Option.some FieldType.int) ∈ lwT := inT5 78 rfl rfl
theorem q_1039 : Cond.methodLink "FoldedStripLaw" 125 yX7_restore ∈ lwT := inT5 79 rfl rfl
theorem q_1040 : Cond.instanceMethod yX7_restore ∈ lwT := inT5 80 rfl rfl
theorem q_1041 : Cond.selects "FoldedStripModel" yX7_restore yX7_restore ∈ lwT := inT5 81 rfl rfl
theorem q_1042 : Cond.code yX7_restore cX7_restore 1 (Option.some FieldType.int) ∈ lwT := inT5 82 rfl rfl
theorem q_1043 : Cond.methodLink "FoldedStripLaw" 129 yX7_count ∈ lwT := inT5 83 rfl rfl
theorem q_1044 : Cond.instanceMethod yX7_count ∈ lwT := inT5 84 rfl rfl
theorem q_1045 : Cond.selects "FoldedStripModel" yX7_count yX7_count ∈ lwT := inT5 85 rfl rfl
theorem q_1046 : Cond.code yX7_count cX7_count 2 (Option.some FieldType.int) ∈ lwT := inT5 86 rfl rfl
theorem q_1047 : Cond.methodLink "FoldedStripModel" 266 yX7_countOf ∈ lwT := inT5 87 rfl rfl
theorem q_1049 : Cond.instanceMethod yX7_countOf ∈ lwT := inT5 89 rfl rfl
theorem q_1050 : Cond.code yX7_countOf cX7_countOf 2 (Option.some FieldType.int) ∈ lwT := inT5 90 rfl rfl
theorem q_1051 : Cond.methodLink "FoldedStripModel" 260 yX7_thickAll ∈ lwT := inT5 91 rfl rfl
theorem q_1053 : Cond.instanceMethod yX7_thickAll ∈ lwT := inT5 93 rfl rfl
theorem q_1054 : Cond.code yX7_thickAll cX7_thickAll 3 (Option.some FieldType.int) ∈ lwT := inT5 94 rfl rfl
theorem q_1055 : Cond.methodLink "FoldedStripModel" 263 yX7_movesNow ∈ lwT := inT5 95 rfl rfl
theorem q_1057 : Cond.instanceMethod yX7_movesNow ∈ lwT := inT5 97 rfl rfl
theorem q_1058 : Cond.code yX7_movesNow cX7_movesNow 3 (Option.some FieldType.int) ∈ lwT := inT5 98 rfl rfl
theorem q_1059 : Cond.methodLink "FoldedStripLaw" 134 yX7_digest ∈ lwT := inT5 99 rfl rfl
theorem q_1060 : Cond.instanceMethod yX7_digest ∈ lwT := inT5 100 rfl rfl
theorem q_1061 : Cond.selects "FoldedStripModel" yX7_digest yX7_digest ∈ lwT := inT5 101 rfl rfl
theorem q_1062 : Cond.code yX7_digest cX7_digest 3 (Option.some FieldType.long) ∈ lwT := inT5 102 rfl rfl
theorem q_1063 : Cond.constantLong "FoldedStripModel" 279 (1319 : Int64) ∈ lwT := inT5 103 rfl rfl
theorem q_1064 : Cond.methodLink "FoldedStripModel" 275 yX7_say ∈ lwT := inT5 104 rfl rfl
theorem q_1066 : Cond.instanceMethod yX7_say ∈ lwT := inT5 106 rfl rfl
theorem q_1067 : Cond.code yX7_say cX7_say 3 (Option.none : Option Jvm.ClassFile.FieldType) ∈ lwT := inT5 107 rfl rfl
theorem q_1068 : Cond.constantLong "FoldedStripModel" 269 (31 : Int64) ∈ lwT := inT5 108 rfl rfl
theorem q_1069 : Cond.methodLink "FoldedStripModel" 281 yX7_sayStrip ∈ lwT := inT5 109 rfl rfl
theorem q_1071 : Cond.instanceMethod yX7_sayStrip ∈ lwT := inT5 111 rfl rfl
theorem q_1072 : Cond.code yX7_sayStrip cX7_sayStrip 2 (Option.none : Option Jvm.ClassFile.FieldType) ∈ lwT := inT5 112 rfl rfl
theorem q_1073 : Cond.fieldLink "java/lang/String" 15 "java/lang/String" "coder" "B" ∈ lwT := inT5 113 rfl rfl
theorem q_1074 : Cond.fieldLink "java/lang/String" 9 "java/lang/String" "value" "[B" ∈ lwT := inT5 114 rfl rfl
theorem q_sX0_keep : Cond.selects RX0 yX0_keep yX0_keep ∈ lwT := inSel (q := (yX0_keep, 5)) (inS1 0 rfl) rfl
theorem q_sX0_canComeNext : Cond.selects RX0 yX0_canComeNext yX0_canComeNext ∈ lwT := inSel (q := (yX0_canComeNext, 5)) (inS1 1 rfl) rfl
theorem q_sX0_crossesAbove : Cond.selects RX0 yX0_crossesAbove yX0_crossesAbove ∈ lwT := inSel (q := (yX0_crossesAbove, 5)) (inS1 2 rfl) rfl
theorem q_sX0_mateOf : Cond.selects RX0 yX0_mateOf yX0_mateOf ∈ lwT := inSel (q := (yX0_mateOf, 5)) (inS1 3 rfl) rfl
theorem q_sX5_areAllContent : Cond.selects RX5 yX5_areAllContent yX5_areAllContent ∈ lwT := inSel (q := (yX5_areAllContent, 5)) (inS1 4 rfl) rfl
theorem q_sX5_hasWaxAt : Cond.selects RX5 yX5_hasWaxAt yX5_hasWaxAt ∈ lwT := inSel (q := (yX5_hasWaxAt, 5)) (inS1 5 rfl) rfl
theorem q_sX5_widestHinge : Cond.selects RX5 yX5_widestHinge yX5_widestHinge ∈ lwT := inSel (q := (yX5_widestHinge, 5)) (inS1 6 rfl) rfl
theorem q_sX6_isLeaf : Cond.selects RX6 yX6_isLeaf yX6_isLeaf ∈ lwT := inSel (q := (yX6_isLeaf, 9)) (inS1 7 rfl) rfl
theorem q_sX6_isPlace : Cond.selects RX6 yX6_isPlace yX6_isPlace ∈ lwT := inSel (q := (yX6_isPlace, 9)) (inS1 8 rfl) rfl
theorem q_sX0_find : Cond.selects RX0 yX0_find yX0_find ∈ lwT := inSel (q := (yX0_find, 5)) (inS1 9 rfl) rfl
theorem q_sX6_openHinges : Cond.selects RX6 yX6_openHinges yX6_openHinges ∈ lwT := inSel (q := (yX6_openHinges, 9)) (inS1 10 rfl) rfl
theorem q_sX6_isWithoutStrip : Cond.selects RX6 yX6_isWithoutStrip yX6_isWithoutStrip ∈ lwT := inSel (q := (yX6_isWithoutStrip, 9)) (inS1 11 rfl) rfl
theorem q_sX6_isOrder : Cond.selects RX6 yX6_isOrder yX6_isOrder ∈ lwT := inSel (q := (yX6_isOrder, 9)) (inS1 12 rfl) rfl
theorem q_sX3_findSteps : Cond.selects RX3 yX3_findSteps yX3_findSteps ∈ lwT := inSel (q := (yX3_findSteps, 8)) (inS1 13 rfl) rfl
theorem q_sX3_findStepsFrom : Cond.selects RX3 yX3_findStepsFrom yX3_findStepsFrom ∈ lwT := inSel (q := (yX3_findStepsFrom, 8)) (inS1 14 rfl) rfl
theorem q_sX3_addStep : Cond.selects RX3 yX3_addStep yX3_addStep ∈ lwT := inSel (q := (yX3_addStep, 8)) (inS1 15 rfl) rfl
theorem q_sX3_spread : Cond.selects RX3 yX3_spread yX3_spread ∈ lwT := inSel (q := (yX3_spread, 8)) (inS2 0 rfl) rfl
theorem q_sX6_farthest : Cond.selects RX6 yX6_farthest yX6_farthest ∈ lwT := inSel (q := (yX6_farthest, 9)) (inS2 1 rfl) rfl
theorem q_sX6_home : Cond.selects RX6 yX6_home yX6_home ∈ lwT := inSel (q := (yX6_home, 9)) (inS2 2 rfl) rfl
theorem q_sX1_isPossible : Cond.selects RX1 yX1_isPossible yX1_isPossible ∈ lwT := inSel (q := (yX1_isPossible, 3)) (inS2 3 rfl) rfl
theorem q_sX1_countThrough : Cond.selects RX1 yX1_countThrough yX1_countThrough ∈ lwT := inSel (q := (yX1_countThrough, 3)) (inS2 4 rfl) rfl
theorem q_sX6_wholeThickness : Cond.selects RX6 yX6_wholeThickness yX6_wholeThickness ∈ lwT := inSel (q := (yX6_wholeThickness, 9)) (inS2 5 rfl) rfl
theorem q_sX6_contentLeaves : Cond.selects RX6 yX6_contentLeaves yX6_contentLeaves ∈ lwT := inSel (q := (yX6_contentLeaves, 9)) (inS2 6 rfl) rfl
theorem q_sX6_possibleMoves : Cond.selects RX6 yX6_possibleMoves yX6_possibleMoves ∈ lwT := inSel (q := (yX6_possibleMoves, 9)) (inS2 7 rfl) rfl
theorem q_sX6_withOrders : Cond.selects RX6 yX6_withOrders yX6_withOrders ∈ lwT := inSel (q := (yX6_withOrders, 9)) (inS2 8 rfl) rfl
theorem q_sX7_faultOf : Cond.selects RX7 yX7_faultOf yX7_faultOf ∈ lwT := inSel (q := (yX7_faultOf, 26)) (inS2 9 rfl) rfl
theorem q_sX7_layOrders : Cond.selects RX7 yX7_layOrders yX7_layOrders ∈ lwT := inSel (q := (yX7_layOrders, 26)) (inS2 10 rfl) rfl
theorem q_sX7_isFolded : Cond.selects RX7 yX7_isFolded yX7_isFolded ∈ lwT := inSel (q := (yX7_isFolded, 26)) (inS2 11 rfl) rfl
theorem q_sX7_layPlaces : Cond.selects RX7 yX7_layPlaces yX7_layPlaces ∈ lwT := inSel (q := (yX7_layPlaces, 26)) (inS2 12 rfl) rfl
theorem q_sX7_isStepped : Cond.selects RX7 yX7_isStepped yX7_isStepped ∈ lwT := inSel (q := (yX7_isStepped, 26)) (inS2 13 rfl) rfl
theorem q_sX7_trade : Cond.selects RX7 yX7_trade yX7_trade ∈ lwT := inSel (q := (yX7_trade, 26)) (inS2 14 rfl) rfl
theorem q_sX7_isOrder : Cond.selects RX7 yX7_isOrder yX7_isOrder ∈ lwT := inSel (q := (yX7_isOrder, 26)) (inS2 15 rfl) rfl
theorem q_sX7_lacks : Cond.selects RX7 yX7_lacks yX7_lacks ∈ lwT := inSel (q := (yX7_lacks, 26)) (inS3 0 rfl) rfl
theorem q_sX7_nearOf : Cond.selects RX7 yX7_nearOf yX7_nearOf ∈ lwT := inSel (q := (yX7_nearOf, 26)) (inS3 1 rfl) rfl
theorem q_sX7_layFar : Cond.selects RX7 yX7_layFar yX7_layFar ∈ lwT := inSel (q := (yX7_layFar, 26)) (inS3 2 rfl) rfl
theorem q_sX7_orderNow : Cond.selects RX7 yX7_orderNow yX7_orderNow ∈ lwT := inSel (q := (yX7_orderNow, 26)) (inS3 3 rfl) rfl
theorem q_sX7_orderOf : Cond.selects RX7 yX7_orderOf yX7_orderOf ∈ lwT := inSel (q := (yX7_orderOf, 26)) (inS3 4 rfl) rfl
theorem q_sX7_layRow : Cond.selects RX7 yX7_layRow yX7_layRow ∈ lwT := inSel (q := (yX7_layRow, 26)) (inS3 5 rfl) rfl
theorem q_sX7_codeBy : Cond.selects RX7 yX7_codeBy yX7_codeBy ∈ lwT := inSel (q := (yX7_codeBy, 26)) (inS3 6 rfl) rfl
theorem q_sX7_farthestOf : Cond.selects RX7 yX7_farthestOf yX7_farthestOf ∈ lwT := inSel (q := (yX7_farthestOf, 26)) (inS3 7 rfl) rfl
theorem q_sX7_homeOf : Cond.selects RX7 yX7_homeOf yX7_homeOf ∈ lwT := inSel (q := (yX7_homeOf, 26)) (inS3 8 rfl) rfl
theorem q_sX7_isFitOrder : Cond.selects RX7 yX7_isFitOrder yX7_isFitOrder ∈ lwT := inSel (q := (yX7_isFitOrder, 26)) (inS3 9 rfl) rfl
theorem q_sX7_isFit : Cond.selects RX7 yX7_isFit yX7_isFit ∈ lwT := inSel (q := (yX7_isFit, 26)) (inS3 10 rfl) rfl
theorem q_sX7_rightMany : Cond.selects RX7 yX7_rightMany yX7_rightMany ∈ lwT := inSel (q := (yX7_rightMany, 26)) (inS3 11 rfl) rfl
theorem q_sX7_isRight : Cond.selects RX7 yX7_isRight yX7_isRight ∈ lwT := inSel (q := (yX7_isRight, 26)) (inS3 12 rfl) rfl
theorem q_sX7_isSticky : Cond.selects RX7 yX7_isSticky yX7_isSticky ∈ lwT := inSel (q := (yX7_isSticky, 26)) (inS3 13 rfl) rfl
theorem q_sX7_trimOf : Cond.selects RX7 yX7_trimOf yX7_trimOf ∈ lwT := inSel (q := (yX7_trimOf, 26)) (inS3 14 rfl) rfl
theorem q_sX7_widest : Cond.selects RX7 yX7_widest yX7_widest ∈ lwT := inSel (q := (yX7_widest, 26)) (inS3 15 rfl) rfl
theorem q_sX7_wideOf : Cond.selects RX7 yX7_wideOf yX7_wideOf ∈ lwT := inSel (q := (yX7_wideOf, 26)) (inS4 0 rfl) rfl
theorem q_sX7_thick : Cond.selects RX7 yX7_thick yX7_thick ∈ lwT := inSel (q := (yX7_thick, 26)) (inS4 1 rfl) rfl
theorem q_sX7_isLeaf : Cond.selects RX7 yX7_isLeaf yX7_isLeaf ∈ lwT := inSel (q := (yX7_isLeaf, 26)) (inS4 2 rfl) rfl
theorem q_sX7_oddsOf : Cond.selects RX7 yX7_oddsOf yX7_oddsOf ∈ lwT := inSel (q := (yX7_oddsOf, 26)) (inS4 3 rfl) rfl
theorem q_sX7_tellLeaf : Cond.selects RX7 yX7_tellLeaf yX7_tellLeaf ∈ lwT := inSel (q := (yX7_tellLeaf, 26)) (inS4 4 rfl) rfl
theorem q_sX7_ordersOf : Cond.selects RX7 yX7_ordersOf yX7_ordersOf ∈ lwT := inSel (q := (yX7_ordersOf, 26)) (inS4 5 rfl) rfl
theorem q_sX7_fitMany : Cond.selects RX7 yX7_fitMany yX7_fitMany ∈ lwT := inSel (q := (yX7_fitMany, 26)) (inS4 6 rfl) rfl
theorem q_sX7_tellOrder : Cond.selects RX7 yX7_tellOrder yX7_tellOrder ∈ lwT := inSel (q := (yX7_tellOrder, 26)) (inS4 7 rfl) rfl
theorem q_sX7_topsOf : Cond.selects RX7 yX7_topsOf yX7_topsOf ∈ lwT := inSel (q := (yX7_topsOf, 26)) (inS4 8 rfl) rfl
theorem q_sX7_widerMany : Cond.selects RX7 yX7_widerMany yX7_widerMany ∈ lwT := inSel (q := (yX7_widerMany, 26)) (inS4 9 rfl) rfl
theorem q_sX7_couldOf : Cond.selects RX7 yX7_couldOf yX7_couldOf ∈ lwT := inSel (q := (yX7_couldOf, 26)) (inS4 10 rfl) rfl
theorem q_sX7_isLikely : Cond.selects RX7 yX7_isLikely yX7_isLikely ∈ lwT := inSel (q := (yX7_isLikely, 26)) (inS4 11 rfl) rfl
theorem q_sX7_trialOf : Cond.selects RX7 yX7_trialOf yX7_trialOf ∈ lwT := inSel (q := (yX7_trialOf, 26)) (inS4 12 rfl) rfl
theorem q_sX7_worstBy : Cond.selects RX7 yX7_worstBy yX7_worstBy ∈ lwT := inSel (q := (yX7_worstBy, 26)) (inS4 13 rfl) rfl
theorem q_sX7_draw : Cond.selects RX7 yX7_draw yX7_draw ∈ lwT := inSel (q := (yX7_draw, 26)) (inS4 14 rfl) rfl
theorem q_sX7_countOf : Cond.selects RX7 yX7_countOf yX7_countOf ∈ lwT := inSel (q := (yX7_countOf, 26)) (inS4 15 rfl) rfl
theorem q_sX7_thickAll : Cond.selects RX7 yX7_thickAll yX7_thickAll ∈ lwT := inSel (q := (yX7_thickAll, 26)) (inS5 0 rfl) rfl
theorem q_sX7_movesNow : Cond.selects RX7 yX7_movesNow yX7_movesNow ∈ lwT := inSel (q := (yX7_movesNow, 26)) (inS5 1 rfl) rfl
theorem q_sX7_say : Cond.selects RX7 yX7_say yX7_say ∈ lwT := inSel (q := (yX7_say, 26)) (inS5 2 rfl) rfl
theorem q_sX7_sayStrip : Cond.selects RX7 yX7_sayStrip yX7_sayStrip ∈ lwT := inSel (q := (yX7_sayStrip, 26)) (inS5 3 rfl) rfl
theorem gV {Ts : List Cond} (hT : ∀ w ∈ lwT, w ∈ Ts) {own : String} {idx : Nat} {C : String} {y : MethodName} {cB : Cond} (h1 : Cond.methodLink own idx y ∈ lwT) (h2 : Cond.instanceMethod y ∈ lwT) (h3 : Cond.selects C y y ∈ lwT) (h4 : Cond.initialized C ∈ lwT) (h5 : cB ∈ lwT) : GoodIn Ts (wsV own idx C y (cB :: lwT)) := by
  have hq : ∀ w ∈ wsV own idx C y (cB :: lwT), w ∈ lwT := by
    intro w hw
    unfold wsV at hw
    rcases List.mem_append.mp hw with h | h
    · simp only [List.mem_cons, List.not_mem_nil, or_false] at h
      rcases h with rfl | rfl | rfl | rfl <;> assumption
    · rcases List.mem_cons.mp h with rfl | h
      · exact h5
      · exact h
  exact fun w hw => ⟨hT w (hq w hw), lwT_good w (hq w hw)⟩
theorem gS {Ts : List Cond} (hT : ∀ w ∈ lwT, w ∈ Ts) {own : String} {idx : Nat} {y : MethodName} {cB : Cond} (h1 : Cond.methodLink own idx y ∈ lwT) (h2 : Cond.static y ∈ lwT) (h4 : Cond.initialized own ∈ lwT) (h5 : cB ∈ lwT) : GoodIn Ts (wsS own idx y (cB :: lwT)) := by
  have hq : ∀ w ∈ wsS own idx y (cB :: lwT), w ∈ lwT := by
    intro w hw
    unfold wsS at hw
    rcases List.mem_append.mp hw with h | h
    · simp only [List.mem_cons, List.not_mem_nil, or_false] at h
      rcases h with rfl | rfl | rfl <;> assumption
    · rcases List.mem_cons.mp h with rfl | h
      · exact h5
      · exact h
  exact fun w hw => ⟨hT w (hq w hw), lwT_good w (hq w hw)⟩
theorem gI {Ts : List Cond} (hT : ∀ w ∈ lwT, w ∈ Ts) {cB : Cond} (h5 : cB ∈ lwT) : GoodIn Ts (cB :: lwT) := by
  have hq : ∀ w ∈ cB :: lwT, w ∈ lwT := fun w hw => (List.mem_cons.mp hw).elim (fun e => e ▸ h5) id
  exact fun w hw => ⟨hT w (hq w hw), lwT_good w (hq w hw)⟩
theorem inX0 : ∀ w ∈ u_ws RX0 TX0 5, w ∈ lwT := by
  intro w hw
  obtain ⟨k, hk, rfl⟩ := List.mem_map.mp hw
  have hk : k < 5 := List.mem_range.mp hk
  match k, hk with
  | 0, _ => exact q_58
  | 1, _ => exact q_60
  | 2, _ => exact q_62
  | 3, _ => exact q_64
  | 4, _ => exact q_66
  | k + 5, h => exact absurd h (by omega)
theorem inX1 : ∀ w ∈ u_ws RX1 TX1 3, w ∈ lwT := by
  intro w hw
  obtain ⟨k, hk, rfl⟩ := List.mem_map.mp hw
  have hk : k < 3 := List.mem_range.mp hk
  match k, hk with
  | 0, _ => exact q_169
  | 1, _ => exact q_171
  | 2, _ => exact q_173
  | k + 3, h => exact absurd h (by omega)
theorem inX2 : ∀ w ∈ u_ws RX2 TX2 2, w ∈ lwT := by
  intro w hw
  obtain ⟨k, hk, rfl⟩ := List.mem_map.mp hw
  have hk : k < 2 := List.mem_range.mp hk
  match k, hk with
  | 0, _ => exact q_33
  | 1, _ => exact q_35
  | k + 2, h => exact absurd h (by omega)
theorem inX3 : ∀ w ∈ u_ws RX3 TX3 8, w ∈ lwT := by
  intro w hw
  obtain ⟨k, hk, rfl⟩ := List.mem_map.mp hw
  have hk : k < 8 := List.mem_range.mp hk
  match k, hk with
  | 0, _ => exact q_143
  | 1, _ => exact q_145
  | 2, _ => exact q_147
  | 3, _ => exact q_149
  | 4, _ => exact q_151
  | 5, _ => exact q_153
  | 6, _ => exact q_155
  | 7, _ => exact q_157
  | k + 8, h => exact absurd h (by omega)
theorem inX4 : ∀ w ∈ u_ws RX4 TX4 7, w ∈ lwT := by
  intro w hw
  obtain ⟨k, hk, rfl⟩ := List.mem_map.mp hw
  have hk : k < 7 := List.mem_range.mp hk
  match k, hk with
  | 0, _ => exact q_90
  | 1, _ => exact q_92
  | 2, _ => exact q_94
  | 3, _ => exact q_96
  | 4, _ => exact q_98
  | 5, _ => exact q_100
  | 6, _ => exact q_102
  | k + 7, h => exact absurd h (by omega)
theorem inX5 : ∀ w ∈ u_ws RX5 TX5 5, w ∈ lwT := by
  intro w hw
  obtain ⟨k, hk, rfl⟩ := List.mem_map.mp hw
  have hk : k < 5 := List.mem_range.mp hk
  match k, hk with
  | 0, _ => exact q_118
  | 1, _ => exact q_120
  | 2, _ => exact q_122
  | 3, _ => exact q_124
  | 4, _ => exact q_126
  | k + 5, h => exact absurd h (by omega)
theorem inX6 : ∀ w ∈ u_ws RX6 TX6 9, w ∈ lwT := by
  intro w hw
  obtain ⟨k, hk, rfl⟩ := List.mem_map.mp hw
  have hk : k < 9 := List.mem_range.mp hk
  match k, hk with
  | 0, _ => exact q_185
  | 1, _ => exact q_187
  | 2, _ => exact q_189
  | 3, _ => exact q_191
  | 4, _ => exact q_193
  | 5, _ => exact q_195
  | 6, _ => exact q_197
  | 7, _ => exact q_199
  | 8, _ => exact q_201
  | k + 9, h => exact absurd h (by omega)
theorem inX7 : ∀ w ∈ u_ws RX7 TX7 26, w ∈ lwT := by
  intro w hw
  obtain ⟨k, hk, rfl⟩ := List.mem_map.mp hw
  have hk : k < 26 := List.mem_range.mp hk
  match k, hk with
  | 0, _ => exact q_698
  | 1, _ => exact q_700
  | 2, _ => exact q_702
  | 3, _ => exact q_704
  | 4, _ => exact q_706
  | 5, _ => exact q_708
  | 6, _ => exact q_710
  | 7, _ => exact q_712
  | 8, _ => exact q_714
  | 9, _ => exact q_716
  | 10, _ => exact q_718
  | 11, _ => exact q_720
  | 12, _ => exact q_722
  | 13, _ => exact q_724
  | 14, _ => exact q_726
  | 15, _ => exact q_728
  | 16, _ => exact q_730
  | 17, _ => exact q_732
  | 18, _ => exact q_734
  | 19, _ => exact q_736
  | 20, _ => exact q_738
  | 21, _ => exact q_740
  | 22, _ => exact q_742
  | 23, _ => exact q_744
  | 24, _ => exact q_746
  | 25, _ => exact q_748
  | k + 26, h => exact absurd h (by omega)
end
section
theorem dX0_init_0 : decode cX0_init 0 = .ok (.aload_n 0, 1) := by decide +kernel
theorem dX0_init_1 : decode cX0_init 1 = .ok (.invokespecial 3, 3) := by decide +kernel
theorem dX0_init_4 : decode cX0_init 4 = .ok (.aload_n 0, 1) := by decide +kernel
theorem dX0_init_5 : decode cX0_init 5 = .ok (.iconst 0, 1) := by decide +kernel
theorem dX0_init_6 : decode cX0_init 6 = .ok (.putfield 9, 3) := by decide +kernel
theorem dX0_init_9 : decode cX0_init 9 = .ok (.aload_n 0, 1) := by decide +kernel
theorem dX0_init_10 : decode cX0_init 10 = .ok (.iconst 0, 1) := by decide +kernel
theorem dX0_init_11 : decode cX0_init 11 = .ok (.putfield 15, 3) := by decide +kernel
theorem dX0_init_14 : decode cX0_init 14 = .ok (.aload_n 0, 1) := by decide +kernel
theorem dX0_init_15 : decode cX0_init 15 = .ok (.sipush 462, 3) := by decide +kernel
theorem dX0_init_18 : decode cX0_init 18 = .ok (.newarray .int, 2) := by decide +kernel
theorem dX0_init_20 : decode cX0_init 20 = .ok (.putfield 18, 3) := by decide +kernel
theorem dX0_init_23 : decode cX0_init 23 = .ok (.aload_n 0, 1) := by decide +kernel
theorem dX0_init_24 : decode cX0_init 24 = .ok (.sipush 462, 3) := by decide +kernel
theorem dX0_init_27 : decode cX0_init 27 = .ok (.newarray .int, 2) := by decide +kernel
theorem dX0_init_29 : decode cX0_init 29 = .ok (.putfield 22, 3) := by decide +kernel
theorem dX0_init_32 : decode cX0_init 32 = .ok (.aload_n 0, 1) := by decide +kernel
theorem dX0_init_33 : decode cX0_init 33 = .ok (.bipush 7, 2) := by decide +kernel
theorem dX0_init_35 : decode cX0_init 35 = .ok (.newarray .int, 2) := by decide +kernel
theorem dX0_init_37 : decode cX0_init 37 = .ok (.putfield 25, 3) := by decide +kernel
theorem dX0_init_40 : decode cX0_init 40 = .ok (.return_, 1) := by decide +kernel
theorem dX0_foldAll_0 : decode cX0_foldAll 0 = .ok (.iload_n 1, 1) := by decide +kernel
theorem dX0_foldAll_1 : decode cX0_foldAll 1 = .ok (.aload_n 0, 1) := by decide +kernel
theorem dX0_foldAll_2 : decode cX0_foldAll 2 = .ok (.getfield 9, 3) := by decide +kernel
theorem dX0_foldAll_5 : decode cX0_foldAll 5 = .ok (.if_icmp .eq 9, 3) := by decide +kernel
theorem dX0_foldAll_8 : decode cX0_foldAll 8 = .ok (.iload_n 1, 1) := by decide +kernel
theorem dX0_foldAll_9 : decode cX0_foldAll 9 = .ok (.bipush 7, 2) := by decide +kernel
theorem dX0_foldAll_11 : decode cX0_foldAll 11 = .ok (.if_icmp .le 4, 3) := by decide +kernel
theorem dX0_foldAll_14 : decode cX0_foldAll 14 = .ok (.return_, 1) := by decide +kernel
theorem dX0_foldAll_15 : decode cX0_foldAll 15 = .ok (.aload_n 0, 1) := by decide +kernel
theorem dX0_foldAll_16 : decode cX0_foldAll 16 = .ok (.iload_n 1, 1) := by decide +kernel
theorem dX0_foldAll_17 : decode cX0_foldAll 17 = .ok (.putfield 9, 3) := by decide +kernel
theorem dX0_foldAll_20 : decode cX0_foldAll 20 = .ok (.aload_n 0, 1) := by decide +kernel
theorem dX0_foldAll_21 : decode cX0_foldAll 21 = .ok (.iconst 0, 1) := by decide +kernel
theorem dX0_foldAll_22 : decode cX0_foldAll 22 = .ok (.putfield 15, 3) := by decide +kernel
theorem dX0_foldAll_25 : decode cX0_foldAll 25 = .ok (.iconst 0, 1) := by decide +kernel
theorem dX0_foldAll_26 : decode cX0_foldAll 26 = .ok (.istore_n 2, 1) := by decide +kernel
theorem dX0_foldAll_27 : decode cX0_foldAll 27 = .ok (.iload_n 2, 1) := by decide +kernel
theorem dX0_foldAll_28 : decode cX0_foldAll 28 = .ok (.bipush 7, 2) := by decide +kernel
theorem dX0_foldAll_30 : decode cX0_foldAll 30 = .ok (.if_icmp .ge 16, 3) := by decide +kernel
theorem dX0_foldAll_33 : decode cX0_foldAll 33 = .ok (.aload_n 0, 1) := by decide +kernel
theorem dX0_foldAll_34 : decode cX0_foldAll 34 = .ok (.getfield 25, 3) := by decide +kernel
theorem dX0_foldAll_37 : decode cX0_foldAll 37 = .ok (.iload_n 2, 1) := by decide +kernel
theorem dX0_foldAll_38 : decode cX0_foldAll 38 = .ok (.iconst (-1), 1) := by decide +kernel
theorem dX0_foldAll_39 : decode cX0_foldAll 39 = .ok (.iastore, 1) := by decide +kernel
theorem dX0_foldAll_40 : decode cX0_foldAll 40 = .ok (.iinc 2 1, 3) := by decide +kernel
theorem dX0_foldAll_43 : decode cX0_foldAll 43 = .ok (.goto (-16), 3) := by decide +kernel
theorem dX0_foldAll_46 : decode cX0_foldAll 46 = .ok (.aload_n 0, 1) := by decide +kernel
theorem dX0_foldAll_47 : decode cX0_foldAll 47 = .ok (.iconst 0, 1) := by decide +kernel
theorem dX0_foldAll_48 : decode cX0_foldAll 48 = .ok (.iconst 0, 1) := by decide +kernel
theorem dX0_foldAll_49 : decode cX0_foldAll 49 = .ok (.invokestatic 28, 3) := by decide +kernel
theorem dX0_foldAll_52 : decode cX0_foldAll 52 = .ok (.return_, 1) := by decide +kernel
theorem dX0_leafAt_0 : decode cX0_leafAt 0 = .ok (.iload_n 1, 1) := by decide +kernel
theorem dX0_leafAt_1 : decode cX0_leafAt 1 = .ok (.ifCond .lt 23, 3) := by decide +kernel
theorem dX0_leafAt_4 : decode cX0_leafAt 4 = .ok (.iload_n 1, 1) := by decide +kernel
theorem dX0_leafAt_5 : decode cX0_leafAt 5 = .ok (.aload_n 0, 1) := by decide +kernel
theorem dX0_leafAt_6 : decode cX0_leafAt 6 = .ok (.getfield 15, 3) := by decide +kernel
theorem dX0_leafAt_9 : decode cX0_leafAt 9 = .ok (.if_icmp .ge 15, 3) := by decide +kernel
theorem dX0_leafAt_12 : decode cX0_leafAt 12 = .ok (.iload_n 2, 1) := by decide +kernel
theorem dX0_leafAt_13 : decode cX0_leafAt 13 = .ok (.ifCond .lt 11, 3) := by decide +kernel
theorem dX0_leafAt_16 : decode cX0_leafAt 16 = .ok (.iload_n 2, 1) := by decide +kernel
theorem dX0_leafAt_17 : decode cX0_leafAt 17 = .ok (.aload_n 0, 1) := by decide +kernel
theorem dX0_leafAt_18 : decode cX0_leafAt 18 = .ok (.getfield 9, 3) := by decide +kernel
theorem dX0_leafAt_21 : decode cX0_leafAt 21 = .ok (.if_icmp .lt 5, 3) := by decide +kernel
theorem dX0_leafAt_24 : decode cX0_leafAt 24 = .ok (.iconst (-1), 1) := by decide +kernel
theorem dX0_leafAt_25 : decode cX0_leafAt 25 = .ok (.ireturn, 1) := by decide +kernel
theorem dX0_leafAt_26 : decode cX0_leafAt 26 = .ok (.aload_n 0, 1) := by decide +kernel
theorem dX0_leafAt_27 : decode cX0_leafAt 27 = .ok (.getfield 18, 3) := by decide +kernel
theorem dX0_leafAt_30 : decode cX0_leafAt 30 = .ok (.iload_n 1, 1) := by decide +kernel
theorem dX0_leafAt_31 : decode cX0_leafAt 31 = .ok (.iaload, 1) := by decide +kernel
theorem dX0_leafAt_32 : decode cX0_leafAt 32 = .ok (.iload_n 2, 1) := by decide +kernel
theorem dX0_leafAt_33 : decode cX0_leafAt 33 = .ok (.invokestatic 32, 3) := by decide +kernel
theorem dX0_leafAt_36 : decode cX0_leafAt 36 = .ok (.ireturn, 1) := by decide +kernel
theorem dX0_placeOf_0 : decode cX0_placeOf 0 = .ok (.iload_n 1, 1) := by decide +kernel
theorem dX0_placeOf_1 : decode cX0_placeOf 1 = .ok (.ifCond .lt 23, 3) := by decide +kernel
theorem dX0_placeOf_4 : decode cX0_placeOf 4 = .ok (.iload_n 1, 1) := by decide +kernel
theorem dX0_placeOf_5 : decode cX0_placeOf 5 = .ok (.aload_n 0, 1) := by decide +kernel
theorem dX0_placeOf_6 : decode cX0_placeOf 6 = .ok (.getfield 15, 3) := by decide +kernel
theorem dX0_placeOf_9 : decode cX0_placeOf 9 = .ok (.if_icmp .ge 15, 3) := by decide +kernel
theorem dX0_placeOf_12 : decode cX0_placeOf 12 = .ok (.iload_n 2, 1) := by decide +kernel
theorem dX0_placeOf_13 : decode cX0_placeOf 13 = .ok (.ifCond .lt 11, 3) := by decide +kernel
theorem dX0_placeOf_16 : decode cX0_placeOf 16 = .ok (.iload_n 2, 1) := by decide +kernel
theorem dX0_placeOf_17 : decode cX0_placeOf 17 = .ok (.aload_n 0, 1) := by decide +kernel
theorem dX0_placeOf_18 : decode cX0_placeOf 18 = .ok (.getfield 9, 3) := by decide +kernel
theorem dX0_placeOf_21 : decode cX0_placeOf 21 = .ok (.if_icmp .lt 5, 3) := by decide +kernel
theorem dX0_placeOf_24 : decode cX0_placeOf 24 = .ok (.iconst (-1), 1) := by decide +kernel
theorem dX0_placeOf_25 : decode cX0_placeOf 25 = .ok (.ireturn, 1) := by decide +kernel
theorem dX0_placeOf_26 : decode cX0_placeOf 26 = .ok (.aload_n 0, 1) := by decide +kernel
theorem dX0_placeOf_27 : decode cX0_placeOf 27 = .ok (.getfield 22, 3) := by decide +kernel
theorem dX0_placeOf_30 : decode cX0_placeOf 30 = .ok (.iload_n 1, 1) := by decide +kernel
theorem dX0_placeOf_31 : decode cX0_placeOf 31 = .ok (.iaload, 1) := by decide +kernel
theorem dX0_placeOf_32 : decode cX0_placeOf 32 = .ok (.iconst 3, 1) := by decide +kernel
theorem dX0_placeOf_33 : decode cX0_placeOf 33 = .ok (.iload_n 2, 1) := by decide +kernel
theorem dX0_placeOf_34 : decode cX0_placeOf 34 = .ok (.imul, 1) := by decide +kernel
theorem dX0_placeOf_35 : decode cX0_placeOf 35 = .ok (.ishr, 1) := by decide +kernel
theorem dX0_placeOf_36 : decode cX0_placeOf 36 = .ok (.bipush 7, 2) := by decide +kernel
theorem dX0_placeOf_38 : decode cX0_placeOf 38 = .ok (.iand, 1) := by decide +kernel
theorem dX0_placeOf_39 : decode cX0_placeOf 39 = .ok (.ireturn, 1) := by decide +kernel
theorem dX0_afterMove_0 : decode cX0_afterMove 0 = .ok (.aload_n 0, 1) := by decide +kernel
theorem dX0_afterMove_1 : decode cX0_afterMove 1 = .ok (.iload_n 1, 1) := by decide +kernel
theorem dX0_afterMove_2 : decode cX0_afterMove 2 = .ok (.iload_n 2, 1) := by decide +kernel
theorem dX0_afterMove_3 : decode cX0_afterMove 3 = .ok (.invokevirtual 36, 3) := by decide +kernel
theorem dX0_afterMove_6 : decode cX0_afterMove 6 = .ok (.istore 4, 2) := by decide +kernel
theorem dX0_afterMove_8 : decode cX0_afterMove 8 = .ok (.iload 4, 2) := by decide +kernel
theorem dX0_afterMove_10 : decode cX0_afterMove 10 = .ok (.iconst (-1), 1) := by decide +kernel
theorem dX0_afterMove_11 : decode cX0_afterMove 11 = .ok (.if_icmp .eq 15, 3) := by decide +kernel
theorem dX0_afterMove_14 : decode cX0_afterMove 14 = .ok (.iload_n 3, 1) := by decide +kernel
theorem dX0_afterMove_15 : decode cX0_afterMove 15 = .ok (.ifCond .lt 11, 3) := by decide +kernel
theorem dX0_afterMove_18 : decode cX0_afterMove 18 = .ok (.iload_n 3, 1) := by decide +kernel
theorem dX0_afterMove_19 : decode cX0_afterMove 19 = .ok (.aload_n 0, 1) := by decide +kernel
theorem dX0_afterMove_20 : decode cX0_afterMove 20 = .ok (.getfield 9, 3) := by decide +kernel
theorem dX0_afterMove_23 : decode cX0_afterMove 23 = .ok (.if_icmp .lt 5, 3) := by decide +kernel
theorem dX0_afterMove_26 : decode cX0_afterMove 26 = .ok (.iconst (-1), 1) := by decide +kernel
theorem dX0_afterMove_27 : decode cX0_afterMove 27 = .ok (.ireturn, 1) := by decide +kernel
theorem dX0_afterMove_28 : decode cX0_afterMove 28 = .ok (.aload_n 0, 1) := by decide +kernel
theorem dX0_afterMove_29 : decode cX0_afterMove 29 = .ok (.aload_n 0, 1) := by decide +kernel
theorem dX0_afterMove_30 : decode cX0_afterMove 30 = .ok (.getfield 18, 3) := by decide +kernel
theorem dX0_afterMove_33 : decode cX0_afterMove 33 = .ok (.iload_n 1, 1) := by decide +kernel
theorem dX0_afterMove_34 : decode cX0_afterMove 34 = .ok (.iaload, 1) := by decide +kernel
theorem dX0_afterMove_35 : decode cX0_afterMove 35 = .ok (.iload 4, 2) := by decide +kernel
theorem dX0_afterMove_37 : decode cX0_afterMove 37 = .ok (.invokestatic 39, 3) := by decide +kernel
theorem dX0_afterMove_40 : decode cX0_afterMove 40 = .ok (.iload_n 2, 1) := by decide +kernel
theorem dX0_afterMove_41 : decode cX0_afterMove 41 = .ok (.iload_n 3, 1) := by decide +kernel
theorem dX0_afterMove_42 : decode cX0_afterMove 42 = .ok (.invokestatic 42, 3) := by decide +kernel
theorem dX0_afterMove_45 : decode cX0_afterMove 45 = .ok (.invokevirtual 46, 3) := by decide +kernel
theorem dX0_afterMove_48 : decode cX0_afterMove 48 = .ok (.ireturn, 1) := by decide +kernel
theorem dX0_afterTurn_0 : decode cX0_afterTurn 0 = .ok (.iconst 0, 1) := by decide +kernel
theorem dX0_afterTurn_1 : decode cX0_afterTurn 1 = .ok (.istore_n 2, 1) := by decide +kernel
theorem dX0_afterTurn_2 : decode cX0_afterTurn 2 = .ok (.iconst 0, 1) := by decide +kernel
theorem dX0_afterTurn_3 : decode cX0_afterTurn 3 = .ok (.istore_n 3, 1) := by decide +kernel
theorem dX0_afterTurn_4 : decode cX0_afterTurn 4 = .ok (.iload_n 3, 1) := by decide +kernel
theorem dX0_afterTurn_5 : decode cX0_afterTurn 5 = .ok (.aload_n 0, 1) := by decide +kernel
theorem dX0_afterTurn_6 : decode cX0_afterTurn 6 = .ok (.getfield 9, 3) := by decide +kernel
theorem dX0_afterTurn_9 : decode cX0_afterTurn 9 = .ok (.if_icmp .ge 30, 3) := by decide +kernel
theorem dX0_afterTurn_12 : decode cX0_afterTurn 12 = .ok (.iload_n 2, 1) := by decide +kernel
theorem dX0_afterTurn_13 : decode cX0_afterTurn 13 = .ok (.aload_n 0, 1) := by decide +kernel
theorem dX0_afterTurn_14 : decode cX0_afterTurn 14 = .ok (.iload_n 1, 1) := by decide +kernel
theorem dX0_afterTurn_15 : decode cX0_afterTurn 15 = .ok (.aload_n 0, 1) := by decide +kernel
theorem dX0_afterTurn_16 : decode cX0_afterTurn 16 = .ok (.getfield 9, 3) := by decide +kernel
theorem dX0_afterTurn_19 : decode cX0_afterTurn 19 = .ok (.iconst 1, 1) := by decide +kernel
theorem dX0_afterTurn_20 : decode cX0_afterTurn 20 = .ok (.isub, 1) := by decide +kernel
theorem dX0_afterTurn_21 : decode cX0_afterTurn 21 = .ok (.iload_n 3, 1) := by decide +kernel
theorem dX0_afterTurn_22 : decode cX0_afterTurn 22 = .ok (.isub, 1) := by decide +kernel
theorem dX0_afterTurn_23 : decode cX0_afterTurn 23 = .ok (.invokevirtual 50, 3) := by decide +kernel
theorem dX0_afterTurn_26 : decode cX0_afterTurn 26 = .ok (.iload_n 3, 1) := by decide +kernel
theorem dX0_afterTurn_27 : decode cX0_afterTurn 27 = .ok (.invokestatic 53, 3) := by decide +kernel
theorem dX0_afterTurn_30 : decode cX0_afterTurn 30 = .ok (.ishl, 1) := by decide +kernel
theorem dX0_afterTurn_31 : decode cX0_afterTurn 31 = .ok (.ior, 1) := by decide +kernel
theorem dX0_afterTurn_32 : decode cX0_afterTurn 32 = .ok (.istore_n 2, 1) := by decide +kernel
theorem dX0_afterTurn_33 : decode cX0_afterTurn 33 = .ok (.iinc 3 1, 3) := by decide +kernel
theorem dX0_afterTurn_36 : decode cX0_afterTurn 36 = .ok (.goto (-32), 3) := by decide +kernel
theorem dX0_afterTurn_39 : decode cX0_afterTurn 39 = .ok (.aload_n 0, 1) := by decide +kernel
theorem dX0_afterTurn_40 : decode cX0_afterTurn 40 = .ok (.iload_n 2, 1) := by decide +kernel
theorem dX0_afterTurn_41 : decode cX0_afterTurn 41 = .ok (.invokevirtual 46, 3) := by decide +kernel
theorem dX0_afterTurn_44 : decode cX0_afterTurn 44 = .ok (.ireturn, 1) := by decide +kernel
theorem dX0_addBelow_0 : decode cX0_addBelow 0 = .ok (.iload_n 1, 1) := by decide +kernel
theorem dX0_addBelow_1 : decode cX0_addBelow 1 = .ok (.aload_n 0, 1) := by decide +kernel
theorem dX0_addBelow_2 : decode cX0_addBelow 2 = .ok (.getfield 9, 3) := by decide +kernel
theorem dX0_addBelow_5 : decode cX0_addBelow 5 = .ok (.if_icmp .lt 9, 3) := by decide +kernel
theorem dX0_addBelow_8 : decode cX0_addBelow 8 = .ok (.aload_n 0, 1) := by decide +kernel
theorem dX0_addBelow_9 : decode cX0_addBelow 9 = .ok (.iload_n 2, 1) := by decide +kernel
theorem dX0_addBelow_10 : decode cX0_addBelow 10 = .ok (.invokevirtual 56, 3) := by decide +kernel
theorem dX0_addBelow_13 : decode cX0_addBelow 13 = .ok (.return_, 1) := by decide +kernel
theorem dX0_addBelow_14 : decode cX0_addBelow 14 = .ok (.iconst 0, 1) := by decide +kernel
theorem dX0_addBelow_15 : decode cX0_addBelow 15 = .ok (.istore_n 3, 1) := by decide +kernel
theorem dX0_addBelow_16 : decode cX0_addBelow 16 = .ok (.iload_n 3, 1) := by decide +kernel
theorem dX0_addBelow_17 : decode cX0_addBelow 17 = .ok (.aload_n 0, 1) := by decide +kernel
theorem dX0_addBelow_18 : decode cX0_addBelow 18 = .ok (.getfield 9, 3) := by decide +kernel
theorem dX0_addBelow_21 : decode cX0_addBelow 21 = .ok (.if_icmp .ge 49, 3) := by decide +kernel
theorem dX0_addBelow_24 : decode cX0_addBelow 24 = .ok (.aload_n 0, 1) := by decide +kernel
theorem dX0_addBelow_25 : decode cX0_addBelow 25 = .ok (.iload_n 3, 1) := by decide +kernel
theorem dX0_addBelow_26 : decode cX0_addBelow 26 = .ok (.invokevirtual 60, 3) := by decide +kernel
theorem dX0_addBelow_29 : decode cX0_addBelow 29 = .ok (.ifCond .ne 6, 3) := by decide +kernel
theorem dX0_addBelow_32 : decode cX0_addBelow 32 = .ok (.goto 32, 3) := by decide +kernel
theorem dX0_addBelow_35 : decode cX0_addBelow 35 = .ok (.aload_n 0, 1) := by decide +kernel
theorem dX0_addBelow_36 : decode cX0_addBelow 36 = .ok (.getfield 25, 3) := by decide +kernel
theorem dX0_addBelow_39 : decode cX0_addBelow 39 = .ok (.iload_n 3, 1) := by decide +kernel
theorem dX0_addBelow_40 : decode cX0_addBelow 40 = .ok (.iload_n 1, 1) := by decide +kernel
theorem dX0_addBelow_41 : decode cX0_addBelow 41 = .ok (.iastore, 1) := by decide +kernel
theorem dX0_addBelow_42 : decode cX0_addBelow 42 = .ok (.aload_n 0, 1) := by decide +kernel
theorem dX0_addBelow_43 : decode cX0_addBelow 43 = .ok (.iload_n 1, 1) := by decide +kernel
theorem dX0_addBelow_44 : decode cX0_addBelow 44 = .ok (.iconst 1, 1) := by decide +kernel
theorem dX0_addBelow_45 : decode cX0_addBelow 45 = .ok (.iadd, 1) := by decide +kernel
theorem dX0_addBelow_46 : decode cX0_addBelow 46 = .ok (.iload_n 2, 1) := by decide +kernel
theorem dX0_addBelow_47 : decode cX0_addBelow 47 = .ok (.iload_n 3, 1) := by decide +kernel
theorem dX0_addBelow_48 : decode cX0_addBelow 48 = .ok (.iload_n 1, 1) := by decide +kernel
theorem dX0_addBelow_49 : decode cX0_addBelow 49 = .ok (.invokestatic 53, 3) := by decide +kernel
theorem dX0_addBelow_52 : decode cX0_addBelow 52 = .ok (.ishl, 1) := by decide +kernel
theorem dX0_addBelow_53 : decode cX0_addBelow 53 = .ok (.ior, 1) := by decide +kernel
theorem dX0_addBelow_54 : decode cX0_addBelow 54 = .ok (.invokestatic 28, 3) := by decide +kernel
theorem dX0_addBelow_57 : decode cX0_addBelow 57 = .ok (.aload_n 0, 1) := by decide +kernel
theorem dX0_addBelow_58 : decode cX0_addBelow 58 = .ok (.getfield 25, 3) := by decide +kernel
theorem dX0_addBelow_61 : decode cX0_addBelow 61 = .ok (.iload_n 3, 1) := by decide +kernel
theorem dX0_addBelow_62 : decode cX0_addBelow 62 = .ok (.iconst (-1), 1) := by decide +kernel
theorem dX0_addBelow_63 : decode cX0_addBelow 63 = .ok (.iastore, 1) := by decide +kernel
theorem dX0_addBelow_64 : decode cX0_addBelow 64 = .ok (.iinc 3 1, 3) := by decide +kernel
theorem dX0_addBelow_67 : decode cX0_addBelow 67 = .ok (.goto (-51), 3) := by decide +kernel
theorem dX0_addBelow_70 : decode cX0_addBelow 70 = .ok (.return_, 1) := by decide +kernel
theorem dX0_canComeNext_0 : decode cX0_canComeNext 0 = .ok (.aload_n 0, 1) := by decide +kernel
theorem dX0_canComeNext_1 : decode cX0_canComeNext 1 = .ok (.getfield 25, 3) := by decide +kernel
theorem dX0_canComeNext_4 : decode cX0_canComeNext 4 = .ok (.iload_n 1, 1) := by decide +kernel
theorem dX0_canComeNext_5 : decode cX0_canComeNext 5 = .ok (.iaload, 1) := by decide +kernel
theorem dX0_canComeNext_6 : decode cX0_canComeNext 6 = .ok (.iconst (-1), 1) := by decide +kernel
theorem dX0_canComeNext_7 : decode cX0_canComeNext 7 = .ok (.if_icmp .ne 25, 3) := by decide +kernel
theorem dX0_canComeNext_10 : decode cX0_canComeNext 10 = .ok (.aload_n 0, 1) := by decide +kernel
theorem dX0_canComeNext_11 : decode cX0_canComeNext 11 = .ok (.iload_n 1, 1) := by decide +kernel
theorem dX0_canComeNext_12 : decode cX0_canComeNext 12 = .ok (.iconst 0, 1) := by decide +kernel
theorem dX0_canComeNext_13 : decode cX0_canComeNext 13 = .ok (.invokevirtual 64, 3) := by decide +kernel
theorem dX0_canComeNext_16 : decode cX0_canComeNext 16 = .ok (.ifCond .ne 16, 3) := by decide +kernel
theorem dX0_canComeNext_19 : decode cX0_canComeNext 19 = .ok (.aload_n 0, 1) := by decide +kernel
theorem dX0_canComeNext_20 : decode cX0_canComeNext 20 = .ok (.iload_n 1, 1) := by decide +kernel
theorem dX0_canComeNext_21 : decode cX0_canComeNext 21 = .ok (.iconst 1, 1) := by decide +kernel
theorem dX0_canComeNext_22 : decode cX0_canComeNext 22 = .ok (.invokevirtual 64, 3) := by decide +kernel
theorem dX0_canComeNext_25 : decode cX0_canComeNext 25 = .ok (.ifCond .ne 7, 3) := by decide +kernel
theorem dX0_canComeNext_28 : decode cX0_canComeNext 28 = .ok (.iconst 1, 1) := by decide +kernel
theorem dX0_canComeNext_29 : decode cX0_canComeNext 29 = .ok (.goto 4, 3) := by decide +kernel
theorem dX0_canComeNext_32 : decode cX0_canComeNext 32 = .ok (.iconst 0, 1) := by decide +kernel
theorem dX0_canComeNext_33 : decode cX0_canComeNext 33 = .ok (.ireturn, 1) := by decide +kernel
theorem dX0_keep_0 : decode cX0_keep 0 = .ok (.aload_n 0, 1) := by decide +kernel
theorem dX0_keep_1 : decode cX0_keep 1 = .ok (.getfield 15, 3) := by decide +kernel
theorem dX0_keep_4 : decode cX0_keep 4 = .ok (.sipush 462, 3) := by decide +kernel
theorem dX0_keep_7 : decode cX0_keep 7 = .ok (.if_icmp .lt 4, 3) := by decide +kernel
theorem dX0_keep_10 : decode cX0_keep 10 = .ok (.return_, 1) := by decide +kernel
theorem dX0_keep_11 : decode cX0_keep 11 = .ok (.aload_n 0, 1) := by decide +kernel
theorem dX0_keep_12 : decode cX0_keep 12 = .ok (.getfield 18, 3) := by decide +kernel
theorem dX0_keep_15 : decode cX0_keep 15 = .ok (.aload_n 0, 1) := by decide +kernel
theorem dX0_keep_16 : decode cX0_keep 16 = .ok (.getfield 15, 3) := by decide +kernel
theorem dX0_keep_19 : decode cX0_keep 19 = .ok (.iload_n 1, 1) := by decide +kernel
theorem dX0_keep_20 : decode cX0_keep 20 = .ok (.iastore, 1) := by decide +kernel
theorem dX0_keep_21 : decode cX0_keep 21 = .ok (.iconst 0, 1) := by decide +kernel
theorem dX0_keep_22 : decode cX0_keep 22 = .ok (.istore_n 2, 1) := by decide +kernel
theorem dX0_keep_23 : decode cX0_keep 23 = .ok (.iconst 0, 1) := by decide +kernel
theorem dX0_keep_24 : decode cX0_keep 24 = .ok (.istore_n 3, 1) := by decide +kernel
theorem dX0_keep_25 : decode cX0_keep 25 = .ok (.iload_n 3, 1) := by decide +kernel
theorem dX0_keep_26 : decode cX0_keep 26 = .ok (.aload_n 0, 1) := by decide +kernel
theorem dX0_keep_27 : decode cX0_keep 27 = .ok (.getfield 9, 3) := by decide +kernel
theorem dX0_keep_30 : decode cX0_keep 30 = .ok (.if_icmp .ge 22, 3) := by decide +kernel
theorem dX0_keep_33 : decode cX0_keep 33 = .ok (.iload_n 2, 1) := by decide +kernel
theorem dX0_keep_34 : decode cX0_keep 34 = .ok (.aload_n 0, 1) := by decide +kernel
theorem dX0_keep_35 : decode cX0_keep 35 = .ok (.getfield 25, 3) := by decide +kernel
theorem dX0_keep_38 : decode cX0_keep 38 = .ok (.iload_n 3, 1) := by decide +kernel
theorem dX0_keep_39 : decode cX0_keep 39 = .ok (.iaload, 1) := by decide +kernel
theorem dX0_keep_40 : decode cX0_keep 40 = .ok (.iconst 3, 1) := by decide +kernel
theorem dX0_keep_41 : decode cX0_keep 41 = .ok (.iload_n 3, 1) := by decide +kernel
theorem dX0_keep_42 : decode cX0_keep 42 = .ok (.imul, 1) := by decide +kernel
theorem dX0_keep_43 : decode cX0_keep 43 = .ok (.ishl, 1) := by decide +kernel
theorem dX0_keep_44 : decode cX0_keep 44 = .ok (.ior, 1) := by decide +kernel
theorem dX0_keep_45 : decode cX0_keep 45 = .ok (.istore_n 2, 1) := by decide +kernel
theorem dX0_keep_46 : decode cX0_keep 46 = .ok (.iinc 3 1, 3) := by decide +kernel
theorem dX0_keep_49 : decode cX0_keep 49 = .ok (.goto (-24), 3) := by decide +kernel
theorem dX0_keep_52 : decode cX0_keep 52 = .ok (.aload_n 0, 1) := by decide +kernel
theorem dX0_keep_53 : decode cX0_keep 53 = .ok (.getfield 22, 3) := by decide +kernel
theorem dX0_keep_56 : decode cX0_keep 56 = .ok (.aload_n 0, 1) := by decide +kernel
theorem dX0_keep_57 : decode cX0_keep 57 = .ok (.getfield 15, 3) := by decide +kernel
theorem dX0_keep_60 : decode cX0_keep 60 = .ok (.iload_n 2, 1) := by decide +kernel
theorem dX0_keep_61 : decode cX0_keep 61 = .ok (.iastore, 1) := by decide +kernel
theorem dX0_keep_62 : decode cX0_keep 62 = .ok (.aload_n 0, 1) := by decide +kernel
theorem dX0_keep_63 : decode cX0_keep 63 = .ok (.dup, 1) := by decide +kernel
theorem dX0_keep_64 : decode cX0_keep 64 = .ok (.getfield 15, 3) := by decide +kernel
theorem dX0_keep_67 : decode cX0_keep 67 = .ok (.iconst 1, 1) := by decide +kernel
theorem dX0_keep_68 : decode cX0_keep 68 = .ok (.iadd, 1) := by decide +kernel
theorem dX0_keep_69 : decode cX0_keep 69 = .ok (.putfield 15, 3) := by decide +kernel
theorem dX0_keep_72 : decode cX0_keep 72 = .ok (.return_, 1) := by decide +kernel
theorem dX0_crossesAbove_0 : decode cX0_crossesAbove 0 = .ok (.aload_n 0, 1) := by decide +kernel
theorem dX0_crossesAbove_1 : decode cX0_crossesAbove 1 = .ok (.iload_n 1, 1) := by decide +kernel
theorem dX0_crossesAbove_2 : decode cX0_crossesAbove 2 = .ok (.iload_n 2, 1) := by decide +kernel
theorem dX0_crossesAbove_3 : decode cX0_crossesAbove 3 = .ok (.invokevirtual 68, 3) := by decide +kernel
theorem dX0_crossesAbove_6 : decode cX0_crossesAbove 6 = .ok (.istore_n 3, 1) := by decide +kernel
theorem dX0_crossesAbove_7 : decode cX0_crossesAbove 7 = .ok (.iload_n 3, 1) := by decide +kernel
theorem dX0_crossesAbove_8 : decode cX0_crossesAbove 8 = .ok (.iconst (-1), 1) := by decide +kernel
theorem dX0_crossesAbove_9 : decode cX0_crossesAbove 9 = .ok (.if_icmp .eq 13, 3) := by decide +kernel
theorem dX0_crossesAbove_12 : decode cX0_crossesAbove 12 = .ok (.aload_n 0, 1) := by decide +kernel
theorem dX0_crossesAbove_13 : decode cX0_crossesAbove 13 = .ok (.getfield 25, 3) := by decide +kernel
theorem dX0_crossesAbove_16 : decode cX0_crossesAbove 16 = .ok (.iload_n 3, 1) := by decide +kernel
theorem dX0_crossesAbove_17 : decode cX0_crossesAbove 17 = .ok (.iaload, 1) := by decide +kernel
theorem dX0_crossesAbove_18 : decode cX0_crossesAbove 18 = .ok (.iconst (-1), 1) := by decide +kernel
theorem dX0_crossesAbove_19 : decode cX0_crossesAbove 19 = .ok (.if_icmp .ne 5, 3) := by decide +kernel
theorem dX0_crossesAbove_22 : decode cX0_crossesAbove 22 = .ok (.iconst 0, 1) := by decide +kernel
theorem dX0_crossesAbove_23 : decode cX0_crossesAbove 23 = .ok (.ireturn, 1) := by decide +kernel
theorem dX0_crossesAbove_24 : decode cX0_crossesAbove 24 = .ok (.iconst 0, 1) := by decide +kernel
theorem dX0_crossesAbove_25 : decode cX0_crossesAbove 25 = .ok (.istore 4, 2) := by decide +kernel
theorem dX0_crossesAbove_27 : decode cX0_crossesAbove 27 = .ok (.iload 4, 2) := by decide +kernel
theorem dX0_crossesAbove_29 : decode cX0_crossesAbove 29 = .ok (.aload_n 0, 1) := by decide +kernel
theorem dX0_crossesAbove_30 : decode cX0_crossesAbove 30 = .ok (.getfield 9, 3) := by decide +kernel
theorem dX0_crossesAbove_33 : decode cX0_crossesAbove 33 = .ok (.if_icmp .ge 61, 3) := by decide +kernel
theorem dX0_crossesAbove_36 : decode cX0_crossesAbove 36 = .ok (.aload_n 0, 1) := by decide +kernel
theorem dX0_crossesAbove_37 : decode cX0_crossesAbove 37 = .ok (.getfield 25, 3) := by decide +kernel
theorem dX0_crossesAbove_40 : decode cX0_crossesAbove 40 = .ok (.iload 4, 2) := by decide +kernel
theorem dX0_crossesAbove_42 : decode cX0_crossesAbove 42 = .ok (.iaload, 1) := by decide +kernel
theorem dX0_crossesAbove_43 : decode cX0_crossesAbove 43 = .ok (.aload_n 0, 1) := by decide +kernel
theorem dX0_crossesAbove_44 : decode cX0_crossesAbove 44 = .ok (.getfield 25, 3) := by decide +kernel
theorem dX0_crossesAbove_47 : decode cX0_crossesAbove 47 = .ok (.iload_n 3, 1) := by decide +kernel
theorem dX0_crossesAbove_48 : decode cX0_crossesAbove 48 = .ok (.iaload, 1) := by decide +kernel
theorem dX0_crossesAbove_49 : decode cX0_crossesAbove 49 = .ok (.if_icmp .gt 6, 3) := by decide +kernel
theorem dX0_crossesAbove_52 : decode cX0_crossesAbove 52 = .ok (.goto 36, 3) := by decide +kernel
theorem dX0_crossesAbove_55 : decode cX0_crossesAbove 55 = .ok (.aload_n 0, 1) := by decide +kernel
theorem dX0_crossesAbove_56 : decode cX0_crossesAbove 56 = .ok (.iload 4, 2) := by decide +kernel
theorem dX0_crossesAbove_58 : decode cX0_crossesAbove 58 = .ok (.iload_n 2, 1) := by decide +kernel
theorem dX0_crossesAbove_59 : decode cX0_crossesAbove 59 = .ok (.invokevirtual 68, 3) := by decide +kernel
theorem dX0_crossesAbove_62 : decode cX0_crossesAbove 62 = .ok (.istore 5, 2) := by decide +kernel
theorem dX0_crossesAbove_64 : decode cX0_crossesAbove 64 = .ok (.iload 5, 2) := by decide +kernel
theorem dX0_crossesAbove_66 : decode cX0_crossesAbove 66 = .ok (.iconst (-1), 1) := by decide +kernel
theorem dX0_crossesAbove_67 : decode cX0_crossesAbove 67 = .ok (.if_icmp .eq 21, 3) := by decide +kernel
theorem dX0_crossesAbove_70 : decode cX0_crossesAbove 70 = .ok (.aload_n 0, 1) := by decide +kernel
theorem dX0_crossesAbove_71 : decode cX0_crossesAbove 71 = .ok (.getfield 25, 3) := by decide +kernel
theorem dX0_crossesAbove_74 : decode cX0_crossesAbove 74 = .ok (.iload 5, 2) := by decide +kernel
theorem dX0_crossesAbove_76 : decode cX0_crossesAbove 76 = .ok (.iaload, 1) := by decide +kernel
theorem dX0_crossesAbove_77 : decode cX0_crossesAbove 77 = .ok (.aload_n 0, 1) := by decide +kernel
theorem dX0_crossesAbove_78 : decode cX0_crossesAbove 78 = .ok (.getfield 25, 3) := by decide +kernel
theorem dX0_crossesAbove_81 : decode cX0_crossesAbove 81 = .ok (.iload_n 3, 1) := by decide +kernel
theorem dX0_crossesAbove_82 : decode cX0_crossesAbove 82 = .ok (.iaload, 1) := by decide +kernel
theorem dX0_crossesAbove_83 : decode cX0_crossesAbove 83 = .ok (.if_icmp .ge 5, 3) := by decide +kernel
theorem dX0_crossesAbove_86 : decode cX0_crossesAbove 86 = .ok (.iconst 1, 1) := by decide +kernel
theorem dX0_crossesAbove_87 : decode cX0_crossesAbove 87 = .ok (.ireturn, 1) := by decide +kernel
theorem dX0_crossesAbove_88 : decode cX0_crossesAbove 88 = .ok (.iinc 4 1, 3) := by decide +kernel
theorem dX0_crossesAbove_91 : decode cX0_crossesAbove 91 = .ok (.goto (-64), 3) := by decide +kernel
theorem dX0_crossesAbove_94 : decode cX0_crossesAbove 94 = .ok (.iconst 0, 1) := by decide +kernel
theorem dX0_crossesAbove_95 : decode cX0_crossesAbove 95 = .ok (.ireturn, 1) := by decide +kernel
theorem dX0_mateOf_0 : decode cX0_mateOf 0 = .ok (.iload_n 1, 1) := by decide +kernel
theorem dX0_mateOf_1 : decode cX0_mateOf 1 = .ok (.iconst 2, 1) := by decide +kernel
theorem dX0_mateOf_2 : decode cX0_mateOf 2 = .ok (.irem, 1) := by decide +kernel
theorem dX0_mateOf_3 : decode cX0_mateOf 3 = .ok (.iload_n 2, 1) := by decide +kernel
theorem dX0_mateOf_4 : decode cX0_mateOf 4 = .ok (.if_icmp .ne 9, 3) := by decide +kernel
theorem dX0_mateOf_7 : decode cX0_mateOf 7 = .ok (.iload_n 1, 1) := by decide +kernel
theorem dX0_mateOf_8 : decode cX0_mateOf 8 = .ok (.iconst 1, 1) := by decide +kernel
theorem dX0_mateOf_9 : decode cX0_mateOf 9 = .ok (.iadd, 1) := by decide +kernel
theorem dX0_mateOf_10 : decode cX0_mateOf 10 = .ok (.goto 6, 3) := by decide +kernel
theorem dX0_mateOf_13 : decode cX0_mateOf 13 = .ok (.iload_n 1, 1) := by decide +kernel
theorem dX0_mateOf_14 : decode cX0_mateOf 14 = .ok (.iconst 1, 1) := by decide +kernel
theorem dX0_mateOf_15 : decode cX0_mateOf 15 = .ok (.isub, 1) := by decide +kernel
theorem dX0_mateOf_16 : decode cX0_mateOf 16 = .ok (.istore_n 3, 1) := by decide +kernel
theorem dX0_mateOf_17 : decode cX0_mateOf 17 = .ok (.iload_n 3, 1) := by decide +kernel
theorem dX0_mateOf_18 : decode cX0_mateOf 18 = .ok (.ifCond .lt 15, 3) := by decide +kernel
theorem dX0_mateOf_21 : decode cX0_mateOf 21 = .ok (.iload_n 3, 1) := by decide +kernel
theorem dX0_mateOf_22 : decode cX0_mateOf 22 = .ok (.aload_n 0, 1) := by decide +kernel
theorem dX0_mateOf_23 : decode cX0_mateOf 23 = .ok (.getfield 9, 3) := by decide +kernel
theorem dX0_mateOf_26 : decode cX0_mateOf 26 = .ok (.if_icmp .ge 7, 3) := by decide +kernel
theorem dX0_mateOf_29 : decode cX0_mateOf 29 = .ok (.iload_n 3, 1) := by decide +kernel
theorem dX0_mateOf_30 : decode cX0_mateOf 30 = .ok (.goto 4, 3) := by decide +kernel
theorem dX0_mateOf_33 : decode cX0_mateOf 33 = .ok (.iconst (-1), 1) := by decide +kernel
theorem dX0_mateOf_34 : decode cX0_mateOf 34 = .ok (.ireturn, 1) := by decide +kernel
theorem dX0_find_0 : decode cX0_find 0 = .ok (.iconst 0, 1) := by decide +kernel
theorem dX0_find_1 : decode cX0_find 1 = .ok (.istore_n 2, 1) := by decide +kernel
theorem dX0_find_2 : decode cX0_find 2 = .ok (.sipush 256, 3) := by decide +kernel
theorem dX0_find_5 : decode cX0_find 5 = .ok (.istore_n 3, 1) := by decide +kernel
theorem dX0_find_6 : decode cX0_find 6 = .ok (.iload_n 3, 1) := by decide +kernel
theorem dX0_find_7 : decode cX0_find 7 = .ok (.ifCond .le 36, 3) := by decide +kernel
theorem dX0_find_10 : decode cX0_find 10 = .ok (.iload_n 2, 1) := by decide +kernel
theorem dX0_find_11 : decode cX0_find 11 = .ok (.iload_n 3, 1) := by decide +kernel
theorem dX0_find_12 : decode cX0_find 12 = .ok (.iadd, 1) := by decide +kernel
theorem dX0_find_13 : decode cX0_find 13 = .ok (.aload_n 0, 1) := by decide +kernel
theorem dX0_find_14 : decode cX0_find 14 = .ok (.getfield 15, 3) := by decide +kernel
theorem dX0_find_17 : decode cX0_find 17 = .ok (.if_icmp .ge 19, 3) := by decide +kernel
theorem dX0_find_20 : decode cX0_find 20 = .ok (.aload_n 0, 1) := by decide +kernel
theorem dX0_find_21 : decode cX0_find 21 = .ok (.getfield 18, 3) := by decide +kernel
theorem dX0_find_24 : decode cX0_find 24 = .ok (.iload_n 2, 1) := by decide +kernel
theorem dX0_find_25 : decode cX0_find 25 = .ok (.iload_n 3, 1) := by decide +kernel
theorem dX0_find_26 : decode cX0_find 26 = .ok (.iadd, 1) := by decide +kernel
theorem dX0_find_27 : decode cX0_find 27 = .ok (.iaload, 1) := by decide +kernel
theorem dX0_find_28 : decode cX0_find 28 = .ok (.iload_n 1, 1) := by decide +kernel
theorem dX0_find_29 : decode cX0_find 29 = .ok (.if_icmp .gt 7, 3) := by decide +kernel
theorem dX0_find_32 : decode cX0_find 32 = .ok (.iload_n 2, 1) := by decide +kernel
theorem dX0_find_33 : decode cX0_find 33 = .ok (.iload_n 3, 1) := by decide +kernel
theorem dX0_find_34 : decode cX0_find 34 = .ok (.iadd, 1) := by decide +kernel
theorem dX0_find_35 : decode cX0_find 35 = .ok (.istore_n 2, 1) := by decide +kernel
theorem dX0_find_36 : decode cX0_find 36 = .ok (.iload_n 3, 1) := by decide +kernel
theorem dX0_find_37 : decode cX0_find 37 = .ok (.iconst 2, 1) := by decide +kernel
theorem dX0_find_38 : decode cX0_find 38 = .ok (.idiv, 1) := by decide +kernel
theorem dX0_find_39 : decode cX0_find 39 = .ok (.istore_n 3, 1) := by decide +kernel
theorem dX0_find_40 : decode cX0_find 40 = .ok (.goto (-34), 3) := by decide +kernel
theorem dX0_find_43 : decode cX0_find 43 = .ok (.iload_n 2, 1) := by decide +kernel
theorem dX0_find_44 : decode cX0_find 44 = .ok (.aload_n 0, 1) := by decide +kernel
theorem dX0_find_45 : decode cX0_find 45 = .ok (.getfield 15, 3) := by decide +kernel
theorem dX0_find_48 : decode cX0_find 48 = .ok (.if_icmp .ge 17, 3) := by decide +kernel
theorem dX0_find_51 : decode cX0_find 51 = .ok (.aload_n 0, 1) := by decide +kernel
theorem dX0_find_52 : decode cX0_find 52 = .ok (.getfield 18, 3) := by decide +kernel
theorem dX0_find_55 : decode cX0_find 55 = .ok (.iload_n 2, 1) := by decide +kernel
theorem dX0_find_56 : decode cX0_find 56 = .ok (.iaload, 1) := by decide +kernel
theorem dX0_find_57 : decode cX0_find 57 = .ok (.iload_n 1, 1) := by decide +kernel
theorem dX0_find_58 : decode cX0_find 58 = .ok (.if_icmp .ne 7, 3) := by decide +kernel
theorem dX0_find_61 : decode cX0_find 61 = .ok (.iload_n 2, 1) := by decide +kernel
theorem dX0_find_62 : decode cX0_find 62 = .ok (.goto 4, 3) := by decide +kernel
theorem dX0_find_65 : decode cX0_find 65 = .ok (.iconst (-1), 1) := by decide +kernel
theorem dX0_find_66 : decode cX0_find 66 = .ok (.ireturn, 1) := by decide +kernel
theorem dX0_shiftOf_0 : decode cX0_shiftOf 0 = .ok (.iconst 3, 1) := by decide +kernel
theorem dX0_shiftOf_1 : decode cX0_shiftOf 1 = .ok (.bipush 6, 2) := by decide +kernel
theorem dX0_shiftOf_3 : decode cX0_shiftOf 3 = .ok (.iload_n 0, 1) := by decide +kernel
theorem dX0_shiftOf_4 : decode cX0_shiftOf 4 = .ok (.isub, 1) := by decide +kernel
theorem dX0_shiftOf_5 : decode cX0_shiftOf 5 = .ok (.imul, 1) := by decide +kernel
theorem dX0_shiftOf_6 : decode cX0_shiftOf 6 = .ok (.ireturn, 1) := by decide +kernel
theorem dX0_leafIn_0 : decode cX0_leafIn 0 = .ok (.iload_n 0, 1) := by decide +kernel
theorem dX0_leafIn_1 : decode cX0_leafIn 1 = .ok (.iload_n 1, 1) := by decide +kernel
theorem dX0_leafIn_2 : decode cX0_leafIn 2 = .ok (.invokestatic 53, 3) := by decide +kernel
theorem dX0_leafIn_5 : decode cX0_leafIn 5 = .ok (.ishr, 1) := by decide +kernel
theorem dX0_leafIn_6 : decode cX0_leafIn 6 = .ok (.bipush 7, 2) := by decide +kernel
theorem dX0_leafIn_8 : decode cX0_leafIn 8 = .ok (.iand, 1) := by decide +kernel
theorem dX0_leafIn_9 : decode cX0_leafIn 9 = .ok (.ireturn, 1) := by decide +kernel
theorem dX0_takeOut_0 : decode cX0_takeOut 0 = .ok (.iload_n 1, 1) := by decide +kernel
theorem dX0_takeOut_1 : decode cX0_takeOut 1 = .ok (.invokestatic 53, 3) := by decide +kernel
theorem dX0_takeOut_4 : decode cX0_takeOut 4 = .ok (.istore_n 2, 1) := by decide +kernel
theorem dX0_takeOut_5 : decode cX0_takeOut 5 = .ok (.iload_n 0, 1) := by decide +kernel
theorem dX0_takeOut_6 : decode cX0_takeOut 6 = .ok (.iconst 1, 1) := by decide +kernel
theorem dX0_takeOut_7 : decode cX0_takeOut 7 = .ok (.iload_n 2, 1) := by decide +kernel
theorem dX0_takeOut_8 : decode cX0_takeOut 8 = .ok (.ishl, 1) := by decide +kernel
theorem dX0_takeOut_9 : decode cX0_takeOut 9 = .ok (.iconst 1, 1) := by decide +kernel
theorem dX0_takeOut_10 : decode cX0_takeOut 10 = .ok (.isub, 1) := by decide +kernel
theorem dX0_takeOut_11 : decode cX0_takeOut 11 = .ok (.iand, 1) := by decide +kernel
theorem dX0_takeOut_12 : decode cX0_takeOut 12 = .ok (.istore_n 3, 1) := by decide +kernel
theorem dX0_takeOut_13 : decode cX0_takeOut 13 = .ok (.iload_n 0, 1) := by decide +kernel
theorem dX0_takeOut_14 : decode cX0_takeOut 14 = .ok (.iload_n 2, 1) := by decide +kernel
theorem dX0_takeOut_15 : decode cX0_takeOut 15 = .ok (.invokestatic 71, 3) := by decide +kernel
theorem dX0_takeOut_18 : decode cX0_takeOut 18 = .ok (.iload_n 3, 1) := by decide +kernel
theorem dX0_takeOut_19 : decode cX0_takeOut 19 = .ok (.iconst 3, 1) := by decide +kernel
theorem dX0_takeOut_20 : decode cX0_takeOut 20 = .ok (.ishl, 1) := by decide +kernel
theorem dX0_takeOut_21 : decode cX0_takeOut 21 = .ok (.ior, 1) := by decide +kernel
theorem dX0_takeOut_22 : decode cX0_takeOut 22 = .ok (.ireturn, 1) := by decide +kernel
theorem dX0_putIn_0 : decode cX0_putIn 0 = .ok (.iload_n 2, 1) := by decide +kernel
theorem dX0_putIn_1 : decode cX0_putIn 1 = .ok (.invokestatic 53, 3) := by decide +kernel
theorem dX0_putIn_4 : decode cX0_putIn 4 = .ok (.istore_n 3, 1) := by decide +kernel
theorem dX0_putIn_5 : decode cX0_putIn 5 = .ok (.iload_n 0, 1) := by decide +kernel
theorem dX0_putIn_6 : decode cX0_putIn 6 = .ok (.iconst 1, 1) := by decide +kernel
theorem dX0_putIn_7 : decode cX0_putIn 7 = .ok (.iload_n 3, 1) := by decide +kernel
theorem dX0_putIn_8 : decode cX0_putIn 8 = .ok (.iconst 3, 1) := by decide +kernel
theorem dX0_putIn_9 : decode cX0_putIn 9 = .ok (.iadd, 1) := by decide +kernel
theorem dX0_putIn_10 : decode cX0_putIn 10 = .ok (.ishl, 1) := by decide +kernel
theorem dX0_putIn_11 : decode cX0_putIn 11 = .ok (.iconst 1, 1) := by decide +kernel
theorem dX0_putIn_12 : decode cX0_putIn 12 = .ok (.isub, 1) := by decide +kernel
theorem dX0_putIn_13 : decode cX0_putIn 13 = .ok (.iand, 1) := by decide +kernel
theorem dX0_putIn_14 : decode cX0_putIn 14 = .ok (.istore 4, 2) := by decide +kernel
theorem dX0_putIn_16 : decode cX0_putIn 16 = .ok (.iload_n 0, 1) := by decide +kernel
theorem dX0_putIn_17 : decode cX0_putIn 17 = .ok (.iload_n 3, 1) := by decide +kernel
theorem dX0_putIn_18 : decode cX0_putIn 18 = .ok (.invokestatic 71, 3) := by decide +kernel
theorem dX0_putIn_21 : decode cX0_putIn 21 = .ok (.iload_n 1, 1) := by decide +kernel
theorem dX0_putIn_22 : decode cX0_putIn 22 = .ok (.iload_n 3, 1) := by decide +kernel
theorem dX0_putIn_23 : decode cX0_putIn 23 = .ok (.ishl, 1) := by decide +kernel
theorem dX0_putIn_24 : decode cX0_putIn 24 = .ok (.ior, 1) := by decide +kernel
theorem dX0_putIn_25 : decode cX0_putIn 25 = .ok (.iload 4, 2) := by decide +kernel
theorem dX0_putIn_27 : decode cX0_putIn 27 = .ok (.iconst 3, 1) := by decide +kernel
theorem dX0_putIn_28 : decode cX0_putIn 28 = .ok (.ishr, 1) := by decide +kernel
theorem dX0_putIn_29 : decode cX0_putIn 29 = .ok (.ior, 1) := by decide +kernel
theorem dX0_putIn_30 : decode cX0_putIn 30 = .ok (.ireturn, 1) := by decide +kernel
theorem dX0_upTo_0 : decode cX0_upTo 0 = .ok (.iload_n 0, 1) := by decide +kernel
theorem dX0_upTo_1 : decode cX0_upTo 1 = .ok (.iload_n 1, 1) := by decide +kernel
theorem dX0_upTo_2 : decode cX0_upTo 2 = .ok (.iconst 3, 1) := by decide +kernel
theorem dX0_upTo_3 : decode cX0_upTo 3 = .ok (.iadd, 1) := by decide +kernel
theorem dX0_upTo_4 : decode cX0_upTo 4 = .ok (.ishr, 1) := by decide +kernel
theorem dX0_upTo_5 : decode cX0_upTo 5 = .ok (.iload_n 1, 1) := by decide +kernel
theorem dX0_upTo_6 : decode cX0_upTo 6 = .ok (.iconst 3, 1) := by decide +kernel
theorem dX0_upTo_7 : decode cX0_upTo 7 = .ok (.iadd, 1) := by decide +kernel
theorem dX0_upTo_8 : decode cX0_upTo 8 = .ok (.ishl, 1) := by decide +kernel
theorem dX0_upTo_9 : decode cX0_upTo 9 = .ok (.ireturn, 1) := by decide +kernel
theorem dX1_init_0 : decode cX1_init 0 = .ok (.aload_n 0, 1) := by decide +kernel
theorem dX1_init_1 : decode cX1_init 1 = .ok (.invokespecial 3, 3) := by decide +kernel
theorem dX1_init_4 : decode cX1_init 4 = .ok (.aload_n 0, 1) := by decide +kernel
theorem dX1_init_5 : decode cX1_init 5 = .ok (.bipush 49, 2) := by decide +kernel
theorem dX1_init_7 : decode cX1_init 7 = .ok (.newarray .int, 2) := by decide +kernel
theorem dX1_init_9 : decode cX1_init 9 = .ok (.putfield 9, 3) := by decide +kernel
theorem dX1_init_12 : decode cX1_init 12 = .ok (.aload_n 0, 1) := by decide +kernel
theorem dX1_init_13 : decode cX1_init 13 = .ok (.aload_n 1, 1) := by decide +kernel
theorem dX1_init_14 : decode cX1_init 14 = .ok (.putfield 15, 3) := by decide +kernel
theorem dX1_init_17 : decode cX1_init 17 = .ok (.aload_n 0, 1) := by decide +kernel
theorem dX1_init_18 : decode cX1_init 18 = .ok (.aload_n 2, 1) := by decide +kernel
theorem dX1_init_19 : decode cX1_init 19 = .ok (.putfield 19, 3) := by decide +kernel
theorem dX1_init_22 : decode cX1_init 22 = .ok (.return_, 1) := by decide +kernel
theorem dX1_countPossible_0 : decode cX1_countPossible 0 = .ok (.iconst 0, 1) := by decide +kernel
theorem dX1_countPossible_1 : decode cX1_countPossible 1 = .ok (.istore_n 1, 1) := by decide +kernel
theorem dX1_countPossible_2 : decode cX1_countPossible 2 = .ok (.iconst 0, 1) := by decide +kernel
theorem dX1_countPossible_3 : decode cX1_countPossible 3 = .ok (.istore_n 2, 1) := by decide +kernel
theorem dX1_countPossible_4 : decode cX1_countPossible 4 = .ok (.iload_n 2, 1) := by decide +kernel
theorem dX1_countPossible_5 : decode cX1_countPossible 5 = .ok (.aload_n 0, 1) := by decide +kernel
theorem dX1_countPossible_6 : decode cX1_countPossible 6 = .ok (.getfield 15, 3) := by decide +kernel
theorem dX1_countPossible_9 : decode cX1_countPossible 9 = .ok (.getfield 23, 3) := by decide +kernel
theorem dX1_countPossible_12 : decode cX1_countPossible 12 = .ok (.if_icmp .ge 20, 3) := by decide +kernel
theorem dX1_countPossible_15 : decode cX1_countPossible 15 = .ok (.aload_n 0, 1) := by decide +kernel
theorem dX1_countPossible_16 : decode cX1_countPossible 16 = .ok (.iload_n 2, 1) := by decide +kernel
theorem dX1_countPossible_17 : decode cX1_countPossible 17 = .ok (.invokevirtual 29, 3) := by decide +kernel
theorem dX1_countPossible_20 : decode cX1_countPossible 20 = .ok (.ifCond .eq 6, 3) := by decide +kernel
theorem dX1_countPossible_23 : decode cX1_countPossible 23 = .ok (.iinc 1 1, 3) := by decide +kernel
theorem dX1_countPossible_26 : decode cX1_countPossible 26 = .ok (.iinc 2 1, 3) := by decide +kernel
theorem dX1_countPossible_29 : decode cX1_countPossible 29 = .ok (.goto (-25), 3) := by decide +kernel
theorem dX1_countPossible_32 : decode cX1_countPossible 32 = .ok (.iload_n 1, 1) := by decide +kernel
theorem dX1_countPossible_33 : decode cX1_countPossible 33 = .ok (.ireturn, 1) := by decide +kernel
theorem dX1_bestTry_0 : decode cX1_bestTry 0 = .ok (.aload_n 0, 1) := by decide +kernel
theorem dX1_bestTry_1 : decode cX1_bestTry 1 = .ok (.invokevirtual 33, 3) := by decide +kernel
theorem dX1_bestTry_4 : decode cX1_bestTry 4 = .ok (.istore_n 1, 1) := by decide +kernel
theorem dX1_bestTry_5 : decode cX1_bestTry 5 = .ok (.iconst (-1), 1) := by decide +kernel
theorem dX1_bestTry_6 : decode cX1_bestTry 6 = .ok (.istore_n 2, 1) := by decide +kernel
theorem dX1_bestTry_7 : decode cX1_bestTry 7 = .ok (.iload_n 1, 1) := by decide +kernel
theorem dX1_bestTry_8 : decode cX1_bestTry 8 = .ok (.istore_n 3, 1) := by decide +kernel
theorem dX1_bestTry_9 : decode cX1_bestTry 9 = .ok (.iconst 1, 1) := by decide +kernel
theorem dX1_bestTry_10 : decode cX1_bestTry 10 = .ok (.istore 4, 2) := by decide +kernel
theorem dX1_bestTry_12 : decode cX1_bestTry 12 = .ok (.iload 4, 2) := by decide +kernel
theorem dX1_bestTry_14 : decode cX1_bestTry 14 = .ok (.aload_n 0, 1) := by decide +kernel
theorem dX1_bestTry_15 : decode cX1_bestTry 15 = .ok (.getfield 15, 3) := by decide +kernel
theorem dX1_bestTry_18 : decode cX1_bestTry 18 = .ok (.getfield 37, 3) := by decide +kernel
theorem dX1_bestTry_21 : decode cX1_bestTry 21 = .ok (.if_icmp .gt 83, 3) := by decide +kernel
theorem dX1_bestTry_24 : decode cX1_bestTry 24 = .ok (.iconst 0, 1) := by decide +kernel
theorem dX1_bestTry_25 : decode cX1_bestTry 25 = .ok (.istore 5, 2) := by decide +kernel
theorem dX1_bestTry_27 : decode cX1_bestTry 27 = .ok (.iload 5, 2) := by decide +kernel
theorem dX1_bestTry_29 : decode cX1_bestTry 29 = .ok (.aload_n 0, 1) := by decide +kernel
theorem dX1_bestTry_30 : decode cX1_bestTry 30 = .ok (.getfield 15, 3) := by decide +kernel
theorem dX1_bestTry_33 : decode cX1_bestTry 33 = .ok (.getfield 37, 3) := by decide +kernel
theorem dX1_bestTry_36 : decode cX1_bestTry 36 = .ok (.if_icmp .ge 62, 3) := by decide +kernel
theorem dX1_bestTry_39 : decode cX1_bestTry 39 = .ok (.aload_n 0, 1) := by decide +kernel
theorem dX1_bestTry_40 : decode cX1_bestTry 40 = .ok (.getfield 9, 3) := by decide +kernel
theorem dX1_bestTry_43 : decode cX1_bestTry 43 = .ok (.iload 4, 2) := by decide +kernel
theorem dX1_bestTry_45 : decode cX1_bestTry 45 = .ok (.invokestatic 40, 3) := by decide +kernel
theorem dX1_bestTry_48 : decode cX1_bestTry 48 = .ok (.iload 5, 2) := by decide +kernel
theorem dX1_bestTry_50 : decode cX1_bestTry 50 = .ok (.iadd, 1) := by decide +kernel
theorem dX1_bestTry_51 : decode cX1_bestTry 51 = .ok (.iaload, 1) := by decide +kernel
theorem dX1_bestTry_52 : decode cX1_bestTry 52 = .ok (.istore 6, 2) := by decide +kernel
theorem dX1_bestTry_54 : decode cX1_bestTry 54 = .ok (.iload 6, 2) := by decide +kernel
theorem dX1_bestTry_56 : decode cX1_bestTry 56 = .ok (.iload_n 1, 1) := by decide +kernel
theorem dX1_bestTry_57 : decode cX1_bestTry 57 = .ok (.iload 6, 2) := by decide +kernel
theorem dX1_bestTry_59 : decode cX1_bestTry 59 = .ok (.isub, 1) := by decide +kernel
theorem dX1_bestTry_60 : decode cX1_bestTry 60 = .ok (.invokestatic 44, 3) := by decide +kernel
theorem dX1_bestTry_63 : decode cX1_bestTry 63 = .ok (.istore 7, 2) := by decide +kernel
theorem dX1_bestTry_65 : decode cX1_bestTry 65 = .ok (.iload_n 1, 1) := by decide +kernel
theorem dX1_bestTry_66 : decode cX1_bestTry 66 = .ok (.ifCond .le 26, 3) := by decide +kernel
theorem dX1_bestTry_69 : decode cX1_bestTry 69 = .ok (.iload_n 2, 1) := by decide +kernel
theorem dX1_bestTry_70 : decode cX1_bestTry 70 = .ok (.iconst (-1), 1) := by decide +kernel
theorem dX1_bestTry_71 : decode cX1_bestTry 71 = .ok (.if_icmp .eq 9, 3) := by decide +kernel
theorem dX1_bestTry_74 : decode cX1_bestTry 74 = .ok (.iload 7, 2) := by decide +kernel
theorem dX1_bestTry_76 : decode cX1_bestTry 76 = .ok (.iload_n 3, 1) := by decide +kernel
theorem dX1_bestTry_77 : decode cX1_bestTry 77 = .ok (.if_icmp .ge 15, 3) := by decide +kernel
theorem dX1_bestTry_80 : decode cX1_bestTry 80 = .ok (.bipush 10, 2) := by decide +kernel
theorem dX1_bestTry_82 : decode cX1_bestTry 82 = .ok (.iload 4, 2) := by decide +kernel
theorem dX1_bestTry_84 : decode cX1_bestTry 84 = .ok (.imul, 1) := by decide +kernel
theorem dX1_bestTry_85 : decode cX1_bestTry 85 = .ok (.iload 5, 2) := by decide +kernel
theorem dX1_bestTry_87 : decode cX1_bestTry 87 = .ok (.iadd, 1) := by decide +kernel
theorem dX1_bestTry_88 : decode cX1_bestTry 88 = .ok (.istore_n 2, 1) := by decide +kernel
theorem dX1_bestTry_89 : decode cX1_bestTry 89 = .ok (.iload 7, 2) := by decide +kernel
theorem dX1_bestTry_91 : decode cX1_bestTry 91 = .ok (.istore_n 3, 1) := by decide +kernel
theorem dX1_bestTry_92 : decode cX1_bestTry 92 = .ok (.iinc 5 1, 3) := by decide +kernel
theorem dX1_bestTry_95 : decode cX1_bestTry 95 = .ok (.goto (-68), 3) := by decide +kernel
theorem dX1_bestTry_98 : decode cX1_bestTry 98 = .ok (.iinc 4 1, 3) := by decide +kernel
theorem dX1_bestTry_101 : decode cX1_bestTry 101 = .ok (.goto (-89), 3) := by decide +kernel
theorem dX1_bestTry_104 : decode cX1_bestTry 104 = .ok (.iload_n 2, 1) := by decide +kernel
theorem dX1_bestTry_105 : decode cX1_bestTry 105 = .ok (.ireturn, 1) := by decide +kernel
theorem dX1_countThrough_0 : decode cX1_countThrough 0 = .ok (.iconst 0, 1) := by decide +kernel
theorem dX1_countThrough_1 : decode cX1_countThrough 1 = .ok (.istore_n 1, 1) := by decide +kernel
theorem dX1_countThrough_2 : decode cX1_countThrough 2 = .ok (.iload_n 1, 1) := by decide +kernel
theorem dX1_countThrough_3 : decode cX1_countThrough 3 = .ok (.aload_n 0, 1) := by decide +kernel
theorem dX1_countThrough_4 : decode cX1_countThrough 4 = .ok (.getfield 9, 3) := by decide +kernel
theorem dX1_countThrough_7 : decode cX1_countThrough 7 = .ok (.arraylength, 1) := by decide +kernel
theorem dX1_countThrough_8 : decode cX1_countThrough 8 = .ok (.if_icmp .ge 16, 3) := by decide +kernel
theorem dX1_countThrough_11 : decode cX1_countThrough 11 = .ok (.aload_n 0, 1) := by decide +kernel
theorem dX1_countThrough_12 : decode cX1_countThrough 12 = .ok (.getfield 9, 3) := by decide +kernel
theorem dX1_countThrough_15 : decode cX1_countThrough 15 = .ok (.iload_n 1, 1) := by decide +kernel
theorem dX1_countThrough_16 : decode cX1_countThrough 16 = .ok (.iconst 0, 1) := by decide +kernel
theorem dX1_countThrough_17 : decode cX1_countThrough 17 = .ok (.iastore, 1) := by decide +kernel
theorem dX1_countThrough_18 : decode cX1_countThrough 18 = .ok (.iinc 1 1, 3) := by decide +kernel
theorem dX1_countThrough_21 : decode cX1_countThrough 21 = .ok (.goto (-19), 3) := by decide +kernel
theorem dX1_countThrough_24 : decode cX1_countThrough 24 = .ok (.iconst 0, 1) := by decide +kernel
theorem dX1_countThrough_25 : decode cX1_countThrough 25 = .ok (.istore_n 1, 1) := by decide +kernel
theorem dX1_countThrough_26 : decode cX1_countThrough 26 = .ok (.iconst 0, 1) := by decide +kernel
theorem dX1_countThrough_27 : decode cX1_countThrough 27 = .ok (.istore_n 2, 1) := by decide +kernel
theorem dX1_countThrough_28 : decode cX1_countThrough 28 = .ok (.iload_n 2, 1) := by decide +kernel
theorem dX1_countThrough_29 : decode cX1_countThrough 29 = .ok (.aload_n 0, 1) := by decide +kernel
theorem dX1_countThrough_30 : decode cX1_countThrough 30 = .ok (.getfield 15, 3) := by decide +kernel
theorem dX1_countThrough_33 : decode cX1_countThrough 33 = .ok (.getfield 23, 3) := by decide +kernel
theorem dX1_countThrough_36 : decode cX1_countThrough 36 = .ok (.if_icmp .ge 67, 3) := by decide +kernel
theorem dX1_countThrough_39 : decode cX1_countThrough 39 = .ok (.aload_n 0, 1) := by decide +kernel
theorem dX1_countThrough_40 : decode cX1_countThrough 40 = .ok (.iload_n 2, 1) := by decide +kernel
theorem dX1_countThrough_41 : decode cX1_countThrough 41 = .ok (.invokevirtual 29, 3) := by decide +kernel
theorem dX1_countThrough_44 : decode cX1_countThrough 44 = .ok (.ifCond .ne 6, 3) := by decide +kernel
theorem dX1_countThrough_47 : decode cX1_countThrough 47 = .ok (.goto 50, 3) := by decide +kernel
theorem dX1_countThrough_50 : decode cX1_countThrough 50 = .ok (.iinc 1 1, 3) := by decide +kernel
theorem dX1_countThrough_53 : decode cX1_countThrough 53 = .ok (.iconst 0, 1) := by decide +kernel
theorem dX1_countThrough_54 : decode cX1_countThrough 54 = .ok (.istore_n 3, 1) := by decide +kernel
theorem dX1_countThrough_55 : decode cX1_countThrough 55 = .ok (.iload_n 3, 1) := by decide +kernel
theorem dX1_countThrough_56 : decode cX1_countThrough 56 = .ok (.aload_n 0, 1) := by decide +kernel
theorem dX1_countThrough_57 : decode cX1_countThrough 57 = .ok (.getfield 15, 3) := by decide +kernel
theorem dX1_countThrough_60 : decode cX1_countThrough 60 = .ok (.getfield 37, 3) := by decide +kernel
theorem dX1_countThrough_63 : decode cX1_countThrough 63 = .ok (.if_icmp .ge 34, 3) := by decide +kernel
theorem dX1_countThrough_66 : decode cX1_countThrough 66 = .ok (.aload_n 0, 1) := by decide +kernel
theorem dX1_countThrough_67 : decode cX1_countThrough 67 = .ok (.getfield 9, 3) := by decide +kernel
theorem dX1_countThrough_70 : decode cX1_countThrough 70 = .ok (.aload_n 0, 1) := by decide +kernel
theorem dX1_countThrough_71 : decode cX1_countThrough 71 = .ok (.getfield 15, 3) := by decide +kernel
theorem dX1_countThrough_74 : decode cX1_countThrough 74 = .ok (.iload_n 2, 1) := by decide +kernel
theorem dX1_countThrough_75 : decode cX1_countThrough 75 = .ok (.iload_n 3, 1) := by decide +kernel
theorem dX1_countThrough_76 : decode cX1_countThrough 76 = .ok (.invokevirtual 50, 3) := by decide +kernel
theorem dX1_countThrough_79 : decode cX1_countThrough 79 = .ok (.iconst 1, 1) := by decide +kernel
theorem dX1_countThrough_80 : decode cX1_countThrough 80 = .ok (.iadd, 1) := by decide +kernel
theorem dX1_countThrough_81 : decode cX1_countThrough 81 = .ok (.invokestatic 40, 3) := by decide +kernel
theorem dX1_countThrough_84 : decode cX1_countThrough 84 = .ok (.iload_n 3, 1) := by decide +kernel
theorem dX1_countThrough_85 : decode cX1_countThrough 85 = .ok (.iadd, 1) := by decide +kernel
theorem dX1_countThrough_86 : decode cX1_countThrough 86 = .ok (.dup2, 1) := by decide +kernel
theorem dX1_countThrough_87 : decode cX1_countThrough 87 = .ok (.iaload, 1) := by decide +kernel
theorem dX1_countThrough_88 : decode cX1_countThrough 88 = .ok (.iconst 1, 1) := by decide +kernel
theorem dX1_countThrough_89 : decode cX1_countThrough 89 = .ok (.iadd, 1) := by decide +kernel
theorem dX1_countThrough_90 : decode cX1_countThrough 90 = .ok (.iastore, 1) := by decide +kernel
theorem dX1_countThrough_91 : decode cX1_countThrough 91 = .ok (.iinc 3 1, 3) := by decide +kernel
theorem dX1_countThrough_94 : decode cX1_countThrough 94 = .ok (.goto (-39), 3) := by decide +kernel
theorem dX1_countThrough_97 : decode cX1_countThrough 97 = .ok (.iinc 2 1, 3) := by decide +kernel
theorem dX1_countThrough_100 : decode cX1_countThrough 100 = .ok (.goto (-72), 3) := by decide +kernel
theorem dX1_countThrough_103 : decode cX1_countThrough 103 = .ok (.iconst 2, 1) := by decide +kernel
theorem dX1_countThrough_104 : decode cX1_countThrough 104 = .ok (.istore_n 2, 1) := by decide +kernel
theorem dX1_countThrough_105 : decode cX1_countThrough 105 = .ok (.iload_n 2, 1) := by decide +kernel
theorem dX1_countThrough_106 : decode cX1_countThrough 106 = .ok (.aload_n 0, 1) := by decide +kernel
theorem dX1_countThrough_107 : decode cX1_countThrough 107 = .ok (.getfield 15, 3) := by decide +kernel
theorem dX1_countThrough_110 : decode cX1_countThrough 110 = .ok (.getfield 37, 3) := by decide +kernel
theorem dX1_countThrough_113 : decode cX1_countThrough 113 = .ok (.if_icmp .gt 55, 3) := by decide +kernel
theorem dX1_countThrough_116 : decode cX1_countThrough 116 = .ok (.iconst 0, 1) := by decide +kernel
theorem dX1_countThrough_117 : decode cX1_countThrough 117 = .ok (.istore_n 3, 1) := by decide +kernel
theorem dX1_countThrough_118 : decode cX1_countThrough 118 = .ok (.iload_n 3, 1) := by decide +kernel
theorem dX1_countThrough_119 : decode cX1_countThrough 119 = .ok (.aload_n 0, 1) := by decide +kernel
theorem dX1_countThrough_120 : decode cX1_countThrough 120 = .ok (.getfield 15, 3) := by decide +kernel
theorem dX1_countThrough_123 : decode cX1_countThrough 123 = .ok (.getfield 37, 3) := by decide +kernel
theorem dX1_countThrough_126 : decode cX1_countThrough 126 = .ok (.if_icmp .ge 36, 3) := by decide +kernel
theorem dX1_countThrough_129 : decode cX1_countThrough 129 = .ok (.aload_n 0, 1) := by decide +kernel
theorem dX1_countThrough_130 : decode cX1_countThrough 130 = .ok (.getfield 9, 3) := by decide +kernel
theorem dX1_countThrough_133 : decode cX1_countThrough 133 = .ok (.iload_n 2, 1) := by decide +kernel
theorem dX1_countThrough_134 : decode cX1_countThrough 134 = .ok (.invokestatic 40, 3) := by decide +kernel
theorem dX1_countThrough_137 : decode cX1_countThrough 137 = .ok (.iload_n 3, 1) := by decide +kernel
theorem dX1_countThrough_138 : decode cX1_countThrough 138 = .ok (.iadd, 1) := by decide +kernel
theorem dX1_countThrough_139 : decode cX1_countThrough 139 = .ok (.dup2, 1) := by decide +kernel
theorem dX1_countThrough_140 : decode cX1_countThrough 140 = .ok (.iaload, 1) := by decide +kernel
theorem dX1_countThrough_141 : decode cX1_countThrough 141 = .ok (.aload_n 0, 1) := by decide +kernel
theorem dX1_countThrough_142 : decode cX1_countThrough 142 = .ok (.getfield 9, 3) := by decide +kernel
theorem dX1_countThrough_145 : decode cX1_countThrough 145 = .ok (.iload_n 2, 1) := by decide +kernel
theorem dX1_countThrough_146 : decode cX1_countThrough 146 = .ok (.iconst 1, 1) := by decide +kernel
theorem dX1_countThrough_147 : decode cX1_countThrough 147 = .ok (.isub, 1) := by decide +kernel
theorem dX1_countThrough_148 : decode cX1_countThrough 148 = .ok (.invokestatic 40, 3) := by decide +kernel
theorem dX1_countThrough_151 : decode cX1_countThrough 151 = .ok (.iload_n 3, 1) := by decide +kernel
theorem dX1_countThrough_152 : decode cX1_countThrough 152 = .ok (.iadd, 1) := by decide +kernel
theorem dX1_countThrough_153 : decode cX1_countThrough 153 = .ok (.iaload, 1) := by decide +kernel
theorem dX1_countThrough_154 : decode cX1_countThrough 154 = .ok (.iadd, 1) := by decide +kernel
theorem dX1_countThrough_155 : decode cX1_countThrough 155 = .ok (.iastore, 1) := by decide +kernel
theorem dX1_countThrough_156 : decode cX1_countThrough 156 = .ok (.iinc 3 1, 3) := by decide +kernel
theorem dX1_countThrough_159 : decode cX1_countThrough 159 = .ok (.goto (-41), 3) := by decide +kernel
theorem dX1_countThrough_162 : decode cX1_countThrough 162 = .ok (.iinc 2 1, 3) := by decide +kernel
theorem dX1_countThrough_165 : decode cX1_countThrough 165 = .ok (.goto (-60), 3) := by decide +kernel
theorem dX1_countThrough_168 : decode cX1_countThrough 168 = .ok (.iload_n 1, 1) := by decide +kernel
theorem dX1_countThrough_169 : decode cX1_countThrough 169 = .ok (.ireturn, 1) := by decide +kernel
theorem dX1_isPossible_0 : decode cX1_isPossible 0 = .ok (.iconst 0, 1) := by decide +kernel
theorem dX1_isPossible_1 : decode cX1_isPossible 1 = .ok (.istore_n 2, 1) := by decide +kernel
theorem dX1_isPossible_2 : decode cX1_isPossible 2 = .ok (.iload_n 2, 1) := by decide +kernel
theorem dX1_isPossible_3 : decode cX1_isPossible 3 = .ok (.aload_n 0, 1) := by decide +kernel
theorem dX1_isPossible_4 : decode cX1_isPossible 4 = .ok (.getfield 19, 3) := by decide +kernel
theorem dX1_isPossible_7 : decode cX1_isPossible 7 = .ok (.getfield 53, 3) := by decide +kernel
theorem dX1_isPossible_10 : decode cX1_isPossible 10 = .ok (.if_icmp .ge 59, 3) := by decide +kernel
theorem dX1_isPossible_13 : decode cX1_isPossible 13 = .ok (.aload_n 0, 1) := by decide +kernel
theorem dX1_isPossible_14 : decode cX1_isPossible 14 = .ok (.getfield 15, 3) := by decide +kernel
theorem dX1_isPossible_17 : decode cX1_isPossible 17 = .ok (.iload_n 1, 1) := by decide +kernel
theorem dX1_isPossible_18 : decode cX1_isPossible 18 = .ok (.aload_n 0, 1) := by decide +kernel
theorem dX1_isPossible_19 : decode cX1_isPossible 19 = .ok (.getfield 19, 3) := by decide +kernel
theorem dX1_isPossible_22 : decode cX1_isPossible 22 = .ok (.getfield 58, 3) := by decide +kernel
theorem dX1_isPossible_25 : decode cX1_isPossible 25 = .ok (.iload_n 2, 1) := by decide +kernel
theorem dX1_isPossible_26 : decode cX1_isPossible 26 = .ok (.iaload, 1) := by decide +kernel
theorem dX1_isPossible_27 : decode cX1_isPossible 27 = .ok (.invokevirtual 50, 3) := by decide +kernel
theorem dX1_isPossible_30 : decode cX1_isPossible 30 = .ok (.aload_n 0, 1) := by decide +kernel
theorem dX1_isPossible_31 : decode cX1_isPossible 31 = .ok (.getfield 19, 3) := by decide +kernel
theorem dX1_isPossible_34 : decode cX1_isPossible 34 = .ok (.getfield 61, 3) := by decide +kernel
theorem dX1_isPossible_37 : decode cX1_isPossible 37 = .ok (.iload_n 2, 1) := by decide +kernel
theorem dX1_isPossible_38 : decode cX1_isPossible 38 = .ok (.iaload, 1) := by decide +kernel
theorem dX1_isPossible_39 : decode cX1_isPossible 39 = .ok (.if_icmp .ge 7, 3) := by decide +kernel
theorem dX1_isPossible_42 : decode cX1_isPossible 42 = .ok (.iconst 1, 1) := by decide +kernel
theorem dX1_isPossible_43 : decode cX1_isPossible 43 = .ok (.goto 4, 3) := by decide +kernel
theorem dX1_isPossible_46 : decode cX1_isPossible 46 = .ok (.iconst 0, 1) := by decide +kernel
theorem dX1_isPossible_47 : decode cX1_isPossible 47 = .ok (.istore_n 3, 1) := by decide +kernel
theorem dX1_isPossible_48 : decode cX1_isPossible 48 = .ok (.iload_n 3, 1) := by decide +kernel
theorem dX1_isPossible_49 : decode cX1_isPossible 49 = .ok (.aload_n 0, 1) := by decide +kernel
theorem dX1_isPossible_50 : decode cX1_isPossible 50 = .ok (.getfield 19, 3) := by decide +kernel
theorem dX1_isPossible_53 : decode cX1_isPossible 53 = .ok (.getfield 64, 3) := by decide +kernel
theorem dX1_isPossible_56 : decode cX1_isPossible 56 = .ok (.iload_n 2, 1) := by decide +kernel
theorem dX1_isPossible_57 : decode cX1_isPossible 57 = .ok (.baload, 1) := by decide +kernel
theorem dX1_isPossible_58 : decode cX1_isPossible 58 = .ok (.if_icmp .eq 5, 3) := by decide +kernel
theorem dX1_isPossible_61 : decode cX1_isPossible 61 = .ok (.iconst 0, 1) := by decide +kernel
theorem dX1_isPossible_62 : decode cX1_isPossible 62 = .ok (.ireturn, 1) := by decide +kernel
theorem dX1_isPossible_63 : decode cX1_isPossible 63 = .ok (.iinc 2 1, 3) := by decide +kernel
theorem dX1_isPossible_66 : decode cX1_isPossible 66 = .ok (.goto (-64), 3) := by decide +kernel
theorem dX1_isPossible_69 : decode cX1_isPossible 69 = .ok (.iconst 1, 1) := by decide +kernel
theorem dX1_isPossible_70 : decode cX1_isPossible 70 = .ok (.ireturn, 1) := by decide +kernel
theorem dX1_rowOf_0 : decode cX1_rowOf 0 = .ok (.iload_n 0, 1) := by decide +kernel
theorem dX1_rowOf_1 : decode cX1_rowOf 1 = .ok (.iconst 1, 1) := by decide +kernel
theorem dX1_rowOf_2 : decode cX1_rowOf 2 = .ok (.isub, 1) := by decide +kernel
theorem dX1_rowOf_3 : decode cX1_rowOf 3 = .ok (.bipush 7, 2) := by decide +kernel
theorem dX1_rowOf_5 : decode cX1_rowOf 5 = .ok (.imul, 1) := by decide +kernel
theorem dX1_rowOf_6 : decode cX1_rowOf 6 = .ok (.ireturn, 1) := by decide +kernel
theorem dX2_init_0 : decode cX2_init 0 = .ok (.aload_n 0, 1) := by decide +kernel
theorem dX2_init_1 : decode cX2_init 1 = .ok (.invokespecial 3, 3) := by decide +kernel
theorem dX2_init_4 : decode cX2_init 4 = .ok (.aload_n 0, 1) := by decide +kernel
theorem dX2_init_5 : decode cX2_init 5 = .ok (.bipush 9, 2) := by decide +kernel
theorem dX2_init_7 : decode cX2_init 7 = .ok (.newarray .int, 2) := by decide +kernel
theorem dX2_init_9 : decode cX2_init 9 = .ok (.putfield 9, 3) := by decide +kernel
theorem dX2_init_12 : decode cX2_init 12 = .ok (.aload_n 0, 1) := by decide +kernel
theorem dX2_init_13 : decode cX2_init 13 = .ok (.iconst 0, 1) := by decide +kernel
theorem dX2_init_14 : decode cX2_init 14 = .ok (.putfield 15, 3) := by decide +kernel
theorem dX2_init_17 : decode cX2_init 17 = .ok (.return_, 1) := by decide +kernel
theorem dX2_add_0 : decode cX2_add 0 = .ok (.aload_n 0, 1) := by decide +kernel
theorem dX2_add_1 : decode cX2_add 1 = .ok (.getfield 15, 3) := by decide +kernel
theorem dX2_add_4 : decode cX2_add 4 = .ok (.aload_n 0, 1) := by decide +kernel
theorem dX2_add_5 : decode cX2_add 5 = .ok (.getfield 9, 3) := by decide +kernel
theorem dX2_add_8 : decode cX2_add 8 = .ok (.arraylength, 1) := by decide +kernel
theorem dX2_add_9 : decode cX2_add 9 = .ok (.if_icmp .lt 4, 3) := by decide +kernel
theorem dX2_add_12 : decode cX2_add 12 = .ok (.return_, 1) := by decide +kernel
theorem dX2_add_13 : decode cX2_add 13 = .ok (.aload_n 0, 1) := by decide +kernel
theorem dX2_add_14 : decode cX2_add 14 = .ok (.getfield 9, 3) := by decide +kernel
theorem dX2_add_17 : decode cX2_add 17 = .ok (.aload_n 0, 1) := by decide +kernel
theorem dX2_add_18 : decode cX2_add 18 = .ok (.getfield 15, 3) := by decide +kernel
theorem dX2_add_21 : decode cX2_add 21 = .ok (.iload_n 1, 1) := by decide +kernel
theorem dX2_add_22 : decode cX2_add 22 = .ok (.iastore, 1) := by decide +kernel
theorem dX2_add_23 : decode cX2_add 23 = .ok (.aload_n 0, 1) := by decide +kernel
theorem dX2_add_24 : decode cX2_add 24 = .ok (.dup, 1) := by decide +kernel
theorem dX2_add_25 : decode cX2_add 25 = .ok (.getfield 15, 3) := by decide +kernel
theorem dX2_add_28 : decode cX2_add 28 = .ok (.iconst 1, 1) := by decide +kernel
theorem dX2_add_29 : decode cX2_add 29 = .ok (.iadd, 1) := by decide +kernel
theorem dX2_add_30 : decode cX2_add 30 = .ok (.putfield 15, 3) := by decide +kernel
theorem dX2_add_33 : decode cX2_add 33 = .ok (.return_, 1) := by decide +kernel
theorem dX2_kindAt_0 : decode cX2_kindAt 0 = .ok (.iload_n 1, 1) := by decide +kernel
theorem dX2_kindAt_1 : decode cX2_kindAt 1 = .ok (.ifCond .lt 11, 3) := by decide +kernel
theorem dX2_kindAt_4 : decode cX2_kindAt 4 = .ok (.iload_n 1, 1) := by decide +kernel
theorem dX2_kindAt_5 : decode cX2_kindAt 5 = .ok (.aload_n 0, 1) := by decide +kernel
theorem dX2_kindAt_6 : decode cX2_kindAt 6 = .ok (.getfield 15, 3) := by decide +kernel
theorem dX2_kindAt_9 : decode cX2_kindAt 9 = .ok (.if_icmp .lt 5, 3) := by decide +kernel
theorem dX2_kindAt_12 : decode cX2_kindAt 12 = .ok (.iconst (-1), 1) := by decide +kernel
theorem dX2_kindAt_13 : decode cX2_kindAt 13 = .ok (.ireturn, 1) := by decide +kernel
theorem dX2_kindAt_14 : decode cX2_kindAt 14 = .ok (.ldc 19, 2) := by decide +kernel
theorem dX2_kindAt_16 : decode cX2_kindAt 16 = .ok (.aload_n 0, 1) := by decide +kernel
theorem dX2_kindAt_17 : decode cX2_kindAt 17 = .ok (.getfield 9, 3) := by decide +kernel
theorem dX2_kindAt_20 : decode cX2_kindAt 20 = .ok (.iload_n 1, 1) := by decide +kernel
theorem dX2_kindAt_21 : decode cX2_kindAt 21 = .ok (.iaload, 1) := by decide +kernel
theorem dX2_kindAt_22 : decode cX2_kindAt 22 = .ok (.i2c, 1) := by decide +kernel
theorem dX2_kindAt_23 : decode cX2_kindAt 23 = .ok (.invokevirtual 21, 3) := by decide +kernel
theorem dX2_kindAt_26 : decode cX2_kindAt 26 = .ok (.ireturn, 1) := by decide +kernel
theorem dX2_firstWrong_0 : decode cX2_firstWrong 0 = .ok (.iconst 0, 1) := by decide +kernel
theorem dX2_firstWrong_1 : decode cX2_firstWrong 1 = .ok (.istore_n 1, 1) := by decide +kernel
theorem dX2_firstWrong_2 : decode cX2_firstWrong 2 = .ok (.iload_n 1, 1) := by decide +kernel
theorem dX2_firstWrong_3 : decode cX2_firstWrong 3 = .ok (.aload_n 0, 1) := by decide +kernel
theorem dX2_firstWrong_4 : decode cX2_firstWrong 4 = .ok (.getfield 15, 3) := by decide +kernel
theorem dX2_firstWrong_7 : decode cX2_firstWrong 7 = .ok (.if_icmp .ge 26, 3) := by decide +kernel
theorem dX2_firstWrong_10 : decode cX2_firstWrong 10 = .ok (.iload_n 1, 1) := by decide +kernel
theorem dX2_firstWrong_11 : decode cX2_firstWrong 11 = .ok (.bipush 7, 2) := by decide +kernel
theorem dX2_firstWrong_13 : decode cX2_firstWrong 13 = .ok (.if_icmp .ge 12, 3) := by decide +kernel
theorem dX2_firstWrong_16 : decode cX2_firstWrong 16 = .ok (.aload_n 0, 1) := by decide +kernel
theorem dX2_firstWrong_17 : decode cX2_firstWrong 17 = .ok (.iload_n 1, 1) := by decide +kernel
theorem dX2_firstWrong_18 : decode cX2_firstWrong 18 = .ok (.invokevirtual 27, 3) := by decide +kernel
theorem dX2_firstWrong_21 : decode cX2_firstWrong 21 = .ok (.iconst (-1), 1) := by decide +kernel
theorem dX2_firstWrong_22 : decode cX2_firstWrong 22 = .ok (.if_icmp .ne 5, 3) := by decide +kernel
theorem dX2_firstWrong_25 : decode cX2_firstWrong 25 = .ok (.iload_n 1, 1) := by decide +kernel
theorem dX2_firstWrong_26 : decode cX2_firstWrong 26 = .ok (.ireturn, 1) := by decide +kernel
theorem dX2_firstWrong_27 : decode cX2_firstWrong 27 = .ok (.iinc 1 1, 3) := by decide +kernel
theorem dX2_firstWrong_30 : decode cX2_firstWrong 30 = .ok (.goto (-28), 3) := by decide +kernel
theorem dX2_firstWrong_33 : decode cX2_firstWrong 33 = .ok (.aload_n 0, 1) := by decide +kernel
theorem dX2_firstWrong_34 : decode cX2_firstWrong 34 = .ok (.getfield 15, 3) := by decide +kernel
theorem dX2_firstWrong_37 : decode cX2_firstWrong 37 = .ok (.ireturn, 1) := by decide +kernel
theorem dX3_init_0 : decode cX3_init 0 = .ok (.aload_n 0, 1) := by decide +kernel
theorem dX3_init_1 : decode cX3_init 1 = .ok (.invokespecial 3, 3) := by decide +kernel
theorem dX3_init_4 : decode cX3_init 4 = .ok (.aload_n 0, 1) := by decide +kernel
theorem dX3_init_5 : decode cX3_init 5 = .ok (.iconst 0, 1) := by decide +kernel
theorem dX3_init_6 : decode cX3_init 6 = .ok (.putfield 9, 3) := by decide +kernel
theorem dX3_init_9 : decode cX3_init 9 = .ok (.aload_n 0, 1) := by decide +kernel
theorem dX3_init_10 : decode cX3_init 10 = .ok (.iconst (-1), 1) := by decide +kernel
theorem dX3_init_11 : decode cX3_init 11 = .ok (.putfield 15, 3) := by decide +kernel
theorem dX3_init_14 : decode cX3_init 14 = .ok (.aload_n 0, 1) := by decide +kernel
theorem dX3_init_15 : decode cX3_init 15 = .ok (.iconst 0, 1) := by decide +kernel
theorem dX3_init_16 : decode cX3_init 16 = .ok (.putfield 18, 3) := by decide +kernel
theorem dX3_init_19 : decode cX3_init 19 = .ok (.aload_n 0, 1) := by decide +kernel
theorem dX3_init_20 : decode cX3_init 20 = .ok (.sipush 463, 3) := by decide +kernel
theorem dX3_init_23 : decode cX3_init 23 = .ok (.newarray .int, 2) := by decide +kernel
theorem dX3_init_25 : decode cX3_init 25 = .ok (.putfield 21, 3) := by decide +kernel
theorem dX3_init_28 : decode cX3_init 28 = .ok (.aload_n 0, 1) := by decide +kernel
theorem dX3_init_29 : decode cX3_init 29 = .ok (.sipush 3964, 3) := by decide +kernel
theorem dX3_init_32 : decode cX3_init 32 = .ok (.newarray .int, 2) := by decide +kernel
theorem dX3_init_34 : decode cX3_init 34 = .ok (.putfield 25, 3) := by decide +kernel
theorem dX3_init_37 : decode cX3_init 37 = .ok (.aload_n 0, 1) := by decide +kernel
theorem dX3_init_38 : decode cX3_init 38 = .ok (.sipush 462, 3) := by decide +kernel
theorem dX3_init_41 : decode cX3_init 41 = .ok (.newarray .int, 2) := by decide +kernel
theorem dX3_init_43 : decode cX3_init 43 = .ok (.putfield 28, 3) := by decide +kernel
theorem dX3_init_46 : decode cX3_init 46 = .ok (.aload_n 0, 1) := by decide +kernel
theorem dX3_init_47 : decode cX3_init 47 = .ok (.sipush 462, 3) := by decide +kernel
theorem dX3_init_50 : decode cX3_init 50 = .ok (.newarray .int, 2) := by decide +kernel
theorem dX3_init_52 : decode cX3_init 52 = .ok (.putfield 31, 3) := by decide +kernel
theorem dX3_init_55 : decode cX3_init 55 = .ok (.aload_n 0, 1) := by decide +kernel
theorem dX3_init_56 : decode cX3_init 56 = .ok (.aload_n 1, 1) := by decide +kernel
theorem dX3_init_57 : decode cX3_init 57 = .ok (.putfield 34, 3) := by decide +kernel
theorem dX3_init_60 : decode cX3_init 60 = .ok (.return_, 1) := by decide +kernel
theorem dX3_distanceTo_0 : decode cX3_distanceTo 0 = .ok (.iload_n 1, 1) := by decide +kernel
theorem dX3_distanceTo_1 : decode cX3_distanceTo 1 = .ok (.ifCond .lt 23, 3) := by decide +kernel
theorem dX3_distanceTo_4 : decode cX3_distanceTo 4 = .ok (.iload_n 1, 1) := by decide +kernel
theorem dX3_distanceTo_5 : decode cX3_distanceTo 5 = .ok (.aload_n 0, 1) := by decide +kernel
theorem dX3_distanceTo_6 : decode cX3_distanceTo 6 = .ok (.getfield 34, 3) := by decide +kernel
theorem dX3_distanceTo_9 : decode cX3_distanceTo 9 = .ok (.getfield 38, 3) := by decide +kernel
theorem dX3_distanceTo_12 : decode cX3_distanceTo 12 = .ok (.if_icmp .ge 12, 3) := by decide +kernel
theorem dX3_distanceTo_15 : decode cX3_distanceTo 15 = .ok (.aload_n 0, 1) := by decide +kernel
theorem dX3_distanceTo_16 : decode cX3_distanceTo 16 = .ok (.getfield 28, 3) := by decide +kernel
theorem dX3_distanceTo_19 : decode cX3_distanceTo 19 = .ok (.iload_n 1, 1) := by decide +kernel
theorem dX3_distanceTo_20 : decode cX3_distanceTo 20 = .ok (.iaload, 1) := by decide +kernel
theorem dX3_distanceTo_21 : decode cX3_distanceTo 21 = .ok (.goto 4, 3) := by decide +kernel
theorem dX3_distanceTo_24 : decode cX3_distanceTo 24 = .ok (.iconst (-1), 1) := by decide +kernel
theorem dX3_distanceTo_25 : decode cX3_distanceTo 25 = .ok (.ireturn, 1) := by decide +kernel
theorem dX3_measureFrom_0 : decode cX3_measureFrom 0 = .ok (.iload_n 1, 1) := by decide +kernel
theorem dX3_measureFrom_1 : decode cX3_measureFrom 1 = .ok (.ifCond .lt 14, 3) := by decide +kernel
theorem dX3_measureFrom_4 : decode cX3_measureFrom 4 = .ok (.iload_n 1, 1) := by decide +kernel
theorem dX3_measureFrom_5 : decode cX3_measureFrom 5 = .ok (.aload_n 0, 1) := by decide +kernel
theorem dX3_measureFrom_6 : decode cX3_measureFrom 6 = .ok (.getfield 34, 3) := by decide +kernel
theorem dX3_measureFrom_9 : decode cX3_measureFrom 9 = .ok (.getfield 38, 3) := by decide +kernel
theorem dX3_measureFrom_12 : decode cX3_measureFrom 12 = .ok (.if_icmp .lt 4, 3) := by decide +kernel
theorem dX3_measureFrom_15 : decode cX3_measureFrom 15 = .ok (.return_, 1) := by decide +kernel
theorem dX3_measureFrom_16 : decode cX3_measureFrom 16 = .ok (.aload_n 0, 1) := by decide +kernel
theorem dX3_measureFrom_17 : decode cX3_measureFrom 17 = .ok (.getfield 9, 3) := by decide +kernel
theorem dX3_measureFrom_20 : decode cX3_measureFrom 20 = .ok (.aload_n 0, 1) := by decide +kernel
theorem dX3_measureFrom_21 : decode cX3_measureFrom 21 = .ok (.getfield 34, 3) := by decide +kernel
theorem dX3_measureFrom_24 : decode cX3_measureFrom 24 = .ok (.getfield 43, 3) := by decide +kernel
theorem dX3_measureFrom_27 : decode cX3_measureFrom 27 = .ok (.if_icmp .eq 7, 3) := by decide +kernel
theorem dX3_measureFrom_30 : decode cX3_measureFrom 30 = .ok (.aload_n 0, 1) := by decide +kernel
theorem dX3_measureFrom_31 : decode cX3_measureFrom 31 = .ok (.invokevirtual 44, 3) := by decide +kernel
theorem dX3_measureFrom_34 : decode cX3_measureFrom 34 = .ok (.iload_n 1, 1) := by decide +kernel
theorem dX3_measureFrom_35 : decode cX3_measureFrom 35 = .ok (.aload_n 0, 1) := by decide +kernel
theorem dX3_measureFrom_36 : decode cX3_measureFrom 36 = .ok (.getfield 15, 3) := by decide +kernel
theorem dX3_measureFrom_39 : decode cX3_measureFrom 39 = .ok (.if_icmp .ne 4, 3) := by decide +kernel
theorem dX3_measureFrom_42 : decode cX3_measureFrom 42 = .ok (.return_, 1) := by decide +kernel
theorem dX3_measureFrom_43 : decode cX3_measureFrom 43 = .ok (.aload_n 0, 1) := by decide +kernel
theorem dX3_measureFrom_44 : decode cX3_measureFrom 44 = .ok (.iload_n 1, 1) := by decide +kernel
theorem dX3_measureFrom_45 : decode cX3_measureFrom 45 = .ok (.putfield 15, 3) := by decide +kernel
theorem dX3_measureFrom_48 : decode cX3_measureFrom 48 = .ok (.iconst 0, 1) := by decide +kernel
theorem dX3_measureFrom_49 : decode cX3_measureFrom 49 = .ok (.istore_n 2, 1) := by decide +kernel
theorem dX3_measureFrom_50 : decode cX3_measureFrom 50 = .ok (.iload_n 2, 1) := by decide +kernel
theorem dX3_measureFrom_51 : decode cX3_measureFrom 51 = .ok (.aload_n 0, 1) := by decide +kernel
theorem dX3_measureFrom_52 : decode cX3_measureFrom 52 = .ok (.getfield 34, 3) := by decide +kernel
theorem dX3_measureFrom_55 : decode cX3_measureFrom 55 = .ok (.getfield 38, 3) := by decide +kernel
theorem dX3_measureFrom_58 : decode cX3_measureFrom 58 = .ok (.if_icmp .ge 16, 3) := by decide +kernel
theorem dX3_measureFrom_61 : decode cX3_measureFrom 61 = .ok (.aload_n 0, 1) := by decide +kernel
theorem dX3_measureFrom_62 : decode cX3_measureFrom 62 = .ok (.getfield 28, 3) := by decide +kernel
theorem dX3_measureFrom_65 : decode cX3_measureFrom 65 = .ok (.iload_n 2, 1) := by decide +kernel
theorem dX3_measureFrom_66 : decode cX3_measureFrom 66 = .ok (.iconst (-1), 1) := by decide +kernel
theorem dX3_measureFrom_67 : decode cX3_measureFrom 67 = .ok (.iastore, 1) := by decide +kernel
theorem dX3_measureFrom_68 : decode cX3_measureFrom 68 = .ok (.iinc 2 1, 3) := by decide +kernel
theorem dX3_measureFrom_71 : decode cX3_measureFrom 71 = .ok (.goto (-21), 3) := by decide +kernel
theorem dX3_measureFrom_74 : decode cX3_measureFrom 74 = .ok (.aload_n 0, 1) := by decide +kernel
theorem dX3_measureFrom_75 : decode cX3_measureFrom 75 = .ok (.getfield 28, 3) := by decide +kernel
theorem dX3_measureFrom_78 : decode cX3_measureFrom 78 = .ok (.iload_n 1, 1) := by decide +kernel
theorem dX3_measureFrom_79 : decode cX3_measureFrom 79 = .ok (.iconst 0, 1) := by decide +kernel
theorem dX3_measureFrom_80 : decode cX3_measureFrom 80 = .ok (.iastore, 1) := by decide +kernel
theorem dX3_measureFrom_81 : decode cX3_measureFrom 81 = .ok (.aload_n 0, 1) := by decide +kernel
theorem dX3_measureFrom_82 : decode cX3_measureFrom 82 = .ok (.getfield 31, 3) := by decide +kernel
theorem dX3_measureFrom_85 : decode cX3_measureFrom 85 = .ok (.iconst 0, 1) := by decide +kernel
theorem dX3_measureFrom_86 : decode cX3_measureFrom 86 = .ok (.iload_n 1, 1) := by decide +kernel
theorem dX3_measureFrom_87 : decode cX3_measureFrom 87 = .ok (.iastore, 1) := by decide +kernel
theorem dX3_measureFrom_88 : decode cX3_measureFrom 88 = .ok (.iconst 1, 1) := by decide +kernel
theorem dX3_measureFrom_89 : decode cX3_measureFrom 89 = .ok (.istore_n 2, 1) := by decide +kernel
theorem dX3_measureFrom_90 : decode cX3_measureFrom 90 = .ok (.iconst 0, 1) := by decide +kernel
theorem dX3_measureFrom_91 : decode cX3_measureFrom 91 = .ok (.istore_n 3, 1) := by decide +kernel
theorem dX3_measureFrom_92 : decode cX3_measureFrom 92 = .ok (.iload_n 3, 1) := by decide +kernel
theorem dX3_measureFrom_93 : decode cX3_measureFrom 93 = .ok (.iload_n 2, 1) := by decide +kernel
theorem dX3_measureFrom_94 : decode cX3_measureFrom 94 = .ok (.if_icmp .ge 32, 3) := by decide +kernel
theorem dX3_measureFrom_97 : decode cX3_measureFrom 97 = .ok (.iload_n 3, 1) := by decide +kernel
theorem dX3_measureFrom_98 : decode cX3_measureFrom 98 = .ok (.aload_n 0, 1) := by decide +kernel
theorem dX3_measureFrom_99 : decode cX3_measureFrom 99 = .ok (.getfield 34, 3) := by decide +kernel
theorem dX3_measureFrom_102 : decode cX3_measureFrom 102 = .ok (.getfield 38, 3) := by decide +kernel
theorem dX3_measureFrom_105 : decode cX3_measureFrom 105 = .ok (.if_icmp .ge 21, 3) := by decide +kernel
theorem dX3_measureFrom_108 : decode cX3_measureFrom 108 = .ok (.aload_n 0, 1) := by decide +kernel
theorem dX3_measureFrom_109 : decode cX3_measureFrom 109 = .ok (.aload_n 0, 1) := by decide +kernel
theorem dX3_measureFrom_110 : decode cX3_measureFrom 110 = .ok (.getfield 31, 3) := by decide +kernel
theorem dX3_measureFrom_113 : decode cX3_measureFrom 113 = .ok (.iload_n 3, 1) := by decide +kernel
theorem dX3_measureFrom_114 : decode cX3_measureFrom 114 = .ok (.iaload, 1) := by decide +kernel
theorem dX3_measureFrom_115 : decode cX3_measureFrom 115 = .ok (.iload_n 2, 1) := by decide +kernel
theorem dX3_measureFrom_116 : decode cX3_measureFrom 116 = .ok (.invokevirtual 47, 3) := by decide +kernel
theorem dX3_measureFrom_119 : decode cX3_measureFrom 119 = .ok (.istore_n 2, 1) := by decide +kernel
theorem dX3_measureFrom_120 : decode cX3_measureFrom 120 = .ok (.iinc 3 1, 3) := by decide +kernel
theorem dX3_measureFrom_123 : decode cX3_measureFrom 123 = .ok (.goto (-31), 3) := by decide +kernel
theorem dX3_measureFrom_126 : decode cX3_measureFrom 126 = .ok (.return_, 1) := by decide +kernel
theorem dX3_spread_0 : decode cX3_spread 0 = .ok (.iload_n 2, 1) := by decide +kernel
theorem dX3_spread_1 : decode cX3_spread 1 = .ok (.istore_n 3, 1) := by decide +kernel
theorem dX3_spread_2 : decode cX3_spread 2 = .ok (.aload_n 0, 1) := by decide +kernel
theorem dX3_spread_3 : decode cX3_spread 3 = .ok (.getfield 21, 3) := by decide +kernel
theorem dX3_spread_6 : decode cX3_spread 6 = .ok (.iload_n 1, 1) := by decide +kernel
theorem dX3_spread_7 : decode cX3_spread 7 = .ok (.iaload, 1) := by decide +kernel
theorem dX3_spread_8 : decode cX3_spread 8 = .ok (.istore 4, 2) := by decide +kernel
theorem dX3_spread_10 : decode cX3_spread 10 = .ok (.iload 4, 2) := by decide +kernel
theorem dX3_spread_12 : decode cX3_spread 12 = .ok (.aload_n 0, 1) := by decide +kernel
theorem dX3_spread_13 : decode cX3_spread 13 = .ok (.getfield 21, 3) := by decide +kernel
theorem dX3_spread_16 : decode cX3_spread 16 = .ok (.iload_n 1, 1) := by decide +kernel
theorem dX3_spread_17 : decode cX3_spread 17 = .ok (.iconst 1, 1) := by decide +kernel
theorem dX3_spread_18 : decode cX3_spread 18 = .ok (.iadd, 1) := by decide +kernel
theorem dX3_spread_19 : decode cX3_spread 19 = .ok (.iaload, 1) := by decide +kernel
theorem dX3_spread_20 : decode cX3_spread 20 = .ok (.if_icmp .ge 65, 3) := by decide +kernel
theorem dX3_spread_23 : decode cX3_spread 23 = .ok (.aload_n 0, 1) := by decide +kernel
theorem dX3_spread_24 : decode cX3_spread 24 = .ok (.getfield 25, 3) := by decide +kernel
theorem dX3_spread_27 : decode cX3_spread 27 = .ok (.iload 4, 2) := by decide +kernel
theorem dX3_spread_29 : decode cX3_spread 29 = .ok (.iaload, 1) := by decide +kernel
theorem dX3_spread_30 : decode cX3_spread 30 = .ok (.istore 5, 2) := by decide +kernel
theorem dX3_spread_32 : decode cX3_spread 32 = .ok (.aload_n 0, 1) := by decide +kernel
theorem dX3_spread_33 : decode cX3_spread 33 = .ok (.getfield 28, 3) := by decide +kernel
theorem dX3_spread_36 : decode cX3_spread 36 = .ok (.iload 5, 2) := by decide +kernel
theorem dX3_spread_38 : decode cX3_spread 38 = .ok (.iaload, 1) := by decide +kernel
theorem dX3_spread_39 : decode cX3_spread 39 = .ok (.iconst (-1), 1) := by decide +kernel
theorem dX3_spread_40 : decode cX3_spread 40 = .ok (.if_icmp .ne 39, 3) := by decide +kernel
theorem dX3_spread_43 : decode cX3_spread 43 = .ok (.iload_n 3, 1) := by decide +kernel
theorem dX3_spread_44 : decode cX3_spread 44 = .ok (.sipush 462, 3) := by decide +kernel
theorem dX3_spread_47 : decode cX3_spread 47 = .ok (.if_icmp .lt 6, 3) := by decide +kernel
theorem dX3_spread_50 : decode cX3_spread 50 = .ok (.goto 29, 3) := by decide +kernel
theorem dX3_spread_53 : decode cX3_spread 53 = .ok (.aload_n 0, 1) := by decide +kernel
theorem dX3_spread_54 : decode cX3_spread 54 = .ok (.getfield 28, 3) := by decide +kernel
theorem dX3_spread_57 : decode cX3_spread 57 = .ok (.iload 5, 2) := by decide +kernel
theorem dX3_spread_59 : decode cX3_spread 59 = .ok (.aload_n 0, 1) := by decide +kernel
theorem dX3_spread_60 : decode cX3_spread 60 = .ok (.getfield 28, 3) := by decide +kernel
theorem dX3_spread_63 : decode cX3_spread 63 = .ok (.iload_n 1, 1) := by decide +kernel
theorem dX3_spread_64 : decode cX3_spread 64 = .ok (.iaload, 1) := by decide +kernel
theorem dX3_spread_65 : decode cX3_spread 65 = .ok (.iconst 1, 1) := by decide +kernel
theorem dX3_spread_66 : decode cX3_spread 66 = .ok (.iadd, 1) := by decide +kernel
theorem dX3_spread_67 : decode cX3_spread 67 = .ok (.iastore, 1) := by decide +kernel
theorem dX3_spread_68 : decode cX3_spread 68 = .ok (.aload_n 0, 1) := by decide +kernel
theorem dX3_spread_69 : decode cX3_spread 69 = .ok (.getfield 31, 3) := by decide +kernel
theorem dX3_spread_72 : decode cX3_spread 72 = .ok (.iload_n 3, 1) := by decide +kernel
theorem dX3_spread_73 : decode cX3_spread 73 = .ok (.iload 5, 2) := by decide +kernel
theorem dX3_spread_75 : decode cX3_spread 75 = .ok (.iastore, 1) := by decide +kernel
theorem dX3_spread_76 : decode cX3_spread 76 = .ok (.iinc 3 1, 3) := by decide +kernel
theorem dX3_spread_79 : decode cX3_spread 79 = .ok (.iinc 4 1, 3) := by decide +kernel
theorem dX3_spread_82 : decode cX3_spread 82 = .ok (.goto (-72), 3) := by decide +kernel
theorem dX3_spread_85 : decode cX3_spread 85 = .ok (.iload_n 3, 1) := by decide +kernel
theorem dX3_spread_86 : decode cX3_spread 86 = .ok (.ireturn, 1) := by decide +kernel
theorem dX3_findSteps_0 : decode cX3_findSteps 0 = .ok (.aload_n 0, 1) := by decide +kernel
theorem dX3_findSteps_1 : decode cX3_findSteps 1 = .ok (.aload_n 0, 1) := by decide +kernel
theorem dX3_findSteps_2 : decode cX3_findSteps 2 = .ok (.getfield 34, 3) := by decide +kernel
theorem dX3_findSteps_5 : decode cX3_findSteps 5 = .ok (.getfield 43, 3) := by decide +kernel
theorem dX3_findSteps_8 : decode cX3_findSteps 8 = .ok (.putfield 9, 3) := by decide +kernel
theorem dX3_findSteps_11 : decode cX3_findSteps 11 = .ok (.aload_n 0, 1) := by decide +kernel
theorem dX3_findSteps_12 : decode cX3_findSteps 12 = .ok (.iconst (-1), 1) := by decide +kernel
theorem dX3_findSteps_13 : decode cX3_findSteps 13 = .ok (.putfield 15, 3) := by decide +kernel
theorem dX3_findSteps_16 : decode cX3_findSteps 16 = .ok (.aload_n 0, 1) := by decide +kernel
theorem dX3_findSteps_17 : decode cX3_findSteps 17 = .ok (.iconst 0, 1) := by decide +kernel
theorem dX3_findSteps_18 : decode cX3_findSteps 18 = .ok (.putfield 18, 3) := by decide +kernel
theorem dX3_findSteps_21 : decode cX3_findSteps 21 = .ok (.iconst 0, 1) := by decide +kernel
theorem dX3_findSteps_22 : decode cX3_findSteps 22 = .ok (.istore_n 1, 1) := by decide +kernel
theorem dX3_findSteps_23 : decode cX3_findSteps 23 = .ok (.iload_n 1, 1) := by decide +kernel
theorem dX3_findSteps_24 : decode cX3_findSteps 24 = .ok (.aload_n 0, 1) := by decide +kernel
theorem dX3_findSteps_25 : decode cX3_findSteps 25 = .ok (.getfield 34, 3) := by decide +kernel
theorem dX3_findSteps_28 : decode cX3_findSteps 28 = .ok (.getfield 38, 3) := by decide +kernel
theorem dX3_findSteps_31 : decode cX3_findSteps 31 = .ok (.if_icmp .ge 24, 3) := by decide +kernel
theorem dX3_findSteps_34 : decode cX3_findSteps 34 = .ok (.aload_n 0, 1) := by decide +kernel
theorem dX3_findSteps_35 : decode cX3_findSteps 35 = .ok (.getfield 21, 3) := by decide +kernel
theorem dX3_findSteps_38 : decode cX3_findSteps 38 = .ok (.iload_n 1, 1) := by decide +kernel
theorem dX3_findSteps_39 : decode cX3_findSteps 39 = .ok (.aload_n 0, 1) := by decide +kernel
theorem dX3_findSteps_40 : decode cX3_findSteps 40 = .ok (.getfield 18, 3) := by decide +kernel
theorem dX3_findSteps_43 : decode cX3_findSteps 43 = .ok (.iastore, 1) := by decide +kernel
theorem dX3_findSteps_44 : decode cX3_findSteps 44 = .ok (.aload_n 0, 1) := by decide +kernel
theorem dX3_findSteps_45 : decode cX3_findSteps 45 = .ok (.iload_n 1, 1) := by decide +kernel
theorem dX3_findSteps_46 : decode cX3_findSteps 46 = .ok (.invokevirtual 51, 3) := by decide +kernel
theorem dX3_findSteps_49 : decode cX3_findSteps 49 = .ok (.iinc 1 1, 3) := by decide +kernel
theorem dX3_findSteps_52 : decode cX3_findSteps 52 = .ok (.goto (-29), 3) := by decide +kernel
theorem dX3_findSteps_55 : decode cX3_findSteps 55 = .ok (.aload_n 0, 1) := by decide +kernel
theorem dX3_findSteps_56 : decode cX3_findSteps 56 = .ok (.getfield 21, 3) := by decide +kernel
theorem dX3_findSteps_59 : decode cX3_findSteps 59 = .ok (.aload_n 0, 1) := by decide +kernel
theorem dX3_findSteps_60 : decode cX3_findSteps 60 = .ok (.getfield 34, 3) := by decide +kernel
theorem dX3_findSteps_63 : decode cX3_findSteps 63 = .ok (.getfield 38, 3) := by decide +kernel
theorem dX3_findSteps_66 : decode cX3_findSteps 66 = .ok (.aload_n 0, 1) := by decide +kernel
theorem dX3_findSteps_67 : decode cX3_findSteps 67 = .ok (.getfield 18, 3) := by decide +kernel
theorem dX3_findSteps_70 : decode cX3_findSteps 70 = .ok (.iastore, 1) := by decide +kernel
theorem dX3_findSteps_71 : decode cX3_findSteps 71 = .ok (.return_, 1) := by decide +kernel
theorem dX3_findStepsFrom_0 : decode cX3_findStepsFrom 0 = .ok (.iconst 0, 1) := by decide +kernel
theorem dX3_findStepsFrom_1 : decode cX3_findStepsFrom 1 = .ok (.istore_n 2, 1) := by decide +kernel
theorem dX3_findStepsFrom_2 : decode cX3_findStepsFrom 2 = .ok (.iload_n 2, 1) := by decide +kernel
theorem dX3_findStepsFrom_3 : decode cX3_findStepsFrom 3 = .ok (.aload_n 0, 1) := by decide +kernel
theorem dX3_findStepsFrom_4 : decode cX3_findStepsFrom 4 = .ok (.getfield 9, 3) := by decide +kernel
theorem dX3_findStepsFrom_7 : decode cX3_findStepsFrom 7 = .ok (.if_icmp .ge 69, 3) := by decide +kernel
theorem dX3_findStepsFrom_10 : decode cX3_findStepsFrom 10 = .ok (.aload_n 0, 1) := by decide +kernel
theorem dX3_findStepsFrom_11 : decode cX3_findStepsFrom 11 = .ok (.getfield 34, 3) := by decide +kernel
theorem dX3_findStepsFrom_14 : decode cX3_findStepsFrom 14 = .ok (.iload_n 1, 1) := by decide +kernel
theorem dX3_findStepsFrom_15 : decode cX3_findStepsFrom 15 = .ok (.iload_n 2, 1) := by decide +kernel
theorem dX3_findStepsFrom_16 : decode cX3_findStepsFrom 16 = .ok (.invokevirtual 55, 3) := by decide +kernel
theorem dX3_findStepsFrom_19 : decode cX3_findStepsFrom 19 = .ok (.istore_n 3, 1) := by decide +kernel
theorem dX3_findStepsFrom_20 : decode cX3_findStepsFrom 20 = .ok (.iconst 0, 1) := by decide +kernel
theorem dX3_findStepsFrom_21 : decode cX3_findStepsFrom 21 = .ok (.istore 4, 2) := by decide +kernel
theorem dX3_findStepsFrom_23 : decode cX3_findStepsFrom 23 = .ok (.iload 4, 2) := by decide +kernel
theorem dX3_findStepsFrom_25 : decode cX3_findStepsFrom 25 = .ok (.aload_n 0, 1) := by decide +kernel
theorem dX3_findStepsFrom_26 : decode cX3_findStepsFrom 26 = .ok (.getfield 9, 3) := by decide +kernel
theorem dX3_findStepsFrom_29 : decode cX3_findStepsFrom 29 = .ok (.if_icmp .ge 41, 3) := by decide +kernel
theorem dX3_findStepsFrom_32 : decode cX3_findStepsFrom 32 = .ok (.iload 4, 2) := by decide +kernel
theorem dX3_findStepsFrom_34 : decode cX3_findStepsFrom 34 = .ok (.iload_n 2, 1) := by decide +kernel
theorem dX3_findStepsFrom_35 : decode cX3_findStepsFrom 35 = .ok (.if_icmp .eq 29, 3) := by decide +kernel
theorem dX3_findStepsFrom_38 : decode cX3_findStepsFrom 38 = .ok (.iload 4, 2) := by decide +kernel
theorem dX3_findStepsFrom_40 : decode cX3_findStepsFrom 40 = .ok (.iload_n 2, 1) := by decide +kernel
theorem dX3_findStepsFrom_41 : decode cX3_findStepsFrom 41 = .ok (.iconst 1, 1) := by decide +kernel
theorem dX3_findStepsFrom_42 : decode cX3_findStepsFrom 42 = .ok (.isub, 1) := by decide +kernel
theorem dX3_findStepsFrom_43 : decode cX3_findStepsFrom 43 = .ok (.if_icmp .ne 6, 3) := by decide +kernel
theorem dX3_findStepsFrom_46 : decode cX3_findStepsFrom 46 = .ok (.goto 18, 3) := by decide +kernel
theorem dX3_findStepsFrom_49 : decode cX3_findStepsFrom 49 = .ok (.aload_n 0, 1) := by decide +kernel
theorem dX3_findStepsFrom_50 : decode cX3_findStepsFrom 50 = .ok (.aload_n 0, 1) := by decide +kernel
theorem dX3_findStepsFrom_51 : decode cX3_findStepsFrom 51 = .ok (.getfield 34, 3) := by decide +kernel
theorem dX3_findStepsFrom_54 : decode cX3_findStepsFrom 54 = .ok (.iload_n 1, 1) := by decide +kernel
theorem dX3_findStepsFrom_55 : decode cX3_findStepsFrom 55 = .ok (.iload_n 3, 1) := by decide +kernel
theorem dX3_findStepsFrom_56 : decode cX3_findStepsFrom 56 = .ok (.iload 4, 2) := by decide +kernel
theorem dX3_findStepsFrom_58 : decode cX3_findStepsFrom 58 = .ok (.invokevirtual 58, 3) := by decide +kernel
theorem dX3_findStepsFrom_61 : decode cX3_findStepsFrom 61 = .ok (.invokevirtual 62, 3) := by decide +kernel
theorem dX3_findStepsFrom_64 : decode cX3_findStepsFrom 64 = .ok (.iinc 4 1, 3) := by decide +kernel
theorem dX3_findStepsFrom_67 : decode cX3_findStepsFrom 67 = .ok (.goto (-44), 3) := by decide +kernel
theorem dX3_findStepsFrom_70 : decode cX3_findStepsFrom 70 = .ok (.iinc 2 1, 3) := by decide +kernel
theorem dX3_findStepsFrom_73 : decode cX3_findStepsFrom 73 = .ok (.goto (-71), 3) := by decide +kernel
theorem dX3_findStepsFrom_76 : decode cX3_findStepsFrom 76 = .ok (.return_, 1) := by decide +kernel
theorem dX3_addStep_0 : decode cX3_addStep 0 = .ok (.iload_n 1, 1) := by decide +kernel
theorem dX3_addStep_1 : decode cX3_addStep 1 = .ok (.iconst (-1), 1) := by decide +kernel
theorem dX3_addStep_2 : decode cX3_addStep 2 = .ok (.if_icmp .eq 13, 3) := by decide +kernel
theorem dX3_addStep_5 : decode cX3_addStep 5 = .ok (.aload_n 0, 1) := by decide +kernel
theorem dX3_addStep_6 : decode cX3_addStep 6 = .ok (.getfield 18, 3) := by decide +kernel
theorem dX3_addStep_9 : decode cX3_addStep 9 = .ok (.sipush 3964, 3) := by decide +kernel
theorem dX3_addStep_12 : decode cX3_addStep 12 = .ok (.if_icmp .lt 4, 3) := by decide +kernel
theorem dX3_addStep_15 : decode cX3_addStep 15 = .ok (.return_, 1) := by decide +kernel
theorem dX3_addStep_16 : decode cX3_addStep 16 = .ok (.aload_n 0, 1) := by decide +kernel
theorem dX3_addStep_17 : decode cX3_addStep 17 = .ok (.getfield 25, 3) := by decide +kernel
theorem dX3_addStep_20 : decode cX3_addStep 20 = .ok (.aload_n 0, 1) := by decide +kernel
theorem dX3_addStep_21 : decode cX3_addStep 21 = .ok (.getfield 18, 3) := by decide +kernel
theorem dX3_addStep_24 : decode cX3_addStep 24 = .ok (.iload_n 1, 1) := by decide +kernel
theorem dX3_addStep_25 : decode cX3_addStep 25 = .ok (.iastore, 1) := by decide +kernel
theorem dX3_addStep_26 : decode cX3_addStep 26 = .ok (.aload_n 0, 1) := by decide +kernel
theorem dX3_addStep_27 : decode cX3_addStep 27 = .ok (.dup, 1) := by decide +kernel
theorem dX3_addStep_28 : decode cX3_addStep 28 = .ok (.getfield 18, 3) := by decide +kernel
theorem dX3_addStep_31 : decode cX3_addStep 31 = .ok (.iconst 1, 1) := by decide +kernel
theorem dX3_addStep_32 : decode cX3_addStep 32 = .ok (.iadd, 1) := by decide +kernel
theorem dX3_addStep_33 : decode cX3_addStep 33 = .ok (.putfield 18, 3) := by decide +kernel
theorem dX3_addStep_36 : decode cX3_addStep 36 = .ok (.return_, 1) := by decide +kernel
theorem dX4_init_0 : decode cX4_init 0 = .ok (.aload_n 0, 1) := by decide +kernel
theorem dX4_init_1 : decode cX4_init 1 = .ok (.invokespecial 3, 3) := by decide +kernel
theorem dX4_init_4 : decode cX4_init 4 = .ok (.aload_n 0, 1) := by decide +kernel
theorem dX4_init_5 : decode cX4_init 5 = .ok (.bipush 7, 2) := by decide +kernel
theorem dX4_init_7 : decode cX4_init 7 = .ok (.newarray .int, 2) := by decide +kernel
theorem dX4_init_9 : decode cX4_init 9 = .ok (.putfield 9, 3) := by decide +kernel
theorem dX4_init_12 : decode cX4_init 12 = .ok (.aload_n 0, 1) := by decide +kernel
theorem dX4_init_13 : decode cX4_init 13 = .ok (.iconst 0, 1) := by decide +kernel
theorem dX4_init_14 : decode cX4_init 14 = .ok (.putfield 15, 3) := by decide +kernel
theorem dX4_init_17 : decode cX4_init 17 = .ok (.aload_n 0, 1) := by decide +kernel
theorem dX4_init_18 : decode cX4_init 18 = .ok (.iconst 0, 1) := by decide +kernel
theorem dX4_init_19 : decode cX4_init 19 = .ok (.putfield 19, 3) := by decide +kernel
theorem dX4_init_22 : decode cX4_init 22 = .ok (.aload_n 0, 1) := by decide +kernel
theorem dX4_init_23 : decode cX4_init 23 = .ok (.iconst 0, 1) := by decide +kernel
theorem dX4_init_24 : decode cX4_init 24 = .ok (.putfield 22, 3) := by decide +kernel
theorem dX4_init_27 : decode cX4_init 27 = .ok (.aload_n 0, 1) := by decide +kernel
theorem dX4_init_28 : decode cX4_init 28 = .ok (.bipush 6, 2) := by decide +kernel
theorem dX4_init_30 : decode cX4_init 30 = .ok (.newarray .int, 2) := by decide +kernel
theorem dX4_init_32 : decode cX4_init 32 = .ok (.putfield 25, 3) := by decide +kernel
theorem dX4_init_35 : decode cX4_init 35 = .ok (.aload_n 0, 1) := by decide +kernel
theorem dX4_init_36 : decode cX4_init 36 = .ok (.bipush 6, 2) := by decide +kernel
theorem dX4_init_38 : decode cX4_init 38 = .ok (.newarray .int, 2) := by decide +kernel
theorem dX4_init_40 : decode cX4_init 40 = .ok (.putfield 28, 3) := by decide +kernel
theorem dX4_init_43 : decode cX4_init 43 = .ok (.aload_n 0, 1) := by decide +kernel
theorem dX4_init_44 : decode cX4_init 44 = .ok (.bipush 6, 2) := by decide +kernel
theorem dX4_init_46 : decode cX4_init 46 = .ok (.newarray .boolean, 2) := by decide +kernel
theorem dX4_init_48 : decode cX4_init 48 = .ok (.putfield 31, 3) := by decide +kernel
theorem dX4_init_51 : decode cX4_init 51 = .ok (.return_, 1) := by decide +kernel
theorem dX4_addSeen_0 : decode cX4_addSeen 0 = .ok (.aload_n 0, 1) := by decide +kernel
theorem dX4_addSeen_1 : decode cX4_addSeen 1 = .ok (.getfield 22, 3) := by decide +kernel
theorem dX4_addSeen_4 : decode cX4_addSeen 4 = .ok (.bipush 6, 2) := by decide +kernel
theorem dX4_addSeen_6 : decode cX4_addSeen 6 = .ok (.if_icmp .lt 4, 3) := by decide +kernel
theorem dX4_addSeen_9 : decode cX4_addSeen 9 = .ok (.return_, 1) := by decide +kernel
theorem dX4_addSeen_10 : decode cX4_addSeen 10 = .ok (.aload_n 0, 1) := by decide +kernel
theorem dX4_addSeen_11 : decode cX4_addSeen 11 = .ok (.getfield 25, 3) := by decide +kernel
theorem dX4_addSeen_14 : decode cX4_addSeen 14 = .ok (.aload_n 0, 1) := by decide +kernel
theorem dX4_addSeen_15 : decode cX4_addSeen 15 = .ok (.getfield 22, 3) := by decide +kernel
theorem dX4_addSeen_18 : decode cX4_addSeen 18 = .ok (.iload_n 1, 1) := by decide +kernel
theorem dX4_addSeen_19 : decode cX4_addSeen 19 = .ok (.iastore, 1) := by decide +kernel
theorem dX4_addSeen_20 : decode cX4_addSeen 20 = .ok (.aload_n 0, 1) := by decide +kernel
theorem dX4_addSeen_21 : decode cX4_addSeen 21 = .ok (.getfield 28, 3) := by decide +kernel
theorem dX4_addSeen_24 : decode cX4_addSeen 24 = .ok (.aload_n 0, 1) := by decide +kernel
theorem dX4_addSeen_25 : decode cX4_addSeen 25 = .ok (.getfield 22, 3) := by decide +kernel
theorem dX4_addSeen_28 : decode cX4_addSeen 28 = .ok (.iload_n 2, 1) := by decide +kernel
theorem dX4_addSeen_29 : decode cX4_addSeen 29 = .ok (.iastore, 1) := by decide +kernel
theorem dX4_addSeen_30 : decode cX4_addSeen 30 = .ok (.aload_n 0, 1) := by decide +kernel
theorem dX4_addSeen_31 : decode cX4_addSeen 31 = .ok (.getfield 31, 3) := by decide +kernel
theorem dX4_addSeen_34 : decode cX4_addSeen 34 = .ok (.aload_n 0, 1) := by decide +kernel
theorem dX4_addSeen_35 : decode cX4_addSeen 35 = .ok (.getfield 22, 3) := by decide +kernel
theorem dX4_addSeen_38 : decode cX4_addSeen 38 = .ok (.iload_n 3, 1) := by decide +kernel
theorem dX4_addSeen_39 : decode cX4_addSeen 39 = .ok (.bastore, 1) := by decide +kernel
theorem dX4_addSeen_40 : decode cX4_addSeen 40 = .ok (.aload_n 0, 1) := by decide +kernel
theorem dX4_addSeen_41 : decode cX4_addSeen 41 = .ok (.dup, 1) := by decide +kernel
theorem dX4_addSeen_42 : decode cX4_addSeen 42 = .ok (.getfield 22, 3) := by decide +kernel
theorem dX4_addSeen_45 : decode cX4_addSeen 45 = .ok (.iconst 1, 1) := by decide +kernel
theorem dX4_addSeen_46 : decode cX4_addSeen 46 = .ok (.iadd, 1) := by decide +kernel
theorem dX4_addSeen_47 : decode cX4_addSeen 47 = .ok (.putfield 22, 3) := by decide +kernel
theorem dX4_addSeen_50 : decode cX4_addSeen 50 = .ok (.return_, 1) := by decide +kernel
theorem dX4_copyFrom_0 : decode cX4_copyFrom 0 = .ok (.iconst 0, 1) := by decide +kernel
theorem dX4_copyFrom_1 : decode cX4_copyFrom 1 = .ok (.istore_n 2, 1) := by decide +kernel
theorem dX4_copyFrom_2 : decode cX4_copyFrom 2 = .ok (.iload_n 2, 1) := by decide +kernel
theorem dX4_copyFrom_3 : decode cX4_copyFrom 3 = .ok (.bipush 7, 2) := by decide +kernel
theorem dX4_copyFrom_5 : decode cX4_copyFrom 5 = .ok (.if_icmp .ge 21, 3) := by decide +kernel
theorem dX4_copyFrom_8 : decode cX4_copyFrom 8 = .ok (.aload_n 0, 1) := by decide +kernel
theorem dX4_copyFrom_9 : decode cX4_copyFrom 9 = .ok (.getfield 9, 3) := by decide +kernel
theorem dX4_copyFrom_12 : decode cX4_copyFrom 12 = .ok (.iload_n 2, 1) := by decide +kernel
theorem dX4_copyFrom_13 : decode cX4_copyFrom 13 = .ok (.aload_n 1, 1) := by decide +kernel
theorem dX4_copyFrom_14 : decode cX4_copyFrom 14 = .ok (.getfield 9, 3) := by decide +kernel
theorem dX4_copyFrom_17 : decode cX4_copyFrom 17 = .ok (.iload_n 2, 1) := by decide +kernel
theorem dX4_copyFrom_18 : decode cX4_copyFrom 18 = .ok (.iaload, 1) := by decide +kernel
theorem dX4_copyFrom_19 : decode cX4_copyFrom 19 = .ok (.iastore, 1) := by decide +kernel
theorem dX4_copyFrom_20 : decode cX4_copyFrom 20 = .ok (.iinc 2 1, 3) := by decide +kernel
theorem dX4_copyFrom_23 : decode cX4_copyFrom 23 = .ok (.goto (-21), 3) := by decide +kernel
theorem dX4_copyFrom_26 : decode cX4_copyFrom 26 = .ok (.aload_n 0, 1) := by decide +kernel
theorem dX4_copyFrom_27 : decode cX4_copyFrom 27 = .ok (.aload_n 1, 1) := by decide +kernel
theorem dX4_copyFrom_28 : decode cX4_copyFrom 28 = .ok (.getfield 15, 3) := by decide +kernel
theorem dX4_copyFrom_31 : decode cX4_copyFrom 31 = .ok (.putfield 15, 3) := by decide +kernel
theorem dX4_copyFrom_34 : decode cX4_copyFrom 34 = .ok (.aload_n 0, 1) := by decide +kernel
theorem dX4_copyFrom_35 : decode cX4_copyFrom 35 = .ok (.aload_n 1, 1) := by decide +kernel
theorem dX4_copyFrom_36 : decode cX4_copyFrom 36 = .ok (.getfield 19, 3) := by decide +kernel
theorem dX4_copyFrom_39 : decode cX4_copyFrom 39 = .ok (.putfield 19, 3) := by decide +kernel
theorem dX4_copyFrom_42 : decode cX4_copyFrom 42 = .ok (.aload_n 0, 1) := by decide +kernel
theorem dX4_copyFrom_43 : decode cX4_copyFrom 43 = .ok (.aload_n 1, 1) := by decide +kernel
theorem dX4_copyFrom_44 : decode cX4_copyFrom 44 = .ok (.getfield 22, 3) := by decide +kernel
theorem dX4_copyFrom_47 : decode cX4_copyFrom 47 = .ok (.putfield 22, 3) := by decide +kernel
theorem dX4_copyFrom_50 : decode cX4_copyFrom 50 = .ok (.iconst 0, 1) := by decide +kernel
theorem dX4_copyFrom_51 : decode cX4_copyFrom 51 = .ok (.istore_n 2, 1) := by decide +kernel
theorem dX4_copyFrom_52 : decode cX4_copyFrom 52 = .ok (.iload_n 2, 1) := by decide +kernel
theorem dX4_copyFrom_53 : decode cX4_copyFrom 53 = .ok (.bipush 6, 2) := by decide +kernel
theorem dX4_copyFrom_55 : decode cX4_copyFrom 55 = .ok (.if_icmp .ge 45, 3) := by decide +kernel
theorem dX4_copyFrom_58 : decode cX4_copyFrom 58 = .ok (.aload_n 0, 1) := by decide +kernel
theorem dX4_copyFrom_59 : decode cX4_copyFrom 59 = .ok (.getfield 25, 3) := by decide +kernel
theorem dX4_copyFrom_62 : decode cX4_copyFrom 62 = .ok (.iload_n 2, 1) := by decide +kernel
theorem dX4_copyFrom_63 : decode cX4_copyFrom 63 = .ok (.aload_n 1, 1) := by decide +kernel
theorem dX4_copyFrom_64 : decode cX4_copyFrom 64 = .ok (.getfield 25, 3) := by decide +kernel
theorem dX4_copyFrom_67 : decode cX4_copyFrom 67 = .ok (.iload_n 2, 1) := by decide +kernel
theorem dX4_copyFrom_68 : decode cX4_copyFrom 68 = .ok (.iaload, 1) := by decide +kernel
theorem dX4_copyFrom_69 : decode cX4_copyFrom 69 = .ok (.iastore, 1) := by decide +kernel
theorem dX4_copyFrom_70 : decode cX4_copyFrom 70 = .ok (.aload_n 0, 1) := by decide +kernel
theorem dX4_copyFrom_71 : decode cX4_copyFrom 71 = .ok (.getfield 28, 3) := by decide +kernel
theorem dX4_copyFrom_74 : decode cX4_copyFrom 74 = .ok (.iload_n 2, 1) := by decide +kernel
theorem dX4_copyFrom_75 : decode cX4_copyFrom 75 = .ok (.aload_n 1, 1) := by decide +kernel
theorem dX4_copyFrom_76 : decode cX4_copyFrom 76 = .ok (.getfield 28, 3) := by decide +kernel
theorem dX4_copyFrom_79 : decode cX4_copyFrom 79 = .ok (.iload_n 2, 1) := by decide +kernel
theorem dX4_copyFrom_80 : decode cX4_copyFrom 80 = .ok (.iaload, 1) := by decide +kernel
theorem dX4_copyFrom_81 : decode cX4_copyFrom 81 = .ok (.iastore, 1) := by decide +kernel
theorem dX4_copyFrom_82 : decode cX4_copyFrom 82 = .ok (.aload_n 0, 1) := by decide +kernel
theorem dX4_copyFrom_83 : decode cX4_copyFrom 83 = .ok (.getfield 31, 3) := by decide +kernel
theorem dX4_copyFrom_86 : decode cX4_copyFrom 86 = .ok (.iload_n 2, 1) := by decide +kernel
theorem dX4_copyFrom_87 : decode cX4_copyFrom 87 = .ok (.aload_n 1, 1) := by decide +kernel
theorem dX4_copyFrom_88 : decode cX4_copyFrom 88 = .ok (.getfield 31, 3) := by decide +kernel
theorem dX4_copyFrom_91 : decode cX4_copyFrom 91 = .ok (.iload_n 2, 1) := by decide +kernel
theorem dX4_copyFrom_92 : decode cX4_copyFrom 92 = .ok (.baload, 1) := by decide +kernel
theorem dX4_copyFrom_93 : decode cX4_copyFrom 93 = .ok (.bastore, 1) := by decide +kernel
theorem dX4_copyFrom_94 : decode cX4_copyFrom 94 = .ok (.iinc 2 1, 3) := by decide +kernel
theorem dX4_copyFrom_97 : decode cX4_copyFrom 97 = .ok (.goto (-45), 3) := by decide +kernel
theorem dX4_copyFrom_100 : decode cX4_copyFrom 100 = .ok (.return_, 1) := by decide +kernel
theorem dX5_init_0 : decode cX5_init 0 = .ok (.aload_n 0, 1) := by decide +kernel
theorem dX5_init_1 : decode cX5_init 1 = .ok (.invokespecial 3, 3) := by decide +kernel
theorem dX5_init_4 : decode cX5_init 4 = .ok (.aload_n 0, 1) := by decide +kernel
theorem dX5_init_5 : decode cX5_init 5 = .ok (.iconst 0, 1) := by decide +kernel
theorem dX5_init_6 : decode cX5_init 6 = .ok (.putfield 9, 3) := by decide +kernel
theorem dX5_init_9 : decode cX5_init 9 = .ok (.aload_n 0, 1) := by decide +kernel
theorem dX5_init_10 : decode cX5_init 10 = .ok (.sipush 462, 3) := by decide +kernel
theorem dX5_init_13 : decode cX5_init 13 = .ok (.newarray .boolean, 2) := by decide +kernel
theorem dX5_init_15 : decode cX5_init 15 = .ok (.putfield 15, 3) := by decide +kernel
theorem dX5_init_18 : decode cX5_init 18 = .ok (.aload_n 0, 1) := by decide +kernel
theorem dX5_init_19 : decode cX5_init 19 = .ok (.sipush 462, 3) := by decide +kernel
theorem dX5_init_22 : decode cX5_init 22 = .ok (.newarray .int, 2) := by decide +kernel
theorem dX5_init_24 : decode cX5_init 24 = .ok (.putfield 19, 3) := by decide +kernel
theorem dX5_init_27 : decode cX5_init 27 = .ok (.aload_n 0, 1) := by decide +kernel
theorem dX5_init_28 : decode cX5_init 28 = .ok (.aload_n 1, 1) := by decide +kernel
theorem dX5_init_29 : decode cX5_init 29 = .ok (.putfield 23, 3) := by decide +kernel
theorem dX5_init_32 : decode cX5_init 32 = .ok (.aload_n 0, 1) := by decide +kernel
theorem dX5_init_33 : decode cX5_init 33 = .ok (.aload_n 2, 1) := by decide +kernel
theorem dX5_init_34 : decode cX5_init 34 = .ok (.putfield 27, 3) := by decide +kernel
theorem dX5_init_37 : decode cX5_init 37 = .ok (.return_, 1) := by decide +kernel
theorem dX5_judgeAll_0 : decode cX5_judgeAll 0 = .ok (.aload_n 0, 1) := by decide +kernel
theorem dX5_judgeAll_1 : decode cX5_judgeAll 1 = .ok (.iconst 0, 1) := by decide +kernel
theorem dX5_judgeAll_2 : decode cX5_judgeAll 2 = .ok (.putfield 9, 3) := by decide +kernel
theorem dX5_judgeAll_5 : decode cX5_judgeAll 5 = .ok (.iconst 0, 1) := by decide +kernel
theorem dX5_judgeAll_6 : decode cX5_judgeAll 6 = .ok (.istore_n 1, 1) := by decide +kernel
theorem dX5_judgeAll_7 : decode cX5_judgeAll 7 = .ok (.iload_n 1, 1) := by decide +kernel
theorem dX5_judgeAll_8 : decode cX5_judgeAll 8 = .ok (.aload_n 0, 1) := by decide +kernel
theorem dX5_judgeAll_9 : decode cX5_judgeAll 9 = .ok (.getfield 23, 3) := by decide +kernel
theorem dX5_judgeAll_12 : decode cX5_judgeAll 12 = .ok (.getfield 30, 3) := by decide +kernel
theorem dX5_judgeAll_15 : decode cX5_judgeAll 15 = .ok (.if_icmp .ge 50, 3) := by decide +kernel
theorem dX5_judgeAll_18 : decode cX5_judgeAll 18 = .ok (.aload_n 0, 1) := by decide +kernel
theorem dX5_judgeAll_19 : decode cX5_judgeAll 19 = .ok (.getfield 15, 3) := by decide +kernel
theorem dX5_judgeAll_22 : decode cX5_judgeAll 22 = .ok (.iload_n 1, 1) := by decide +kernel
theorem dX5_judgeAll_23 : decode cX5_judgeAll 23 = .ok (.aload_n 0, 1) := by decide +kernel
theorem dX5_judgeAll_24 : decode cX5_judgeAll 24 = .ok (.iload_n 1, 1) := by decide +kernel
theorem dX5_judgeAll_25 : decode cX5_judgeAll 25 = .ok (.invokevirtual 35, 3) := by decide +kernel
theorem dX5_judgeAll_28 : decode cX5_judgeAll 28 = .ok (.bastore, 1) := by decide +kernel
theorem dX5_judgeAll_29 : decode cX5_judgeAll 29 = .ok (.aload_n 0, 1) := by decide +kernel
theorem dX5_judgeAll_30 : decode cX5_judgeAll 30 = .ok (.getfield 19, 3) := by decide +kernel
theorem dX5_judgeAll_33 : decode cX5_judgeAll 33 = .ok (.iload_n 1, 1) := by decide +kernel
theorem dX5_judgeAll_34 : decode cX5_judgeAll 34 = .ok (.aload_n 0, 1) := by decide +kernel
theorem dX5_judgeAll_35 : decode cX5_judgeAll 35 = .ok (.iload_n 1, 1) := by decide +kernel
theorem dX5_judgeAll_36 : decode cX5_judgeAll 36 = .ok (.invokevirtual 39, 3) := by decide +kernel
theorem dX5_judgeAll_39 : decode cX5_judgeAll 39 = .ok (.iastore, 1) := by decide +kernel
theorem dX5_judgeAll_40 : decode cX5_judgeAll 40 = .ok (.aload_n 0, 1) := by decide +kernel
theorem dX5_judgeAll_41 : decode cX5_judgeAll 41 = .ok (.getfield 15, 3) := by decide +kernel
theorem dX5_judgeAll_44 : decode cX5_judgeAll 44 = .ok (.iload_n 1, 1) := by decide +kernel
theorem dX5_judgeAll_45 : decode cX5_judgeAll 45 = .ok (.baload, 1) := by decide +kernel
theorem dX5_judgeAll_46 : decode cX5_judgeAll 46 = .ok (.ifCond .eq 13, 3) := by decide +kernel
theorem dX5_judgeAll_49 : decode cX5_judgeAll 49 = .ok (.aload_n 0, 1) := by decide +kernel
theorem dX5_judgeAll_50 : decode cX5_judgeAll 50 = .ok (.dup, 1) := by decide +kernel
theorem dX5_judgeAll_51 : decode cX5_judgeAll 51 = .ok (.getfield 9, 3) := by decide +kernel
theorem dX5_judgeAll_54 : decode cX5_judgeAll 54 = .ok (.iconst 1, 1) := by decide +kernel
theorem dX5_judgeAll_55 : decode cX5_judgeAll 55 = .ok (.iadd, 1) := by decide +kernel
theorem dX5_judgeAll_56 : decode cX5_judgeAll 56 = .ok (.putfield 9, 3) := by decide +kernel
theorem dX5_judgeAll_59 : decode cX5_judgeAll 59 = .ok (.iinc 1 1, 3) := by decide +kernel
theorem dX5_judgeAll_62 : decode cX5_judgeAll 62 = .ok (.goto (-55), 3) := by decide +kernel
theorem dX5_judgeAll_65 : decode cX5_judgeAll 65 = .ok (.return_, 1) := by decide +kernel
theorem dX5_isFit_0 : decode cX5_isFit 0 = .ok (.iload_n 1, 1) := by decide +kernel
theorem dX5_isFit_1 : decode cX5_isFit 1 = .ok (.ifCond .lt 27, 3) := by decide +kernel
theorem dX5_isFit_4 : decode cX5_isFit 4 = .ok (.iload_n 1, 1) := by decide +kernel
theorem dX5_isFit_5 : decode cX5_isFit 5 = .ok (.aload_n 0, 1) := by decide +kernel
theorem dX5_isFit_6 : decode cX5_isFit 6 = .ok (.getfield 23, 3) := by decide +kernel
theorem dX5_isFit_9 : decode cX5_isFit 9 = .ok (.getfield 30, 3) := by decide +kernel
theorem dX5_isFit_12 : decode cX5_isFit 12 = .ok (.if_icmp .ge 16, 3) := by decide +kernel
theorem dX5_isFit_15 : decode cX5_isFit 15 = .ok (.aload_n 0, 1) := by decide +kernel
theorem dX5_isFit_16 : decode cX5_isFit 16 = .ok (.getfield 15, 3) := by decide +kernel
theorem dX5_isFit_19 : decode cX5_isFit 19 = .ok (.iload_n 1, 1) := by decide +kernel
theorem dX5_isFit_20 : decode cX5_isFit 20 = .ok (.baload, 1) := by decide +kernel
theorem dX5_isFit_21 : decode cX5_isFit 21 = .ok (.ifCond .eq 7, 3) := by decide +kernel
theorem dX5_isFit_24 : decode cX5_isFit 24 = .ok (.iconst 1, 1) := by decide +kernel
theorem dX5_isFit_25 : decode cX5_isFit 25 = .ok (.goto 4, 3) := by decide +kernel
theorem dX5_isFit_28 : decode cX5_isFit 28 = .ok (.iconst 0, 1) := by decide +kernel
theorem dX5_isFit_29 : decode cX5_isFit 29 = .ok (.ireturn, 1) := by decide +kernel
theorem dX5_widestOf_0 : decode cX5_widestOf 0 = .ok (.iload_n 1, 1) := by decide +kernel
theorem dX5_widestOf_1 : decode cX5_widestOf 1 = .ok (.ifCond .lt 23, 3) := by decide +kernel
theorem dX5_widestOf_4 : decode cX5_widestOf 4 = .ok (.iload_n 1, 1) := by decide +kernel
theorem dX5_widestOf_5 : decode cX5_widestOf 5 = .ok (.aload_n 0, 1) := by decide +kernel
theorem dX5_widestOf_6 : decode cX5_widestOf 6 = .ok (.getfield 23, 3) := by decide +kernel
theorem dX5_widestOf_9 : decode cX5_widestOf 9 = .ok (.getfield 30, 3) := by decide +kernel
theorem dX5_widestOf_12 : decode cX5_widestOf 12 = .ok (.if_icmp .ge 12, 3) := by decide +kernel
theorem dX5_widestOf_15 : decode cX5_widestOf 15 = .ok (.aload_n 0, 1) := by decide +kernel
theorem dX5_widestOf_16 : decode cX5_widestOf 16 = .ok (.getfield 19, 3) := by decide +kernel
theorem dX5_widestOf_19 : decode cX5_widestOf 19 = .ok (.iload_n 1, 1) := by decide +kernel
theorem dX5_widestOf_20 : decode cX5_widestOf 20 = .ok (.iaload, 1) := by decide +kernel
theorem dX5_widestOf_21 : decode cX5_widestOf 21 = .ok (.goto 4, 3) := by decide +kernel
theorem dX5_widestOf_24 : decode cX5_widestOf 24 = .ok (.iconst 0, 1) := by decide +kernel
theorem dX5_widestOf_25 : decode cX5_widestOf 25 = .ok (.ireturn, 1) := by decide +kernel
theorem dX5_trimmest_0 : decode cX5_trimmest 0 = .ok (.iconst (-1), 1) := by decide +kernel
theorem dX5_trimmest_1 : decode cX5_trimmest 1 = .ok (.istore_n 1, 1) := by decide +kernel
theorem dX5_trimmest_2 : decode cX5_trimmest 2 = .ok (.iconst 0, 1) := by decide +kernel
theorem dX5_trimmest_3 : decode cX5_trimmest 3 = .ok (.istore_n 2, 1) := by decide +kernel
theorem dX5_trimmest_4 : decode cX5_trimmest 4 = .ok (.iload_n 2, 1) := by decide +kernel
theorem dX5_trimmest_5 : decode cX5_trimmest 5 = .ok (.aload_n 0, 1) := by decide +kernel
theorem dX5_trimmest_6 : decode cX5_trimmest 6 = .ok (.getfield 23, 3) := by decide +kernel
theorem dX5_trimmest_9 : decode cX5_trimmest 9 = .ok (.getfield 30, 3) := by decide +kernel
theorem dX5_trimmest_12 : decode cX5_trimmest 12 = .ok (.if_icmp .ge 40, 3) := by decide +kernel
theorem dX5_trimmest_15 : decode cX5_trimmest 15 = .ok (.aload_n 0, 1) := by decide +kernel
theorem dX5_trimmest_16 : decode cX5_trimmest 16 = .ok (.getfield 15, 3) := by decide +kernel
theorem dX5_trimmest_19 : decode cX5_trimmest 19 = .ok (.iload_n 2, 1) := by decide +kernel
theorem dX5_trimmest_20 : decode cX5_trimmest 20 = .ok (.baload, 1) := by decide +kernel
theorem dX5_trimmest_21 : decode cX5_trimmest 21 = .ok (.ifCond .eq 25, 3) := by decide +kernel
theorem dX5_trimmest_24 : decode cX5_trimmest 24 = .ok (.iload_n 1, 1) := by decide +kernel
theorem dX5_trimmest_25 : decode cX5_trimmest 25 = .ok (.iconst (-1), 1) := by decide +kernel
theorem dX5_trimmest_26 : decode cX5_trimmest 26 = .ok (.if_icmp .eq 18, 3) := by decide +kernel
theorem dX5_trimmest_29 : decode cX5_trimmest 29 = .ok (.aload_n 0, 1) := by decide +kernel
theorem dX5_trimmest_30 : decode cX5_trimmest 30 = .ok (.getfield 19, 3) := by decide +kernel
theorem dX5_trimmest_33 : decode cX5_trimmest 33 = .ok (.iload_n 2, 1) := by decide +kernel
theorem dX5_trimmest_34 : decode cX5_trimmest 34 = .ok (.iaload, 1) := by decide +kernel
theorem dX5_trimmest_35 : decode cX5_trimmest 35 = .ok (.aload_n 0, 1) := by decide +kernel
theorem dX5_trimmest_36 : decode cX5_trimmest 36 = .ok (.getfield 19, 3) := by decide +kernel
theorem dX5_trimmest_39 : decode cX5_trimmest 39 = .ok (.iload_n 1, 1) := by decide +kernel
theorem dX5_trimmest_40 : decode cX5_trimmest 40 = .ok (.iaload, 1) := by decide +kernel
theorem dX5_trimmest_41 : decode cX5_trimmest 41 = .ok (.if_icmp .ge 5, 3) := by decide +kernel
theorem dX5_trimmest_44 : decode cX5_trimmest 44 = .ok (.iload_n 2, 1) := by decide +kernel
theorem dX5_trimmest_45 : decode cX5_trimmest 45 = .ok (.istore_n 1, 1) := by decide +kernel
theorem dX5_trimmest_46 : decode cX5_trimmest 46 = .ok (.iinc 2 1, 3) := by decide +kernel
theorem dX5_trimmest_49 : decode cX5_trimmest 49 = .ok (.goto (-45), 3) := by decide +kernel
theorem dX5_trimmest_52 : decode cX5_trimmest 52 = .ok (.iload_n 1, 1) := by decide +kernel
theorem dX5_trimmest_53 : decode cX5_trimmest 53 = .ok (.ireturn, 1) := by decide +kernel
theorem dX5_fitsWithAbove_0 : decode cX5_fitsWithAbove 0 = .ok (.iconst 0, 1) := by decide +kernel
theorem dX5_fitsWithAbove_1 : decode cX5_fitsWithAbove 1 = .ok (.istore_n 3, 1) := by decide +kernel
theorem dX5_fitsWithAbove_2 : decode cX5_fitsWithAbove 2 = .ok (.iconst 0, 1) := by decide +kernel
theorem dX5_fitsWithAbove_3 : decode cX5_fitsWithAbove 3 = .ok (.istore 4, 2) := by decide +kernel
theorem dX5_fitsWithAbove_5 : decode cX5_fitsWithAbove 5 = .ok (.iload 4, 2) := by decide +kernel
theorem dX5_fitsWithAbove_7 : decode cX5_fitsWithAbove 7 = .ok (.aload_n 0, 1) := by decide +kernel
theorem dX5_fitsWithAbove_8 : decode cX5_fitsWithAbove 8 = .ok (.getfield 23, 3) := by decide +kernel
theorem dX5_fitsWithAbove_11 : decode cX5_fitsWithAbove 11 = .ok (.getfield 30, 3) := by decide +kernel
theorem dX5_fitsWithAbove_14 : decode cX5_fitsWithAbove 14 = .ok (.if_icmp .ge 45, 3) := by decide +kernel
theorem dX5_fitsWithAbove_17 : decode cX5_fitsWithAbove 17 = .ok (.aload_n 0, 1) := by decide +kernel
theorem dX5_fitsWithAbove_18 : decode cX5_fitsWithAbove 18 = .ok (.getfield 15, 3) := by decide +kernel
theorem dX5_fitsWithAbove_21 : decode cX5_fitsWithAbove 21 = .ok (.iload 4, 2) := by decide +kernel
theorem dX5_fitsWithAbove_23 : decode cX5_fitsWithAbove 23 = .ok (.baload, 1) := by decide +kernel
theorem dX5_fitsWithAbove_24 : decode cX5_fitsWithAbove 24 = .ok (.ifCond .eq 29, 3) := by decide +kernel
theorem dX5_fitsWithAbove_27 : decode cX5_fitsWithAbove 27 = .ok (.aload_n 0, 1) := by decide +kernel
theorem dX5_fitsWithAbove_28 : decode cX5_fitsWithAbove 28 = .ok (.getfield 23, 3) := by decide +kernel
theorem dX5_fitsWithAbove_31 : decode cX5_fitsWithAbove 31 = .ok (.iload 4, 2) := by decide +kernel
theorem dX5_fitsWithAbove_33 : decode cX5_fitsWithAbove 33 = .ok (.iload_n 1, 1) := by decide +kernel
theorem dX5_fitsWithAbove_34 : decode cX5_fitsWithAbove 34 = .ok (.invokevirtual 43, 3) := by decide +kernel
theorem dX5_fitsWithAbove_37 : decode cX5_fitsWithAbove 37 = .ok (.aload_n 0, 1) := by decide +kernel
theorem dX5_fitsWithAbove_38 : decode cX5_fitsWithAbove 38 = .ok (.getfield 23, 3) := by decide +kernel
theorem dX5_fitsWithAbove_41 : decode cX5_fitsWithAbove 41 = .ok (.iload 4, 2) := by decide +kernel
theorem dX5_fitsWithAbove_43 : decode cX5_fitsWithAbove 43 = .ok (.iload_n 2, 1) := by decide +kernel
theorem dX5_fitsWithAbove_44 : decode cX5_fitsWithAbove 44 = .ok (.invokevirtual 43, 3) := by decide +kernel
theorem dX5_fitsWithAbove_47 : decode cX5_fitsWithAbove 47 = .ok (.if_icmp .ge 6, 3) := by decide +kernel
theorem dX5_fitsWithAbove_50 : decode cX5_fitsWithAbove 50 = .ok (.iinc 3 1, 3) := by decide +kernel
theorem dX5_fitsWithAbove_53 : decode cX5_fitsWithAbove 53 = .ok (.iinc 4 1, 3) := by decide +kernel
theorem dX5_fitsWithAbove_56 : decode cX5_fitsWithAbove 56 = .ok (.goto (-51), 3) := by decide +kernel
theorem dX5_fitsWithAbove_59 : decode cX5_fitsWithAbove 59 = .ok (.iload_n 3, 1) := by decide +kernel
theorem dX5_fitsWithAbove_60 : decode cX5_fitsWithAbove 60 = .ok (.ireturn, 1) := by decide +kernel
theorem dX5_isContent_0 : decode cX5_isContent 0 = .ok (.aload_n 0, 1) := by decide +kernel
theorem dX5_isContent_1 : decode cX5_isContent 1 = .ok (.getfield 23, 3) := by decide +kernel
theorem dX5_isContent_4 : decode cX5_isContent 4 = .ok (.iload_n 1, 1) := by decide +kernel
theorem dX5_isContent_5 : decode cX5_isContent 5 = .ok (.iload_n 2, 1) := by decide +kernel
theorem dX5_isContent_6 : decode cX5_isContent 6 = .ok (.invokevirtual 43, 3) := by decide +kernel
theorem dX5_isContent_9 : decode cX5_isContent 9 = .ok (.istore_n 3, 1) := by decide +kernel
theorem dX5_isContent_10 : decode cX5_isContent 10 = .ok (.iload_n 3, 1) := by decide +kernel
theorem dX5_isContent_11 : decode cX5_isContent 11 = .ok (.iconst (-1), 1) := by decide +kernel
theorem dX5_isContent_12 : decode cX5_isContent 12 = .ok (.if_icmp .ne 5, 3) := by decide +kernel
theorem dX5_isContent_15 : decode cX5_isContent 15 = .ok (.iconst 0, 1) := by decide +kernel
theorem dX5_isContent_16 : decode cX5_isContent 16 = .ok (.ireturn, 1) := by decide +kernel
theorem dX5_isContent_17 : decode cX5_isContent 17 = .ok (.iload_n 3, 1) := by decide +kernel
theorem dX5_isContent_18 : decode cX5_isContent 18 = .ok (.ifCond .eq 16, 3) := by decide +kernel
theorem dX5_isContent_21 : decode cX5_isContent 21 = .ok (.iload_n 3, 1) := by decide +kernel
theorem dX5_isContent_22 : decode cX5_isContent 22 = .ok (.aload_n 0, 1) := by decide +kernel
theorem dX5_isContent_23 : decode cX5_isContent 23 = .ok (.getfield 23, 3) := by decide +kernel
theorem dX5_isContent_26 : decode cX5_isContent 26 = .ok (.getfield 47, 3) := by decide +kernel
theorem dX5_isContent_29 : decode cX5_isContent 29 = .ok (.iconst 1, 1) := by decide +kernel
theorem dX5_isContent_30 : decode cX5_isContent 30 = .ok (.isub, 1) := by decide +kernel
theorem dX5_isContent_31 : decode cX5_isContent 31 = .ok (.if_icmp .ne 7, 3) := by decide +kernel
theorem dX5_isContent_34 : decode cX5_isContent 34 = .ok (.iconst 1, 1) := by decide +kernel
theorem dX5_isContent_35 : decode cX5_isContent 35 = .ok (.goto 4, 3) := by decide +kernel
theorem dX5_isContent_38 : decode cX5_isContent 38 = .ok (.iconst 0, 1) := by decide +kernel
theorem dX5_isContent_39 : decode cX5_isContent 39 = .ok (.istore 4, 2) := by decide +kernel
theorem dX5_isContent_41 : decode cX5_isContent 41 = .ok (.aload_n 0, 1) := by decide +kernel
theorem dX5_isContent_42 : decode cX5_isContent 42 = .ok (.getfield 27, 3) := by decide +kernel
theorem dX5_isContent_45 : decode cX5_isContent 45 = .ok (.iload_n 2, 1) := by decide +kernel
theorem dX5_isContent_46 : decode cX5_isContent 46 = .ok (.iaload, 1) := by decide +kernel
theorem dX5_isContent_47 : decode cX5_isContent 47 = .ok (.iconst 3, 1) := by decide +kernel
theorem dX5_isContent_48 : decode cX5_isContent 48 = .ok (.if_icmp .ne 6, 3) := by decide +kernel
theorem dX5_isContent_51 : decode cX5_isContent 51 = .ok (.iload 4, 2) := by decide +kernel
theorem dX5_isContent_53 : decode cX5_isContent 53 = .ok (.ireturn, 1) := by decide +kernel
theorem dX5_isContent_54 : decode cX5_isContent 54 = .ok (.aload_n 0, 1) := by decide +kernel
theorem dX5_isContent_55 : decode cX5_isContent 55 = .ok (.getfield 27, 3) := by decide +kernel
theorem dX5_isContent_58 : decode cX5_isContent 58 = .ok (.iload_n 2, 1) := by decide +kernel
theorem dX5_isContent_59 : decode cX5_isContent 59 = .ok (.iaload, 1) := by decide +kernel
theorem dX5_isContent_60 : decode cX5_isContent 60 = .ok (.iconst 4, 1) := by decide +kernel
theorem dX5_isContent_61 : decode cX5_isContent 61 = .ok (.if_icmp .ne 10, 3) := by decide +kernel
theorem dX5_isContent_64 : decode cX5_isContent 64 = .ok (.iload 4, 2) := by decide +kernel
theorem dX5_isContent_66 : decode cX5_isContent 66 = .ok (.ifCond .eq 5, 3) := by decide +kernel
theorem dX5_isContent_69 : decode cX5_isContent 69 = .ok (.iconst 0, 1) := by decide +kernel
theorem dX5_isContent_70 : decode cX5_isContent 70 = .ok (.ireturn, 1) := by decide +kernel
theorem dX5_isContent_71 : decode cX5_isContent 71 = .ok (.aload_n 0, 1) := by decide +kernel
theorem dX5_isContent_72 : decode cX5_isContent 72 = .ok (.getfield 27, 3) := by decide +kernel
theorem dX5_isContent_75 : decode cX5_isContent 75 = .ok (.iload_n 2, 1) := by decide +kernel
theorem dX5_isContent_76 : decode cX5_isContent 76 = .ok (.iaload, 1) := by decide +kernel
theorem dX5_isContent_77 : decode cX5_isContent 77 = .ok (.iconst 2, 1) := by decide +kernel
theorem dX5_isContent_78 : decode cX5_isContent 78 = .ok (.invokestatic 50, 3) := by decide +kernel
theorem dX5_isContent_81 : decode cX5_isContent 81 = .ok (.ifCond .eq 25, 3) := by decide +kernel
theorem dX5_isContent_84 : decode cX5_isContent 84 = .ok (.aload_n 0, 1) := by decide +kernel
theorem dX5_isContent_85 : decode cX5_isContent 85 = .ok (.iload_n 1, 1) := by decide +kernel
theorem dX5_isContent_86 : decode cX5_isContent 86 = .ok (.iload_n 3, 1) := by decide +kernel
theorem dX5_isContent_87 : decode cX5_isContent 87 = .ok (.iconst 1, 1) := by decide +kernel
theorem dX5_isContent_88 : decode cX5_isContent 88 = .ok (.isub, 1) := by decide +kernel
theorem dX5_isContent_89 : decode cX5_isContent 89 = .ok (.invokevirtual 54, 3) := by decide +kernel
theorem dX5_isContent_92 : decode cX5_isContent 92 = .ok (.ifCond .ne 18, 3) := by decide +kernel
theorem dX5_isContent_95 : decode cX5_isContent 95 = .ok (.aload_n 0, 1) := by decide +kernel
theorem dX5_isContent_96 : decode cX5_isContent 96 = .ok (.iload_n 1, 1) := by decide +kernel
theorem dX5_isContent_97 : decode cX5_isContent 97 = .ok (.iload_n 3, 1) := by decide +kernel
theorem dX5_isContent_98 : decode cX5_isContent 98 = .ok (.iconst 1, 1) := by decide +kernel
theorem dX5_isContent_99 : decode cX5_isContent 99 = .ok (.iadd, 1) := by decide +kernel
theorem dX5_isContent_100 : decode cX5_isContent 100 = .ok (.invokevirtual 54, 3) := by decide +kernel
theorem dX5_isContent_103 : decode cX5_isContent 103 = .ok (.ifCond .ne 7, 3) := by decide +kernel
theorem dX5_isContent_106 : decode cX5_isContent 106 = .ok (.iconst 1, 1) := by decide +kernel
theorem dX5_isContent_107 : decode cX5_isContent 107 = .ok (.goto 4, 3) := by decide +kernel
theorem dX5_isContent_110 : decode cX5_isContent 110 = .ok (.iconst 0, 1) := by decide +kernel
theorem dX5_isContent_111 : decode cX5_isContent 111 = .ok (.ireturn, 1) := by decide +kernel
theorem dX5_width_0 : decode cX5_width 0 = .ok (.aload_n 0, 1) := by decide +kernel
theorem dX5_width_1 : decode cX5_width 1 = .ok (.getfield 23, 3) := by decide +kernel
theorem dX5_width_4 : decode cX5_width 4 = .ok (.iload_n 1, 1) := by decide +kernel
theorem dX5_width_5 : decode cX5_width 5 = .ok (.iload_n 2, 1) := by decide +kernel
theorem dX5_width_6 : decode cX5_width 6 = .ok (.invokevirtual 43, 3) := by decide +kernel
theorem dX5_width_9 : decode cX5_width 9 = .ok (.istore_n 3, 1) := by decide +kernel
theorem dX5_width_10 : decode cX5_width 10 = .ok (.aload_n 0, 1) := by decide +kernel
theorem dX5_width_11 : decode cX5_width 11 = .ok (.getfield 23, 3) := by decide +kernel
theorem dX5_width_14 : decode cX5_width 14 = .ok (.iload_n 1, 1) := by decide +kernel
theorem dX5_width_15 : decode cX5_width 15 = .ok (.iload_n 2, 1) := by decide +kernel
theorem dX5_width_16 : decode cX5_width 16 = .ok (.iconst 1, 1) := by decide +kernel
theorem dX5_width_17 : decode cX5_width 17 = .ok (.iadd, 1) := by decide +kernel
theorem dX5_width_18 : decode cX5_width 18 = .ok (.invokevirtual 43, 3) := by decide +kernel
theorem dX5_width_21 : decode cX5_width 21 = .ok (.istore 4, 2) := by decide +kernel
theorem dX5_width_23 : decode cX5_width 23 = .ok (.iconst 0, 1) := by decide +kernel
theorem dX5_width_24 : decode cX5_width 24 = .ok (.istore 5, 2) := by decide +kernel
theorem dX5_width_26 : decode cX5_width 26 = .ok (.iload_n 3, 1) := by decide +kernel
theorem dX5_width_27 : decode cX5_width 27 = .ok (.iload 4, 2) := by decide +kernel
theorem dX5_width_29 : decode cX5_width 29 = .ok (.invokestatic 57, 3) := by decide +kernel
theorem dX5_width_32 : decode cX5_width 32 = .ok (.iconst 1, 1) := by decide +kernel
theorem dX5_width_33 : decode cX5_width 33 = .ok (.iadd, 1) := by decide +kernel
theorem dX5_width_34 : decode cX5_width 34 = .ok (.istore 6, 2) := by decide +kernel
theorem dX5_width_36 : decode cX5_width 36 = .ok (.iload 6, 2) := by decide +kernel
theorem dX5_width_38 : decode cX5_width 38 = .ok (.iload_n 3, 1) := by decide +kernel
theorem dX5_width_39 : decode cX5_width 39 = .ok (.iload 4, 2) := by decide +kernel
theorem dX5_width_41 : decode cX5_width 41 = .ok (.invokestatic 62, 3) := by decide +kernel
theorem dX5_width_44 : decode cX5_width 44 = .ok (.if_icmp .ge 42, 3) := by decide +kernel
theorem dX5_width_47 : decode cX5_width 47 = .ok (.aload_n 0, 1) := by decide +kernel
theorem dX5_width_48 : decode cX5_width 48 = .ok (.getfield 23, 3) := by decide +kernel
theorem dX5_width_51 : decode cX5_width 51 = .ok (.iload_n 1, 1) := by decide +kernel
theorem dX5_width_52 : decode cX5_width 52 = .ok (.iload 6, 2) := by decide +kernel
theorem dX5_width_54 : decode cX5_width 54 = .ok (.invokevirtual 65, 3) := by decide +kernel
theorem dX5_width_57 : decode cX5_width 57 = .ok (.istore 7, 2) := by decide +kernel
theorem dX5_width_59 : decode cX5_width 59 = .ok (.iload 7, 2) := by decide +kernel
theorem dX5_width_61 : decode cX5_width 61 = .ok (.iconst (-1), 1) := by decide +kernel
theorem dX5_width_62 : decode cX5_width 62 = .ok (.if_icmp .eq 18, 3) := by decide +kernel
theorem dX5_width_65 : decode cX5_width 65 = .ok (.iload 5, 2) := by decide +kernel
theorem dX5_width_67 : decode cX5_width 67 = .ok (.aload_n 0, 1) := by decide +kernel
theorem dX5_width_68 : decode cX5_width 68 = .ok (.getfield 27, 3) := by decide +kernel
theorem dX5_width_71 : decode cX5_width 71 = .ok (.iload 7, 2) := by decide +kernel
theorem dX5_width_73 : decode cX5_width 73 = .ok (.iaload, 1) := by decide +kernel
theorem dX5_width_74 : decode cX5_width 74 = .ok (.invokestatic 68, 3) := by decide +kernel
theorem dX5_width_77 : decode cX5_width 77 = .ok (.iadd, 1) := by decide +kernel
theorem dX5_width_78 : decode cX5_width 78 = .ok (.istore 5, 2) := by decide +kernel
theorem dX5_width_80 : decode cX5_width 80 = .ok (.iinc 6 1, 3) := by decide +kernel
theorem dX5_width_83 : decode cX5_width 83 = .ok (.goto (-47), 3) := by decide +kernel
theorem dX5_width_86 : decode cX5_width 86 = .ok (.iload 5, 2) := by decide +kernel
theorem dX5_width_88 : decode cX5_width 88 = .ok (.ireturn, 1) := by decide +kernel
theorem dX5_areAllContent_0 : decode cX5_areAllContent 0 = .ok (.iconst 0, 1) := by decide +kernel
theorem dX5_areAllContent_1 : decode cX5_areAllContent 1 = .ok (.istore_n 2, 1) := by decide +kernel
theorem dX5_areAllContent_2 : decode cX5_areAllContent 2 = .ok (.iload_n 2, 1) := by decide +kernel
theorem dX5_areAllContent_3 : decode cX5_areAllContent 3 = .ok (.aload_n 0, 1) := by decide +kernel
theorem dX5_areAllContent_4 : decode cX5_areAllContent 4 = .ok (.getfield 23, 3) := by decide +kernel
theorem dX5_areAllContent_7 : decode cX5_areAllContent 7 = .ok (.getfield 47, 3) := by decide +kernel
theorem dX5_areAllContent_10 : decode cX5_areAllContent 10 = .ok (.if_icmp .ge 20, 3) := by decide +kernel
theorem dX5_areAllContent_13 : decode cX5_areAllContent 13 = .ok (.aload_n 0, 1) := by decide +kernel
theorem dX5_areAllContent_14 : decode cX5_areAllContent 14 = .ok (.iload_n 1, 1) := by decide +kernel
theorem dX5_areAllContent_15 : decode cX5_areAllContent 15 = .ok (.iload_n 2, 1) := by decide +kernel
theorem dX5_areAllContent_16 : decode cX5_areAllContent 16 = .ok (.invokevirtual 71, 3) := by decide +kernel
theorem dX5_areAllContent_19 : decode cX5_areAllContent 19 = .ok (.ifCond .ne 5, 3) := by decide +kernel
theorem dX5_areAllContent_22 : decode cX5_areAllContent 22 = .ok (.iconst 0, 1) := by decide +kernel
theorem dX5_areAllContent_23 : decode cX5_areAllContent 23 = .ok (.ireturn, 1) := by decide +kernel
theorem dX5_areAllContent_24 : decode cX5_areAllContent 24 = .ok (.iinc 2 1, 3) := by decide +kernel
theorem dX5_areAllContent_27 : decode cX5_areAllContent 27 = .ok (.goto (-25), 3) := by decide +kernel
theorem dX5_areAllContent_30 : decode cX5_areAllContent 30 = .ok (.iconst 1, 1) := by decide +kernel
theorem dX5_areAllContent_31 : decode cX5_areAllContent 31 = .ok (.ireturn, 1) := by decide +kernel
theorem dX5_widestHinge_0 : decode cX5_widestHinge 0 = .ok (.iconst 0, 1) := by decide +kernel
theorem dX5_widestHinge_1 : decode cX5_widestHinge 1 = .ok (.istore_n 2, 1) := by decide +kernel
theorem dX5_widestHinge_2 : decode cX5_widestHinge 2 = .ok (.iconst 0, 1) := by decide +kernel
theorem dX5_widestHinge_3 : decode cX5_widestHinge 3 = .ok (.istore_n 3, 1) := by decide +kernel
theorem dX5_widestHinge_4 : decode cX5_widestHinge 4 = .ok (.iload_n 3, 1) := by decide +kernel
theorem dX5_widestHinge_5 : decode cX5_widestHinge 5 = .ok (.aload_n 0, 1) := by decide +kernel
theorem dX5_widestHinge_6 : decode cX5_widestHinge 6 = .ok (.getfield 23, 3) := by decide +kernel
theorem dX5_widestHinge_9 : decode cX5_widestHinge 9 = .ok (.getfield 47, 3) := by decide +kernel
theorem dX5_widestHinge_12 : decode cX5_widestHinge 12 = .ok (.iconst 1, 1) := by decide +kernel
theorem dX5_widestHinge_13 : decode cX5_widestHinge 13 = .ok (.isub, 1) := by decide +kernel
theorem dX5_widestHinge_14 : decode cX5_widestHinge 14 = .ok (.if_icmp .ge 20, 3) := by decide +kernel
theorem dX5_widestHinge_17 : decode cX5_widestHinge 17 = .ok (.iload_n 2, 1) := by decide +kernel
theorem dX5_widestHinge_18 : decode cX5_widestHinge 18 = .ok (.aload_n 0, 1) := by decide +kernel
theorem dX5_widestHinge_19 : decode cX5_widestHinge 19 = .ok (.iload_n 1, 1) := by decide +kernel
theorem dX5_widestHinge_20 : decode cX5_widestHinge 20 = .ok (.iload_n 3, 1) := by decide +kernel
theorem dX5_widestHinge_21 : decode cX5_widestHinge 21 = .ok (.invokevirtual 74, 3) := by decide +kernel
theorem dX5_widestHinge_24 : decode cX5_widestHinge 24 = .ok (.invokestatic 62, 3) := by decide +kernel
theorem dX5_widestHinge_27 : decode cX5_widestHinge 27 = .ok (.istore_n 2, 1) := by decide +kernel
theorem dX5_widestHinge_28 : decode cX5_widestHinge 28 = .ok (.iinc 3 1, 3) := by decide +kernel
theorem dX5_widestHinge_31 : decode cX5_widestHinge 31 = .ok (.goto (-27), 3) := by decide +kernel
theorem dX5_widestHinge_34 : decode cX5_widestHinge 34 = .ok (.iload_n 2, 1) := by decide +kernel
theorem dX5_widestHinge_35 : decode cX5_widestHinge 35 = .ok (.ireturn, 1) := by decide +kernel
theorem dX5_hasWaxAt_0 : decode cX5_hasWaxAt 0 = .ok (.aload_n 0, 1) := by decide +kernel
theorem dX5_hasWaxAt_1 : decode cX5_hasWaxAt 1 = .ok (.getfield 23, 3) := by decide +kernel
theorem dX5_hasWaxAt_4 : decode cX5_hasWaxAt 4 = .ok (.iload_n 1, 1) := by decide +kernel
theorem dX5_hasWaxAt_5 : decode cX5_hasWaxAt 5 = .ok (.iload_n 2, 1) := by decide +kernel
theorem dX5_hasWaxAt_6 : decode cX5_hasWaxAt 6 = .ok (.invokevirtual 65, 3) := by decide +kernel
theorem dX5_hasWaxAt_9 : decode cX5_hasWaxAt 9 = .ok (.istore_n 3, 1) := by decide +kernel
theorem dX5_hasWaxAt_10 : decode cX5_hasWaxAt 10 = .ok (.iload_n 3, 1) := by decide +kernel
theorem dX5_hasWaxAt_11 : decode cX5_hasWaxAt 11 = .ok (.iconst (-1), 1) := by decide +kernel
theorem dX5_hasWaxAt_12 : decode cX5_hasWaxAt 12 = .ok (.if_icmp .eq 20, 3) := by decide +kernel
theorem dX5_hasWaxAt_15 : decode cX5_hasWaxAt 15 = .ok (.aload_n 0, 1) := by decide +kernel
theorem dX5_hasWaxAt_16 : decode cX5_hasWaxAt 16 = .ok (.getfield 27, 3) := by decide +kernel
theorem dX5_hasWaxAt_19 : decode cX5_hasWaxAt 19 = .ok (.iload_n 3, 1) := by decide +kernel
theorem dX5_hasWaxAt_20 : decode cX5_hasWaxAt 20 = .ok (.iaload, 1) := by decide +kernel
theorem dX5_hasWaxAt_21 : decode cX5_hasWaxAt 21 = .ok (.iconst 2, 1) := by decide +kernel
theorem dX5_hasWaxAt_22 : decode cX5_hasWaxAt 22 = .ok (.invokestatic 50, 3) := by decide +kernel
theorem dX5_hasWaxAt_25 : decode cX5_hasWaxAt 25 = .ok (.ifCond .eq 7, 3) := by decide +kernel
theorem dX5_hasWaxAt_28 : decode cX5_hasWaxAt 28 = .ok (.iconst 1, 1) := by decide +kernel
theorem dX5_hasWaxAt_29 : decode cX5_hasWaxAt 29 = .ok (.goto 4, 3) := by decide +kernel
theorem dX5_hasWaxAt_32 : decode cX5_hasWaxAt 32 = .ok (.iconst 0, 1) := by decide +kernel
theorem dX5_hasWaxAt_33 : decode cX5_hasWaxAt 33 = .ok (.ireturn, 1) := by decide +kernel
end
section
theorem dX6_init_0 : decode cX6_init 0 = .ok (.aload_n 0, 1) := by decide +kernel
theorem dX6_init_1 : decode cX6_init 1 = .ok (.invokespecial 1, 3) := by decide +kernel
theorem dX6_init_4 : decode cX6_init 4 = .ok (.aload_n 0, 1) := by decide +kernel
theorem dX6_init_5 : decode cX6_init 5 = .ok (.new 7, 3) := by decide +kernel
theorem dX6_init_8 : decode cX6_init 8 = .ok (.dup, 1) := by decide +kernel
theorem dX6_init_9 : decode cX6_init 9 = .ok (.invokespecial 9, 3) := by decide +kernel
theorem dX6_init_12 : decode cX6_init 12 = .ok (.putfield 10, 3) := by decide +kernel
theorem dX6_init_15 : decode cX6_init 15 = .ok (.aload_n 0, 1) := by decide +kernel
theorem dX6_init_16 : decode cX6_init 16 = .ok (.new 16, 3) := by decide +kernel
theorem dX6_init_19 : decode cX6_init 19 = .ok (.dup, 1) := by decide +kernel
theorem dX6_init_20 : decode cX6_init 20 = .ok (.invokespecial 18, 3) := by decide +kernel
theorem dX6_init_23 : decode cX6_init 23 = .ok (.putfield 19, 3) := by decide +kernel
theorem dX6_init_26 : decode cX6_init 26 = .ok (.aload_n 0, 1) := by decide +kernel
theorem dX6_init_27 : decode cX6_init 27 = .ok (.new 23, 3) := by decide +kernel
theorem dX6_init_30 : decode cX6_init 30 = .ok (.dup, 1) := by decide +kernel
theorem dX6_init_31 : decode cX6_init 31 = .ok (.invokespecial 25, 3) := by decide +kernel
theorem dX6_init_34 : decode cX6_init 34 = .ok (.putfield 26, 3) := by decide +kernel
theorem dX6_init_37 : decode cX6_init 37 = .ok (.aload_n 0, 1) := by decide +kernel
theorem dX6_init_38 : decode cX6_init 38 = .ok (.new 23, 3) := by decide +kernel
theorem dX6_init_41 : decode cX6_init 41 = .ok (.dup, 1) := by decide +kernel
theorem dX6_init_42 : decode cX6_init 42 = .ok (.invokespecial 25, 3) := by decide +kernel
theorem dX6_init_45 : decode cX6_init 45 = .ok (.putfield 30, 3) := by decide +kernel
theorem dX6_init_48 : decode cX6_init 48 = .ok (.aload_n 0, 1) := by decide +kernel
theorem dX6_init_49 : decode cX6_init 49 = .ok (.new 33, 3) := by decide +kernel
theorem dX6_init_52 : decode cX6_init 52 = .ok (.dup, 1) := by decide +kernel
theorem dX6_init_53 : decode cX6_init 53 = .ok (.aload_n 0, 1) := by decide +kernel
theorem dX6_init_54 : decode cX6_init 54 = .ok (.getfield 19, 3) := by decide +kernel
theorem dX6_init_57 : decode cX6_init 57 = .ok (.aload_n 0, 1) := by decide +kernel
theorem dX6_init_58 : decode cX6_init 58 = .ok (.getfield 26, 3) := by decide +kernel
theorem dX6_init_61 : decode cX6_init 61 = .ok (.getfield 35, 3) := by decide +kernel
theorem dX6_init_64 : decode cX6_init 64 = .ok (.invokespecial 39, 3) := by decide +kernel
theorem dX6_init_67 : decode cX6_init 67 = .ok (.putfield 42, 3) := by decide +kernel
theorem dX6_init_70 : decode cX6_init 70 = .ok (.aload_n 0, 1) := by decide +kernel
theorem dX6_init_71 : decode cX6_init 71 = .ok (.new 46, 3) := by decide +kernel
theorem dX6_init_74 : decode cX6_init 74 = .ok (.dup, 1) := by decide +kernel
theorem dX6_init_75 : decode cX6_init 75 = .ok (.aload_n 0, 1) := by decide +kernel
theorem dX6_init_76 : decode cX6_init 76 = .ok (.getfield 19, 3) := by decide +kernel
theorem dX6_init_79 : decode cX6_init 79 = .ok (.invokespecial 48, 3) := by decide +kernel
theorem dX6_init_82 : decode cX6_init 82 = .ok (.putfield 51, 3) := by decide +kernel
theorem dX6_init_85 : decode cX6_init 85 = .ok (.aload_n 0, 1) := by decide +kernel
theorem dX6_init_86 : decode cX6_init 86 = .ok (.new 55, 3) := by decide +kernel
theorem dX6_init_89 : decode cX6_init 89 = .ok (.dup, 1) := by decide +kernel
theorem dX6_init_90 : decode cX6_init 90 = .ok (.aload_n 0, 1) := by decide +kernel
theorem dX6_init_91 : decode cX6_init 91 = .ok (.getfield 19, 3) := by decide +kernel
theorem dX6_init_94 : decode cX6_init 94 = .ok (.aload_n 0, 1) := by decide +kernel
theorem dX6_init_95 : decode cX6_init 95 = .ok (.getfield 26, 3) := by decide +kernel
theorem dX6_init_98 : decode cX6_init 98 = .ok (.invokespecial 57, 3) := by decide +kernel
theorem dX6_init_101 : decode cX6_init 101 = .ok (.putfield 60, 3) := by decide +kernel
theorem dX6_init_104 : decode cX6_init 104 = .ok (.aload_n 0, 1) := by decide +kernel
theorem dX6_init_105 : decode cX6_init 105 = .ok (.iconst 0, 1) := by decide +kernel
theorem dX6_init_106 : decode cX6_init 106 = .ok (.putfield 64, 3) := by decide +kernel
theorem dX6_init_109 : decode cX6_init 109 = .ok (.aload_n 0, 1) := by decide +kernel
theorem dX6_init_110 : decode cX6_init 110 = .ok (.iconst 0, 1) := by decide +kernel
theorem dX6_init_111 : decode cX6_init 111 = .ok (.putfield 68, 3) := by decide +kernel
theorem dX6_init_114 : decode cX6_init 114 = .ok (.return_, 1) := by decide +kernel
theorem dX6_letter_0 : decode cX6_letter 0 = .ok (.iload_n 1, 1) := by decide +kernel
theorem dX6_letter_1 : decode cX6_letter 1 = .ok (.iconst 1, 1) := by decide +kernel
theorem dX6_letter_2 : decode cX6_letter 2 = .ok (.if_icmp .lt 9, 3) := by decide +kernel
theorem dX6_letter_5 : decode cX6_letter 5 = .ok (.iload_n 1, 1) := by decide +kernel
theorem dX6_letter_6 : decode cX6_letter 6 = .ok (.bipush 126, 2) := by decide +kernel
theorem dX6_letter_8 : decode cX6_letter 8 = .ok (.if_icmp .le 6, 3) := by decide +kernel
theorem dX6_letter_11 : decode cX6_letter 11 = .ok (.bipush (-102), 2) := by decide +kernel
theorem dX6_letter_13 : decode cX6_letter 13 = .ok (.ireturn, 1) := by decide +kernel
theorem dX6_letter_14 : decode cX6_letter 14 = .ok (.aload_n 0, 1) := by decide +kernel
theorem dX6_letter_15 : decode cX6_letter 15 = .ok (.getfield 10, 3) := by decide +kernel
theorem dX6_letter_18 : decode cX6_letter 18 = .ok (.getfield 72, 3) := by decide +kernel
theorem dX6_letter_21 : decode cX6_letter 21 = .ok (.bipush 9, 2) := by decide +kernel
theorem dX6_letter_23 : decode cX6_letter 23 = .ok (.if_icmp .lt 6, 3) := by decide +kernel
theorem dX6_letter_26 : decode cX6_letter 26 = .ok (.bipush (-104), 2) := by decide +kernel
theorem dX6_letter_28 : decode cX6_letter 28 = .ok (.ireturn, 1) := by decide +kernel
theorem dX6_letter_29 : decode cX6_letter 29 = .ok (.aload_n 0, 1) := by decide +kernel
theorem dX6_letter_30 : decode cX6_letter 30 = .ok (.getfield 10, 3) := by decide +kernel
theorem dX6_letter_33 : decode cX6_letter 33 = .ok (.iload_n 1, 1) := by decide +kernel
theorem dX6_letter_34 : decode cX6_letter 34 = .ok (.invokevirtual 75, 3) := by decide +kernel
theorem dX6_letter_37 : decode cX6_letter 37 = .ok (.aload_n 0, 1) := by decide +kernel
theorem dX6_letter_38 : decode cX6_letter 38 = .ok (.getfield 10, 3) := by decide +kernel
theorem dX6_letter_41 : decode cX6_letter 41 = .ok (.getfield 72, 3) := by decide +kernel
theorem dX6_letter_44 : decode cX6_letter 44 = .ok (.ireturn, 1) := by decide +kernel
theorem dX6_blank_0 : decode cX6_blank 0 = .ok (.aload_n 0, 1) := by decide +kernel
theorem dX6_blank_1 : decode cX6_blank 1 = .ok (.getfield 10, 3) := by decide +kernel
theorem dX6_blank_4 : decode cX6_blank 4 = .ok (.getfield 72, 3) := by decide +kernel
theorem dX6_blank_7 : decode cX6_blank 7 = .ok (.istore_n 1, 1) := by decide +kernel
theorem dX6_blank_8 : decode cX6_blank 8 = .ok (.aload_n 0, 1) := by decide +kernel
theorem dX6_blank_9 : decode cX6_blank 9 = .ok (.getfield 10, 3) := by decide +kernel
theorem dX6_blank_12 : decode cX6_blank 12 = .ok (.iconst 0, 1) := by decide +kernel
theorem dX6_blank_13 : decode cX6_blank 13 = .ok (.putfield 72, 3) := by decide +kernel
theorem dX6_blank_16 : decode cX6_blank 16 = .ok (.iload_n 1, 1) := by decide +kernel
theorem dX6_blank_17 : decode cX6_blank 17 = .ok (.ireturn, 1) := by decide +kernel
theorem dX6_fault_0 : decode cX6_fault 0 = .ok (.aload_n 0, 1) := by decide +kernel
theorem dX6_fault_1 : decode cX6_fault 1 = .ok (.getfield 10, 3) := by decide +kernel
theorem dX6_fault_4 : decode cX6_fault 4 = .ok (.invokevirtual 79, 3) := by decide +kernel
theorem dX6_fault_7 : decode cX6_fault 7 = .ok (.ireturn, 1) := by decide +kernel
theorem dX6_strip_0 : decode cX6_strip 0 = .ok (.aload_n 0, 1) := by decide +kernel
theorem dX6_strip_1 : decode cX6_strip 1 = .ok (.getfield 10, 3) := by decide +kernel
theorem dX6_strip_4 : decode cX6_strip 4 = .ok (.getfield 72, 3) := by decide +kernel
theorem dX6_strip_7 : decode cX6_strip 7 = .ok (.iconst 2, 1) := by decide +kernel
theorem dX6_strip_8 : decode cX6_strip 8 = .ok (.if_icmp .lt 20, 3) := by decide +kernel
theorem dX6_strip_11 : decode cX6_strip 11 = .ok (.aload_n 0, 1) := by decide +kernel
theorem dX6_strip_12 : decode cX6_strip 12 = .ok (.getfield 10, 3) := by decide +kernel
theorem dX6_strip_15 : decode cX6_strip 15 = .ok (.invokevirtual 79, 3) := by decide +kernel
theorem dX6_strip_18 : decode cX6_strip 18 = .ok (.aload_n 0, 1) := by decide +kernel
theorem dX6_strip_19 : decode cX6_strip 19 = .ok (.getfield 10, 3) := by decide +kernel
theorem dX6_strip_22 : decode cX6_strip 22 = .ok (.getfield 72, 3) := by decide +kernel
theorem dX6_strip_25 : decode cX6_strip 25 = .ok (.if_icmp .ge 6, 3) := by decide +kernel
theorem dX6_strip_28 : decode cX6_strip 28 = .ok (.bipush (-103), 2) := by decide +kernel
theorem dX6_strip_30 : decode cX6_strip 30 = .ok (.ireturn, 1) := by decide +kernel
theorem dX6_strip_31 : decode cX6_strip 31 = .ok (.iconst 0, 1) := by decide +kernel
theorem dX6_strip_32 : decode cX6_strip 32 = .ok (.istore_n 1, 1) := by decide +kernel
theorem dX6_strip_33 : decode cX6_strip 33 = .ok (.iload_n 1, 1) := by decide +kernel
theorem dX6_strip_34 : decode cX6_strip 34 = .ok (.aload_n 0, 1) := by decide +kernel
theorem dX6_strip_35 : decode cX6_strip 35 = .ok (.getfield 10, 3) := by decide +kernel
theorem dX6_strip_38 : decode cX6_strip 38 = .ok (.getfield 72, 3) := by decide +kernel
theorem dX6_strip_41 : decode cX6_strip 41 = .ok (.if_icmp .ge 26, 3) := by decide +kernel
theorem dX6_strip_44 : decode cX6_strip 44 = .ok (.aload_n 0, 1) := by decide +kernel
theorem dX6_strip_45 : decode cX6_strip 45 = .ok (.getfield 26, 3) := by decide +kernel
theorem dX6_strip_48 : decode cX6_strip 48 = .ok (.getfield 35, 3) := by decide +kernel
theorem dX6_strip_51 : decode cX6_strip 51 = .ok (.iload_n 1, 1) := by decide +kernel
theorem dX6_strip_52 : decode cX6_strip 52 = .ok (.aload_n 0, 1) := by decide +kernel
theorem dX6_strip_53 : decode cX6_strip 53 = .ok (.getfield 10, 3) := by decide +kernel
theorem dX6_strip_56 : decode cX6_strip 56 = .ok (.iload_n 1, 1) := by decide +kernel
theorem dX6_strip_57 : decode cX6_strip 57 = .ok (.invokevirtual 83, 3) := by decide +kernel
theorem dX6_strip_60 : decode cX6_strip 60 = .ok (.iastore, 1) := by decide +kernel
theorem dX6_strip_61 : decode cX6_strip 61 = .ok (.iinc 1 1, 3) := by decide +kernel
theorem dX6_strip_64 : decode cX6_strip 64 = .ok (.goto (-31), 3) := by decide +kernel
theorem dX6_strip_67 : decode cX6_strip 67 = .ok (.aload_n 0, 1) := by decide +kernel
theorem dX6_strip_68 : decode cX6_strip 68 = .ok (.getfield 19, 3) := by decide +kernel
theorem dX6_strip_71 : decode cX6_strip 71 = .ok (.aload_n 0, 1) := by decide +kernel
theorem dX6_strip_72 : decode cX6_strip 72 = .ok (.getfield 10, 3) := by decide +kernel
theorem dX6_strip_75 : decode cX6_strip 75 = .ok (.getfield 72, 3) := by decide +kernel
theorem dX6_strip_78 : decode cX6_strip 78 = .ok (.invokevirtual 87, 3) := by decide +kernel
theorem dX6_strip_81 : decode cX6_strip 81 = .ok (.aload_n 0, 1) := by decide +kernel
theorem dX6_strip_82 : decode cX6_strip 82 = .ok (.getfield 10, 3) := by decide +kernel
theorem dX6_strip_85 : decode cX6_strip 85 = .ok (.iconst 0, 1) := by decide +kernel
theorem dX6_strip_86 : decode cX6_strip 86 = .ok (.putfield 72, 3) := by decide +kernel
theorem dX6_strip_89 : decode cX6_strip 89 = .ok (.aload_n 0, 1) := by decide +kernel
theorem dX6_strip_90 : decode cX6_strip 90 = .ok (.getfield 26, 3) := by decide +kernel
theorem dX6_strip_93 : decode cX6_strip 93 = .ok (.iconst 0, 1) := by decide +kernel
theorem dX6_strip_94 : decode cX6_strip 94 = .ok (.putfield 90, 3) := by decide +kernel
theorem dX6_strip_97 : decode cX6_strip 97 = .ok (.aload_n 0, 1) := by decide +kernel
theorem dX6_strip_98 : decode cX6_strip 98 = .ok (.getfield 26, 3) := by decide +kernel
theorem dX6_strip_101 : decode cX6_strip 101 = .ok (.iconst 0, 1) := by decide +kernel
theorem dX6_strip_102 : decode cX6_strip 102 = .ok (.putfield 93, 3) := by decide +kernel
theorem dX6_strip_105 : decode cX6_strip 105 = .ok (.aload_n 0, 1) := by decide +kernel
theorem dX6_strip_106 : decode cX6_strip 106 = .ok (.getfield 26, 3) := by decide +kernel
theorem dX6_strip_109 : decode cX6_strip 109 = .ok (.iconst 0, 1) := by decide +kernel
theorem dX6_strip_110 : decode cX6_strip 110 = .ok (.putfield 96, 3) := by decide +kernel
theorem dX6_strip_113 : decode cX6_strip 113 = .ok (.aload_n 0, 1) := by decide +kernel
theorem dX6_strip_114 : decode cX6_strip 114 = .ok (.iconst 0, 1) := by decide +kernel
theorem dX6_strip_115 : decode cX6_strip 115 = .ok (.putfield 64, 3) := by decide +kernel
theorem dX6_strip_118 : decode cX6_strip 118 = .ok (.aload_n 0, 1) := by decide +kernel
theorem dX6_strip_119 : decode cX6_strip 119 = .ok (.dup, 1) := by decide +kernel
theorem dX6_strip_120 : decode cX6_strip 120 = .ok (.getfield 68, 3) := by decide +kernel
theorem dX6_strip_123 : decode cX6_strip 123 = .ok (.iconst 1, 1) := by decide +kernel
theorem dX6_strip_124 : decode cX6_strip 124 = .ok (.iadd, 1) := by decide +kernel
theorem dX6_strip_125 : decode cX6_strip 125 = .ok (.putfield 68, 3) := by decide +kernel
theorem dX6_strip_128 : decode cX6_strip 128 = .ok (.aload_n 0, 1) := by decide +kernel
theorem dX6_strip_129 : decode cX6_strip 129 = .ok (.getfield 42, 3) := by decide +kernel
theorem dX6_strip_132 : decode cX6_strip 132 = .ok (.invokevirtual 99, 3) := by decide +kernel
theorem dX6_strip_135 : decode cX6_strip 135 = .ok (.aload_n 0, 1) := by decide +kernel
theorem dX6_strip_136 : decode cX6_strip 136 = .ok (.getfield 19, 3) := by decide +kernel
theorem dX6_strip_139 : decode cX6_strip 139 = .ok (.getfield 102, 3) := by decide +kernel
theorem dX6_strip_142 : decode cX6_strip 142 = .ok (.ireturn, 1) := by decide +kernel
theorem dX6_leaf_0 : decode cX6_leaf 0 = .ok (.aload_n 0, 1) := by decide +kernel
theorem dX6_leaf_1 : decode cX6_leaf 1 = .ok (.iload_n 1, 1) := by decide +kernel
theorem dX6_leaf_2 : decode cX6_leaf 2 = .ok (.invokevirtual 105, 3) := by decide +kernel
theorem dX6_leaf_5 : decode cX6_leaf 5 = .ok (.ifCond .ne 6, 3) := by decide +kernel
theorem dX6_leaf_8 : decode cX6_leaf 8 = .ok (.bipush (-101), 2) := by decide +kernel
theorem dX6_leaf_10 : decode cX6_leaf 10 = .ok (.ireturn, 1) := by decide +kernel
theorem dX6_leaf_11 : decode cX6_leaf 11 = .ok (.iload_n 2, 1) := by decide +kernel
theorem dX6_leaf_12 : decode cX6_leaf 12 = .ok (.tableswitch 90 0 3 #[32, 42, 55, 71], 32) := by decide +kernel
theorem dX6_leaf_44 : decode cX6_leaf 44 = .ok (.aload_n 0, 1) := by decide +kernel
theorem dX6_leaf_45 : decode cX6_leaf 45 = .ok (.getfield 26, 3) := by decide +kernel
theorem dX6_leaf_48 : decode cX6_leaf 48 = .ok (.getfield 35, 3) := by decide +kernel
theorem dX6_leaf_51 : decode cX6_leaf 51 = .ok (.iload_n 1, 1) := by decide +kernel
theorem dX6_leaf_52 : decode cX6_leaf 52 = .ok (.iaload, 1) := by decide +kernel
theorem dX6_leaf_53 : decode cX6_leaf 53 = .ok (.ireturn, 1) := by decide +kernel
theorem dX6_leaf_54 : decode cX6_leaf 54 = .ok (.aload_n 0, 1) := by decide +kernel
theorem dX6_leaf_55 : decode cX6_leaf 55 = .ok (.getfield 26, 3) := by decide +kernel
theorem dX6_leaf_58 : decode cX6_leaf 58 = .ok (.getfield 35, 3) := by decide +kernel
theorem dX6_leaf_61 : decode cX6_leaf 61 = .ok (.iload_n 1, 1) := by decide +kernel
theorem dX6_leaf_62 : decode cX6_leaf 62 = .ok (.iaload, 1) := by decide +kernel
theorem dX6_leaf_63 : decode cX6_leaf 63 = .ok (.invokestatic 109, 3) := by decide +kernel
theorem dX6_leaf_66 : decode cX6_leaf 66 = .ok (.ireturn, 1) := by decide +kernel
theorem dX6_leaf_67 : decode cX6_leaf 67 = .ok (.aload_n 0, 1) := by decide +kernel
theorem dX6_leaf_68 : decode cX6_leaf 68 = .ok (.getfield 19, 3) := by decide +kernel
theorem dX6_leaf_71 : decode cX6_leaf 71 = .ok (.aload_n 0, 1) := by decide +kernel
theorem dX6_leaf_72 : decode cX6_leaf 72 = .ok (.getfield 26, 3) := by decide +kernel
theorem dX6_leaf_75 : decode cX6_leaf 75 = .ok (.getfield 90, 3) := by decide +kernel
theorem dX6_leaf_78 : decode cX6_leaf 78 = .ok (.iload_n 1, 1) := by decide +kernel
theorem dX6_leaf_79 : decode cX6_leaf 79 = .ok (.invokevirtual 112, 3) := by decide +kernel
theorem dX6_leaf_82 : decode cX6_leaf 82 = .ok (.ireturn, 1) := by decide +kernel
theorem dX6_leaf_83 : decode cX6_leaf 83 = .ok (.aload_n 0, 1) := by decide +kernel
theorem dX6_leaf_84 : decode cX6_leaf 84 = .ok (.getfield 42, 3) := by decide +kernel
theorem dX6_leaf_87 : decode cX6_leaf 87 = .ok (.aload_n 0, 1) := by decide +kernel
theorem dX6_leaf_88 : decode cX6_leaf 88 = .ok (.getfield 26, 3) := by decide +kernel
theorem dX6_leaf_91 : decode cX6_leaf 91 = .ok (.getfield 90, 3) := by decide +kernel
theorem dX6_leaf_94 : decode cX6_leaf 94 = .ok (.iload_n 1, 1) := by decide +kernel
theorem dX6_leaf_95 : decode cX6_leaf 95 = .ok (.invokevirtual 116, 3) := by decide +kernel
theorem dX6_leaf_98 : decode cX6_leaf 98 = .ok (.invokestatic 120, 3) := by decide +kernel
theorem dX6_leaf_101 : decode cX6_leaf 101 = .ok (.ireturn, 1) := by decide +kernel
theorem dX6_leaf_102 : decode cX6_leaf 102 = .ok (.bipush (-102), 2) := by decide +kernel
theorem dX6_leaf_104 : decode cX6_leaf 104 = .ok (.ireturn, 1) := by decide +kernel
theorem dX6_as_0 : decode cX6_as 0 = .ok (.aload_n 0, 1) := by decide +kernel
theorem dX6_as_1 : decode cX6_as 1 = .ok (.iload_n 1, 1) := by decide +kernel
theorem dX6_as_2 : decode cX6_as 2 = .ok (.invokevirtual 105, 3) := by decide +kernel
theorem dX6_as_5 : decode cX6_as 5 = .ok (.ifCond .ne 6, 3) := by decide +kernel
theorem dX6_as_8 : decode cX6_as 8 = .ok (.bipush (-101), 2) := by decide +kernel
theorem dX6_as_10 : decode cX6_as 10 = .ok (.ireturn, 1) := by decide +kernel
theorem dX6_as_11 : decode cX6_as 11 = .ok (.iload_n 2, 1) := by decide +kernel
theorem dX6_as_12 : decode cX6_as 12 = .ok (.invokestatic 124, 3) := by decide +kernel
theorem dX6_as_15 : decode cX6_as 15 = .ok (.ifCond .ne 6, 3) := by decide +kernel
theorem dX6_as_18 : decode cX6_as 18 = .ok (.bipush (-102), 2) := by decide +kernel
theorem dX6_as_20 : decode cX6_as 20 = .ok (.ireturn, 1) := by decide +kernel
theorem dX6_as_21 : decode cX6_as 21 = .ok (.aload_n 0, 1) := by decide +kernel
theorem dX6_as_22 : decode cX6_as 22 = .ok (.getfield 26, 3) := by decide +kernel
theorem dX6_as_25 : decode cX6_as 25 = .ok (.getfield 35, 3) := by decide +kernel
theorem dX6_as_28 : decode cX6_as 28 = .ok (.iload_n 1, 1) := by decide +kernel
theorem dX6_as_29 : decode cX6_as 29 = .ok (.iaload, 1) := by decide +kernel
theorem dX6_as_30 : decode cX6_as 30 = .ok (.iload_n 2, 1) := by decide +kernel
theorem dX6_as_31 : decode cX6_as 31 = .ok (.invokestatic 127, 3) := by decide +kernel
theorem dX6_as_34 : decode cX6_as 34 = .ok (.ifCond .eq 7, 3) := by decide +kernel
theorem dX6_as_37 : decode cX6_as 37 = .ok (.iload_n 1, 1) := by decide +kernel
theorem dX6_as_38 : decode cX6_as 38 = .ok (.goto 4, 3) := by decide +kernel
theorem dX6_as_41 : decode cX6_as 41 = .ok (.iconst (-1), 1) := by decide +kernel
theorem dX6_as_42 : decode cX6_as 42 = .ok (.ireturn, 1) := by decide +kernel
theorem dX6_hinge_0 : decode cX6_hinge 0 = .ok (.iload_n 1, 1) := by decide +kernel
theorem dX6_hinge_1 : decode cX6_hinge 1 = .ok (.ifCond .lt 16, 3) := by decide +kernel
theorem dX6_hinge_4 : decode cX6_hinge 4 = .ok (.iload_n 1, 1) := by decide +kernel
theorem dX6_hinge_5 : decode cX6_hinge 5 = .ok (.aload_n 0, 1) := by decide +kernel
theorem dX6_hinge_6 : decode cX6_hinge 6 = .ok (.getfield 19, 3) := by decide +kernel
theorem dX6_hinge_9 : decode cX6_hinge 9 = .ok (.getfield 102, 3) := by decide +kernel
theorem dX6_hinge_12 : decode cX6_hinge 12 = .ok (.iconst 1, 1) := by decide +kernel
theorem dX6_hinge_13 : decode cX6_hinge 13 = .ok (.isub, 1) := by decide +kernel
theorem dX6_hinge_14 : decode cX6_hinge 14 = .ok (.if_icmp .lt 6, 3) := by decide +kernel
theorem dX6_hinge_17 : decode cX6_hinge 17 = .ok (.bipush (-101), 2) := by decide +kernel
theorem dX6_hinge_19 : decode cX6_hinge 19 = .ok (.ireturn, 1) := by decide +kernel
theorem dX6_hinge_20 : decode cX6_hinge 20 = .ok (.iload_n 2, 1) := by decide +kernel
theorem dX6_hinge_21 : decode cX6_hinge 21 = .ok (.lookupswitch 47 #[(0, 27), (1, 31)], 27) := by decide +kernel
theorem dX6_hinge_48 : decode cX6_hinge 48 = .ok (.iload_n 1, 1) := by decide +kernel
theorem dX6_hinge_49 : decode cX6_hinge 49 = .ok (.iconst 2, 1) := by decide +kernel
theorem dX6_hinge_50 : decode cX6_hinge 50 = .ok (.irem, 1) := by decide +kernel
theorem dX6_hinge_51 : decode cX6_hinge 51 = .ok (.ireturn, 1) := by decide +kernel
theorem dX6_hinge_52 : decode cX6_hinge 52 = .ok (.aload_n 0, 1) := by decide +kernel
theorem dX6_hinge_53 : decode cX6_hinge 53 = .ok (.getfield 42, 3) := by decide +kernel
theorem dX6_hinge_56 : decode cX6_hinge 56 = .ok (.aload_n 0, 1) := by decide +kernel
theorem dX6_hinge_57 : decode cX6_hinge 57 = .ok (.getfield 26, 3) := by decide +kernel
theorem dX6_hinge_60 : decode cX6_hinge 60 = .ok (.getfield 90, 3) := by decide +kernel
theorem dX6_hinge_63 : decode cX6_hinge 63 = .ok (.iload_n 1, 1) := by decide +kernel
theorem dX6_hinge_64 : decode cX6_hinge 64 = .ok (.invokevirtual 130, 3) := by decide +kernel
theorem dX6_hinge_67 : decode cX6_hinge 67 = .ok (.ireturn, 1) := by decide +kernel
theorem dX6_hinge_68 : decode cX6_hinge 68 = .ok (.bipush (-102), 2) := by decide +kernel
theorem dX6_hinge_70 : decode cX6_hinge 70 = .ok (.ireturn, 1) := by decide +kernel
theorem dX6_at_0 : decode cX6_at 0 = .ok (.aload_n 0, 1) := by decide +kernel
theorem dX6_at_1 : decode cX6_at 1 = .ok (.iload_n 1, 1) := by decide +kernel
theorem dX6_at_2 : decode cX6_at 2 = .ok (.invokevirtual 133, 3) := by decide +kernel
theorem dX6_at_5 : decode cX6_at 5 = .ok (.ifCond .ne 6, 3) := by decide +kernel
theorem dX6_at_8 : decode cX6_at 8 = .ok (.bipush (-101), 2) := by decide +kernel
theorem dX6_at_10 : decode cX6_at 10 = .ok (.ireturn, 1) := by decide +kernel
theorem dX6_at_11 : decode cX6_at 11 = .ok (.aload_n 0, 1) := by decide +kernel
theorem dX6_at_12 : decode cX6_at 12 = .ok (.getfield 19, 3) := by decide +kernel
theorem dX6_at_15 : decode cX6_at 15 = .ok (.aload_n 0, 1) := by decide +kernel
theorem dX6_at_16 : decode cX6_at 16 = .ok (.getfield 26, 3) := by decide +kernel
theorem dX6_at_19 : decode cX6_at 19 = .ok (.getfield 90, 3) := by decide +kernel
theorem dX6_at_22 : decode cX6_at 22 = .ok (.iload_n 1, 1) := by decide +kernel
theorem dX6_at_23 : decode cX6_at 23 = .ok (.invokevirtual 136, 3) := by decide +kernel
theorem dX6_at_26 : decode cX6_at 26 = .ok (.ireturn, 1) := by decide +kernel
theorem dX6_may_0 : decode cX6_may 0 = .ok (.aload_n 0, 1) := by decide +kernel
theorem dX6_may_1 : decode cX6_may 1 = .ok (.iload_n 1, 1) := by decide +kernel
theorem dX6_may_2 : decode cX6_may 2 = .ok (.invokevirtual 105, 3) := by decide +kernel
theorem dX6_may_5 : decode cX6_may 5 = .ok (.ifCond .eq 11, 3) := by decide +kernel
theorem dX6_may_8 : decode cX6_may 8 = .ok (.aload_n 0, 1) := by decide +kernel
theorem dX6_may_9 : decode cX6_may 9 = .ok (.iload_n 2, 1) := by decide +kernel
theorem dX6_may_10 : decode cX6_may 10 = .ok (.invokevirtual 133, 3) := by decide +kernel
theorem dX6_may_13 : decode cX6_may 13 = .ok (.ifCond .ne 6, 3) := by decide +kernel
theorem dX6_may_16 : decode cX6_may 16 = .ok (.bipush (-101), 2) := by decide +kernel
theorem dX6_may_18 : decode cX6_may 18 = .ok (.ireturn, 1) := by decide +kernel
theorem dX6_may_19 : decode cX6_may 19 = .ok (.aload_n 0, 1) := by decide +kernel
theorem dX6_may_20 : decode cX6_may 20 = .ok (.getfield 19, 3) := by decide +kernel
theorem dX6_may_23 : decode cX6_may 23 = .ok (.aload_n 0, 1) := by decide +kernel
theorem dX6_may_24 : decode cX6_may 24 = .ok (.getfield 26, 3) := by decide +kernel
theorem dX6_may_27 : decode cX6_may 27 = .ok (.getfield 90, 3) := by decide +kernel
theorem dX6_may_30 : decode cX6_may 30 = .ok (.iload_n 1, 1) := by decide +kernel
theorem dX6_may_31 : decode cX6_may 31 = .ok (.iload_n 2, 1) := by decide +kernel
theorem dX6_may_32 : decode cX6_may 32 = .ok (.invokevirtual 139, 3) := by decide +kernel
theorem dX6_may_35 : decode cX6_may 35 = .ok (.iconst (-1), 1) := by decide +kernel
theorem dX6_may_36 : decode cX6_may 36 = .ok (.if_icmp .eq 7, 3) := by decide +kernel
theorem dX6_may_39 : decode cX6_may 39 = .ok (.iconst 1, 1) := by decide +kernel
theorem dX6_may_40 : decode cX6_may 40 = .ok (.goto 4, 3) := by decide +kernel
theorem dX6_may_43 : decode cX6_may 43 = .ok (.iconst 0, 1) := by decide +kernel
theorem dX6_may_44 : decode cX6_may 44 = .ok (.invokestatic 120, 3) := by decide +kernel
theorem dX6_may_47 : decode cX6_may 47 = .ok (.ireturn, 1) := by decide +kernel
theorem dX6_move_0 : decode cX6_move 0 = .ok (.aload_n 0, 1) := by decide +kernel
theorem dX6_move_1 : decode cX6_move 1 = .ok (.iload_n 1, 1) := by decide +kernel
theorem dX6_move_2 : decode cX6_move 2 = .ok (.invokevirtual 105, 3) := by decide +kernel
theorem dX6_move_5 : decode cX6_move 5 = .ok (.ifCond .eq 11, 3) := by decide +kernel
theorem dX6_move_8 : decode cX6_move 8 = .ok (.aload_n 0, 1) := by decide +kernel
theorem dX6_move_9 : decode cX6_move 9 = .ok (.iload_n 2, 1) := by decide +kernel
theorem dX6_move_10 : decode cX6_move 10 = .ok (.invokevirtual 133, 3) := by decide +kernel
theorem dX6_move_13 : decode cX6_move 13 = .ok (.ifCond .ne 6, 3) := by decide +kernel
theorem dX6_move_16 : decode cX6_move 16 = .ok (.bipush (-101), 2) := by decide +kernel
theorem dX6_move_18 : decode cX6_move 18 = .ok (.ireturn, 1) := by decide +kernel
theorem dX6_move_19 : decode cX6_move 19 = .ok (.aload_n 0, 1) := by decide +kernel
theorem dX6_move_20 : decode cX6_move 20 = .ok (.getfield 19, 3) := by decide +kernel
theorem dX6_move_23 : decode cX6_move 23 = .ok (.aload_n 0, 1) := by decide +kernel
theorem dX6_move_24 : decode cX6_move 24 = .ok (.getfield 26, 3) := by decide +kernel
theorem dX6_move_27 : decode cX6_move 27 = .ok (.getfield 90, 3) := by decide +kernel
theorem dX6_move_30 : decode cX6_move 30 = .ok (.iload_n 1, 1) := by decide +kernel
theorem dX6_move_31 : decode cX6_move 31 = .ok (.iload_n 2, 1) := by decide +kernel
theorem dX6_move_32 : decode cX6_move 32 = .ok (.invokevirtual 139, 3) := by decide +kernel
theorem dX6_move_35 : decode cX6_move 35 = .ok (.istore_n 3, 1) := by decide +kernel
theorem dX6_move_36 : decode cX6_move 36 = .ok (.iload_n 3, 1) := by decide +kernel
theorem dX6_move_37 : decode cX6_move 37 = .ok (.iconst (-1), 1) := by decide +kernel
theorem dX6_move_38 : decode cX6_move 38 = .ok (.if_icmp .eq 14, 3) := by decide +kernel
theorem dX6_move_41 : decode cX6_move 41 = .ok (.iload_n 3, 1) := by decide +kernel
theorem dX6_move_42 : decode cX6_move 42 = .ok (.aload_n 0, 1) := by decide +kernel
theorem dX6_move_43 : decode cX6_move 43 = .ok (.getfield 26, 3) := by decide +kernel
theorem dX6_move_46 : decode cX6_move 46 = .ok (.getfield 90, 3) := by decide +kernel
theorem dX6_move_49 : decode cX6_move 49 = .ok (.if_icmp .ne 6, 3) := by decide +kernel
theorem dX6_move_52 : decode cX6_move 52 = .ok (.bipush (-103), 2) := by decide +kernel
theorem dX6_move_54 : decode cX6_move 54 = .ok (.ireturn, 1) := by decide +kernel
theorem dX6_move_55 : decode cX6_move 55 = .ok (.aload_n 0, 1) := by decide +kernel
theorem dX6_move_56 : decode cX6_move 56 = .ok (.getfield 26, 3) := by decide +kernel
theorem dX6_move_59 : decode cX6_move 59 = .ok (.getfield 93, 3) := by decide +kernel
theorem dX6_move_62 : decode cX6_move 62 = .ok (.sipush 999, 3) := by decide +kernel
theorem dX6_move_65 : decode cX6_move 65 = .ok (.if_icmp .lt 6, 3) := by decide +kernel
theorem dX6_move_68 : decode cX6_move 68 = .ok (.bipush (-104), 2) := by decide +kernel
theorem dX6_move_70 : decode cX6_move 70 = .ok (.ireturn, 1) := by decide +kernel
theorem dX6_move_71 : decode cX6_move 71 = .ok (.aload_n 0, 1) := by decide +kernel
theorem dX6_move_72 : decode cX6_move 72 = .ok (.getfield 26, 3) := by decide +kernel
theorem dX6_move_75 : decode cX6_move 75 = .ok (.iload_n 3, 1) := by decide +kernel
theorem dX6_move_76 : decode cX6_move 76 = .ok (.putfield 90, 3) := by decide +kernel
theorem dX6_move_79 : decode cX6_move 79 = .ok (.aload_n 0, 1) := by decide +kernel
theorem dX6_move_80 : decode cX6_move 80 = .ok (.getfield 26, 3) := by decide +kernel
theorem dX6_move_83 : decode cX6_move 83 = .ok (.dup, 1) := by decide +kernel
theorem dX6_move_84 : decode cX6_move 84 = .ok (.getfield 93, 3) := by decide +kernel
theorem dX6_move_87 : decode cX6_move 87 = .ok (.iconst 1, 1) := by decide +kernel
theorem dX6_move_88 : decode cX6_move 88 = .ok (.iadd, 1) := by decide +kernel
theorem dX6_move_89 : decode cX6_move 89 = .ok (.putfield 93, 3) := by decide +kernel
theorem dX6_move_92 : decode cX6_move 92 = .ok (.aload_n 0, 1) := by decide +kernel
theorem dX6_move_93 : decode cX6_move 93 = .ok (.invokevirtual 143, 3) := by decide +kernel
theorem dX6_move_96 : decode cX6_move 96 = .ok (.ireturn, 1) := by decide +kernel
theorem dX6_turn_0 : decode cX6_turn 0 = .ok (.aload_n 0, 1) := by decide +kernel
theorem dX6_turn_1 : decode cX6_turn 1 = .ok (.invokevirtual 146, 3) := by decide +kernel
theorem dX6_turn_4 : decode cX6_turn 4 = .ok (.ifCond .eq 6, 3) := by decide +kernel
theorem dX6_turn_7 : decode cX6_turn 7 = .ok (.bipush (-103), 2) := by decide +kernel
theorem dX6_turn_9 : decode cX6_turn 9 = .ok (.ireturn, 1) := by decide +kernel
theorem dX6_turn_10 : decode cX6_turn 10 = .ok (.aload_n 0, 1) := by decide +kernel
theorem dX6_turn_11 : decode cX6_turn 11 = .ok (.getfield 26, 3) := by decide +kernel
theorem dX6_turn_14 : decode cX6_turn 14 = .ok (.aload_n 0, 1) := by decide +kernel
theorem dX6_turn_15 : decode cX6_turn 15 = .ok (.getfield 19, 3) := by decide +kernel
theorem dX6_turn_18 : decode cX6_turn 18 = .ok (.aload_n 0, 1) := by decide +kernel
theorem dX6_turn_19 : decode cX6_turn 19 = .ok (.getfield 26, 3) := by decide +kernel
theorem dX6_turn_22 : decode cX6_turn 22 = .ok (.getfield 90, 3) := by decide +kernel
theorem dX6_turn_25 : decode cX6_turn 25 = .ok (.invokevirtual 150, 3) := by decide +kernel
theorem dX6_turn_28 : decode cX6_turn 28 = .ok (.putfield 90, 3) := by decide +kernel
theorem dX6_turn_31 : decode cX6_turn 31 = .ok (.aload_n 0, 1) := by decide +kernel
theorem dX6_turn_32 : decode cX6_turn 32 = .ok (.getfield 19, 3) := by decide +kernel
theorem dX6_turn_35 : decode cX6_turn 35 = .ok (.aload_n 0, 1) := by decide +kernel
theorem dX6_turn_36 : decode cX6_turn 36 = .ok (.getfield 26, 3) := by decide +kernel
theorem dX6_turn_39 : decode cX6_turn 39 = .ok (.getfield 90, 3) := by decide +kernel
theorem dX6_turn_42 : decode cX6_turn 42 = .ok (.iconst 0, 1) := by decide +kernel
theorem dX6_turn_43 : decode cX6_turn 43 = .ok (.invokevirtual 136, 3) := by decide +kernel
theorem dX6_turn_46 : decode cX6_turn 46 = .ok (.ireturn, 1) := by decide +kernel
theorem dX6_lay_0 : decode cX6_lay 0 = .ok (.aload_n 0, 1) := by decide +kernel
theorem dX6_lay_1 : decode cX6_lay 1 = .ok (.iload_n 1, 1) := by decide +kernel
theorem dX6_lay_2 : decode cX6_lay 2 = .ok (.invokevirtual 153, 3) := by decide +kernel
theorem dX6_lay_5 : decode cX6_lay 5 = .ok (.ifCond .ne 6, 3) := by decide +kernel
theorem dX6_lay_8 : decode cX6_lay 8 = .ok (.bipush (-101), 2) := by decide +kernel
theorem dX6_lay_10 : decode cX6_lay 10 = .ok (.ireturn, 1) := by decide +kernel
theorem dX6_lay_11 : decode cX6_lay 11 = .ok (.aload_n 0, 1) := by decide +kernel
theorem dX6_lay_12 : decode cX6_lay 12 = .ok (.getfield 26, 3) := by decide +kernel
theorem dX6_lay_15 : decode cX6_lay 15 = .ok (.getfield 90, 3) := by decide +kernel
theorem dX6_lay_18 : decode cX6_lay 18 = .ok (.istore_n 2, 1) := by decide +kernel
theorem dX6_lay_19 : decode cX6_lay 19 = .ok (.aload_n 0, 1) := by decide +kernel
theorem dX6_lay_20 : decode cX6_lay 20 = .ok (.getfield 26, 3) := by decide +kernel
theorem dX6_lay_23 : decode cX6_lay 23 = .ok (.iload_n 1, 1) := by decide +kernel
theorem dX6_lay_24 : decode cX6_lay 24 = .ok (.putfield 90, 3) := by decide +kernel
theorem dX6_lay_27 : decode cX6_lay 27 = .ok (.iload_n 2, 1) := by decide +kernel
theorem dX6_lay_28 : decode cX6_lay 28 = .ok (.ireturn, 1) := by decide +kernel
theorem dX6_change_0 : decode cX6_change 0 = .ok (.aload_n 0, 1) := by decide +kernel
theorem dX6_change_1 : decode cX6_change 1 = .ok (.iload_n 1, 1) := by decide +kernel
theorem dX6_change_2 : decode cX6_change 2 = .ok (.invokevirtual 105, 3) := by decide +kernel
theorem dX6_change_5 : decode cX6_change 5 = .ok (.ifCond .ne 6, 3) := by decide +kernel
theorem dX6_change_8 : decode cX6_change 8 = .ok (.bipush (-101), 2) := by decide +kernel
theorem dX6_change_10 : decode cX6_change 10 = .ok (.ireturn, 1) := by decide +kernel
theorem dX6_change_11 : decode cX6_change 11 = .ok (.iload_n 2, 1) := by decide +kernel
theorem dX6_change_12 : decode cX6_change 12 = .ok (.invokestatic 124, 3) := by decide +kernel
theorem dX6_change_15 : decode cX6_change 15 = .ok (.ifCond .ne 6, 3) := by decide +kernel
theorem dX6_change_18 : decode cX6_change 18 = .ok (.bipush (-102), 2) := by decide +kernel
theorem dX6_change_20 : decode cX6_change 20 = .ok (.ireturn, 1) := by decide +kernel
theorem dX6_change_21 : decode cX6_change 21 = .ok (.aload_n 0, 1) := by decide +kernel
theorem dX6_change_22 : decode cX6_change 22 = .ok (.getfield 26, 3) := by decide +kernel
theorem dX6_change_25 : decode cX6_change 25 = .ok (.getfield 35, 3) := by decide +kernel
theorem dX6_change_28 : decode cX6_change 28 = .ok (.iload_n 1, 1) := by decide +kernel
theorem dX6_change_29 : decode cX6_change 29 = .ok (.iaload, 1) := by decide +kernel
theorem dX6_change_30 : decode cX6_change 30 = .ok (.istore_n 3, 1) := by decide +kernel
theorem dX6_change_31 : decode cX6_change 31 = .ok (.aload_n 0, 1) := by decide +kernel
theorem dX6_change_32 : decode cX6_change 32 = .ok (.getfield 26, 3) := by decide +kernel
theorem dX6_change_35 : decode cX6_change 35 = .ok (.getfield 35, 3) := by decide +kernel
theorem dX6_change_38 : decode cX6_change 38 = .ok (.iload_n 1, 1) := by decide +kernel
theorem dX6_change_39 : decode cX6_change 39 = .ok (.iload_n 2, 1) := by decide +kernel
theorem dX6_change_40 : decode cX6_change 40 = .ok (.iastore, 1) := by decide +kernel
theorem dX6_change_41 : decode cX6_change 41 = .ok (.aload_n 0, 1) := by decide +kernel
theorem dX6_change_42 : decode cX6_change 42 = .ok (.getfield 42, 3) := by decide +kernel
theorem dX6_change_45 : decode cX6_change 45 = .ok (.invokevirtual 99, 3) := by decide +kernel
theorem dX6_change_48 : decode cX6_change 48 = .ok (.iload_n 3, 1) := by decide +kernel
theorem dX6_change_49 : decode cX6_change 49 = .ok (.ireturn, 1) := by decide +kernel
theorem dX6_orders_0 : decode cX6_orders 0 = .ok (.iload_n 1, 1) := by decide +kernel
theorem dX6_orders_1 : decode cX6_orders 1 = .ok (.ifCond .lt 8, 3) := by decide +kernel
theorem dX6_orders_4 : decode cX6_orders 4 = .ok (.iload_n 1, 1) := by decide +kernel
theorem dX6_orders_5 : decode cX6_orders 5 = .ok (.iconst 3, 1) := by decide +kernel
theorem dX6_orders_6 : decode cX6_orders 6 = .ok (.if_icmp .le 6, 3) := by decide +kernel
theorem dX6_orders_9 : decode cX6_orders 9 = .ok (.bipush (-102), 2) := by decide +kernel
theorem dX6_orders_11 : decode cX6_orders 11 = .ok (.ireturn, 1) := by decide +kernel
theorem dX6_orders_12 : decode cX6_orders 12 = .ok (.aload_n 0, 1) := by decide +kernel
theorem dX6_orders_13 : decode cX6_orders 13 = .ok (.invokevirtual 146, 3) := by decide +kernel
theorem dX6_orders_16 : decode cX6_orders 16 = .ok (.ifCond .eq 6, 3) := by decide +kernel
theorem dX6_orders_19 : decode cX6_orders 19 = .ok (.bipush (-103), 2) := by decide +kernel
theorem dX6_orders_21 : decode cX6_orders 21 = .ok (.ireturn, 1) := by decide +kernel
theorem dX6_orders_22 : decode cX6_orders 22 = .ok (.iload_n 1, 1) := by decide +kernel
theorem dX6_orders_23 : decode cX6_orders 23 = .ok (.tableswitch 49 0 2 #[25, 33, 41], 25) := by decide +kernel
theorem dX6_orders_48 : decode cX6_orders 48 = .ok (.aload_n 0, 1) := by decide +kernel
theorem dX6_orders_49 : decode cX6_orders 49 = .ok (.getfield 19, 3) := by decide +kernel
theorem dX6_orders_52 : decode cX6_orders 52 = .ok (.getfield 156, 3) := by decide +kernel
theorem dX6_orders_55 : decode cX6_orders 55 = .ok (.ireturn, 1) := by decide +kernel
theorem dX6_orders_56 : decode cX6_orders 56 = .ok (.aload_n 0, 1) := by decide +kernel
theorem dX6_orders_57 : decode cX6_orders 57 = .ok (.getfield 42, 3) := by decide +kernel
theorem dX6_orders_60 : decode cX6_orders 60 = .ok (.getfield 157, 3) := by decide +kernel
theorem dX6_orders_63 : decode cX6_orders 63 = .ok (.ireturn, 1) := by decide +kernel
theorem dX6_orders_64 : decode cX6_orders 64 = .ok (.aload_n 0, 1) := by decide +kernel
theorem dX6_orders_65 : decode cX6_orders 65 = .ok (.getfield 26, 3) := by decide +kernel
theorem dX6_orders_68 : decode cX6_orders 68 = .ok (.getfield 90, 3) := by decide +kernel
theorem dX6_orders_71 : decode cX6_orders 71 = .ok (.ireturn, 1) := by decide +kernel
theorem dX6_orders_72 : decode cX6_orders 72 = .ok (.aload_n 0, 1) := by decide +kernel
theorem dX6_orders_73 : decode cX6_orders 73 = .ok (.getfield 42, 3) := by decide +kernel
theorem dX6_orders_76 : decode cX6_orders 76 = .ok (.aload_n 0, 1) := by decide +kernel
theorem dX6_orders_77 : decode cX6_orders 77 = .ok (.getfield 26, 3) := by decide +kernel
theorem dX6_orders_80 : decode cX6_orders 80 = .ok (.getfield 90, 3) := by decide +kernel
theorem dX6_orders_83 : decode cX6_orders 83 = .ok (.invokevirtual 160, 3) := by decide +kernel
theorem dX6_orders_86 : decode cX6_orders 86 = .ok (.invokestatic 120, 3) := by decide +kernel
theorem dX6_orders_89 : decode cX6_orders 89 = .ok (.ireturn, 1) := by decide +kernel
theorem dX6_order_0 : decode cX6_order 0 = .ok (.aload_n 0, 1) := by decide +kernel
theorem dX6_order_1 : decode cX6_order 1 = .ok (.iload_n 1, 1) := by decide +kernel
theorem dX6_order_2 : decode cX6_order 2 = .ok (.invokevirtual 153, 3) := by decide +kernel
theorem dX6_order_5 : decode cX6_order 5 = .ok (.ifCond .ne 6, 3) := by decide +kernel
theorem dX6_order_8 : decode cX6_order 8 = .ok (.bipush (-101), 2) := by decide +kernel
theorem dX6_order_10 : decode cX6_order 10 = .ok (.ireturn, 1) := by decide +kernel
theorem dX6_order_11 : decode cX6_order 11 = .ok (.iload_n 2, 1) := by decide +kernel
theorem dX6_order_12 : decode cX6_order 12 = .ok (.ifCond .ne 15, 3) := by decide +kernel
theorem dX6_order_15 : decode cX6_order 15 = .ok (.aload_n 0, 1) := by decide +kernel
theorem dX6_order_16 : decode cX6_order 16 = .ok (.getfield 42, 3) := by decide +kernel
theorem dX6_order_19 : decode cX6_order 19 = .ok (.iload_n 1, 1) := by decide +kernel
theorem dX6_order_20 : decode cX6_order 20 = .ok (.invokevirtual 160, 3) := by decide +kernel
theorem dX6_order_23 : decode cX6_order 23 = .ok (.invokestatic 120, 3) := by decide +kernel
theorem dX6_order_26 : decode cX6_order 26 = .ok (.ireturn, 1) := by decide +kernel
theorem dX6_order_27 : decode cX6_order 27 = .ok (.iload_n 2, 1) := by decide +kernel
theorem dX6_order_28 : decode cX6_order 28 = .ok (.iconst 1, 1) := by decide +kernel
theorem dX6_order_29 : decode cX6_order 29 = .ok (.if_icmp .ne 12, 3) := by decide +kernel
theorem dX6_order_32 : decode cX6_order 32 = .ok (.aload_n 0, 1) := by decide +kernel
theorem dX6_order_33 : decode cX6_order 33 = .ok (.getfield 42, 3) := by decide +kernel
theorem dX6_order_36 : decode cX6_order 36 = .ok (.iload_n 1, 1) := by decide +kernel
theorem dX6_order_37 : decode cX6_order 37 = .ok (.invokevirtual 163, 3) := by decide +kernel
theorem dX6_order_40 : decode cX6_order 40 = .ok (.ireturn, 1) := by decide +kernel
theorem dX6_order_41 : decode cX6_order 41 = .ok (.iload_n 2, 1) := by decide +kernel
theorem dX6_order_42 : decode cX6_order 42 = .ok (.bipush 10, 2) := by decide +kernel
theorem dX6_order_44 : decode cX6_order 44 = .ok (.if_icmp .lt 9, 3) := by decide +kernel
theorem dX6_order_47 : decode cX6_order 47 = .ok (.iload_n 2, 1) := by decide +kernel
theorem dX6_order_48 : decode cX6_order 48 = .ok (.bipush 17, 2) := by decide +kernel
theorem dX6_order_50 : decode cX6_order 50 = .ok (.if_icmp .lt 6, 3) := by decide +kernel
theorem dX6_order_53 : decode cX6_order 53 = .ok (.bipush (-102), 2) := by decide +kernel
theorem dX6_order_55 : decode cX6_order 55 = .ok (.ireturn, 1) := by decide +kernel
theorem dX6_order_56 : decode cX6_order 56 = .ok (.aload_n 0, 1) := by decide +kernel
theorem dX6_order_57 : decode cX6_order 57 = .ok (.getfield 19, 3) := by decide +kernel
theorem dX6_order_60 : decode cX6_order 60 = .ok (.iload_n 1, 1) := by decide +kernel
theorem dX6_order_61 : decode cX6_order 61 = .ok (.iload_n 2, 1) := by decide +kernel
theorem dX6_order_62 : decode cX6_order 62 = .ok (.bipush 10, 2) := by decide +kernel
theorem dX6_order_64 : decode cX6_order 64 = .ok (.isub, 1) := by decide +kernel
theorem dX6_order_65 : decode cX6_order 65 = .ok (.invokevirtual 136, 3) := by decide +kernel
theorem dX6_order_68 : decode cX6_order 68 = .ok (.ireturn, 1) := by decide +kernel
theorem dX6_tops_0 : decode cX6_tops 0 = .ok (.aload_n 0, 1) := by decide +kernel
theorem dX6_tops_1 : decode cX6_tops 1 = .ok (.iload_n 1, 1) := by decide +kernel
theorem dX6_tops_2 : decode cX6_tops 2 = .ok (.invokevirtual 105, 3) := by decide +kernel
theorem dX6_tops_5 : decode cX6_tops 5 = .ok (.ifCond .ne 6, 3) := by decide +kernel
theorem dX6_tops_8 : decode cX6_tops 8 = .ok (.bipush (-101), 2) := by decide +kernel
theorem dX6_tops_10 : decode cX6_tops 10 = .ok (.ireturn, 1) := by decide +kernel
theorem dX6_tops_11 : decode cX6_tops 11 = .ok (.iload_n 2, 1) := by decide +kernel
theorem dX6_tops_12 : decode cX6_tops 12 = .ok (.ifCond .lt 8, 3) := by decide +kernel
theorem dX6_tops_15 : decode cX6_tops 15 = .ok (.iload_n 2, 1) := by decide +kernel
theorem dX6_tops_16 : decode cX6_tops 16 = .ok (.iconst 1, 1) := by decide +kernel
theorem dX6_tops_17 : decode cX6_tops 17 = .ok (.if_icmp .le 6, 3) := by decide +kernel
theorem dX6_tops_20 : decode cX6_tops 20 = .ok (.bipush (-102), 2) := by decide +kernel
theorem dX6_tops_22 : decode cX6_tops 22 = .ok (.ireturn, 1) := by decide +kernel
theorem dX6_tops_23 : decode cX6_tops 23 = .ok (.iconst 0, 1) := by decide +kernel
theorem dX6_tops_24 : decode cX6_tops 24 = .ok (.istore_n 3, 1) := by decide +kernel
theorem dX6_tops_25 : decode cX6_tops 25 = .ok (.iconst 0, 1) := by decide +kernel
theorem dX6_tops_26 : decode cX6_tops 26 = .ok (.istore 4, 2) := by decide +kernel
theorem dX6_tops_28 : decode cX6_tops 28 = .ok (.iload 4, 2) := by decide +kernel
theorem dX6_tops_30 : decode cX6_tops 30 = .ok (.aload_n 0, 1) := by decide +kernel
theorem dX6_tops_31 : decode cX6_tops 31 = .ok (.getfield 19, 3) := by decide +kernel
theorem dX6_tops_34 : decode cX6_tops 34 = .ok (.getfield 156, 3) := by decide +kernel
theorem dX6_tops_37 : decode cX6_tops 37 = .ok (.if_icmp .ge 42, 3) := by decide +kernel
theorem dX6_tops_40 : decode cX6_tops 40 = .ok (.aload_n 0, 1) := by decide +kernel
theorem dX6_tops_41 : decode cX6_tops 41 = .ok (.getfield 19, 3) := by decide +kernel
theorem dX6_tops_44 : decode cX6_tops 44 = .ok (.iload 4, 2) := by decide +kernel
theorem dX6_tops_46 : decode cX6_tops 46 = .ok (.iconst 0, 1) := by decide +kernel
theorem dX6_tops_47 : decode cX6_tops 47 = .ok (.invokevirtual 136, 3) := by decide +kernel
theorem dX6_tops_50 : decode cX6_tops 50 = .ok (.iload_n 1, 1) := by decide +kernel
theorem dX6_tops_51 : decode cX6_tops 51 = .ok (.if_icmp .ne 22, 3) := by decide +kernel
theorem dX6_tops_54 : decode cX6_tops 54 = .ok (.iload_n 2, 1) := by decide +kernel
theorem dX6_tops_55 : decode cX6_tops 55 = .ok (.ifCond .eq 15, 3) := by decide +kernel
theorem dX6_tops_58 : decode cX6_tops 58 = .ok (.aload_n 0, 1) := by decide +kernel
theorem dX6_tops_59 : decode cX6_tops 59 = .ok (.getfield 42, 3) := by decide +kernel
theorem dX6_tops_62 : decode cX6_tops 62 = .ok (.iload 4, 2) := by decide +kernel
theorem dX6_tops_64 : decode cX6_tops 64 = .ok (.invokevirtual 160, 3) := by decide +kernel
theorem dX6_tops_67 : decode cX6_tops 67 = .ok (.ifCond .eq 6, 3) := by decide +kernel
theorem dX6_tops_70 : decode cX6_tops 70 = .ok (.iinc 3 1, 3) := by decide +kernel
theorem dX6_tops_73 : decode cX6_tops 73 = .ok (.iinc 4 1, 3) := by decide +kernel
theorem dX6_tops_76 : decode cX6_tops 76 = .ok (.goto (-48), 3) := by decide +kernel
theorem dX6_tops_79 : decode cX6_tops 79 = .ok (.iload_n 3, 1) := by decide +kernel
theorem dX6_tops_80 : decode cX6_tops 80 = .ok (.ireturn, 1) := by decide +kernel
theorem dX6_near_0 : decode cX6_near 0 = .ok (.aload_n 0, 1) := by decide +kernel
theorem dX6_near_1 : decode cX6_near 1 = .ok (.iload_n 1, 1) := by decide +kernel
theorem dX6_near_2 : decode cX6_near 2 = .ok (.invokevirtual 153, 3) := by decide +kernel
theorem dX6_near_5 : decode cX6_near 5 = .ok (.ifCond .ne 6, 3) := by decide +kernel
theorem dX6_near_8 : decode cX6_near 8 = .ok (.bipush (-101), 2) := by decide +kernel
theorem dX6_near_10 : decode cX6_near 10 = .ok (.ireturn, 1) := by decide +kernel
theorem dX6_near_11 : decode cX6_near 11 = .ok (.aload_n 0, 1) := by decide +kernel
theorem dX6_near_12 : decode cX6_near 12 = .ok (.getfield 51, 3) := by decide +kernel
theorem dX6_near_15 : decode cX6_near 15 = .ok (.aload_n 0, 1) := by decide +kernel
theorem dX6_near_16 : decode cX6_near 16 = .ok (.getfield 26, 3) := by decide +kernel
theorem dX6_near_19 : decode cX6_near 19 = .ok (.getfield 90, 3) := by decide +kernel
theorem dX6_near_22 : decode cX6_near 22 = .ok (.invokevirtual 166, 3) := by decide +kernel
theorem dX6_near_25 : decode cX6_near 25 = .ok (.aload_n 0, 1) := by decide +kernel
theorem dX6_near_26 : decode cX6_near 26 = .ok (.getfield 51, 3) := by decide +kernel
theorem dX6_near_29 : decode cX6_near 29 = .ok (.iload_n 1, 1) := by decide +kernel
theorem dX6_near_30 : decode cX6_near 30 = .ok (.invokevirtual 169, 3) := by decide +kernel
theorem dX6_near_33 : decode cX6_near 33 = .ok (.ireturn, 1) := by decide +kernel
theorem dX6_far_0 : decode cX6_far 0 = .ok (.iload_n 1, 1) := by decide +kernel
theorem dX6_far_1 : decode cX6_far 1 = .ok (.ifCond .lt 8, 3) := by decide +kernel
theorem dX6_far_4 : decode cX6_far 4 = .ok (.iload_n 1, 1) := by decide +kernel
theorem dX6_far_5 : decode cX6_far 5 = .ok (.iconst 3, 1) := by decide +kernel
theorem dX6_far_6 : decode cX6_far 6 = .ok (.if_icmp .le 6, 3) := by decide +kernel
theorem dX6_far_9 : decode cX6_far 9 = .ok (.bipush (-102), 2) := by decide +kernel
theorem dX6_far_11 : decode cX6_far 11 = .ok (.ireturn, 1) := by decide +kernel
theorem dX6_far_12 : decode cX6_far 12 = .ok (.aload_n 0, 1) := by decide +kernel
theorem dX6_far_13 : decode cX6_far 13 = .ok (.invokevirtual 146, 3) := by decide +kernel
theorem dX6_far_16 : decode cX6_far 16 = .ok (.ifCond .eq 6, 3) := by decide +kernel
theorem dX6_far_19 : decode cX6_far 19 = .ok (.bipush (-103), 2) := by decide +kernel
theorem dX6_far_21 : decode cX6_far 21 = .ok (.ireturn, 1) := by decide +kernel
theorem dX6_far_22 : decode cX6_far 22 = .ok (.aload_n 0, 1) := by decide +kernel
theorem dX6_far_23 : decode cX6_far 23 = .ok (.getfield 51, 3) := by decide +kernel
theorem dX6_far_26 : decode cX6_far 26 = .ok (.aload_n 0, 1) := by decide +kernel
theorem dX6_far_27 : decode cX6_far 27 = .ok (.getfield 26, 3) := by decide +kernel
theorem dX6_far_30 : decode cX6_far 30 = .ok (.getfield 90, 3) := by decide +kernel
theorem dX6_far_33 : decode cX6_far 33 = .ok (.invokevirtual 166, 3) := by decide +kernel
theorem dX6_far_36 : decode cX6_far 36 = .ok (.iload_n 1, 1) := by decide +kernel
theorem dX6_far_37 : decode cX6_far 37 = .ok (.iconst 2, 1) := by decide +kernel
theorem dX6_far_38 : decode cX6_far 38 = .ok (.if_icmp .ge 10, 3) := by decide +kernel
theorem dX6_far_41 : decode cX6_far 41 = .ok (.aload_n 0, 1) := by decide +kernel
theorem dX6_far_42 : decode cX6_far 42 = .ok (.invokevirtual 172, 3) := by decide +kernel
theorem dX6_far_45 : decode cX6_far 45 = .ok (.goto 7, 3) := by decide +kernel
theorem dX6_far_48 : decode cX6_far 48 = .ok (.aload_n 0, 1) := by decide +kernel
theorem dX6_far_49 : decode cX6_far 49 = .ok (.invokevirtual 175, 3) := by decide +kernel
theorem dX6_far_52 : decode cX6_far 52 = .ok (.istore_n 2, 1) := by decide +kernel
theorem dX6_far_53 : decode cX6_far 53 = .ok (.iload_n 1, 1) := by decide +kernel
theorem dX6_far_54 : decode cX6_far 54 = .ok (.iconst 2, 1) := by decide +kernel
theorem dX6_far_55 : decode cX6_far 55 = .ok (.irem, 1) := by decide +kernel
theorem dX6_far_56 : decode cX6_far 56 = .ok (.iconst 1, 1) := by decide +kernel
theorem dX6_far_57 : decode cX6_far 57 = .ok (.if_icmp .ne 7, 3) := by decide +kernel
theorem dX6_far_60 : decode cX6_far 60 = .ok (.iload_n 2, 1) := by decide +kernel
theorem dX6_far_61 : decode cX6_far 61 = .ok (.goto 11, 3) := by decide +kernel
theorem dX6_far_64 : decode cX6_far 64 = .ok (.aload_n 0, 1) := by decide +kernel
theorem dX6_far_65 : decode cX6_far 65 = .ok (.getfield 51, 3) := by decide +kernel
theorem dX6_far_68 : decode cX6_far 68 = .ok (.iload_n 2, 1) := by decide +kernel
theorem dX6_far_69 : decode cX6_far 69 = .ok (.invokevirtual 169, 3) := by decide +kernel
theorem dX6_far_72 : decode cX6_far 72 = .ok (.ireturn, 1) := by decide +kernel
theorem dX6_trim_0 : decode cX6_trim 0 = .ok (.iload_n 1, 1) := by decide +kernel
theorem dX6_trim_1 : decode cX6_trim 1 = .ok (.ifCond .lt 8, 3) := by decide +kernel
theorem dX6_trim_4 : decode cX6_trim 4 = .ok (.iload_n 1, 1) := by decide +kernel
theorem dX6_trim_5 : decode cX6_trim 5 = .ok (.iconst 1, 1) := by decide +kernel
theorem dX6_trim_6 : decode cX6_trim 6 = .ok (.if_icmp .le 6, 3) := by decide +kernel
theorem dX6_trim_9 : decode cX6_trim 9 = .ok (.bipush (-102), 2) := by decide +kernel
theorem dX6_trim_11 : decode cX6_trim 11 = .ok (.ireturn, 1) := by decide +kernel
theorem dX6_trim_12 : decode cX6_trim 12 = .ok (.aload_n 0, 1) := by decide +kernel
theorem dX6_trim_13 : decode cX6_trim 13 = .ok (.invokevirtual 146, 3) := by decide +kernel
theorem dX6_trim_16 : decode cX6_trim 16 = .ok (.ifCond .eq 6, 3) := by decide +kernel
theorem dX6_trim_19 : decode cX6_trim 19 = .ok (.bipush (-103), 2) := by decide +kernel
theorem dX6_trim_21 : decode cX6_trim 21 = .ok (.ireturn, 1) := by decide +kernel
theorem dX6_trim_22 : decode cX6_trim 22 = .ok (.aload_n 0, 1) := by decide +kernel
theorem dX6_trim_23 : decode cX6_trim 23 = .ok (.getfield 42, 3) := by decide +kernel
theorem dX6_trim_26 : decode cX6_trim 26 = .ok (.invokevirtual 178, 3) := by decide +kernel
theorem dX6_trim_29 : decode cX6_trim 29 = .ok (.istore_n 2, 1) := by decide +kernel
theorem dX6_trim_30 : decode cX6_trim 30 = .ok (.iload_n 1, 1) := by decide +kernel
theorem dX6_trim_31 : decode cX6_trim 31 = .ok (.ifCond .eq 8, 3) := by decide +kernel
theorem dX6_trim_34 : decode cX6_trim 34 = .ok (.iload_n 2, 1) := by decide +kernel
theorem dX6_trim_35 : decode cX6_trim 35 = .ok (.iconst (-1), 1) := by decide +kernel
theorem dX6_trim_36 : decode cX6_trim 36 = .ok (.if_icmp .ne 7, 3) := by decide +kernel
theorem dX6_trim_39 : decode cX6_trim 39 = .ok (.iload_n 2, 1) := by decide +kernel
theorem dX6_trim_40 : decode cX6_trim 40 = .ok (.goto 11, 3) := by decide +kernel
theorem dX6_trim_43 : decode cX6_trim 43 = .ok (.aload_n 0, 1) := by decide +kernel
theorem dX6_trim_44 : decode cX6_trim 44 = .ok (.getfield 42, 3) := by decide +kernel
theorem dX6_trim_47 : decode cX6_trim 47 = .ok (.iload_n 2, 1) := by decide +kernel
theorem dX6_trim_48 : decode cX6_trim 48 = .ok (.invokevirtual 163, 3) := by decide +kernel
theorem dX6_trim_51 : decode cX6_trim 51 = .ok (.ireturn, 1) := by decide +kernel
theorem dX6_odds_0 : decode cX6_odds 0 = .ok (.aload_n 0, 1) := by decide +kernel
theorem dX6_odds_1 : decode cX6_odds 1 = .ok (.iload_n 1, 1) := by decide +kernel
theorem dX6_odds_2 : decode cX6_odds 2 = .ok (.invokevirtual 105, 3) := by decide +kernel
theorem dX6_odds_5 : decode cX6_odds 5 = .ok (.ifCond .eq 16, 3) := by decide +kernel
theorem dX6_odds_8 : decode cX6_odds 8 = .ok (.aload_n 0, 1) := by decide +kernel
theorem dX6_odds_9 : decode cX6_odds 9 = .ok (.iload_n 2, 1) := by decide +kernel
theorem dX6_odds_10 : decode cX6_odds 10 = .ok (.invokevirtual 105, 3) := by decide +kernel
theorem dX6_odds_13 : decode cX6_odds 13 = .ok (.ifCond .eq 8, 3) := by decide +kernel
theorem dX6_odds_16 : decode cX6_odds 16 = .ok (.iload_n 1, 1) := by decide +kernel
theorem dX6_odds_17 : decode cX6_odds 17 = .ok (.iload_n 2, 1) := by decide +kernel
theorem dX6_odds_18 : decode cX6_odds 18 = .ok (.if_icmp .ne 6, 3) := by decide +kernel
theorem dX6_odds_21 : decode cX6_odds 21 = .ok (.bipush (-101), 2) := by decide +kernel
theorem dX6_odds_23 : decode cX6_odds 23 = .ok (.ireturn, 1) := by decide +kernel
theorem dX6_odds_24 : decode cX6_odds 24 = .ok (.iload_n 3, 1) := by decide +kernel
theorem dX6_odds_25 : decode cX6_odds 25 = .ok (.ifCond .lt 8, 3) := by decide +kernel
theorem dX6_odds_28 : decode cX6_odds 28 = .ok (.iload_n 3, 1) := by decide +kernel
theorem dX6_odds_29 : decode cX6_odds 29 = .ok (.iconst 1, 1) := by decide +kernel
theorem dX6_odds_30 : decode cX6_odds 30 = .ok (.if_icmp .le 6, 3) := by decide +kernel
theorem dX6_odds_33 : decode cX6_odds 33 = .ok (.bipush (-102), 2) := by decide +kernel
theorem dX6_odds_35 : decode cX6_odds 35 = .ok (.ireturn, 1) := by decide +kernel
theorem dX6_odds_36 : decode cX6_odds 36 = .ok (.aload_n 0, 1) := by decide +kernel
theorem dX6_odds_37 : decode cX6_odds 37 = .ok (.getfield 42, 3) := by decide +kernel
theorem dX6_odds_40 : decode cX6_odds 40 = .ok (.getfield 157, 3) := by decide +kernel
theorem dX6_odds_43 : decode cX6_odds 43 = .ok (.ifCond .ne 5, 3) := by decide +kernel
theorem dX6_odds_46 : decode cX6_odds 46 = .ok (.iload_n 3, 1) := by decide +kernel
theorem dX6_odds_47 : decode cX6_odds 47 = .ok (.ireturn, 1) := by decide +kernel
theorem dX6_odds_48 : decode cX6_odds 48 = .ok (.aload_n 0, 1) := by decide +kernel
theorem dX6_odds_49 : decode cX6_odds 49 = .ok (.getfield 42, 3) := by decide +kernel
theorem dX6_odds_52 : decode cX6_odds 52 = .ok (.iload_n 1, 1) := by decide +kernel
theorem dX6_odds_53 : decode cX6_odds 53 = .ok (.iload_n 2, 1) := by decide +kernel
theorem dX6_odds_54 : decode cX6_odds 54 = .ok (.invokevirtual 181, 3) := by decide +kernel
theorem dX6_odds_57 : decode cX6_odds 57 = .ok (.istore 4, 2) := by decide +kernel
theorem dX6_odds_59 : decode cX6_odds 59 = .ok (.aload_n 0, 1) := by decide +kernel
theorem dX6_odds_60 : decode cX6_odds 60 = .ok (.getfield 42, 3) := by decide +kernel
theorem dX6_odds_63 : decode cX6_odds 63 = .ok (.getfield 157, 3) := by decide +kernel
theorem dX6_odds_66 : decode cX6_odds 66 = .ok (.iload 4, 2) := by decide +kernel
theorem dX6_odds_68 : decode cX6_odds 68 = .ok (.invokestatic 184, 3) := by decide +kernel
theorem dX6_odds_71 : decode cX6_odds 71 = .ok (.istore 5, 2) := by decide +kernel
theorem dX6_odds_73 : decode cX6_odds 73 = .ok (.iload_n 3, 1) := by decide +kernel
theorem dX6_odds_74 : decode cX6_odds 74 = .ok (.ifCond .ne 8, 3) := by decide +kernel
theorem dX6_odds_77 : decode cX6_odds 77 = .ok (.iload 4, 2) := by decide +kernel
theorem dX6_odds_79 : decode cX6_odds 79 = .ok (.goto 10, 3) := by decide +kernel
theorem dX6_odds_82 : decode cX6_odds 82 = .ok (.aload_n 0, 1) := by decide +kernel
theorem dX6_odds_83 : decode cX6_odds 83 = .ok (.getfield 42, 3) := by decide +kernel
theorem dX6_odds_86 : decode cX6_odds 86 = .ok (.getfield 157, 3) := by decide +kernel
theorem dX6_odds_89 : decode cX6_odds 89 = .ok (.iload 5, 2) := by decide +kernel
theorem dX6_odds_91 : decode cX6_odds 91 = .ok (.idiv, 1) := by decide +kernel
theorem dX6_odds_92 : decode cX6_odds 92 = .ok (.ireturn, 1) := by decide +kernel
theorem dX6_see_0 : decode cX6_see 0 = .ok (.aload_n 0, 1) := by decide +kernel
theorem dX6_see_1 : decode cX6_see 1 = .ok (.iload_n 1, 1) := by decide +kernel
theorem dX6_see_2 : decode cX6_see 2 = .ok (.invokevirtual 105, 3) := by decide +kernel
theorem dX6_see_5 : decode cX6_see 5 = .ok (.ifCond .ne 6, 3) := by decide +kernel
theorem dX6_see_8 : decode cX6_see 8 = .ok (.bipush (-101), 2) := by decide +kernel
theorem dX6_see_10 : decode cX6_see 10 = .ok (.ireturn, 1) := by decide +kernel
theorem dX6_see_11 : decode cX6_see 11 = .ok (.iload_n 2, 1) := by decide +kernel
theorem dX6_see_12 : decode cX6_see 12 = .ok (.iconst 1, 1) := by decide +kernel
theorem dX6_see_13 : decode cX6_see 13 = .ok (.if_icmp .lt 14, 3) := by decide +kernel
theorem dX6_see_16 : decode cX6_see 16 = .ok (.iload_n 2, 1) := by decide +kernel
theorem dX6_see_17 : decode cX6_see 17 = .ok (.aload_n 0, 1) := by decide +kernel
theorem dX6_see_18 : decode cX6_see 18 = .ok (.getfield 19, 3) := by decide +kernel
theorem dX6_see_21 : decode cX6_see 21 = .ok (.getfield 102, 3) := by decide +kernel
theorem dX6_see_24 : decode cX6_see 24 = .ok (.if_icmp .le 6, 3) := by decide +kernel
theorem dX6_see_27 : decode cX6_see 27 = .ok (.bipush (-102), 2) := by decide +kernel
theorem dX6_see_29 : decode cX6_see 29 = .ok (.ireturn, 1) := by decide +kernel
theorem dX6_see_30 : decode cX6_see 30 = .ok (.aload_n 0, 1) := by decide +kernel
theorem dX6_see_31 : decode cX6_see 31 = .ok (.getfield 26, 3) := by decide +kernel
theorem dX6_see_34 : decode cX6_see 34 = .ok (.getfield 96, 3) := by decide +kernel
theorem dX6_see_37 : decode cX6_see 37 = .ok (.bipush 6, 2) := by decide +kernel
theorem dX6_see_39 : decode cX6_see 39 = .ok (.if_icmp .lt 6, 3) := by decide +kernel
theorem dX6_see_42 : decode cX6_see 42 = .ok (.bipush (-104), 2) := by decide +kernel
theorem dX6_see_44 : decode cX6_see 44 = .ok (.ireturn, 1) := by decide +kernel
theorem dX6_see_45 : decode cX6_see 45 = .ok (.aload_n 0, 1) := by decide +kernel
theorem dX6_see_46 : decode cX6_see 46 = .ok (.getfield 26, 3) := by decide +kernel
theorem dX6_see_49 : decode cX6_see 49 = .ok (.iload_n 1, 1) := by decide +kernel
theorem dX6_see_50 : decode cX6_see 50 = .ok (.iload_n 2, 1) := by decide +kernel
theorem dX6_see_51 : decode cX6_see 51 = .ok (.iload_n 3, 1) := by decide +kernel
theorem dX6_see_52 : decode cX6_see 52 = .ok (.invokevirtual 187, 3) := by decide +kernel
theorem dX6_see_55 : decode cX6_see 55 = .ok (.aload_n 0, 1) := by decide +kernel
theorem dX6_see_56 : decode cX6_see 56 = .ok (.getfield 26, 3) := by decide +kernel
theorem dX6_see_59 : decode cX6_see 59 = .ok (.getfield 96, 3) := by decide +kernel
theorem dX6_see_62 : decode cX6_see 62 = .ok (.ireturn, 1) := by decide +kernel
theorem dX6_forget_0 : decode cX6_forget 0 = .ok (.aload_n 0, 1) := by decide +kernel
theorem dX6_forget_1 : decode cX6_forget 1 = .ok (.getfield 26, 3) := by decide +kernel
theorem dX6_forget_4 : decode cX6_forget 4 = .ok (.getfield 96, 3) := by decide +kernel
theorem dX6_forget_7 : decode cX6_forget 7 = .ok (.istore_n 1, 1) := by decide +kernel
theorem dX6_forget_8 : decode cX6_forget 8 = .ok (.aload_n 0, 1) := by decide +kernel
theorem dX6_forget_9 : decode cX6_forget 9 = .ok (.getfield 26, 3) := by decide +kernel
theorem dX6_forget_12 : decode cX6_forget 12 = .ok (.iconst 0, 1) := by decide +kernel
theorem dX6_forget_13 : decode cX6_forget 13 = .ok (.putfield 96, 3) := by decide +kernel
theorem dX6_forget_16 : decode cX6_forget 16 = .ok (.iload_n 1, 1) := by decide +kernel
theorem dX6_forget_17 : decode cX6_forget 17 = .ok (.ireturn, 1) := by decide +kernel
theorem dX6_could_0 : decode cX6_could 0 = .ok (.aload_n 0, 1) := by decide +kernel
theorem dX6_could_1 : decode cX6_could 1 = .ok (.invokevirtual 146, 3) := by decide +kernel
theorem dX6_could_4 : decode cX6_could 4 = .ok (.ifCond .eq 6, 3) := by decide +kernel
theorem dX6_could_7 : decode cX6_could 7 = .ok (.bipush (-103), 2) := by decide +kernel
theorem dX6_could_9 : decode cX6_could 9 = .ok (.ireturn, 1) := by decide +kernel
theorem dX6_could_10 : decode cX6_could 10 = .ok (.aload_n 0, 1) := by decide +kernel
theorem dX6_could_11 : decode cX6_could 11 = .ok (.getfield 60, 3) := by decide +kernel
theorem dX6_could_14 : decode cX6_could 14 = .ok (.invokevirtual 191, 3) := by decide +kernel
theorem dX6_could_17 : decode cX6_could 17 = .ok (.ireturn, 1) := by decide +kernel
theorem dX6_trial_0 : decode cX6_trial 0 = .ok (.aload_n 0, 1) := by decide +kernel
theorem dX6_trial_1 : decode cX6_trial 1 = .ok (.invokevirtual 146, 3) := by decide +kernel
theorem dX6_trial_4 : decode cX6_trial 4 = .ok (.ifCond .eq 6, 3) := by decide +kernel
theorem dX6_trial_7 : decode cX6_trial 7 = .ok (.bipush (-103), 2) := by decide +kernel
theorem dX6_trial_9 : decode cX6_trial 9 = .ok (.ireturn, 1) := by decide +kernel
theorem dX6_trial_10 : decode cX6_trial 10 = .ok (.aload_n 0, 1) := by decide +kernel
theorem dX6_trial_11 : decode cX6_trial 11 = .ok (.getfield 60, 3) := by decide +kernel
theorem dX6_trial_14 : decode cX6_trial 14 = .ok (.invokevirtual 194, 3) := by decide +kernel
theorem dX6_trial_17 : decode cX6_trial 17 = .ok (.ireturn, 1) := by decide +kernel
theorem dX6_shuffles_0 : decode cX6_shuffles 0 = .ok (.iload_n 1, 1) := by decide +kernel
theorem dX6_shuffles_1 : decode cX6_shuffles 1 = .ok (.iconst 1, 1) := by decide +kernel
theorem dX6_shuffles_2 : decode cX6_shuffles 2 = .ok (.if_icmp .lt 22, 3) := by decide +kernel
theorem dX6_shuffles_5 : decode cX6_shuffles 5 = .ok (.iload_n 1, 1) := by decide +kernel
theorem dX6_shuffles_6 : decode cX6_shuffles 6 = .ok (.bipush 99, 2) := by decide +kernel
theorem dX6_shuffles_8 : decode cX6_shuffles 8 = .ok (.if_icmp .gt 16, 3) := by decide +kernel
theorem dX6_shuffles_11 : decode cX6_shuffles 11 = .ok (.iload_n 2, 1) := by decide +kernel
theorem dX6_shuffles_12 : decode cX6_shuffles 12 = .ok (.ifCond .lt 12, 3) := by decide +kernel
theorem dX6_shuffles_15 : decode cX6_shuffles 15 = .ok (.iload_n 3, 1) := by decide +kernel
theorem dX6_shuffles_16 : decode cX6_shuffles 16 = .ok (.ifCond .lt 8, 3) := by decide +kernel
theorem dX6_shuffles_19 : decode cX6_shuffles 19 = .ok (.iload_n 3, 1) := by decide +kernel
theorem dX6_shuffles_20 : decode cX6_shuffles 20 = .ok (.iconst 2, 1) := by decide +kernel
theorem dX6_shuffles_21 : decode cX6_shuffles 21 = .ok (.if_icmp .le 6, 3) := by decide +kernel
theorem dX6_shuffles_24 : decode cX6_shuffles 24 = .ok (.bipush (-102), 2) := by decide +kernel
theorem dX6_shuffles_26 : decode cX6_shuffles 26 = .ok (.ireturn, 1) := by decide +kernel
theorem dX6_shuffles_27 : decode cX6_shuffles 27 = .ok (.aload_n 0, 1) := by decide +kernel
theorem dX6_shuffles_28 : decode cX6_shuffles 28 = .ok (.invokevirtual 146, 3) := by decide +kernel
theorem dX6_shuffles_31 : decode cX6_shuffles 31 = .ok (.ifCond .eq 6, 3) := by decide +kernel
theorem dX6_shuffles_34 : decode cX6_shuffles 34 = .ok (.bipush (-103), 2) := by decide +kernel
theorem dX6_shuffles_36 : decode cX6_shuffles 36 = .ok (.ireturn, 1) := by decide +kernel
theorem dX6_shuffles_37 : decode cX6_shuffles 37 = .ok (.aload_n 0, 1) := by decide +kernel
theorem dX6_shuffles_38 : decode cX6_shuffles 38 = .ok (.getfield 26, 3) := by decide +kernel
theorem dX6_shuffles_41 : decode cX6_shuffles 41 = .ok (.getfield 90, 3) := by decide +kernel
theorem dX6_shuffles_44 : decode cX6_shuffles 44 = .ok (.istore 4, 2) := by decide +kernel
theorem dX6_shuffles_46 : decode cX6_shuffles 46 = .ok (.iconst 0, 1) := by decide +kernel
theorem dX6_shuffles_47 : decode cX6_shuffles 47 = .ok (.istore 5, 2) := by decide +kernel
theorem dX6_shuffles_49 : decode cX6_shuffles 49 = .ok (.iload_n 2, 1) := by decide +kernel
theorem dX6_shuffles_50 : decode cX6_shuffles 50 = .ok (.istore 6, 2) := by decide +kernel
theorem dX6_shuffles_52 : decode cX6_shuffles 52 = .ok (.iconst 0, 1) := by decide +kernel
theorem dX6_shuffles_53 : decode cX6_shuffles 53 = .ok (.istore 7, 2) := by decide +kernel
theorem dX6_shuffles_55 : decode cX6_shuffles 55 = .ok (.iload 7, 2) := by decide +kernel
theorem dX6_shuffles_57 : decode cX6_shuffles 57 = .ok (.iload_n 1, 1) := by decide +kernel
theorem dX6_shuffles_58 : decode cX6_shuffles 58 = .ok (.if_icmp .ge 82, 3) := by decide +kernel
theorem dX6_shuffles_61 : decode cX6_shuffles 61 = .ok (.iload 6, 2) := by decide +kernel
theorem dX6_shuffles_63 : decode cX6_shuffles 63 = .ok (.invokestatic 197, 3) := by decide +kernel
theorem dX6_shuffles_66 : decode cX6_shuffles 66 = .ok (.istore 8, 2) := by decide +kernel
theorem dX6_shuffles_68 : decode cX6_shuffles 68 = .ok (.iload 8, 2) := by decide +kernel
theorem dX6_shuffles_70 : decode cX6_shuffles 70 = .ok (.invokestatic 197, 3) := by decide +kernel
theorem dX6_shuffles_73 : decode cX6_shuffles 73 = .ok (.istore 9, 2) := by decide +kernel
theorem dX6_shuffles_75 : decode cX6_shuffles 75 = .ok (.aload_n 0, 1) := by decide +kernel
theorem dX6_shuffles_76 : decode cX6_shuffles 76 = .ok (.getfield 19, 3) := by decide +kernel
theorem dX6_shuffles_79 : decode cX6_shuffles 79 = .ok (.iload 4, 2) := by decide +kernel
theorem dX6_shuffles_81 : decode cX6_shuffles 81 = .ok (.iload 8, 2) := by decide +kernel
theorem dX6_shuffles_83 : decode cX6_shuffles 83 = .ok (.aload_n 0, 1) := by decide +kernel
theorem dX6_shuffles_84 : decode cX6_shuffles 84 = .ok (.getfield 19, 3) := by decide +kernel
theorem dX6_shuffles_87 : decode cX6_shuffles 87 = .ok (.getfield 102, 3) := by decide +kernel
theorem dX6_shuffles_90 : decode cX6_shuffles 90 = .ok (.invokestatic 200, 3) := by decide +kernel
theorem dX6_shuffles_93 : decode cX6_shuffles 93 = .ok (.iload 9, 2) := by decide +kernel
theorem dX6_shuffles_95 : decode cX6_shuffles 95 = .ok (.aload_n 0, 1) := by decide +kernel
theorem dX6_shuffles_96 : decode cX6_shuffles 96 = .ok (.getfield 19, 3) := by decide +kernel
theorem dX6_shuffles_99 : decode cX6_shuffles 99 = .ok (.getfield 102, 3) := by decide +kernel
theorem dX6_shuffles_102 : decode cX6_shuffles 102 = .ok (.invokestatic 200, 3) := by decide +kernel
theorem dX6_shuffles_105 : decode cX6_shuffles 105 = .ok (.invokevirtual 139, 3) := by decide +kernel
theorem dX6_shuffles_108 : decode cX6_shuffles 108 = .ok (.istore 10, 2) := by decide +kernel
theorem dX6_shuffles_110 : decode cX6_shuffles 110 = .ok (.iload 10, 2) := by decide +kernel
theorem dX6_shuffles_112 : decode cX6_shuffles 112 = .ok (.iconst (-1), 1) := by decide +kernel
theorem dX6_shuffles_113 : decode cX6_shuffles 113 = .ok (.if_icmp .eq 17, 3) := by decide +kernel
theorem dX6_shuffles_116 : decode cX6_shuffles 116 = .ok (.iload 10, 2) := by decide +kernel
theorem dX6_shuffles_118 : decode cX6_shuffles 118 = .ok (.iload 4, 2) := by decide +kernel
theorem dX6_shuffles_120 : decode cX6_shuffles 120 = .ok (.if_icmp .eq 10, 3) := by decide +kernel
theorem dX6_shuffles_123 : decode cX6_shuffles 123 = .ok (.iload 10, 2) := by decide +kernel
theorem dX6_shuffles_125 : decode cX6_shuffles 125 = .ok (.istore 4, 2) := by decide +kernel
theorem dX6_shuffles_127 : decode cX6_shuffles 127 = .ok (.iinc 5 1, 3) := by decide +kernel
theorem dX6_shuffles_130 : decode cX6_shuffles 130 = .ok (.iload 9, 2) := by decide +kernel
theorem dX6_shuffles_132 : decode cX6_shuffles 132 = .ok (.istore 6, 2) := by decide +kernel
theorem dX6_shuffles_134 : decode cX6_shuffles 134 = .ok (.iinc 7 1, 3) := by decide +kernel
theorem dX6_shuffles_137 : decode cX6_shuffles 137 = .ok (.goto (-82), 3) := by decide +kernel
theorem dX6_shuffles_140 : decode cX6_shuffles 140 = .ok (.iload_n 3, 1) := by decide +kernel
theorem dX6_shuffles_141 : decode cX6_shuffles 141 = .ok (.ifCond .ne 6, 3) := by decide +kernel
theorem dX6_shuffles_144 : decode cX6_shuffles 144 = .ok (.iload 5, 2) := by decide +kernel
theorem dX6_shuffles_146 : decode cX6_shuffles 146 = .ok (.ireturn, 1) := by decide +kernel
theorem dX6_shuffles_147 : decode cX6_shuffles 147 = .ok (.iload_n 3, 1) := by decide +kernel
theorem dX6_shuffles_148 : decode cX6_shuffles 148 = .ok (.iconst 1, 1) := by decide +kernel
theorem dX6_shuffles_149 : decode cX6_shuffles 149 = .ok (.if_icmp .ne 8, 3) := by decide +kernel
theorem dX6_shuffles_152 : decode cX6_shuffles 152 = .ok (.iload 4, 2) := by decide +kernel
theorem dX6_shuffles_154 : decode cX6_shuffles 154 = .ok (.goto 5, 3) := by decide +kernel
theorem dX6_shuffles_157 : decode cX6_shuffles 157 = .ok (.iload 6, 2) := by decide +kernel
theorem dX6_shuffles_159 : decode cX6_shuffles 159 = .ok (.ireturn, 1) := by decide +kernel
theorem dX6_image_0 : decode cX6_image 0 = .ok (.aload_n 0, 1) := by decide +kernel
theorem dX6_image_1 : decode cX6_image 1 = .ok (.invokevirtual 146, 3) := by decide +kernel
theorem dX6_image_4 : decode cX6_image 4 = .ok (.ifCond .eq 6, 3) := by decide +kernel
theorem dX6_image_7 : decode cX6_image 7 = .ok (.bipush (-103), 2) := by decide +kernel
theorem dX6_image_9 : decode cX6_image 9 = .ok (.ireturn, 1) := by decide +kernel
theorem dX6_image_10 : decode cX6_image 10 = .ok (.aload_n 0, 1) := by decide +kernel
theorem dX6_image_11 : decode cX6_image 11 = .ok (.getfield 30, 3) := by decide +kernel
theorem dX6_image_14 : decode cX6_image 14 = .ok (.aload_n 0, 1) := by decide +kernel
theorem dX6_image_15 : decode cX6_image 15 = .ok (.getfield 26, 3) := by decide +kernel
theorem dX6_image_18 : decode cX6_image 18 = .ok (.invokevirtual 203, 3) := by decide +kernel
theorem dX6_image_21 : decode cX6_image 21 = .ok (.aload_n 0, 1) := by decide +kernel
theorem dX6_image_22 : decode cX6_image 22 = .ok (.iconst 1, 1) := by decide +kernel
theorem dX6_image_23 : decode cX6_image 23 = .ok (.putfield 64, 3) := by decide +kernel
theorem dX6_image_26 : decode cX6_image 26 = .ok (.aload_n 0, 1) := by decide +kernel
theorem dX6_image_27 : decode cX6_image 27 = .ok (.getfield 30, 3) := by decide +kernel
theorem dX6_image_30 : decode cX6_image 30 = .ok (.getfield 93, 3) := by decide +kernel
theorem dX6_image_33 : decode cX6_image 33 = .ok (.ireturn, 1) := by decide +kernel
theorem dX6_restore_0 : decode cX6_restore 0 = .ok (.aload_n 0, 1) := by decide +kernel
theorem dX6_restore_1 : decode cX6_restore 1 = .ok (.getfield 64, 3) := by decide +kernel
theorem dX6_restore_4 : decode cX6_restore 4 = .ok (.ifCond .ne 6, 3) := by decide +kernel
theorem dX6_restore_7 : decode cX6_restore 7 = .ok (.bipush (-103), 2) := by decide +kernel
theorem dX6_restore_9 : decode cX6_restore 9 = .ok (.ireturn, 1) := by decide +kernel
theorem dX6_restore_10 : decode cX6_restore 10 = .ok (.aload_n 0, 1) := by decide +kernel
theorem dX6_restore_11 : decode cX6_restore 11 = .ok (.getfield 26, 3) := by decide +kernel
theorem dX6_restore_14 : decode cX6_restore 14 = .ok (.aload_n 0, 1) := by decide +kernel
theorem dX6_restore_15 : decode cX6_restore 15 = .ok (.getfield 30, 3) := by decide +kernel
theorem dX6_restore_18 : decode cX6_restore 18 = .ok (.invokevirtual 203, 3) := by decide +kernel
theorem dX6_restore_21 : decode cX6_restore 21 = .ok (.aload_n 0, 1) := by decide +kernel
theorem dX6_restore_22 : decode cX6_restore 22 = .ok (.getfield 42, 3) := by decide +kernel
theorem dX6_restore_25 : decode cX6_restore 25 = .ok (.invokevirtual 99, 3) := by decide +kernel
theorem dX6_restore_28 : decode cX6_restore 28 = .ok (.aload_n 0, 1) := by decide +kernel
theorem dX6_restore_29 : decode cX6_restore 29 = .ok (.getfield 26, 3) := by decide +kernel
theorem dX6_restore_32 : decode cX6_restore 32 = .ok (.getfield 93, 3) := by decide +kernel
theorem dX6_restore_35 : decode cX6_restore 35 = .ok (.ireturn, 1) := by decide +kernel
theorem dX6_count_0 : decode cX6_count 0 = .ok (.iload_n 1, 1) := by decide +kernel
theorem dX6_count_1 : decode cX6_count 1 = .ok (.tableswitch 127 0 9 #[55, 63, 68, 83, 88, 93, 98, 106, 114, 122], 55) := by decide +kernel
theorem dX6_count_56 : decode cX6_count 56 = .ok (.aload_n 0, 1) := by decide +kernel
theorem dX6_count_57 : decode cX6_count 57 = .ok (.getfield 19, 3) := by decide +kernel
theorem dX6_count_60 : decode cX6_count 60 = .ok (.getfield 102, 3) := by decide +kernel
theorem dX6_count_63 : decode cX6_count 63 = .ok (.ireturn, 1) := by decide +kernel
theorem dX6_count_64 : decode cX6_count 64 = .ok (.aload_n 0, 1) := by decide +kernel
theorem dX6_count_65 : decode cX6_count 65 = .ok (.invokevirtual 207, 3) := by decide +kernel
theorem dX6_count_68 : decode cX6_count 68 = .ok (.ireturn, 1) := by decide +kernel
theorem dX6_count_69 : decode cX6_count 69 = .ok (.aload_n 0, 1) := by decide +kernel
theorem dX6_count_70 : decode cX6_count 70 = .ok (.getfield 42, 3) := by decide +kernel
theorem dX6_count_73 : decode cX6_count 73 = .ok (.aload_n 0, 1) := by decide +kernel
theorem dX6_count_74 : decode cX6_count 74 = .ok (.getfield 26, 3) := by decide +kernel
theorem dX6_count_77 : decode cX6_count 77 = .ok (.getfield 90, 3) := by decide +kernel
theorem dX6_count_80 : decode cX6_count 80 = .ok (.invokevirtual 163, 3) := by decide +kernel
theorem dX6_count_83 : decode cX6_count 83 = .ok (.ireturn, 1) := by decide +kernel
theorem dX6_count_84 : decode cX6_count 84 = .ok (.aload_n 0, 1) := by decide +kernel
theorem dX6_count_85 : decode cX6_count 85 = .ok (.invokevirtual 143, 3) := by decide +kernel
theorem dX6_count_88 : decode cX6_count 88 = .ok (.ireturn, 1) := by decide +kernel
theorem dX6_count_89 : decode cX6_count 89 = .ok (.aload_n 0, 1) := by decide +kernel
theorem dX6_count_90 : decode cX6_count 90 = .ok (.invokevirtual 210, 3) := by decide +kernel
theorem dX6_count_93 : decode cX6_count 93 = .ok (.ireturn, 1) := by decide +kernel
theorem dX6_count_94 : decode cX6_count 94 = .ok (.aload_n 0, 1) := by decide +kernel
theorem dX6_count_95 : decode cX6_count 95 = .ok (.invokevirtual 213, 3) := by decide +kernel
theorem dX6_count_98 : decode cX6_count 98 = .ok (.ireturn, 1) := by decide +kernel
theorem dX6_count_99 : decode cX6_count 99 = .ok (.aload_n 0, 1) := by decide +kernel
theorem dX6_count_100 : decode cX6_count 100 = .ok (.getfield 26, 3) := by decide +kernel
theorem dX6_count_103 : decode cX6_count 103 = .ok (.getfield 93, 3) := by decide +kernel
theorem dX6_count_106 : decode cX6_count 106 = .ok (.ireturn, 1) := by decide +kernel
theorem dX6_count_107 : decode cX6_count 107 = .ok (.aload_n 0, 1) := by decide +kernel
theorem dX6_count_108 : decode cX6_count 108 = .ok (.getfield 26, 3) := by decide +kernel
theorem dX6_count_111 : decode cX6_count 111 = .ok (.getfield 96, 3) := by decide +kernel
theorem dX6_count_114 : decode cX6_count 114 = .ok (.ireturn, 1) := by decide +kernel
theorem dX6_count_115 : decode cX6_count 115 = .ok (.aload_n 0, 1) := by decide +kernel
theorem dX6_count_116 : decode cX6_count 116 = .ok (.getfield 10, 3) := by decide +kernel
theorem dX6_count_119 : decode cX6_count 119 = .ok (.getfield 72, 3) := by decide +kernel
theorem dX6_count_122 : decode cX6_count 122 = .ok (.ireturn, 1) := by decide +kernel
theorem dX6_count_123 : decode cX6_count 123 = .ok (.aload_n 0, 1) := by decide +kernel
theorem dX6_count_124 : decode cX6_count 124 = .ok (.getfield 68, 3) := by decide +kernel
theorem dX6_count_127 : decode cX6_count 127 = .ok (.ireturn, 1) := by decide +kernel
theorem dX6_count_128 : decode cX6_count 128 = .ok (.bipush (-102), 2) := by decide +kernel
theorem dX6_count_130 : decode cX6_count 130 = .ok (.ireturn, 1) := by decide +kernel
theorem dX6_digest_0 : decode cX6_digest 0 = .ok (.ldc2_w 216, 3) := by decide +kernel
theorem dX6_digest_3 : decode cX6_digest 3 = .ok (.lstore_n 1, 1) := by decide +kernel
theorem dX6_digest_4 : decode cX6_digest 4 = .ok (.iconst 0, 1) := by decide +kernel
theorem dX6_digest_5 : decode cX6_digest 5 = .ok (.istore_n 3, 1) := by decide +kernel
theorem dX6_digest_6 : decode cX6_digest 6 = .ok (.iload_n 3, 1) := by decide +kernel
theorem dX6_digest_7 : decode cX6_digest 7 = .ok (.aload_n 0, 1) := by decide +kernel
theorem dX6_digest_8 : decode cX6_digest 8 = .ok (.getfield 19, 3) := by decide +kernel
theorem dX6_digest_11 : decode cX6_digest 11 = .ok (.getfield 102, 3) := by decide +kernel
theorem dX6_digest_14 : decode cX6_digest 14 = .ok (.if_icmp .ge 69, 3) := by decide +kernel
theorem dX6_digest_17 : decode cX6_digest 17 = .ok (.iconst 0, 1) := by decide +kernel
theorem dX6_digest_18 : decode cX6_digest 18 = .ok (.istore 4, 2) := by decide +kernel
theorem dX6_digest_20 : decode cX6_digest 20 = .ok (.iload 4, 2) := by decide +kernel
theorem dX6_digest_22 : decode cX6_digest 22 = .ok (.iconst 3, 1) := by decide +kernel
theorem dX6_digest_23 : decode cX6_digest 23 = .ok (.if_icmp .gt 24, 3) := by decide +kernel
theorem dX6_digest_26 : decode cX6_digest 26 = .ok (.ldc2_w 218, 3) := by decide +kernel
theorem dX6_digest_29 : decode cX6_digest 29 = .ok (.lload_n 1, 1) := by decide +kernel
theorem dX6_digest_30 : decode cX6_digest 30 = .ok (.lmul, 1) := by decide +kernel
theorem dX6_digest_31 : decode cX6_digest 31 = .ok (.aload_n 0, 1) := by decide +kernel
theorem dX6_digest_32 : decode cX6_digest 32 = .ok (.iload_n 3, 1) := by decide +kernel
theorem dX6_digest_33 : decode cX6_digest 33 = .ok (.iload 4, 2) := by decide +kernel
theorem dX6_digest_35 : decode cX6_digest 35 = .ok (.invokevirtual 220, 3) := by decide +kernel
theorem dX6_digest_38 : decode cX6_digest 38 = .ok (.i2l, 1) := by decide +kernel
theorem dX6_digest_39 : decode cX6_digest 39 = .ok (.ladd, 1) := by decide +kernel
theorem dX6_digest_40 : decode cX6_digest 40 = .ok (.lstore_n 1, 1) := by decide +kernel
theorem dX6_digest_41 : decode cX6_digest 41 = .ok (.iinc 4 1, 3) := by decide +kernel
theorem dX6_digest_44 : decode cX6_digest 44 = .ok (.goto (-24), 3) := by decide +kernel
theorem dX6_digest_47 : decode cX6_digest 47 = .ok (.iconst 0, 1) := by decide +kernel
theorem dX6_digest_48 : decode cX6_digest 48 = .ok (.istore 4, 2) := by decide +kernel
theorem dX6_digest_50 : decode cX6_digest 50 = .ok (.iload 4, 2) := by decide +kernel
theorem dX6_digest_52 : decode cX6_digest 52 = .ok (.iconst 1, 1) := by decide +kernel
theorem dX6_digest_53 : decode cX6_digest 53 = .ok (.if_icmp .gt 24, 3) := by decide +kernel
theorem dX6_digest_56 : decode cX6_digest 56 = .ok (.ldc2_w 218, 3) := by decide +kernel
theorem dX6_digest_59 : decode cX6_digest 59 = .ok (.lload_n 1, 1) := by decide +kernel
theorem dX6_digest_60 : decode cX6_digest 60 = .ok (.lmul, 1) := by decide +kernel
theorem dX6_digest_61 : decode cX6_digest 61 = .ok (.aload_n 0, 1) := by decide +kernel
theorem dX6_digest_62 : decode cX6_digest 62 = .ok (.iload_n 3, 1) := by decide +kernel
theorem dX6_digest_63 : decode cX6_digest 63 = .ok (.iload 4, 2) := by decide +kernel
theorem dX6_digest_65 : decode cX6_digest 65 = .ok (.invokevirtual 223, 3) := by decide +kernel
theorem dX6_digest_68 : decode cX6_digest 68 = .ok (.i2l, 1) := by decide +kernel
theorem dX6_digest_69 : decode cX6_digest 69 = .ok (.ladd, 1) := by decide +kernel
theorem dX6_digest_70 : decode cX6_digest 70 = .ok (.lstore_n 1, 1) := by decide +kernel
theorem dX6_digest_71 : decode cX6_digest 71 = .ok (.iinc 4 1, 3) := by decide +kernel
theorem dX6_digest_74 : decode cX6_digest 74 = .ok (.goto (-24), 3) := by decide +kernel
theorem dX6_digest_77 : decode cX6_digest 77 = .ok (.iinc 3 1, 3) := by decide +kernel
theorem dX6_digest_80 : decode cX6_digest 80 = .ok (.goto (-74), 3) := by decide +kernel
theorem dX6_digest_83 : decode cX6_digest 83 = .ok (.iconst 0, 1) := by decide +kernel
theorem dX6_digest_84 : decode cX6_digest 84 = .ok (.istore_n 3, 1) := by decide +kernel
theorem dX6_digest_85 : decode cX6_digest 85 = .ok (.iload_n 3, 1) := by decide +kernel
theorem dX6_digest_86 : decode cX6_digest 86 = .ok (.aload_n 0, 1) := by decide +kernel
theorem dX6_digest_87 : decode cX6_digest 87 = .ok (.getfield 19, 3) := by decide +kernel
theorem dX6_digest_90 : decode cX6_digest 90 = .ok (.getfield 102, 3) := by decide +kernel
theorem dX6_digest_93 : decode cX6_digest 93 = .ok (.iconst 1, 1) := by decide +kernel
theorem dX6_digest_94 : decode cX6_digest 94 = .ok (.isub, 1) := by decide +kernel
theorem dX6_digest_95 : decode cX6_digest 95 = .ok (.if_icmp .ge 39, 3) := by decide +kernel
theorem dX6_digest_98 : decode cX6_digest 98 = .ok (.iconst 0, 1) := by decide +kernel
theorem dX6_digest_99 : decode cX6_digest 99 = .ok (.istore 4, 2) := by decide +kernel
theorem dX6_digest_101 : decode cX6_digest 101 = .ok (.iload 4, 2) := by decide +kernel
theorem dX6_digest_103 : decode cX6_digest 103 = .ok (.iconst 1, 1) := by decide +kernel
theorem dX6_digest_104 : decode cX6_digest 104 = .ok (.if_icmp .gt 24, 3) := by decide +kernel
theorem dX6_digest_107 : decode cX6_digest 107 = .ok (.ldc2_w 218, 3) := by decide +kernel
theorem dX6_digest_110 : decode cX6_digest 110 = .ok (.lload_n 1, 1) := by decide +kernel
theorem dX6_digest_111 : decode cX6_digest 111 = .ok (.lmul, 1) := by decide +kernel
theorem dX6_digest_112 : decode cX6_digest 112 = .ok (.aload_n 0, 1) := by decide +kernel
theorem dX6_digest_113 : decode cX6_digest 113 = .ok (.iload_n 3, 1) := by decide +kernel
theorem dX6_digest_114 : decode cX6_digest 114 = .ok (.iload 4, 2) := by decide +kernel
theorem dX6_digest_116 : decode cX6_digest 116 = .ok (.invokevirtual 226, 3) := by decide +kernel
theorem dX6_digest_119 : decode cX6_digest 119 = .ok (.i2l, 1) := by decide +kernel
theorem dX6_digest_120 : decode cX6_digest 120 = .ok (.ladd, 1) := by decide +kernel
theorem dX6_digest_121 : decode cX6_digest 121 = .ok (.lstore_n 1, 1) := by decide +kernel
theorem dX6_digest_122 : decode cX6_digest 122 = .ok (.iinc 4 1, 3) := by decide +kernel
theorem dX6_digest_125 : decode cX6_digest 125 = .ok (.goto (-24), 3) := by decide +kernel
theorem dX6_digest_128 : decode cX6_digest 128 = .ok (.iinc 3 1, 3) := by decide +kernel
theorem dX6_digest_131 : decode cX6_digest 131 = .ok (.goto (-46), 3) := by decide +kernel
theorem dX6_digest_134 : decode cX6_digest 134 = .ok (.aload_n 0, 1) := by decide +kernel
theorem dX6_digest_135 : decode cX6_digest 135 = .ok (.invokevirtual 146, 3) := by decide +kernel
theorem dX6_digest_138 : decode cX6_digest 138 = .ok (.ifCond .ne 9, 3) := by decide +kernel
theorem dX6_digest_141 : decode cX6_digest 141 = .ok (.aload_n 0, 1) := by decide +kernel
theorem dX6_digest_142 : decode cX6_digest 142 = .ok (.lload_n 1, 1) := by decide +kernel
theorem dX6_digest_143 : decode cX6_digest 143 = .ok (.invokevirtual 229, 3) := by decide +kernel
theorem dX6_digest_146 : decode cX6_digest 146 = .ok (.lstore_n 1, 1) := by decide +kernel
theorem dX6_digest_147 : decode cX6_digest 147 = .ok (.iconst 0, 1) := by decide +kernel
theorem dX6_digest_148 : decode cX6_digest 148 = .ok (.istore_n 3, 1) := by decide +kernel
theorem dX6_digest_149 : decode cX6_digest 149 = .ok (.iload_n 3, 1) := by decide +kernel
theorem dX6_digest_150 : decode cX6_digest 150 = .ok (.aload_n 0, 1) := by decide +kernel
theorem dX6_digest_151 : decode cX6_digest 151 = .ok (.getfield 10, 3) := by decide +kernel
theorem dX6_digest_154 : decode cX6_digest 154 = .ok (.getfield 72, 3) := by decide +kernel
theorem dX6_digest_157 : decode cX6_digest 157 = .ok (.if_icmp .ge 26, 3) := by decide +kernel
theorem dX6_digest_160 : decode cX6_digest 160 = .ok (.ldc2_w 218, 3) := by decide +kernel
theorem dX6_digest_163 : decode cX6_digest 163 = .ok (.lload_n 1, 1) := by decide +kernel
theorem dX6_digest_164 : decode cX6_digest 164 = .ok (.lmul, 1) := by decide +kernel
theorem dX6_digest_165 : decode cX6_digest 165 = .ok (.aload_n 0, 1) := by decide +kernel
theorem dX6_digest_166 : decode cX6_digest 166 = .ok (.getfield 10, 3) := by decide +kernel
theorem dX6_digest_169 : decode cX6_digest 169 = .ok (.getfield 233, 3) := by decide +kernel
theorem dX6_digest_172 : decode cX6_digest 172 = .ok (.iload_n 3, 1) := by decide +kernel
theorem dX6_digest_173 : decode cX6_digest 173 = .ok (.iaload, 1) := by decide +kernel
theorem dX6_digest_174 : decode cX6_digest 174 = .ok (.i2l, 1) := by decide +kernel
theorem dX6_digest_175 : decode cX6_digest 175 = .ok (.ladd, 1) := by decide +kernel
theorem dX6_digest_176 : decode cX6_digest 176 = .ok (.lstore_n 1, 1) := by decide +kernel
theorem dX6_digest_177 : decode cX6_digest 177 = .ok (.iinc 3 1, 3) := by decide +kernel
theorem dX6_digest_180 : decode cX6_digest 180 = .ok (.goto (-31), 3) := by decide +kernel
theorem dX6_digest_183 : decode cX6_digest 183 = .ok (.iconst 0, 1) := by decide +kernel
theorem dX6_digest_184 : decode cX6_digest 184 = .ok (.istore_n 3, 1) := by decide +kernel
theorem dX6_digest_185 : decode cX6_digest 185 = .ok (.iload_n 3, 1) := by decide +kernel
theorem dX6_digest_186 : decode cX6_digest 186 = .ok (.bipush 9, 2) := by decide +kernel
theorem dX6_digest_188 : decode cX6_digest 188 = .ok (.if_icmp .gt 22, 3) := by decide +kernel
theorem dX6_digest_191 : decode cX6_digest 191 = .ok (.ldc2_w 218, 3) := by decide +kernel
theorem dX6_digest_194 : decode cX6_digest 194 = .ok (.lload_n 1, 1) := by decide +kernel
theorem dX6_digest_195 : decode cX6_digest 195 = .ok (.lmul, 1) := by decide +kernel
theorem dX6_digest_196 : decode cX6_digest 196 = .ok (.aload_n 0, 1) := by decide +kernel
theorem dX6_digest_197 : decode cX6_digest 197 = .ok (.iload_n 3, 1) := by decide +kernel
theorem dX6_digest_198 : decode cX6_digest 198 = .ok (.invokevirtual 236, 3) := by decide +kernel
theorem dX6_digest_201 : decode cX6_digest 201 = .ok (.i2l, 1) := by decide +kernel
theorem dX6_digest_202 : decode cX6_digest 202 = .ok (.ladd, 1) := by decide +kernel
theorem dX6_digest_203 : decode cX6_digest 203 = .ok (.lstore_n 1, 1) := by decide +kernel
theorem dX6_digest_204 : decode cX6_digest 204 = .ok (.iinc 3 1, 3) := by decide +kernel
theorem dX6_digest_207 : decode cX6_digest 207 = .ok (.goto (-22), 3) := by decide +kernel
theorem dX6_digest_210 : decode cX6_digest 210 = .ok (.lload_n 1, 1) := by decide +kernel
theorem dX6_digest_211 : decode cX6_digest 211 = .ok (.lreturn, 1) := by decide +kernel
theorem dX6_withOrders_0 : decode cX6_withOrders 0 = .ok (.lload_n 1, 1) := by decide +kernel
theorem dX6_withOrders_1 : decode cX6_withOrders 1 = .ok (.lstore_n 3, 1) := by decide +kernel
theorem dX6_withOrders_2 : decode cX6_withOrders 2 = .ok (.iconst 0, 1) := by decide +kernel
theorem dX6_withOrders_3 : decode cX6_withOrders 3 = .ok (.istore 5, 2) := by decide +kernel
theorem dX6_withOrders_5 : decode cX6_withOrders 5 = .ok (.iload 5, 2) := by decide +kernel
theorem dX6_withOrders_7 : decode cX6_withOrders 7 = .ok (.iconst 3, 1) := by decide +kernel
theorem dX6_withOrders_8 : decode cX6_withOrders 8 = .ok (.if_icmp .gt 23, 3) := by decide +kernel
theorem dX6_withOrders_11 : decode cX6_withOrders 11 = .ok (.ldc2_w 218, 3) := by decide +kernel
theorem dX6_withOrders_14 : decode cX6_withOrders 14 = .ok (.lload_n 3, 1) := by decide +kernel
theorem dX6_withOrders_15 : decode cX6_withOrders 15 = .ok (.lmul, 1) := by decide +kernel
theorem dX6_withOrders_16 : decode cX6_withOrders 16 = .ok (.aload_n 0, 1) := by decide +kernel
theorem dX6_withOrders_17 : decode cX6_withOrders 17 = .ok (.iload 5, 2) := by decide +kernel
theorem dX6_withOrders_19 : decode cX6_withOrders 19 = .ok (.invokevirtual 239, 3) := by decide +kernel
theorem dX6_withOrders_22 : decode cX6_withOrders 22 = .ok (.i2l, 1) := by decide +kernel
theorem dX6_withOrders_23 : decode cX6_withOrders 23 = .ok (.ladd, 1) := by decide +kernel
theorem dX6_withOrders_24 : decode cX6_withOrders 24 = .ok (.lstore_n 3, 1) := by decide +kernel
theorem dX6_withOrders_25 : decode cX6_withOrders 25 = .ok (.iinc 5 1, 3) := by decide +kernel
theorem dX6_withOrders_28 : decode cX6_withOrders 28 = .ok (.goto (-23), 3) := by decide +kernel
theorem dX6_withOrders_31 : decode cX6_withOrders 31 = .ok (.iconst 0, 1) := by decide +kernel
theorem dX6_withOrders_32 : decode cX6_withOrders 32 = .ok (.istore 5, 2) := by decide +kernel
theorem dX6_withOrders_34 : decode cX6_withOrders 34 = .ok (.iload 5, 2) := by decide +kernel
theorem dX6_withOrders_36 : decode cX6_withOrders 36 = .ok (.iconst 1, 1) := by decide +kernel
theorem dX6_withOrders_37 : decode cX6_withOrders 37 = .ok (.if_icmp .gt 23, 3) := by decide +kernel
theorem dX6_withOrders_40 : decode cX6_withOrders 40 = .ok (.ldc2_w 218, 3) := by decide +kernel
theorem dX6_withOrders_43 : decode cX6_withOrders 43 = .ok (.lload_n 3, 1) := by decide +kernel
theorem dX6_withOrders_44 : decode cX6_withOrders 44 = .ok (.lmul, 1) := by decide +kernel
theorem dX6_withOrders_45 : decode cX6_withOrders 45 = .ok (.aload_n 0, 1) := by decide +kernel
theorem dX6_withOrders_46 : decode cX6_withOrders 46 = .ok (.iload 5, 2) := by decide +kernel
theorem dX6_withOrders_48 : decode cX6_withOrders 48 = .ok (.invokevirtual 242, 3) := by decide +kernel
theorem dX6_withOrders_51 : decode cX6_withOrders 51 = .ok (.i2l, 1) := by decide +kernel
theorem dX6_withOrders_52 : decode cX6_withOrders 52 = .ok (.ladd, 1) := by decide +kernel
theorem dX6_withOrders_53 : decode cX6_withOrders 53 = .ok (.lstore_n 3, 1) := by decide +kernel
theorem dX6_withOrders_54 : decode cX6_withOrders 54 = .ok (.iinc 5 1, 3) := by decide +kernel
theorem dX6_withOrders_57 : decode cX6_withOrders 57 = .ok (.goto (-23), 3) := by decide +kernel
theorem dX6_withOrders_60 : decode cX6_withOrders 60 = .ok (.iconst 0, 1) := by decide +kernel
theorem dX6_withOrders_61 : decode cX6_withOrders 61 = .ok (.istore 5, 2) := by decide +kernel
theorem dX6_withOrders_63 : decode cX6_withOrders 63 = .ok (.iload 5, 2) := by decide +kernel
theorem dX6_withOrders_65 : decode cX6_withOrders 65 = .ok (.iconst 1, 1) := by decide +kernel
theorem dX6_withOrders_66 : decode cX6_withOrders 66 = .ok (.if_icmp .gt 25, 3) := by decide +kernel
theorem dX6_withOrders_69 : decode cX6_withOrders 69 = .ok (.ldc2_w 218, 3) := by decide +kernel
theorem dX6_withOrders_72 : decode cX6_withOrders 72 = .ok (.lload_n 3, 1) := by decide +kernel
theorem dX6_withOrders_73 : decode cX6_withOrders 73 = .ok (.lmul, 1) := by decide +kernel
theorem dX6_withOrders_74 : decode cX6_withOrders 74 = .ok (.aload_n 0, 1) := by decide +kernel
theorem dX6_withOrders_75 : decode cX6_withOrders 75 = .ok (.iconst 0, 1) := by decide +kernel
theorem dX6_withOrders_76 : decode cX6_withOrders 76 = .ok (.iconst 1, 1) := by decide +kernel
theorem dX6_withOrders_77 : decode cX6_withOrders 77 = .ok (.iload 5, 2) := by decide +kernel
theorem dX6_withOrders_79 : decode cX6_withOrders 79 = .ok (.invokevirtual 245, 3) := by decide +kernel
theorem dX6_withOrders_82 : decode cX6_withOrders 82 = .ok (.i2l, 1) := by decide +kernel
theorem dX6_withOrders_83 : decode cX6_withOrders 83 = .ok (.ladd, 1) := by decide +kernel
theorem dX6_withOrders_84 : decode cX6_withOrders 84 = .ok (.lstore_n 3, 1) := by decide +kernel
theorem dX6_withOrders_85 : decode cX6_withOrders 85 = .ok (.iinc 5 1, 3) := by decide +kernel
theorem dX6_withOrders_88 : decode cX6_withOrders 88 = .ok (.goto (-25), 3) := by decide +kernel
theorem dX6_withOrders_91 : decode cX6_withOrders 91 = .ok (.ldc2_w 218, 3) := by decide +kernel
theorem dX6_withOrders_94 : decode cX6_withOrders 94 = .ok (.lload_n 3, 1) := by decide +kernel
theorem dX6_withOrders_95 : decode cX6_withOrders 95 = .ok (.lmul, 1) := by decide +kernel
theorem dX6_withOrders_96 : decode cX6_withOrders 96 = .ok (.aload_n 0, 1) := by decide +kernel
theorem dX6_withOrders_97 : decode cX6_withOrders 97 = .ok (.invokevirtual 248, 3) := by decide +kernel
theorem dX6_withOrders_100 : decode cX6_withOrders 100 = .ok (.i2l, 1) := by decide +kernel
theorem dX6_withOrders_101 : decode cX6_withOrders 101 = .ok (.ladd, 1) := by decide +kernel
theorem dX6_withOrders_102 : decode cX6_withOrders 102 = .ok (.lreturn, 1) := by decide +kernel
theorem dX6_isWithoutStrip_0 : decode cX6_isWithoutStrip 0 = .ok (.aload_n 0, 1) := by decide +kernel
theorem dX6_isWithoutStrip_1 : decode cX6_isWithoutStrip 1 = .ok (.getfield 19, 3) := by decide +kernel
theorem dX6_isWithoutStrip_4 : decode cX6_isWithoutStrip 4 = .ok (.getfield 102, 3) := by decide +kernel
theorem dX6_isWithoutStrip_7 : decode cX6_isWithoutStrip 7 = .ok (.ifCond .ne 7, 3) := by decide +kernel
theorem dX6_isWithoutStrip_10 : decode cX6_isWithoutStrip 10 = .ok (.iconst 1, 1) := by decide +kernel
theorem dX6_isWithoutStrip_11 : decode cX6_isWithoutStrip 11 = .ok (.goto 4, 3) := by decide +kernel
theorem dX6_isWithoutStrip_14 : decode cX6_isWithoutStrip 14 = .ok (.iconst 0, 1) := by decide +kernel
theorem dX6_isWithoutStrip_15 : decode cX6_isWithoutStrip 15 = .ok (.ireturn, 1) := by decide +kernel
theorem dX6_isLeaf_0 : decode cX6_isLeaf 0 = .ok (.iload_n 1, 1) := by decide +kernel
theorem dX6_isLeaf_1 : decode cX6_isLeaf 1 = .ok (.ifCond .lt 18, 3) := by decide +kernel
theorem dX6_isLeaf_4 : decode cX6_isLeaf 4 = .ok (.iload_n 1, 1) := by decide +kernel
theorem dX6_isLeaf_5 : decode cX6_isLeaf 5 = .ok (.aload_n 0, 1) := by decide +kernel
theorem dX6_isLeaf_6 : decode cX6_isLeaf 6 = .ok (.getfield 19, 3) := by decide +kernel
theorem dX6_isLeaf_9 : decode cX6_isLeaf 9 = .ok (.getfield 102, 3) := by decide +kernel
theorem dX6_isLeaf_12 : decode cX6_isLeaf 12 = .ok (.if_icmp .ge 7, 3) := by decide +kernel
theorem dX6_isLeaf_15 : decode cX6_isLeaf 15 = .ok (.iconst 1, 1) := by decide +kernel
theorem dX6_isLeaf_16 : decode cX6_isLeaf 16 = .ok (.goto 4, 3) := by decide +kernel
theorem dX6_isLeaf_19 : decode cX6_isLeaf 19 = .ok (.iconst 0, 1) := by decide +kernel
theorem dX6_isLeaf_20 : decode cX6_isLeaf 20 = .ok (.ireturn, 1) := by decide +kernel
theorem dX6_isPlace_0 : decode cX6_isPlace 0 = .ok (.iload_n 1, 1) := by decide +kernel
theorem dX6_isPlace_1 : decode cX6_isPlace 1 = .ok (.ifCond .lt 18, 3) := by decide +kernel
theorem dX6_isPlace_4 : decode cX6_isPlace 4 = .ok (.iload_n 1, 1) := by decide +kernel
theorem dX6_isPlace_5 : decode cX6_isPlace 5 = .ok (.aload_n 0, 1) := by decide +kernel
theorem dX6_isPlace_6 : decode cX6_isPlace 6 = .ok (.getfield 19, 3) := by decide +kernel
theorem dX6_isPlace_9 : decode cX6_isPlace 9 = .ok (.getfield 102, 3) := by decide +kernel
theorem dX6_isPlace_12 : decode cX6_isPlace 12 = .ok (.if_icmp .ge 7, 3) := by decide +kernel
theorem dX6_isPlace_15 : decode cX6_isPlace 15 = .ok (.iconst 1, 1) := by decide +kernel
theorem dX6_isPlace_16 : decode cX6_isPlace 16 = .ok (.goto 4, 3) := by decide +kernel
theorem dX6_isPlace_19 : decode cX6_isPlace 19 = .ok (.iconst 0, 1) := by decide +kernel
theorem dX6_isPlace_20 : decode cX6_isPlace 20 = .ok (.ireturn, 1) := by decide +kernel
theorem dX6_isOrder_0 : decode cX6_isOrder 0 = .ok (.iload_n 1, 1) := by decide +kernel
theorem dX6_isOrder_1 : decode cX6_isOrder 1 = .ok (.ifCond .lt 18, 3) := by decide +kernel
theorem dX6_isOrder_4 : decode cX6_isOrder 4 = .ok (.iload_n 1, 1) := by decide +kernel
theorem dX6_isOrder_5 : decode cX6_isOrder 5 = .ok (.aload_n 0, 1) := by decide +kernel
theorem dX6_isOrder_6 : decode cX6_isOrder 6 = .ok (.getfield 19, 3) := by decide +kernel
theorem dX6_isOrder_9 : decode cX6_isOrder 9 = .ok (.getfield 156, 3) := by decide +kernel
theorem dX6_isOrder_12 : decode cX6_isOrder 12 = .ok (.if_icmp .ge 7, 3) := by decide +kernel
theorem dX6_isOrder_15 : decode cX6_isOrder 15 = .ok (.iconst 1, 1) := by decide +kernel
theorem dX6_isOrder_16 : decode cX6_isOrder 16 = .ok (.goto 4, 3) := by decide +kernel
theorem dX6_isOrder_19 : decode cX6_isOrder 19 = .ok (.iconst 0, 1) := by decide +kernel
theorem dX6_isOrder_20 : decode cX6_isOrder 20 = .ok (.ireturn, 1) := by decide +kernel
theorem dX6_farthest_0 : decode cX6_farthest 0 = .ok (.aload_n 0, 1) := by decide +kernel
theorem dX6_farthest_1 : decode cX6_farthest 1 = .ok (.getfield 26, 3) := by decide +kernel
theorem dX6_farthest_4 : decode cX6_farthest 4 = .ok (.getfield 90, 3) := by decide +kernel
theorem dX6_farthest_7 : decode cX6_farthest 7 = .ok (.istore_n 1, 1) := by decide +kernel
theorem dX6_farthest_8 : decode cX6_farthest 8 = .ok (.iconst 0, 1) := by decide +kernel
theorem dX6_farthest_9 : decode cX6_farthest 9 = .ok (.istore_n 2, 1) := by decide +kernel
theorem dX6_farthest_10 : decode cX6_farthest 10 = .ok (.iload_n 2, 1) := by decide +kernel
theorem dX6_farthest_11 : decode cX6_farthest 11 = .ok (.aload_n 0, 1) := by decide +kernel
theorem dX6_farthest_12 : decode cX6_farthest 12 = .ok (.getfield 19, 3) := by decide +kernel
theorem dX6_farthest_15 : decode cX6_farthest 15 = .ok (.getfield 156, 3) := by decide +kernel
theorem dX6_farthest_18 : decode cX6_farthest 18 = .ok (.if_icmp .ge 30, 3) := by decide +kernel
theorem dX6_farthest_21 : decode cX6_farthest 21 = .ok (.aload_n 0, 1) := by decide +kernel
theorem dX6_farthest_22 : decode cX6_farthest 22 = .ok (.getfield 51, 3) := by decide +kernel
theorem dX6_farthest_25 : decode cX6_farthest 25 = .ok (.iload_n 2, 1) := by decide +kernel
theorem dX6_farthest_26 : decode cX6_farthest 26 = .ok (.invokevirtual 169, 3) := by decide +kernel
theorem dX6_farthest_29 : decode cX6_farthest 29 = .ok (.aload_n 0, 1) := by decide +kernel
theorem dX6_farthest_30 : decode cX6_farthest 30 = .ok (.getfield 51, 3) := by decide +kernel
theorem dX6_farthest_33 : decode cX6_farthest 33 = .ok (.iload_n 1, 1) := by decide +kernel
theorem dX6_farthest_34 : decode cX6_farthest 34 = .ok (.invokevirtual 169, 3) := by decide +kernel
theorem dX6_farthest_37 : decode cX6_farthest 37 = .ok (.if_icmp .le 5, 3) := by decide +kernel
theorem dX6_farthest_40 : decode cX6_farthest 40 = .ok (.iload_n 2, 1) := by decide +kernel
theorem dX6_farthest_41 : decode cX6_farthest 41 = .ok (.istore_n 1, 1) := by decide +kernel
theorem dX6_farthest_42 : decode cX6_farthest 42 = .ok (.iinc 2 1, 3) := by decide +kernel
theorem dX6_farthest_45 : decode cX6_farthest 45 = .ok (.goto (-35), 3) := by decide +kernel
theorem dX6_farthest_48 : decode cX6_farthest 48 = .ok (.iload_n 1, 1) := by decide +kernel
theorem dX6_farthest_49 : decode cX6_farthest 49 = .ok (.ireturn, 1) := by decide +kernel
theorem dX6_home_0 : decode cX6_home 0 = .ok (.iconst (-1), 1) := by decide +kernel
theorem dX6_home_1 : decode cX6_home 1 = .ok (.istore_n 1, 1) := by decide +kernel
theorem dX6_home_2 : decode cX6_home 2 = .ok (.iconst 0, 1) := by decide +kernel
theorem dX6_home_3 : decode cX6_home 3 = .ok (.istore_n 2, 1) := by decide +kernel
theorem dX6_home_4 : decode cX6_home 4 = .ok (.iload_n 2, 1) := by decide +kernel
theorem dX6_home_5 : decode cX6_home 5 = .ok (.aload_n 0, 1) := by decide +kernel
theorem dX6_home_6 : decode cX6_home 6 = .ok (.getfield 19, 3) := by decide +kernel
theorem dX6_home_9 : decode cX6_home 9 = .ok (.getfield 156, 3) := by decide +kernel
theorem dX6_home_12 : decode cX6_home 12 = .ok (.if_icmp .ge 56, 3) := by decide +kernel
theorem dX6_home_15 : decode cX6_home 15 = .ok (.aload_n 0, 1) := by decide +kernel
theorem dX6_home_16 : decode cX6_home 16 = .ok (.getfield 51, 3) := by decide +kernel
theorem dX6_home_19 : decode cX6_home 19 = .ok (.iload_n 2, 1) := by decide +kernel
theorem dX6_home_20 : decode cX6_home 20 = .ok (.invokevirtual 169, 3) := by decide +kernel
theorem dX6_home_23 : decode cX6_home 23 = .ok (.istore_n 3, 1) := by decide +kernel
theorem dX6_home_24 : decode cX6_home 24 = .ok (.iload_n 3, 1) := by decide +kernel
theorem dX6_home_25 : decode cX6_home 25 = .ok (.iconst (-1), 1) := by decide +kernel
theorem dX6_home_26 : decode cX6_home 26 = .ok (.if_icmp .eq 36, 3) := by decide +kernel
theorem dX6_home_29 : decode cX6_home 29 = .ok (.aload_n 0, 1) := by decide +kernel
theorem dX6_home_30 : decode cX6_home 30 = .ok (.getfield 42, 3) := by decide +kernel
theorem dX6_home_33 : decode cX6_home 33 = .ok (.iload_n 2, 1) := by decide +kernel
theorem dX6_home_34 : decode cX6_home 34 = .ok (.invokevirtual 160, 3) := by decide +kernel
theorem dX6_home_37 : decode cX6_home 37 = .ok (.ifCond .ne 6, 3) := by decide +kernel
theorem dX6_home_40 : decode cX6_home 40 = .ok (.goto 22, 3) := by decide +kernel
theorem dX6_home_43 : decode cX6_home 43 = .ok (.iload_n 1, 1) := by decide +kernel
theorem dX6_home_44 : decode cX6_home 44 = .ok (.iconst (-1), 1) := by decide +kernel
theorem dX6_home_45 : decode cX6_home 45 = .ok (.if_icmp .eq 15, 3) := by decide +kernel
theorem dX6_home_48 : decode cX6_home 48 = .ok (.iload_n 3, 1) := by decide +kernel
theorem dX6_home_49 : decode cX6_home 49 = .ok (.aload_n 0, 1) := by decide +kernel
theorem dX6_home_50 : decode cX6_home 50 = .ok (.getfield 51, 3) := by decide +kernel
theorem dX6_home_53 : decode cX6_home 53 = .ok (.iload_n 1, 1) := by decide +kernel
theorem dX6_home_54 : decode cX6_home 54 = .ok (.invokevirtual 169, 3) := by decide +kernel
theorem dX6_home_57 : decode cX6_home 57 = .ok (.if_icmp .ge 5, 3) := by decide +kernel
theorem dX6_home_60 : decode cX6_home 60 = .ok (.iload_n 2, 1) := by decide +kernel
theorem dX6_home_61 : decode cX6_home 61 = .ok (.istore_n 1, 1) := by decide +kernel
theorem dX6_home_62 : decode cX6_home 62 = .ok (.iinc 2 1, 3) := by decide +kernel
theorem dX6_home_65 : decode cX6_home 65 = .ok (.goto (-61), 3) := by decide +kernel
theorem dX6_home_68 : decode cX6_home 68 = .ok (.iload_n 1, 1) := by decide +kernel
theorem dX6_home_69 : decode cX6_home 69 = .ok (.ireturn, 1) := by decide +kernel
theorem dX6_wholeThickness_0 : decode cX6_wholeThickness 0 = .ok (.iconst 0, 1) := by decide +kernel
theorem dX6_wholeThickness_1 : decode cX6_wholeThickness 1 = .ok (.istore_n 1, 1) := by decide +kernel
theorem dX6_wholeThickness_2 : decode cX6_wholeThickness 2 = .ok (.iconst 0, 1) := by decide +kernel
theorem dX6_wholeThickness_3 : decode cX6_wholeThickness 3 = .ok (.istore_n 2, 1) := by decide +kernel
theorem dX6_wholeThickness_4 : decode cX6_wholeThickness 4 = .ok (.iload_n 2, 1) := by decide +kernel
theorem dX6_wholeThickness_5 : decode cX6_wholeThickness 5 = .ok (.aload_n 0, 1) := by decide +kernel
theorem dX6_wholeThickness_6 : decode cX6_wholeThickness 6 = .ok (.getfield 19, 3) := by decide +kernel
theorem dX6_wholeThickness_9 : decode cX6_wholeThickness 9 = .ok (.getfield 102, 3) := by decide +kernel
theorem dX6_wholeThickness_12 : decode cX6_wholeThickness 12 = .ok (.if_icmp .ge 24, 3) := by decide +kernel
theorem dX6_wholeThickness_15 : decode cX6_wholeThickness 15 = .ok (.iload_n 1, 1) := by decide +kernel
theorem dX6_wholeThickness_16 : decode cX6_wholeThickness 16 = .ok (.aload_n 0, 1) := by decide +kernel
theorem dX6_wholeThickness_17 : decode cX6_wholeThickness 17 = .ok (.getfield 26, 3) := by decide +kernel
theorem dX6_wholeThickness_20 : decode cX6_wholeThickness 20 = .ok (.getfield 35, 3) := by decide +kernel
theorem dX6_wholeThickness_23 : decode cX6_wholeThickness 23 = .ok (.iload_n 2, 1) := by decide +kernel
theorem dX6_wholeThickness_24 : decode cX6_wholeThickness 24 = .ok (.iaload, 1) := by decide +kernel
theorem dX6_wholeThickness_25 : decode cX6_wholeThickness 25 = .ok (.invokestatic 109, 3) := by decide +kernel
theorem dX6_wholeThickness_28 : decode cX6_wholeThickness 28 = .ok (.iadd, 1) := by decide +kernel
theorem dX6_wholeThickness_29 : decode cX6_wholeThickness 29 = .ok (.istore_n 1, 1) := by decide +kernel
theorem dX6_wholeThickness_30 : decode cX6_wholeThickness 30 = .ok (.iinc 2 1, 3) := by decide +kernel
theorem dX6_wholeThickness_33 : decode cX6_wholeThickness 33 = .ok (.goto (-29), 3) := by decide +kernel
theorem dX6_wholeThickness_36 : decode cX6_wholeThickness 36 = .ok (.iload_n 1, 1) := by decide +kernel
theorem dX6_wholeThickness_37 : decode cX6_wholeThickness 37 = .ok (.ireturn, 1) := by decide +kernel
theorem dX6_openHinges_0 : decode cX6_openHinges 0 = .ok (.iconst 0, 1) := by decide +kernel
theorem dX6_openHinges_1 : decode cX6_openHinges 1 = .ok (.istore_n 1, 1) := by decide +kernel
theorem dX6_openHinges_2 : decode cX6_openHinges 2 = .ok (.iconst 0, 1) := by decide +kernel
theorem dX6_openHinges_3 : decode cX6_openHinges 3 = .ok (.istore_n 2, 1) := by decide +kernel
theorem dX6_openHinges_4 : decode cX6_openHinges 4 = .ok (.iload_n 2, 1) := by decide +kernel
theorem dX6_openHinges_5 : decode cX6_openHinges 5 = .ok (.aload_n 0, 1) := by decide +kernel
theorem dX6_openHinges_6 : decode cX6_openHinges 6 = .ok (.getfield 19, 3) := by decide +kernel
theorem dX6_openHinges_9 : decode cX6_openHinges 9 = .ok (.getfield 102, 3) := by decide +kernel
theorem dX6_openHinges_12 : decode cX6_openHinges 12 = .ok (.iconst 1, 1) := by decide +kernel
theorem dX6_openHinges_13 : decode cX6_openHinges 13 = .ok (.isub, 1) := by decide +kernel
theorem dX6_openHinges_14 : decode cX6_openHinges 14 = .ok (.if_icmp .ge 30, 3) := by decide +kernel
theorem dX6_openHinges_17 : decode cX6_openHinges 17 = .ok (.aload_n 0, 1) := by decide +kernel
theorem dX6_openHinges_18 : decode cX6_openHinges 18 = .ok (.getfield 42, 3) := by decide +kernel
theorem dX6_openHinges_21 : decode cX6_openHinges 21 = .ok (.aload_n 0, 1) := by decide +kernel
theorem dX6_openHinges_22 : decode cX6_openHinges 22 = .ok (.getfield 26, 3) := by decide +kernel
theorem dX6_openHinges_25 : decode cX6_openHinges 25 = .ok (.getfield 90, 3) := by decide +kernel
theorem dX6_openHinges_28 : decode cX6_openHinges 28 = .ok (.iload_n 2, 1) := by decide +kernel
theorem dX6_openHinges_29 : decode cX6_openHinges 29 = .ok (.invokevirtual 130, 3) := by decide +kernel
theorem dX6_openHinges_32 : decode cX6_openHinges 32 = .ok (.ifCond .le 6, 3) := by decide +kernel
theorem dX6_openHinges_35 : decode cX6_openHinges 35 = .ok (.iinc 1 1, 3) := by decide +kernel
theorem dX6_openHinges_38 : decode cX6_openHinges 38 = .ok (.iinc 2 1, 3) := by decide +kernel
theorem dX6_openHinges_41 : decode cX6_openHinges 41 = .ok (.goto (-37), 3) := by decide +kernel
theorem dX6_openHinges_44 : decode cX6_openHinges 44 = .ok (.iload_n 1, 1) := by decide +kernel
theorem dX6_openHinges_45 : decode cX6_openHinges 45 = .ok (.ireturn, 1) := by decide +kernel
theorem dX6_contentLeaves_0 : decode cX6_contentLeaves 0 = .ok (.iconst 0, 1) := by decide +kernel
theorem dX6_contentLeaves_1 : decode cX6_contentLeaves 1 = .ok (.istore_n 1, 1) := by decide +kernel
theorem dX6_contentLeaves_2 : decode cX6_contentLeaves 2 = .ok (.iconst 0, 1) := by decide +kernel
theorem dX6_contentLeaves_3 : decode cX6_contentLeaves 3 = .ok (.istore_n 2, 1) := by decide +kernel
theorem dX6_contentLeaves_4 : decode cX6_contentLeaves 4 = .ok (.iload_n 2, 1) := by decide +kernel
theorem dX6_contentLeaves_5 : decode cX6_contentLeaves 5 = .ok (.aload_n 0, 1) := by decide +kernel
theorem dX6_contentLeaves_6 : decode cX6_contentLeaves 6 = .ok (.getfield 19, 3) := by decide +kernel
theorem dX6_contentLeaves_9 : decode cX6_contentLeaves 9 = .ok (.getfield 102, 3) := by decide +kernel
theorem dX6_contentLeaves_12 : decode cX6_contentLeaves 12 = .ok (.if_icmp .ge 30, 3) := by decide +kernel
theorem dX6_contentLeaves_15 : decode cX6_contentLeaves 15 = .ok (.aload_n 0, 1) := by decide +kernel
theorem dX6_contentLeaves_16 : decode cX6_contentLeaves 16 = .ok (.getfield 42, 3) := by decide +kernel
theorem dX6_contentLeaves_19 : decode cX6_contentLeaves 19 = .ok (.aload_n 0, 1) := by decide +kernel
theorem dX6_contentLeaves_20 : decode cX6_contentLeaves 20 = .ok (.getfield 26, 3) := by decide +kernel
theorem dX6_contentLeaves_23 : decode cX6_contentLeaves 23 = .ok (.getfield 90, 3) := by decide +kernel
theorem dX6_contentLeaves_26 : decode cX6_contentLeaves 26 = .ok (.iload_n 2, 1) := by decide +kernel
theorem dX6_contentLeaves_27 : decode cX6_contentLeaves 27 = .ok (.invokevirtual 116, 3) := by decide +kernel
theorem dX6_contentLeaves_30 : decode cX6_contentLeaves 30 = .ok (.ifCond .eq 6, 3) := by decide +kernel
theorem dX6_contentLeaves_33 : decode cX6_contentLeaves 33 = .ok (.iinc 1 1, 3) := by decide +kernel
theorem dX6_contentLeaves_36 : decode cX6_contentLeaves 36 = .ok (.iinc 2 1, 3) := by decide +kernel
theorem dX6_contentLeaves_39 : decode cX6_contentLeaves 39 = .ok (.goto (-35), 3) := by decide +kernel
theorem dX6_contentLeaves_42 : decode cX6_contentLeaves 42 = .ok (.iload_n 1, 1) := by decide +kernel
theorem dX6_contentLeaves_43 : decode cX6_contentLeaves 43 = .ok (.ireturn, 1) := by decide +kernel
theorem dX6_possibleMoves_0 : decode cX6_possibleMoves 0 = .ok (.iconst 0, 1) := by decide +kernel
theorem dX6_possibleMoves_1 : decode cX6_possibleMoves 1 = .ok (.istore_n 1, 1) := by decide +kernel
theorem dX6_possibleMoves_2 : decode cX6_possibleMoves 2 = .ok (.iconst 0, 1) := by decide +kernel
theorem dX6_possibleMoves_3 : decode cX6_possibleMoves 3 = .ok (.istore_n 2, 1) := by decide +kernel
theorem dX6_possibleMoves_4 : decode cX6_possibleMoves 4 = .ok (.iload_n 2, 1) := by decide +kernel
theorem dX6_possibleMoves_5 : decode cX6_possibleMoves 5 = .ok (.aload_n 0, 1) := by decide +kernel
theorem dX6_possibleMoves_6 : decode cX6_possibleMoves 6 = .ok (.getfield 19, 3) := by decide +kernel
theorem dX6_possibleMoves_9 : decode cX6_possibleMoves 9 = .ok (.getfield 102, 3) := by decide +kernel
theorem dX6_possibleMoves_12 : decode cX6_possibleMoves 12 = .ok (.if_icmp .ge 67, 3) := by decide +kernel
theorem dX6_possibleMoves_15 : decode cX6_possibleMoves 15 = .ok (.iconst 0, 1) := by decide +kernel
theorem dX6_possibleMoves_16 : decode cX6_possibleMoves 16 = .ok (.istore_n 3, 1) := by decide +kernel
theorem dX6_possibleMoves_17 : decode cX6_possibleMoves 17 = .ok (.iload_n 3, 1) := by decide +kernel
theorem dX6_possibleMoves_18 : decode cX6_possibleMoves 18 = .ok (.aload_n 0, 1) := by decide +kernel
theorem dX6_possibleMoves_19 : decode cX6_possibleMoves 19 = .ok (.getfield 19, 3) := by decide +kernel
theorem dX6_possibleMoves_22 : decode cX6_possibleMoves 22 = .ok (.getfield 102, 3) := by decide +kernel
theorem dX6_possibleMoves_25 : decode cX6_possibleMoves 25 = .ok (.if_icmp .ge 48, 3) := by decide +kernel
theorem dX6_possibleMoves_28 : decode cX6_possibleMoves 28 = .ok (.aload_n 0, 1) := by decide +kernel
theorem dX6_possibleMoves_29 : decode cX6_possibleMoves 29 = .ok (.getfield 19, 3) := by decide +kernel
theorem dX6_possibleMoves_32 : decode cX6_possibleMoves 32 = .ok (.aload_n 0, 1) := by decide +kernel
theorem dX6_possibleMoves_33 : decode cX6_possibleMoves 33 = .ok (.getfield 26, 3) := by decide +kernel
theorem dX6_possibleMoves_36 : decode cX6_possibleMoves 36 = .ok (.getfield 90, 3) := by decide +kernel
theorem dX6_possibleMoves_39 : decode cX6_possibleMoves 39 = .ok (.iload_n 2, 1) := by decide +kernel
theorem dX6_possibleMoves_40 : decode cX6_possibleMoves 40 = .ok (.iload_n 3, 1) := by decide +kernel
theorem dX6_possibleMoves_41 : decode cX6_possibleMoves 41 = .ok (.invokevirtual 139, 3) := by decide +kernel
theorem dX6_possibleMoves_44 : decode cX6_possibleMoves 44 = .ok (.istore 4, 2) := by decide +kernel
theorem dX6_possibleMoves_46 : decode cX6_possibleMoves 46 = .ok (.iload 4, 2) := by decide +kernel
theorem dX6_possibleMoves_48 : decode cX6_possibleMoves 48 = .ok (.iconst (-1), 1) := by decide +kernel
theorem dX6_possibleMoves_49 : decode cX6_possibleMoves 49 = .ok (.if_icmp .eq 18, 3) := by decide +kernel
theorem dX6_possibleMoves_52 : decode cX6_possibleMoves 52 = .ok (.iload 4, 2) := by decide +kernel
theorem dX6_possibleMoves_54 : decode cX6_possibleMoves 54 = .ok (.aload_n 0, 1) := by decide +kernel
theorem dX6_possibleMoves_55 : decode cX6_possibleMoves 55 = .ok (.getfield 26, 3) := by decide +kernel
theorem dX6_possibleMoves_58 : decode cX6_possibleMoves 58 = .ok (.getfield 90, 3) := by decide +kernel
theorem dX6_possibleMoves_61 : decode cX6_possibleMoves 61 = .ok (.if_icmp .eq 6, 3) := by decide +kernel
theorem dX6_possibleMoves_64 : decode cX6_possibleMoves 64 = .ok (.iinc 1 1, 3) := by decide +kernel
theorem dX6_possibleMoves_67 : decode cX6_possibleMoves 67 = .ok (.iinc 3 1, 3) := by decide +kernel
theorem dX6_possibleMoves_70 : decode cX6_possibleMoves 70 = .ok (.goto (-53), 3) := by decide +kernel
theorem dX6_possibleMoves_73 : decode cX6_possibleMoves 73 = .ok (.iinc 2 1, 3) := by decide +kernel
theorem dX6_possibleMoves_76 : decode cX6_possibleMoves 76 = .ok (.goto (-72), 3) := by decide +kernel
theorem dX6_possibleMoves_79 : decode cX6_possibleMoves 79 = .ok (.iload_n 1, 1) := by decide +kernel
theorem dX6_possibleMoves_80 : decode cX6_possibleMoves 80 = .ok (.ireturn, 1) := by decide +kernel
theorem dX6_asNumber_0 : decode cX6_asNumber 0 = .ok (.iload_n 0, 1) := by decide +kernel
theorem dX6_asNumber_1 : decode cX6_asNumber 1 = .ok (.ifCond .eq 7, 3) := by decide +kernel
theorem dX6_asNumber_4 : decode cX6_asNumber 4 = .ok (.iconst 1, 1) := by decide +kernel
theorem dX6_asNumber_5 : decode cX6_asNumber 5 = .ok (.goto 4, 3) := by decide +kernel
theorem dX6_asNumber_8 : decode cX6_asNumber 8 = .ok (.iconst 0, 1) := by decide +kernel
theorem dX6_asNumber_9 : decode cX6_asNumber 9 = .ok (.ireturn, 1) := by decide +kernel
theorem dX6_isKind_0 : decode cX6_isKind 0 = .ok (.iload_n 0, 1) := by decide +kernel
theorem dX6_isKind_1 : decode cX6_isKind 1 = .ok (.ifCond .lt 16, 3) := by decide +kernel
theorem dX6_isKind_4 : decode cX6_isKind 4 = .ok (.iload_n 0, 1) := by decide +kernel
theorem dX6_isKind_5 : decode cX6_isKind 5 = .ok (.ldc 251, 2) := by decide +kernel
theorem dX6_isKind_7 : decode cX6_isKind 7 = .ok (.invokevirtual 253, 3) := by decide +kernel
theorem dX6_isKind_10 : decode cX6_isKind 10 = .ok (.if_icmp .ge 7, 3) := by decide +kernel
theorem dX6_isKind_13 : decode cX6_isKind 13 = .ok (.iconst 1, 1) := by decide +kernel
theorem dX6_isKind_14 : decode cX6_isKind 14 = .ok (.goto 4, 3) := by decide +kernel
theorem dX6_isKind_17 : decode cX6_isKind 17 = .ok (.iconst 0, 1) := by decide +kernel
theorem dX6_isKind_18 : decode cX6_isKind 18 = .ok (.ireturn, 1) := by decide +kernel
theorem dX6_isOfKind_0 : decode cX6_isOfKind 0 = .ok (.iload_n 1, 1) := by decide +kernel
theorem dX6_isOfKind_1 : decode cX6_isOfKind 1 = .ok (.ifCond .eq 28, 3) := by decide +kernel
theorem dX6_isOfKind_4 : decode cX6_isOfKind 4 = .ok (.iload_n 0, 1) := by decide +kernel
theorem dX6_isOfKind_5 : decode cX6_isOfKind 5 = .ok (.iload_n 1, 1) := by decide +kernel
theorem dX6_isOfKind_6 : decode cX6_isOfKind 6 = .ok (.if_icmp .eq 23, 3) := by decide +kernel
theorem dX6_isOfKind_9 : decode cX6_isOfKind 9 = .ok (.iload_n 1, 1) := by decide +kernel
theorem dX6_isOfKind_10 : decode cX6_isOfKind 10 = .ok (.iconst 1, 1) := by decide +kernel
theorem dX6_isOfKind_11 : decode cX6_isOfKind 11 = .ok (.if_icmp .ne 8, 3) := by decide +kernel
theorem dX6_isOfKind_14 : decode cX6_isOfKind 14 = .ok (.iload_n 0, 1) := by decide +kernel
theorem dX6_isOfKind_15 : decode cX6_isOfKind 15 = .ok (.iconst 3, 1) := by decide +kernel
theorem dX6_isOfKind_16 : decode cX6_isOfKind 16 = .ok (.if_icmp .eq 13, 3) := by decide +kernel
theorem dX6_isOfKind_19 : decode cX6_isOfKind 19 = .ok (.iload_n 1, 1) := by decide +kernel
theorem dX6_isOfKind_20 : decode cX6_isOfKind 20 = .ok (.iconst 2, 1) := by decide +kernel
theorem dX6_isOfKind_21 : decode cX6_isOfKind 21 = .ok (.if_icmp .ne 12, 3) := by decide +kernel
theorem dX6_isOfKind_24 : decode cX6_isOfKind 24 = .ok (.iload_n 0, 1) := by decide +kernel
theorem dX6_isOfKind_25 : decode cX6_isOfKind 25 = .ok (.iconst 4, 1) := by decide +kernel
theorem dX6_isOfKind_26 : decode cX6_isOfKind 26 = .ok (.if_icmp .ne 7, 3) := by decide +kernel
theorem dX6_isOfKind_29 : decode cX6_isOfKind 29 = .ok (.iconst 1, 1) := by decide +kernel
theorem dX6_isOfKind_30 : decode cX6_isOfKind 30 = .ok (.goto 4, 3) := by decide +kernel
theorem dX6_isOfKind_33 : decode cX6_isOfKind 33 = .ok (.iconst 0, 1) := by decide +kernel
theorem dX6_isOfKind_34 : decode cX6_isOfKind 34 = .ok (.ireturn, 1) := by decide +kernel
theorem dX6_thickness_0 : decode cX6_thickness 0 = .ok (.iload_n 0, 1) := by decide +kernel
theorem dX6_thickness_1 : decode cX6_thickness 1 = .ok (.iconst 1, 1) := by decide +kernel
theorem dX6_thickness_2 : decode cX6_thickness 2 = .ok (.invokestatic 127, 3) := by decide +kernel
theorem dX6_thickness_5 : decode cX6_thickness 5 = .ok (.ifCond .eq 7, 3) := by decide +kernel
theorem dX6_thickness_8 : decode cX6_thickness 8 = .ok (.iconst 3, 1) := by decide +kernel
theorem dX6_thickness_9 : decode cX6_thickness 9 = .ok (.goto 4, 3) := by decide +kernel
theorem dX6_thickness_12 : decode cX6_thickness 12 = .ok (.iconst 1, 1) := by decide +kernel
theorem dX6_thickness_13 : decode cX6_thickness 13 = .ok (.ireturn, 1) := by decide +kernel
theorem dX6_seedAfter_0 : decode cX6_seedAfter 0 = .ok (.ldc2_w 258, 3) := by decide +kernel
theorem dX6_seedAfter_3 : decode cX6_seedAfter 3 = .ok (.iload_n 0, 1) := by decide +kernel
theorem dX6_seedAfter_4 : decode cX6_seedAfter 4 = .ok (.i2l, 1) := by decide +kernel
theorem dX6_seedAfter_5 : decode cX6_seedAfter 5 = .ok (.lmul, 1) := by decide +kernel
theorem dX6_seedAfter_6 : decode cX6_seedAfter 6 = .ok (.ldc2_w 260, 3) := by decide +kernel
theorem dX6_seedAfter_9 : decode cX6_seedAfter 9 = .ok (.ladd, 1) := by decide +kernel
theorem dX6_seedAfter_10 : decode cX6_seedAfter 10 = .ok (.ldc2_w 262, 3) := by decide +kernel
theorem dX6_seedAfter_13 : decode cX6_seedAfter 13 = .ok (.lrem, 1) := by decide +kernel
theorem dX6_seedAfter_14 : decode cX6_seedAfter 14 = .ok (.l2i, 1) := by decide +kernel
theorem dX6_seedAfter_15 : decode cX6_seedAfter 15 = .ok (.ireturn, 1) := by decide +kernel
theorem dX6_draw_0 : decode cX6_draw 0 = .ok (.iload_n 1, 1) := by decide +kernel
theorem dX6_draw_1 : decode cX6_draw 1 = .ok (.ifCond .gt 7, 3) := by decide +kernel
theorem dX6_draw_4 : decode cX6_draw 4 = .ok (.iconst 0, 1) := by decide +kernel
theorem dX6_draw_5 : decode cX6_draw 5 = .ok (.goto 10, 3) := by decide +kernel
theorem dX6_draw_8 : decode cX6_draw 8 = .ok (.iload_n 0, 1) := by decide +kernel
theorem dX6_draw_9 : decode cX6_draw 9 = .ok (.ldc_w 264, 3) := by decide +kernel
theorem dX6_draw_12 : decode cX6_draw 12 = .ok (.idiv, 1) := by decide +kernel
theorem dX6_draw_13 : decode cX6_draw 13 = .ok (.iload_n 1, 1) := by decide +kernel
theorem dX6_draw_14 : decode cX6_draw 14 = .ok (.irem, 1) := by decide +kernel
theorem dX6_draw_15 : decode cX6_draw 15 = .ok (.ireturn, 1) := by decide +kernel
theorem dX6_commonDivisor_0 : decode cX6_commonDivisor 0 = .ok (.iload_n 0, 1) := by decide +kernel
theorem dX6_commonDivisor_1 : decode cX6_commonDivisor 1 = .ok (.istore_n 2, 1) := by decide +kernel
theorem dX6_commonDivisor_2 : decode cX6_commonDivisor 2 = .ok (.iload_n 1, 1) := by decide +kernel
theorem dX6_commonDivisor_3 : decode cX6_commonDivisor 3 = .ok (.istore_n 3, 1) := by decide +kernel
theorem dX6_commonDivisor_4 : decode cX6_commonDivisor 4 = .ok (.iconst 0, 1) := by decide +kernel
theorem dX6_commonDivisor_5 : decode cX6_commonDivisor 5 = .ok (.istore 4, 2) := by decide +kernel
theorem dX6_commonDivisor_7 : decode cX6_commonDivisor 7 = .ok (.iload 4, 2) := by decide +kernel
theorem dX6_commonDivisor_9 : decode cX6_commonDivisor 9 = .ok (.sipush 462, 3) := by decide +kernel
theorem dX6_commonDivisor_12 : decode cX6_commonDivisor 12 = .ok (.if_icmp .ge 23, 3) := by decide +kernel
theorem dX6_commonDivisor_15 : decode cX6_commonDivisor 15 = .ok (.iload_n 3, 1) := by decide +kernel
theorem dX6_commonDivisor_16 : decode cX6_commonDivisor 16 = .ok (.ifCond .eq 19, 3) := by decide +kernel
theorem dX6_commonDivisor_19 : decode cX6_commonDivisor 19 = .ok (.iload_n 2, 1) := by decide +kernel
theorem dX6_commonDivisor_20 : decode cX6_commonDivisor 20 = .ok (.iload_n 3, 1) := by decide +kernel
theorem dX6_commonDivisor_21 : decode cX6_commonDivisor 21 = .ok (.irem, 1) := by decide +kernel
theorem dX6_commonDivisor_22 : decode cX6_commonDivisor 22 = .ok (.istore 5, 2) := by decide +kernel
theorem dX6_commonDivisor_24 : decode cX6_commonDivisor 24 = .ok (.iload_n 3, 1) := by decide +kernel
theorem dX6_commonDivisor_25 : decode cX6_commonDivisor 25 = .ok (.istore_n 2, 1) := by decide +kernel
theorem dX6_commonDivisor_26 : decode cX6_commonDivisor 26 = .ok (.iload 5, 2) := by decide +kernel
theorem dX6_commonDivisor_28 : decode cX6_commonDivisor 28 = .ok (.istore_n 3, 1) := by decide +kernel
theorem dX6_commonDivisor_29 : decode cX6_commonDivisor 29 = .ok (.iinc 4 1, 3) := by decide +kernel
theorem dX6_commonDivisor_32 : decode cX6_commonDivisor 32 = .ok (.goto (-25), 3) := by decide +kernel
theorem dX6_commonDivisor_35 : decode cX6_commonDivisor 35 = .ok (.iconst 1, 1) := by decide +kernel
theorem dX6_commonDivisor_36 : decode cX6_commonDivisor 36 = .ok (.iload_n 2, 1) := by decide +kernel
theorem dX6_commonDivisor_37 : decode cX6_commonDivisor 37 = .ok (.invokestatic 265, 3) := by decide +kernel
theorem dX6_commonDivisor_40 : decode cX6_commonDivisor 40 = .ok (.ireturn, 1) := by decide +kernel
end
section
theorem dX7_init_0 : decode cX7_init 0 = .ok (.aload_n 0, 1) := by decide +kernel
theorem dX7_init_1 : decode cX7_init 1 = .ok (.invokespecial 1, 3) := by decide +kernel
theorem dX7_init_4 : decode cX7_init 4 = .ok (.aload_n 0, 1) := by decide +kernel
theorem dX7_init_5 : decode cX7_init 5 = .ok (.bipush 9, 2) := by decide +kernel
theorem dX7_init_7 : decode cX7_init 7 = .ok (.newarray .int, 2) := by decide +kernel
theorem dX7_init_9 : decode cX7_init 9 = .ok (.putfield 7, 3) := by decide +kernel
theorem dX7_init_12 : decode cX7_init 12 = .ok (.aload_n 0, 1) := by decide +kernel
theorem dX7_init_13 : decode cX7_init 13 = .ok (.bipush 7, 2) := by decide +kernel
theorem dX7_init_15 : decode cX7_init 15 = .ok (.newarray .int, 2) := by decide +kernel
theorem dX7_init_17 : decode cX7_init 17 = .ok (.putfield 13, 3) := by decide +kernel
theorem dX7_init_20 : decode cX7_init 20 = .ok (.aload_n 0, 1) := by decide +kernel
theorem dX7_init_21 : decode cX7_init 21 = .ok (.bipush 7, 2) := by decide +kernel
theorem dX7_init_23 : decode cX7_init 23 = .ok (.newarray .int, 2) := by decide +kernel
theorem dX7_init_25 : decode cX7_init 25 = .ok (.putfield 16, 3) := by decide +kernel
theorem dX7_init_28 : decode cX7_init 28 = .ok (.aload_n 0, 1) := by decide +kernel
theorem dX7_init_29 : decode cX7_init 29 = .ok (.sipush 462, 3) := by decide +kernel
theorem dX7_init_32 : decode cX7_init 32 = .ok (.newarray .int, 2) := by decide +kernel
theorem dX7_init_34 : decode cX7_init 34 = .ok (.putfield 19, 3) := by decide +kernel
theorem dX7_init_37 : decode cX7_init 37 = .ok (.aload_n 0, 1) := by decide +kernel
theorem dX7_init_38 : decode cX7_init 38 = .ok (.bipush 7, 2) := by decide +kernel
theorem dX7_init_40 : decode cX7_init 40 = .ok (.newarray .int, 2) := by decide +kernel
theorem dX7_init_42 : decode cX7_init 42 = .ok (.putfield 22, 3) := by decide +kernel
theorem dX7_init_45 : decode cX7_init 45 = .ok (.aload_n 0, 1) := by decide +kernel
theorem dX7_init_46 : decode cX7_init 46 = .ok (.bipush 7, 2) := by decide +kernel
theorem dX7_init_48 : decode cX7_init 48 = .ok (.newarray .int, 2) := by decide +kernel
theorem dX7_init_50 : decode cX7_init 50 = .ok (.putfield 25, 3) := by decide +kernel
theorem dX7_init_53 : decode cX7_init 53 = .ok (.aload_n 0, 1) := by decide +kernel
theorem dX7_init_54 : decode cX7_init 54 = .ok (.bipush 7, 2) := by decide +kernel
theorem dX7_init_56 : decode cX7_init 56 = .ok (.newarray .int, 2) := by decide +kernel
theorem dX7_init_58 : decode cX7_init 58 = .ok (.putfield 28, 3) := by decide +kernel
theorem dX7_init_61 : decode cX7_init 61 = .ok (.aload_n 0, 1) := by decide +kernel
theorem dX7_init_62 : decode cX7_init 62 = .ok (.sipush 462, 3) := by decide +kernel
theorem dX7_init_65 : decode cX7_init 65 = .ok (.newarray .int, 2) := by decide +kernel
theorem dX7_init_67 : decode cX7_init 67 = .ok (.putfield 31, 3) := by decide +kernel
theorem dX7_init_70 : decode cX7_init 70 = .ok (.aload_n 0, 1) := by decide +kernel
theorem dX7_init_71 : decode cX7_init 71 = .ok (.sipush 462, 3) := by decide +kernel
theorem dX7_init_74 : decode cX7_init 74 = .ok (.newarray .int, 2) := by decide +kernel
theorem dX7_init_76 : decode cX7_init 76 = .ok (.putfield 34, 3) := by decide +kernel
theorem dX7_init_79 : decode cX7_init 79 = .ok (.aload_n 0, 1) := by decide +kernel
theorem dX7_init_80 : decode cX7_init 80 = .ok (.bipush 18, 2) := by decide +kernel
theorem dX7_init_82 : decode cX7_init 82 = .ok (.newarray .int, 2) := by decide +kernel
theorem dX7_init_84 : decode cX7_init 84 = .ok (.putfield 37, 3) := by decide +kernel
theorem dX7_init_87 : decode cX7_init 87 = .ok (.aload_n 0, 1) := by decide +kernel
theorem dX7_init_88 : decode cX7_init 88 = .ok (.bipush 7, 2) := by decide +kernel
theorem dX7_init_90 : decode cX7_init 90 = .ok (.newarray .int, 2) := by decide +kernel
theorem dX7_init_92 : decode cX7_init 92 = .ok (.putfield 40, 3) := by decide +kernel
theorem dX7_init_95 : decode cX7_init 95 = .ok (.aload_n 0, 1) := by decide +kernel
theorem dX7_init_96 : decode cX7_init 96 = .ok (.bipush 7, 2) := by decide +kernel
theorem dX7_init_98 : decode cX7_init 98 = .ok (.newarray .int, 2) := by decide +kernel
theorem dX7_init_100 : decode cX7_init 100 = .ok (.putfield 43, 3) := by decide +kernel
theorem dX7_init_103 : decode cX7_init 103 = .ok (.aload_n 0, 1) := by decide +kernel
theorem dX7_init_104 : decode cX7_init 104 = .ok (.bipush 7, 2) := by decide +kernel
theorem dX7_init_106 : decode cX7_init 106 = .ok (.newarray .int, 2) := by decide +kernel
theorem dX7_init_108 : decode cX7_init 108 = .ok (.putfield 46, 3) := by decide +kernel
theorem dX7_init_111 : decode cX7_init 111 = .ok (.aload_n 0, 1) := by decide +kernel
theorem dX7_init_112 : decode cX7_init 112 = .ok (.bipush 18, 2) := by decide +kernel
theorem dX7_init_114 : decode cX7_init 114 = .ok (.newarray .int, 2) := by decide +kernel
theorem dX7_init_116 : decode cX7_init 116 = .ok (.putfield 49, 3) := by decide +kernel
theorem dX7_init_119 : decode cX7_init 119 = .ok (.aload_n 0, 1) := by decide +kernel
theorem dX7_init_120 : decode cX7_init 120 = .ok (.iconst (-1), 1) := by decide +kernel
theorem dX7_init_121 : decode cX7_init 121 = .ok (.putfield 52, 3) := by decide +kernel
theorem dX7_init_124 : decode cX7_init 124 = .ok (.return_, 1) := by decide +kernel
theorem dX7_in_0 : decode cX7_in 0 = .ok (.lload_n 0, 1) := by decide +kernel
theorem dX7_in_1 : decode cX7_in 1 = .ok (.lload_n 2, 1) := by decide +kernel
theorem dX7_in_2 : decode cX7_in 2 = .ok (.lcmp, 1) := by decide +kernel
theorem dX7_in_3 : decode cX7_in 3 = .ok (.ifCond .lt 14, 3) := by decide +kernel
theorem dX7_in_6 : decode cX7_in 6 = .ok (.lload_n 0, 1) := by decide +kernel
theorem dX7_in_7 : decode cX7_in 7 = .ok (.lload 4, 2) := by decide +kernel
theorem dX7_in_9 : decode cX7_in 9 = .ok (.lcmp, 1) := by decide +kernel
theorem dX7_in_10 : decode cX7_in 10 = .ok (.ifCond .gt 7, 3) := by decide +kernel
theorem dX7_in_13 : decode cX7_in 13 = .ok (.iconst 1, 1) := by decide +kernel
theorem dX7_in_14 : decode cX7_in 14 = .ok (.goto 4, 3) := by decide +kernel
theorem dX7_in_17 : decode cX7_in 17 = .ok (.iconst 0, 1) := by decide +kernel
theorem dX7_in_18 : decode cX7_in 18 = .ok (.ireturn, 1) := by decide +kernel
theorem dX7_copy_0 : decode cX7_copy 0 = .ok (.iconst 0, 1) := by decide +kernel
theorem dX7_copy_1 : decode cX7_copy 1 = .ok (.istore_n 2, 1) := by decide +kernel
theorem dX7_copy_2 : decode cX7_copy 2 = .ok (.iload_n 2, 1) := by decide +kernel
theorem dX7_copy_3 : decode cX7_copy 3 = .ok (.aload_n 0, 1) := by decide +kernel
theorem dX7_copy_4 : decode cX7_copy 4 = .ok (.arraylength, 1) := by decide +kernel
theorem dX7_copy_5 : decode cX7_copy 5 = .ok (.if_icmp .ge 15, 3) := by decide +kernel
theorem dX7_copy_8 : decode cX7_copy 8 = .ok (.aload_n 1, 1) := by decide +kernel
theorem dX7_copy_9 : decode cX7_copy 9 = .ok (.iload_n 2, 1) := by decide +kernel
theorem dX7_copy_10 : decode cX7_copy 10 = .ok (.aload_n 0, 1) := by decide +kernel
theorem dX7_copy_11 : decode cX7_copy 11 = .ok (.iload_n 2, 1) := by decide +kernel
theorem dX7_copy_12 : decode cX7_copy 12 = .ok (.iaload, 1) := by decide +kernel
theorem dX7_copy_13 : decode cX7_copy 13 = .ok (.iastore, 1) := by decide +kernel
theorem dX7_copy_14 : decode cX7_copy 14 = .ok (.iinc 2 1, 3) := by decide +kernel
theorem dX7_copy_17 : decode cX7_copy 17 = .ok (.goto (-15), 3) := by decide +kernel
theorem dX7_copy_20 : decode cX7_copy 20 = .ok (.return_, 1) := by decide +kernel
theorem dX7_letter_0 : decode cX7_letter 0 = .ok (.iload_n 1, 1) := by decide +kernel
theorem dX7_letter_1 : decode cX7_letter 1 = .ok (.i2l, 1) := by decide +kernel
theorem dX7_letter_2 : decode cX7_letter 2 = .ok (.lconst 1, 1) := by decide +kernel
theorem dX7_letter_3 : decode cX7_letter 3 = .ok (.ldc2_w 56, 3) := by decide +kernel
theorem dX7_letter_6 : decode cX7_letter 6 = .ok (.invokestatic 58, 3) := by decide +kernel
theorem dX7_letter_9 : decode cX7_letter 9 = .ok (.ifCond .ne 6, 3) := by decide +kernel
theorem dX7_letter_12 : decode cX7_letter 12 = .ok (.bipush (-102), 2) := by decide +kernel
theorem dX7_letter_14 : decode cX7_letter 14 = .ok (.ireturn, 1) := by decide +kernel
theorem dX7_letter_15 : decode cX7_letter 15 = .ok (.aload_n 0, 1) := by decide +kernel
theorem dX7_letter_16 : decode cX7_letter 16 = .ok (.getfield 62, 3) := by decide +kernel
theorem dX7_letter_19 : decode cX7_letter 19 = .ok (.bipush 9, 2) := by decide +kernel
theorem dX7_letter_21 : decode cX7_letter 21 = .ok (.if_icmp .ne 6, 3) := by decide +kernel
theorem dX7_letter_24 : decode cX7_letter 24 = .ok (.bipush (-104), 2) := by decide +kernel
theorem dX7_letter_26 : decode cX7_letter 26 = .ok (.ireturn, 1) := by decide +kernel
theorem dX7_letter_27 : decode cX7_letter 27 = .ok (.aload_n 0, 1) := by decide +kernel
theorem dX7_letter_28 : decode cX7_letter 28 = .ok (.getfield 7, 3) := by decide +kernel
theorem dX7_letter_31 : decode cX7_letter 31 = .ok (.aload_n 0, 1) := by decide +kernel
theorem dX7_letter_32 : decode cX7_letter 32 = .ok (.getfield 62, 3) := by decide +kernel
theorem dX7_letter_35 : decode cX7_letter 35 = .ok (.iload_n 1, 1) := by decide +kernel
theorem dX7_letter_36 : decode cX7_letter 36 = .ok (.iastore, 1) := by decide +kernel
theorem dX7_letter_37 : decode cX7_letter 37 = .ok (.aload_n 0, 1) := by decide +kernel
theorem dX7_letter_38 : decode cX7_letter 38 = .ok (.dup, 1) := by decide +kernel
theorem dX7_letter_39 : decode cX7_letter 39 = .ok (.getfield 62, 3) := by decide +kernel
theorem dX7_letter_42 : decode cX7_letter 42 = .ok (.iconst 1, 1) := by decide +kernel
theorem dX7_letter_43 : decode cX7_letter 43 = .ok (.iadd, 1) := by decide +kernel
theorem dX7_letter_44 : decode cX7_letter 44 = .ok (.putfield 62, 3) := by decide +kernel
theorem dX7_letter_47 : decode cX7_letter 47 = .ok (.aload_n 0, 1) := by decide +kernel
theorem dX7_letter_48 : decode cX7_letter 48 = .ok (.getfield 62, 3) := by decide +kernel
theorem dX7_letter_51 : decode cX7_letter 51 = .ok (.ireturn, 1) := by decide +kernel
theorem dX7_blank_0 : decode cX7_blank 0 = .ok (.aload_n 0, 1) := by decide +kernel
theorem dX7_blank_1 : decode cX7_blank 1 = .ok (.getfield 62, 3) := by decide +kernel
theorem dX7_blank_4 : decode cX7_blank 4 = .ok (.istore_n 1, 1) := by decide +kernel
theorem dX7_blank_5 : decode cX7_blank 5 = .ok (.aload_n 0, 1) := by decide +kernel
theorem dX7_blank_6 : decode cX7_blank 6 = .ok (.iconst 0, 1) := by decide +kernel
theorem dX7_blank_7 : decode cX7_blank 7 = .ok (.putfield 62, 3) := by decide +kernel
theorem dX7_blank_10 : decode cX7_blank 10 = .ok (.iload_n 1, 1) := by decide +kernel
theorem dX7_blank_11 : decode cX7_blank 11 = .ok (.ireturn, 1) := by decide +kernel
theorem dX7_kindBy_0 : decode cX7_kindBy 0 = .ok (.iload_n 0, 1) := by decide +kernel
theorem dX7_kindBy_1 : decode cX7_kindBy 1 = .ok (.lookupswitch 61 #[(98, 53), (99, 57), (108, 51), (116, 59), (119, 55)], 51) := by decide +kernel
theorem dX7_kindBy_52 : decode cX7_kindBy 52 = .ok (.iconst 0, 1) := by decide +kernel
theorem dX7_kindBy_53 : decode cX7_kindBy 53 = .ok (.ireturn, 1) := by decide +kernel
theorem dX7_kindBy_54 : decode cX7_kindBy 54 = .ok (.iconst 1, 1) := by decide +kernel
theorem dX7_kindBy_55 : decode cX7_kindBy 55 = .ok (.ireturn, 1) := by decide +kernel
theorem dX7_kindBy_56 : decode cX7_kindBy 56 = .ok (.iconst 2, 1) := by decide +kernel
theorem dX7_kindBy_57 : decode cX7_kindBy 57 = .ok (.ireturn, 1) := by decide +kernel
theorem dX7_kindBy_58 : decode cX7_kindBy 58 = .ok (.iconst 3, 1) := by decide +kernel
theorem dX7_kindBy_59 : decode cX7_kindBy 59 = .ok (.ireturn, 1) := by decide +kernel
theorem dX7_kindBy_60 : decode cX7_kindBy 60 = .ok (.iconst 4, 1) := by decide +kernel
theorem dX7_kindBy_61 : decode cX7_kindBy 61 = .ok (.ireturn, 1) := by decide +kernel
theorem dX7_kindBy_62 : decode cX7_kindBy 62 = .ok (.iconst (-1), 1) := by decide +kernel
theorem dX7_kindBy_63 : decode cX7_kindBy 63 = .ok (.ireturn, 1) := by decide +kernel
theorem dX7_faultOf_0 : decode cX7_faultOf 0 = .ok (.iconst 0, 1) := by decide +kernel
theorem dX7_faultOf_1 : decode cX7_faultOf 1 = .ok (.istore_n 1, 1) := by decide +kernel
theorem dX7_faultOf_2 : decode cX7_faultOf 2 = .ok (.iload_n 1, 1) := by decide +kernel
theorem dX7_faultOf_3 : decode cX7_faultOf 3 = .ok (.aload_n 0, 1) := by decide +kernel
theorem dX7_faultOf_4 : decode cX7_faultOf 4 = .ok (.getfield 62, 3) := by decide +kernel
theorem dX7_faultOf_7 : decode cX7_faultOf 7 = .ok (.if_icmp .ge 28, 3) := by decide +kernel
theorem dX7_faultOf_10 : decode cX7_faultOf 10 = .ok (.iload_n 1, 1) := by decide +kernel
theorem dX7_faultOf_11 : decode cX7_faultOf 11 = .ok (.bipush 7, 2) := by decide +kernel
theorem dX7_faultOf_13 : decode cX7_faultOf 13 = .ok (.if_icmp .ge 22, 3) := by decide +kernel
theorem dX7_faultOf_16 : decode cX7_faultOf 16 = .ok (.aload_n 0, 1) := by decide +kernel
theorem dX7_faultOf_17 : decode cX7_faultOf 17 = .ok (.getfield 7, 3) := by decide +kernel
theorem dX7_faultOf_20 : decode cX7_faultOf 20 = .ok (.iload_n 1, 1) := by decide +kernel
theorem dX7_faultOf_21 : decode cX7_faultOf 21 = .ok (.iaload, 1) := by decide +kernel
theorem dX7_faultOf_22 : decode cX7_faultOf 22 = .ok (.invokestatic 65, 3) := by decide +kernel
theorem dX7_faultOf_25 : decode cX7_faultOf 25 = .ok (.iconst (-1), 1) := by decide +kernel
theorem dX7_faultOf_26 : decode cX7_faultOf 26 = .ok (.if_icmp .eq 9, 3) := by decide +kernel
theorem dX7_faultOf_29 : decode cX7_faultOf 29 = .ok (.iinc 1 1, 3) := by decide +kernel
theorem dX7_faultOf_32 : decode cX7_faultOf 32 = .ok (.goto (-30), 3) := by decide +kernel
theorem dX7_faultOf_35 : decode cX7_faultOf 35 = .ok (.iload_n 1, 1) := by decide +kernel
theorem dX7_faultOf_36 : decode cX7_faultOf 36 = .ok (.ireturn, 1) := by decide +kernel
theorem dX7_fault_0 : decode cX7_fault 0 = .ok (.aload_n 0, 1) := by decide +kernel
theorem dX7_fault_1 : decode cX7_fault 1 = .ok (.invokevirtual 69, 3) := by decide +kernel
theorem dX7_fault_4 : decode cX7_fault 4 = .ok (.ireturn, 1) := by decide +kernel
theorem dX7_strip_0 : decode cX7_strip 0 = .ok (.aload_n 0, 1) := by decide +kernel
theorem dX7_strip_1 : decode cX7_strip 1 = .ok (.invokevirtual 69, 3) := by decide +kernel
theorem dX7_strip_4 : decode cX7_strip 4 = .ok (.aload_n 0, 1) := by decide +kernel
theorem dX7_strip_5 : decode cX7_strip 5 = .ok (.getfield 62, 3) := by decide +kernel
theorem dX7_strip_8 : decode cX7_strip 8 = .ok (.if_icmp .lt 11, 3) := by decide +kernel
theorem dX7_strip_11 : decode cX7_strip 11 = .ok (.aload_n 0, 1) := by decide +kernel
theorem dX7_strip_12 : decode cX7_strip 12 = .ok (.getfield 62, 3) := by decide +kernel
theorem dX7_strip_15 : decode cX7_strip 15 = .ok (.iconst 2, 1) := by decide +kernel
theorem dX7_strip_16 : decode cX7_strip 16 = .ok (.if_icmp .ge 6, 3) := by decide +kernel
theorem dX7_strip_19 : decode cX7_strip 19 = .ok (.bipush (-103), 2) := by decide +kernel
theorem dX7_strip_21 : decode cX7_strip 21 = .ok (.ireturn, 1) := by decide +kernel
theorem dX7_strip_22 : decode cX7_strip 22 = .ok (.aload_n 0, 1) := by decide +kernel
theorem dX7_strip_23 : decode cX7_strip 23 = .ok (.aload_n 0, 1) := by decide +kernel
theorem dX7_strip_24 : decode cX7_strip 24 = .ok (.getfield 62, 3) := by decide +kernel
theorem dX7_strip_27 : decode cX7_strip 27 = .ok (.putfield 73, 3) := by decide +kernel
theorem dX7_strip_30 : decode cX7_strip 30 = .ok (.iconst 0, 1) := by decide +kernel
theorem dX7_strip_31 : decode cX7_strip 31 = .ok (.istore_n 1, 1) := by decide +kernel
theorem dX7_strip_32 : decode cX7_strip 32 = .ok (.iload_n 1, 1) := by decide +kernel
theorem dX7_strip_33 : decode cX7_strip 33 = .ok (.aload_n 0, 1) := by decide +kernel
theorem dX7_strip_34 : decode cX7_strip 34 = .ok (.getfield 73, 3) := by decide +kernel
theorem dX7_strip_37 : decode cX7_strip 37 = .ok (.if_icmp .ge 31, 3) := by decide +kernel
theorem dX7_strip_40 : decode cX7_strip 40 = .ok (.aload_n 0, 1) := by decide +kernel
theorem dX7_strip_41 : decode cX7_strip 41 = .ok (.getfield 13, 3) := by decide +kernel
theorem dX7_strip_44 : decode cX7_strip 44 = .ok (.iload_n 1, 1) := by decide +kernel
theorem dX7_strip_45 : decode cX7_strip 45 = .ok (.aload_n 0, 1) := by decide +kernel
theorem dX7_strip_46 : decode cX7_strip 46 = .ok (.getfield 7, 3) := by decide +kernel
theorem dX7_strip_49 : decode cX7_strip 49 = .ok (.iload_n 1, 1) := by decide +kernel
theorem dX7_strip_50 : decode cX7_strip 50 = .ok (.iaload, 1) := by decide +kernel
theorem dX7_strip_51 : decode cX7_strip 51 = .ok (.invokestatic 65, 3) := by decide +kernel
theorem dX7_strip_54 : decode cX7_strip 54 = .ok (.iastore, 1) := by decide +kernel
theorem dX7_strip_55 : decode cX7_strip 55 = .ok (.aload_n 0, 1) := by decide +kernel
theorem dX7_strip_56 : decode cX7_strip 56 = .ok (.getfield 16, 3) := by decide +kernel
theorem dX7_strip_59 : decode cX7_strip 59 = .ok (.iload_n 1, 1) := by decide +kernel
theorem dX7_strip_60 : decode cX7_strip 60 = .ok (.iload_n 1, 1) := by decide +kernel
theorem dX7_strip_61 : decode cX7_strip 61 = .ok (.iastore, 1) := by decide +kernel
theorem dX7_strip_62 : decode cX7_strip 62 = .ok (.iinc 1 1, 3) := by decide +kernel
theorem dX7_strip_65 : decode cX7_strip 65 = .ok (.goto (-33), 3) := by decide +kernel
theorem dX7_strip_68 : decode cX7_strip 68 = .ok (.aload_n 0, 1) := by decide +kernel
theorem dX7_strip_69 : decode cX7_strip 69 = .ok (.invokevirtual 76, 3) := by decide +kernel
theorem dX7_strip_72 : decode cX7_strip 72 = .ok (.aload_n 0, 1) := by decide +kernel
theorem dX7_strip_73 : decode cX7_strip 73 = .ok (.iconst 0, 1) := by decide +kernel
theorem dX7_strip_74 : decode cX7_strip 74 = .ok (.putfield 79, 3) := by decide +kernel
theorem dX7_strip_77 : decode cX7_strip 77 = .ok (.aload_n 0, 1) := by decide +kernel
theorem dX7_strip_78 : decode cX7_strip 78 = .ok (.iconst 0, 1) := by decide +kernel
theorem dX7_strip_79 : decode cX7_strip 79 = .ok (.putfield 82, 3) := by decide +kernel
theorem dX7_strip_82 : decode cX7_strip 82 = .ok (.aload_n 0, 1) := by decide +kernel
theorem dX7_strip_83 : decode cX7_strip 83 = .ok (.dup, 1) := by decide +kernel
theorem dX7_strip_84 : decode cX7_strip 84 = .ok (.getfield 85, 3) := by decide +kernel
theorem dX7_strip_87 : decode cX7_strip 87 = .ok (.iconst 1, 1) := by decide +kernel
theorem dX7_strip_88 : decode cX7_strip 88 = .ok (.iadd, 1) := by decide +kernel
theorem dX7_strip_89 : decode cX7_strip 89 = .ok (.putfield 85, 3) := by decide +kernel
theorem dX7_strip_92 : decode cX7_strip 92 = .ok (.aload_n 0, 1) := by decide +kernel
theorem dX7_strip_93 : decode cX7_strip 93 = .ok (.iconst 0, 1) := by decide +kernel
theorem dX7_strip_94 : decode cX7_strip 94 = .ok (.putfield 62, 3) := by decide +kernel
theorem dX7_strip_97 : decode cX7_strip 97 = .ok (.aload_n 0, 1) := by decide +kernel
theorem dX7_strip_98 : decode cX7_strip 98 = .ok (.getfield 73, 3) := by decide +kernel
theorem dX7_strip_101 : decode cX7_strip 101 = .ok (.ireturn, 1) := by decide +kernel
theorem dX7_lacks_0 : decode cX7_lacks 0 = .ok (.aload_n 0, 1) := by decide +kernel
theorem dX7_lacks_1 : decode cX7_lacks 1 = .ok (.getfield 73, 3) := by decide +kernel
theorem dX7_lacks_4 : decode cX7_lacks 4 = .ok (.ifCond .ne 7, 3) := by decide +kernel
theorem dX7_lacks_7 : decode cX7_lacks 7 = .ok (.iconst 1, 1) := by decide +kernel
theorem dX7_lacks_8 : decode cX7_lacks 8 = .ok (.goto 4, 3) := by decide +kernel
theorem dX7_lacks_11 : decode cX7_lacks 11 = .ok (.iconst 0, 1) := by decide +kernel
theorem dX7_lacks_12 : decode cX7_lacks 12 = .ok (.ireturn, 1) := by decide +kernel
theorem dX7_isLeaf_0 : decode cX7_isLeaf 0 = .ok (.iload_n 1, 1) := by decide +kernel
theorem dX7_isLeaf_1 : decode cX7_isLeaf 1 = .ok (.i2l, 1) := by decide +kernel
theorem dX7_isLeaf_2 : decode cX7_isLeaf 2 = .ok (.lconst 0, 1) := by decide +kernel
theorem dX7_isLeaf_3 : decode cX7_isLeaf 3 = .ok (.aload_n 0, 1) := by decide +kernel
theorem dX7_isLeaf_4 : decode cX7_isLeaf 4 = .ok (.getfield 73, 3) := by decide +kernel
theorem dX7_isLeaf_7 : decode cX7_isLeaf 7 = .ok (.iconst 1, 1) := by decide +kernel
theorem dX7_isLeaf_8 : decode cX7_isLeaf 8 = .ok (.isub, 1) := by decide +kernel
theorem dX7_isLeaf_9 : decode cX7_isLeaf 9 = .ok (.i2l, 1) := by decide +kernel
theorem dX7_isLeaf_10 : decode cX7_isLeaf 10 = .ok (.invokestatic 58, 3) := by decide +kernel
theorem dX7_isLeaf_13 : decode cX7_isLeaf 13 = .ok (.ireturn, 1) := by decide +kernel
theorem dX7_codeOf_0 : decode cX7_codeOf 0 = .ok (.iconst 0, 1) := by decide +kernel
theorem dX7_codeOf_1 : decode cX7_codeOf 1 = .ok (.istore_n 2, 1) := by decide +kernel
theorem dX7_codeOf_2 : decode cX7_codeOf 2 = .ok (.iconst 0, 1) := by decide +kernel
theorem dX7_codeOf_3 : decode cX7_codeOf 3 = .ok (.istore_n 3, 1) := by decide +kernel
theorem dX7_codeOf_4 : decode cX7_codeOf 4 = .ok (.iload_n 3, 1) := by decide +kernel
theorem dX7_codeOf_5 : decode cX7_codeOf 5 = .ok (.iload_n 1, 1) := by decide +kernel
theorem dX7_codeOf_6 : decode cX7_codeOf 6 = .ok (.if_icmp .ge 18, 3) := by decide +kernel
theorem dX7_codeOf_9 : decode cX7_codeOf 9 = .ok (.bipush 8, 2) := by decide +kernel
theorem dX7_codeOf_11 : decode cX7_codeOf 11 = .ok (.iload_n 2, 1) := by decide +kernel
theorem dX7_codeOf_12 : decode cX7_codeOf 12 = .ok (.imul, 1) := by decide +kernel
theorem dX7_codeOf_13 : decode cX7_codeOf 13 = .ok (.aload_n 0, 1) := by decide +kernel
theorem dX7_codeOf_14 : decode cX7_codeOf 14 = .ok (.iload_n 3, 1) := by decide +kernel
theorem dX7_codeOf_15 : decode cX7_codeOf 15 = .ok (.iaload, 1) := by decide +kernel
theorem dX7_codeOf_16 : decode cX7_codeOf 16 = .ok (.iadd, 1) := by decide +kernel
theorem dX7_codeOf_17 : decode cX7_codeOf 17 = .ok (.istore_n 2, 1) := by decide +kernel
theorem dX7_codeOf_18 : decode cX7_codeOf 18 = .ok (.iinc 3 1, 3) := by decide +kernel
theorem dX7_codeOf_21 : decode cX7_codeOf 21 = .ok (.goto (-17), 3) := by decide +kernel
theorem dX7_codeOf_24 : decode cX7_codeOf 24 = .ok (.iload_n 2, 1) := by decide +kernel
theorem dX7_codeOf_25 : decode cX7_codeOf 25 = .ok (.ireturn, 1) := by decide +kernel
theorem dX7_layRow_0 : decode cX7_layRow 0 = .ok (.iload_n 1, 1) := by decide +kernel
theorem dX7_layRow_1 : decode cX7_layRow 1 = .ok (.istore_n 3, 1) := by decide +kernel
theorem dX7_layRow_2 : decode cX7_layRow 2 = .ok (.aload_n 0, 1) := by decide +kernel
theorem dX7_layRow_3 : decode cX7_layRow 3 = .ok (.getfield 73, 3) := by decide +kernel
theorem dX7_layRow_6 : decode cX7_layRow 6 = .ok (.iconst 1, 1) := by decide +kernel
theorem dX7_layRow_7 : decode cX7_layRow 7 = .ok (.isub, 1) := by decide +kernel
theorem dX7_layRow_8 : decode cX7_layRow 8 = .ok (.istore 4, 2) := by decide +kernel
theorem dX7_layRow_10 : decode cX7_layRow 10 = .ok (.iload 4, 2) := by decide +kernel
theorem dX7_layRow_12 : decode cX7_layRow 12 = .ok (.ifCond .lt 22, 3) := by decide +kernel
theorem dX7_layRow_15 : decode cX7_layRow 15 = .ok (.aload_n 2, 1) := by decide +kernel
theorem dX7_layRow_16 : decode cX7_layRow 16 = .ok (.iload 4, 2) := by decide +kernel
theorem dX7_layRow_18 : decode cX7_layRow 18 = .ok (.iload_n 3, 1) := by decide +kernel
theorem dX7_layRow_19 : decode cX7_layRow 19 = .ok (.bipush 8, 2) := by decide +kernel
theorem dX7_layRow_21 : decode cX7_layRow 21 = .ok (.irem, 1) := by decide +kernel
theorem dX7_layRow_22 : decode cX7_layRow 22 = .ok (.iastore, 1) := by decide +kernel
theorem dX7_layRow_23 : decode cX7_layRow 23 = .ok (.iload_n 3, 1) := by decide +kernel
theorem dX7_layRow_24 : decode cX7_layRow 24 = .ok (.bipush 8, 2) := by decide +kernel
theorem dX7_layRow_26 : decode cX7_layRow 26 = .ok (.idiv, 1) := by decide +kernel
theorem dX7_layRow_27 : decode cX7_layRow 27 = .ok (.istore_n 3, 1) := by decide +kernel
theorem dX7_layRow_28 : decode cX7_layRow 28 = .ok (.iinc 4 (-1), 3) := by decide +kernel
theorem dX7_layRow_31 : decode cX7_layRow 31 = .ok (.goto (-21), 3) := by decide +kernel
theorem dX7_layRow_34 : decode cX7_layRow 34 = .ok (.return_, 1) := by decide +kernel
theorem dX7_layPlaces_0 : decode cX7_layPlaces 0 = .ok (.iconst 0, 1) := by decide +kernel
theorem dX7_layPlaces_1 : decode cX7_layPlaces 1 = .ok (.istore_n 2, 1) := by decide +kernel
theorem dX7_layPlaces_2 : decode cX7_layPlaces 2 = .ok (.iload_n 2, 1) := by decide +kernel
theorem dX7_layPlaces_3 : decode cX7_layPlaces 3 = .ok (.aload_n 0, 1) := by decide +kernel
theorem dX7_layPlaces_4 : decode cX7_layPlaces 4 = .ok (.getfield 73, 3) := by decide +kernel
theorem dX7_layPlaces_7 : decode cX7_layPlaces 7 = .ok (.if_icmp .ge 18, 3) := by decide +kernel
theorem dX7_layPlaces_10 : decode cX7_layPlaces 10 = .ok (.aload_n 0, 1) := by decide +kernel
theorem dX7_layPlaces_11 : decode cX7_layPlaces 11 = .ok (.getfield 22, 3) := by decide +kernel
theorem dX7_layPlaces_14 : decode cX7_layPlaces 14 = .ok (.aload_n 1, 1) := by decide +kernel
theorem dX7_layPlaces_15 : decode cX7_layPlaces 15 = .ok (.iload_n 2, 1) := by decide +kernel
theorem dX7_layPlaces_16 : decode cX7_layPlaces 16 = .ok (.iaload, 1) := by decide +kernel
theorem dX7_layPlaces_17 : decode cX7_layPlaces 17 = .ok (.iload_n 2, 1) := by decide +kernel
theorem dX7_layPlaces_18 : decode cX7_layPlaces 18 = .ok (.iastore, 1) := by decide +kernel
theorem dX7_layPlaces_19 : decode cX7_layPlaces 19 = .ok (.iinc 2 1, 3) := by decide +kernel
theorem dX7_layPlaces_22 : decode cX7_layPlaces 22 = .ok (.goto (-20), 3) := by decide +kernel
theorem dX7_layPlaces_25 : decode cX7_layPlaces 25 = .ok (.return_, 1) := by decide +kernel
theorem dX7_isWithin_0 : decode cX7_isWithin 0 = .ok (.iload_n 1, 1) := by decide +kernel
theorem dX7_isWithin_1 : decode cX7_isWithin 1 = .ok (.iload_n 2, 1) := by decide +kernel
theorem dX7_isWithin_2 : decode cX7_isWithin 2 = .ok (.if_icmp .ge 21, 3) := by decide +kernel
theorem dX7_isWithin_5 : decode cX7_isWithin 5 = .ok (.iload_n 0, 1) := by decide +kernel
theorem dX7_isWithin_6 : decode cX7_isWithin 6 = .ok (.iload_n 1, 1) := by decide +kernel
theorem dX7_isWithin_7 : decode cX7_isWithin 7 = .ok (.if_icmp .le 12, 3) := by decide +kernel
theorem dX7_isWithin_10 : decode cX7_isWithin 10 = .ok (.iload_n 0, 1) := by decide +kernel
theorem dX7_isWithin_11 : decode cX7_isWithin 11 = .ok (.iload_n 2, 1) := by decide +kernel
theorem dX7_isWithin_12 : decode cX7_isWithin 12 = .ok (.if_icmp .ge 7, 3) := by decide +kernel
theorem dX7_isWithin_15 : decode cX7_isWithin 15 = .ok (.iconst 1, 1) := by decide +kernel
theorem dX7_isWithin_16 : decode cX7_isWithin 16 = .ok (.goto 22, 3) := by decide +kernel
theorem dX7_isWithin_19 : decode cX7_isWithin 19 = .ok (.iconst 0, 1) := by decide +kernel
theorem dX7_isWithin_20 : decode cX7_isWithin 20 = .ok (.goto 18, 3) := by decide +kernel
theorem dX7_isWithin_23 : decode cX7_isWithin 23 = .ok (.iload_n 0, 1) := by decide +kernel
theorem dX7_isWithin_24 : decode cX7_isWithin 24 = .ok (.iload_n 2, 1) := by decide +kernel
theorem dX7_isWithin_25 : decode cX7_isWithin 25 = .ok (.if_icmp .le 12, 3) := by decide +kernel
theorem dX7_isWithin_28 : decode cX7_isWithin 28 = .ok (.iload_n 0, 1) := by decide +kernel
theorem dX7_isWithin_29 : decode cX7_isWithin 29 = .ok (.iload_n 1, 1) := by decide +kernel
theorem dX7_isWithin_30 : decode cX7_isWithin 30 = .ok (.if_icmp .ge 7, 3) := by decide +kernel
theorem dX7_isWithin_33 : decode cX7_isWithin 33 = .ok (.iconst 1, 1) := by decide +kernel
theorem dX7_isWithin_34 : decode cX7_isWithin 34 = .ok (.goto 4, 3) := by decide +kernel
theorem dX7_isWithin_37 : decode cX7_isWithin 37 = .ok (.iconst 0, 1) := by decide +kernel
theorem dX7_isWithin_38 : decode cX7_isWithin 38 = .ok (.ireturn, 1) := by decide +kernel
theorem dX7_isFolded_0 : decode cX7_isFolded 0 = .ok (.aload_n 0, 1) := by decide +kernel
theorem dX7_isFolded_1 : decode cX7_isFolded 1 = .ok (.aload_n 1, 1) := by decide +kernel
theorem dX7_isFolded_2 : decode cX7_isFolded 2 = .ok (.invokevirtual 88, 3) := by decide +kernel
theorem dX7_isFolded_5 : decode cX7_isFolded 5 = .ok (.iconst 0, 1) := by decide +kernel
theorem dX7_isFolded_6 : decode cX7_isFolded 6 = .ok (.istore_n 2, 1) := by decide +kernel
theorem dX7_isFolded_7 : decode cX7_isFolded 7 = .ok (.iload_n 2, 1) := by decide +kernel
theorem dX7_isFolded_8 : decode cX7_isFolded 8 = .ok (.iconst 1, 1) := by decide +kernel
theorem dX7_isFolded_9 : decode cX7_isFolded 9 = .ok (.iadd, 1) := by decide +kernel
theorem dX7_isFolded_10 : decode cX7_isFolded 10 = .ok (.aload_n 0, 1) := by decide +kernel
theorem dX7_isFolded_11 : decode cX7_isFolded 11 = .ok (.getfield 73, 3) := by decide +kernel
theorem dX7_isFolded_14 : decode cX7_isFolded 14 = .ok (.if_icmp .ge 90, 3) := by decide +kernel
theorem dX7_isFolded_17 : decode cX7_isFolded 17 = .ok (.iload_n 2, 1) := by decide +kernel
theorem dX7_isFolded_18 : decode cX7_isFolded 18 = .ok (.iconst 2, 1) := by decide +kernel
theorem dX7_isFolded_19 : decode cX7_isFolded 19 = .ok (.iadd, 1) := by decide +kernel
theorem dX7_isFolded_20 : decode cX7_isFolded 20 = .ok (.istore_n 3, 1) := by decide +kernel
theorem dX7_isFolded_21 : decode cX7_isFolded 21 = .ok (.iload_n 3, 1) := by decide +kernel
theorem dX7_isFolded_22 : decode cX7_isFolded 22 = .ok (.iconst 1, 1) := by decide +kernel
theorem dX7_isFolded_23 : decode cX7_isFolded 23 = .ok (.iadd, 1) := by decide +kernel
theorem dX7_isFolded_24 : decode cX7_isFolded 24 = .ok (.aload_n 0, 1) := by decide +kernel
theorem dX7_isFolded_25 : decode cX7_isFolded 25 = .ok (.getfield 73, 3) := by decide +kernel
theorem dX7_isFolded_28 : decode cX7_isFolded 28 = .ok (.if_icmp .ge 70, 3) := by decide +kernel
theorem dX7_isFolded_31 : decode cX7_isFolded 31 = .ok (.aload_n 0, 1) := by decide +kernel
theorem dX7_isFolded_32 : decode cX7_isFolded 32 = .ok (.getfield 22, 3) := by decide +kernel
theorem dX7_isFolded_35 : decode cX7_isFolded 35 = .ok (.iload_n 3, 1) := by decide +kernel
theorem dX7_isFolded_36 : decode cX7_isFolded 36 = .ok (.iaload, 1) := by decide +kernel
theorem dX7_isFolded_37 : decode cX7_isFolded 37 = .ok (.aload_n 0, 1) := by decide +kernel
theorem dX7_isFolded_38 : decode cX7_isFolded 38 = .ok (.getfield 22, 3) := by decide +kernel
theorem dX7_isFolded_41 : decode cX7_isFolded 41 = .ok (.iload_n 2, 1) := by decide +kernel
theorem dX7_isFolded_42 : decode cX7_isFolded 42 = .ok (.iaload, 1) := by decide +kernel
theorem dX7_isFolded_43 : decode cX7_isFolded 43 = .ok (.aload_n 0, 1) := by decide +kernel
theorem dX7_isFolded_44 : decode cX7_isFolded 44 = .ok (.getfield 22, 3) := by decide +kernel
theorem dX7_isFolded_47 : decode cX7_isFolded 47 = .ok (.iload_n 2, 1) := by decide +kernel
theorem dX7_isFolded_48 : decode cX7_isFolded 48 = .ok (.iconst 1, 1) := by decide +kernel
theorem dX7_isFolded_49 : decode cX7_isFolded 49 = .ok (.iadd, 1) := by decide +kernel
theorem dX7_isFolded_50 : decode cX7_isFolded 50 = .ok (.iaload, 1) := by decide +kernel
theorem dX7_isFolded_51 : decode cX7_isFolded 51 = .ok (.invokestatic 92, 3) := by decide +kernel
theorem dX7_isFolded_54 : decode cX7_isFolded 54 = .ok (.istore 4, 2) := by decide +kernel
theorem dX7_isFolded_56 : decode cX7_isFolded 56 = .ok (.aload_n 0, 1) := by decide +kernel
theorem dX7_isFolded_57 : decode cX7_isFolded 57 = .ok (.getfield 22, 3) := by decide +kernel
theorem dX7_isFolded_60 : decode cX7_isFolded 60 = .ok (.iload_n 3, 1) := by decide +kernel
theorem dX7_isFolded_61 : decode cX7_isFolded 61 = .ok (.iconst 1, 1) := by decide +kernel
theorem dX7_isFolded_62 : decode cX7_isFolded 62 = .ok (.iadd, 1) := by decide +kernel
theorem dX7_isFolded_63 : decode cX7_isFolded 63 = .ok (.iaload, 1) := by decide +kernel
theorem dX7_isFolded_64 : decode cX7_isFolded 64 = .ok (.aload_n 0, 1) := by decide +kernel
theorem dX7_isFolded_65 : decode cX7_isFolded 65 = .ok (.getfield 22, 3) := by decide +kernel
theorem dX7_isFolded_68 : decode cX7_isFolded 68 = .ok (.iload_n 2, 1) := by decide +kernel
theorem dX7_isFolded_69 : decode cX7_isFolded 69 = .ok (.iaload, 1) := by decide +kernel
theorem dX7_isFolded_70 : decode cX7_isFolded 70 = .ok (.aload_n 0, 1) := by decide +kernel
theorem dX7_isFolded_71 : decode cX7_isFolded 71 = .ok (.getfield 22, 3) := by decide +kernel
theorem dX7_isFolded_74 : decode cX7_isFolded 74 = .ok (.iload_n 2, 1) := by decide +kernel
theorem dX7_isFolded_75 : decode cX7_isFolded 75 = .ok (.iconst 1, 1) := by decide +kernel
theorem dX7_isFolded_76 : decode cX7_isFolded 76 = .ok (.iadd, 1) := by decide +kernel
theorem dX7_isFolded_77 : decode cX7_isFolded 77 = .ok (.iaload, 1) := by decide +kernel
theorem dX7_isFolded_78 : decode cX7_isFolded 78 = .ok (.invokestatic 92, 3) := by decide +kernel
theorem dX7_isFolded_81 : decode cX7_isFolded 81 = .ok (.istore 5, 2) := by decide +kernel
theorem dX7_isFolded_83 : decode cX7_isFolded 83 = .ok (.iload 4, 2) := by decide +kernel
theorem dX7_isFolded_85 : decode cX7_isFolded 85 = .ok (.iload 5, 2) := by decide +kernel
theorem dX7_isFolded_87 : decode cX7_isFolded 87 = .ok (.if_icmp .eq 5, 3) := by decide +kernel
theorem dX7_isFolded_90 : decode cX7_isFolded 90 = .ok (.iconst 0, 1) := by decide +kernel
theorem dX7_isFolded_91 : decode cX7_isFolded 91 = .ok (.ireturn, 1) := by decide +kernel
theorem dX7_isFolded_92 : decode cX7_isFolded 92 = .ok (.iinc 3 2, 3) := by decide +kernel
theorem dX7_isFolded_95 : decode cX7_isFolded 95 = .ok (.goto (-74), 3) := by decide +kernel
theorem dX7_isFolded_98 : decode cX7_isFolded 98 = .ok (.iinc 2 1, 3) := by decide +kernel
theorem dX7_isFolded_101 : decode cX7_isFolded 101 = .ok (.goto (-94), 3) := by decide +kernel
theorem dX7_isFolded_104 : decode cX7_isFolded 104 = .ok (.iconst 1, 1) := by decide +kernel
theorem dX7_isFolded_105 : decode cX7_isFolded 105 = .ok (.ireturn, 1) := by decide +kernel
theorem dX7_isStepped_0 : decode cX7_isStepped 0 = .ok (.aload_n 0, 1) := by decide +kernel
theorem dX7_isStepped_1 : decode cX7_isStepped 1 = .ok (.getfield 73, 3) := by decide +kernel
theorem dX7_isStepped_4 : decode cX7_isStepped 4 = .ok (.iconst 2, 1) := by decide +kernel
theorem dX7_isStepped_5 : decode cX7_isStepped 5 = .ok (.isub, 1) := by decide +kernel
theorem dX7_isStepped_6 : decode cX7_isStepped 6 = .ok (.istore_n 1, 1) := by decide +kernel
theorem dX7_isStepped_7 : decode cX7_isStepped 7 = .ok (.iload_n 1, 1) := by decide +kernel
theorem dX7_isStepped_8 : decode cX7_isStepped 8 = .ok (.ifCond .lt 26, 3) := by decide +kernel
theorem dX7_isStepped_11 : decode cX7_isStepped 11 = .ok (.aload_n 0, 1) := by decide +kernel
theorem dX7_isStepped_12 : decode cX7_isStepped 12 = .ok (.getfield 25, 3) := by decide +kernel
theorem dX7_isStepped_15 : decode cX7_isStepped 15 = .ok (.iload_n 1, 1) := by decide +kernel
theorem dX7_isStepped_16 : decode cX7_isStepped 16 = .ok (.iaload, 1) := by decide +kernel
theorem dX7_isStepped_17 : decode cX7_isStepped 17 = .ok (.aload_n 0, 1) := by decide +kernel
theorem dX7_isStepped_18 : decode cX7_isStepped 18 = .ok (.getfield 25, 3) := by decide +kernel
theorem dX7_isStepped_21 : decode cX7_isStepped 21 = .ok (.iload_n 1, 1) := by decide +kernel
theorem dX7_isStepped_22 : decode cX7_isStepped 22 = .ok (.iconst 1, 1) := by decide +kernel
theorem dX7_isStepped_23 : decode cX7_isStepped 23 = .ok (.iadd, 1) := by decide +kernel
theorem dX7_isStepped_24 : decode cX7_isStepped 24 = .ok (.iaload, 1) := by decide +kernel
theorem dX7_isStepped_25 : decode cX7_isStepped 25 = .ok (.if_icmp .le 9, 3) := by decide +kernel
theorem dX7_isStepped_28 : decode cX7_isStepped 28 = .ok (.iinc 1 (-1), 3) := by decide +kernel
theorem dX7_isStepped_31 : decode cX7_isStepped 31 = .ok (.goto (-24), 3) := by decide +kernel
theorem dX7_isStepped_34 : decode cX7_isStepped 34 = .ok (.iload_n 1, 1) := by decide +kernel
theorem dX7_isStepped_35 : decode cX7_isStepped 35 = .ok (.ifCond .ge 5, 3) := by decide +kernel
theorem dX7_isStepped_38 : decode cX7_isStepped 38 = .ok (.iconst 0, 1) := by decide +kernel
theorem dX7_isStepped_39 : decode cX7_isStepped 39 = .ok (.ireturn, 1) := by decide +kernel
theorem dX7_isStepped_40 : decode cX7_isStepped 40 = .ok (.aload_n 0, 1) := by decide +kernel
theorem dX7_isStepped_41 : decode cX7_isStepped 41 = .ok (.getfield 73, 3) := by decide +kernel
theorem dX7_isStepped_44 : decode cX7_isStepped 44 = .ok (.iconst 1, 1) := by decide +kernel
theorem dX7_isStepped_45 : decode cX7_isStepped 45 = .ok (.isub, 1) := by decide +kernel
theorem dX7_isStepped_46 : decode cX7_isStepped 46 = .ok (.istore_n 2, 1) := by decide +kernel
theorem dX7_isStepped_47 : decode cX7_isStepped 47 = .ok (.aload_n 0, 1) := by decide +kernel
theorem dX7_isStepped_48 : decode cX7_isStepped 48 = .ok (.getfield 25, 3) := by decide +kernel
theorem dX7_isStepped_51 : decode cX7_isStepped 51 = .ok (.iload_n 2, 1) := by decide +kernel
theorem dX7_isStepped_52 : decode cX7_isStepped 52 = .ok (.iaload, 1) := by decide +kernel
theorem dX7_isStepped_53 : decode cX7_isStepped 53 = .ok (.aload_n 0, 1) := by decide +kernel
theorem dX7_isStepped_54 : decode cX7_isStepped 54 = .ok (.getfield 25, 3) := by decide +kernel
theorem dX7_isStepped_57 : decode cX7_isStepped 57 = .ok (.iload_n 1, 1) := by decide +kernel
theorem dX7_isStepped_58 : decode cX7_isStepped 58 = .ok (.iaload, 1) := by decide +kernel
theorem dX7_isStepped_59 : decode cX7_isStepped 59 = .ok (.if_icmp .ge 9, 3) := by decide +kernel
theorem dX7_isStepped_62 : decode cX7_isStepped 62 = .ok (.iinc 2 (-1), 3) := by decide +kernel
theorem dX7_isStepped_65 : decode cX7_isStepped 65 = .ok (.goto (-18), 3) := by decide +kernel
theorem dX7_isStepped_68 : decode cX7_isStepped 68 = .ok (.aload_n 0, 1) := by decide +kernel
theorem dX7_isStepped_69 : decode cX7_isStepped 69 = .ok (.iload_n 1, 1) := by decide +kernel
theorem dX7_isStepped_70 : decode cX7_isStepped 70 = .ok (.iload_n 2, 1) := by decide +kernel
theorem dX7_isStepped_71 : decode cX7_isStepped 71 = .ok (.invokevirtual 96, 3) := by decide +kernel
theorem dX7_isStepped_74 : decode cX7_isStepped 74 = .ok (.iload_n 1, 1) := by decide +kernel
theorem dX7_isStepped_75 : decode cX7_isStepped 75 = .ok (.iconst 1, 1) := by decide +kernel
theorem dX7_isStepped_76 : decode cX7_isStepped 76 = .ok (.iadd, 1) := by decide +kernel
theorem dX7_isStepped_77 : decode cX7_isStepped 77 = .ok (.istore_n 3, 1) := by decide +kernel
theorem dX7_isStepped_78 : decode cX7_isStepped 78 = .ok (.aload_n 0, 1) := by decide +kernel
theorem dX7_isStepped_79 : decode cX7_isStepped 79 = .ok (.getfield 73, 3) := by decide +kernel
theorem dX7_isStepped_82 : decode cX7_isStepped 82 = .ok (.iconst 1, 1) := by decide +kernel
theorem dX7_isStepped_83 : decode cX7_isStepped 83 = .ok (.isub, 1) := by decide +kernel
theorem dX7_isStepped_84 : decode cX7_isStepped 84 = .ok (.istore 4, 2) := by decide +kernel
theorem dX7_isStepped_86 : decode cX7_isStepped 86 = .ok (.iload_n 3, 1) := by decide +kernel
theorem dX7_isStepped_87 : decode cX7_isStepped 87 = .ok (.iload 4, 2) := by decide +kernel
theorem dX7_isStepped_89 : decode cX7_isStepped 89 = .ok (.if_icmp .ge 19, 3) := by decide +kernel
theorem dX7_isStepped_92 : decode cX7_isStepped 92 = .ok (.aload_n 0, 1) := by decide +kernel
theorem dX7_isStepped_93 : decode cX7_isStepped 93 = .ok (.iload_n 3, 1) := by decide +kernel
theorem dX7_isStepped_94 : decode cX7_isStepped 94 = .ok (.iload 4, 2) := by decide +kernel
theorem dX7_isStepped_96 : decode cX7_isStepped 96 = .ok (.invokevirtual 96, 3) := by decide +kernel
theorem dX7_isStepped_99 : decode cX7_isStepped 99 = .ok (.iinc 3 1, 3) := by decide +kernel
theorem dX7_isStepped_102 : decode cX7_isStepped 102 = .ok (.iinc 4 (-1), 3) := by decide +kernel
theorem dX7_isStepped_105 : decode cX7_isStepped 105 = .ok (.goto (-19), 3) := by decide +kernel
theorem dX7_isStepped_108 : decode cX7_isStepped 108 = .ok (.iconst 1, 1) := by decide +kernel
theorem dX7_isStepped_109 : decode cX7_isStepped 109 = .ok (.ireturn, 1) := by decide +kernel
theorem dX7_trade_0 : decode cX7_trade 0 = .ok (.aload_n 0, 1) := by decide +kernel
theorem dX7_trade_1 : decode cX7_trade 1 = .ok (.getfield 25, 3) := by decide +kernel
theorem dX7_trade_4 : decode cX7_trade 4 = .ok (.iload_n 1, 1) := by decide +kernel
theorem dX7_trade_5 : decode cX7_trade 5 = .ok (.iaload, 1) := by decide +kernel
theorem dX7_trade_6 : decode cX7_trade 6 = .ok (.istore_n 3, 1) := by decide +kernel
theorem dX7_trade_7 : decode cX7_trade 7 = .ok (.aload_n 0, 1) := by decide +kernel
theorem dX7_trade_8 : decode cX7_trade 8 = .ok (.getfield 25, 3) := by decide +kernel
theorem dX7_trade_11 : decode cX7_trade 11 = .ok (.iload_n 1, 1) := by decide +kernel
theorem dX7_trade_12 : decode cX7_trade 12 = .ok (.aload_n 0, 1) := by decide +kernel
theorem dX7_trade_13 : decode cX7_trade 13 = .ok (.getfield 25, 3) := by decide +kernel
theorem dX7_trade_16 : decode cX7_trade 16 = .ok (.iload_n 2, 1) := by decide +kernel
theorem dX7_trade_17 : decode cX7_trade 17 = .ok (.iaload, 1) := by decide +kernel
theorem dX7_trade_18 : decode cX7_trade 18 = .ok (.iastore, 1) := by decide +kernel
theorem dX7_trade_19 : decode cX7_trade 19 = .ok (.aload_n 0, 1) := by decide +kernel
theorem dX7_trade_20 : decode cX7_trade 20 = .ok (.getfield 25, 3) := by decide +kernel
theorem dX7_trade_23 : decode cX7_trade 23 = .ok (.iload_n 2, 1) := by decide +kernel
theorem dX7_trade_24 : decode cX7_trade 24 = .ok (.iload_n 3, 1) := by decide +kernel
theorem dX7_trade_25 : decode cX7_trade 25 = .ok (.iastore, 1) := by decide +kernel
theorem dX7_trade_26 : decode cX7_trade 26 = .ok (.return_, 1) := by decide +kernel
theorem dX7_layOrders_0 : decode cX7_layOrders 0 = .ok (.iconst 0, 1) := by decide +kernel
theorem dX7_layOrders_1 : decode cX7_layOrders 1 = .ok (.istore_n 1, 1) := by decide +kernel
theorem dX7_layOrders_2 : decode cX7_layOrders 2 = .ok (.iload_n 1, 1) := by decide +kernel
theorem dX7_layOrders_3 : decode cX7_layOrders 3 = .ok (.aload_n 0, 1) := by decide +kernel
theorem dX7_layOrders_4 : decode cX7_layOrders 4 = .ok (.getfield 73, 3) := by decide +kernel
theorem dX7_layOrders_7 : decode cX7_layOrders 7 = .ok (.if_icmp .ge 16, 3) := by decide +kernel
theorem dX7_layOrders_10 : decode cX7_layOrders 10 = .ok (.aload_n 0, 1) := by decide +kernel
theorem dX7_layOrders_11 : decode cX7_layOrders 11 = .ok (.getfield 25, 3) := by decide +kernel
theorem dX7_layOrders_14 : decode cX7_layOrders 14 = .ok (.iload_n 1, 1) := by decide +kernel
theorem dX7_layOrders_15 : decode cX7_layOrders 15 = .ok (.iload_n 1, 1) := by decide +kernel
theorem dX7_layOrders_16 : decode cX7_layOrders 16 = .ok (.iastore, 1) := by decide +kernel
theorem dX7_layOrders_17 : decode cX7_layOrders 17 = .ok (.iinc 1 1, 3) := by decide +kernel
theorem dX7_layOrders_20 : decode cX7_layOrders 20 = .ok (.goto (-18), 3) := by decide +kernel
theorem dX7_layOrders_23 : decode cX7_layOrders 23 = .ok (.aload_n 0, 1) := by decide +kernel
theorem dX7_layOrders_24 : decode cX7_layOrders 24 = .ok (.iconst 0, 1) := by decide +kernel
theorem dX7_layOrders_25 : decode cX7_layOrders 25 = .ok (.putfield 100, 3) := by decide +kernel
theorem dX7_layOrders_28 : decode cX7_layOrders 28 = .ok (.iconst 1, 1) := by decide +kernel
theorem dX7_layOrders_29 : decode cX7_layOrders 29 = .ok (.istore_n 1, 1) := by decide +kernel
theorem dX7_layOrders_30 : decode cX7_layOrders 30 = .ok (.iload_n 1, 1) := by decide +kernel
theorem dX7_layOrders_31 : decode cX7_layOrders 31 = .ok (.ifCond .eq 52, 3) := by decide +kernel
theorem dX7_layOrders_34 : decode cX7_layOrders 34 = .ok (.aload_n 0, 1) := by decide +kernel
theorem dX7_layOrders_35 : decode cX7_layOrders 35 = .ok (.aload_n 0, 1) := by decide +kernel
theorem dX7_layOrders_36 : decode cX7_layOrders 36 = .ok (.getfield 25, 3) := by decide +kernel
theorem dX7_layOrders_39 : decode cX7_layOrders 39 = .ok (.invokevirtual 103, 3) := by decide +kernel
theorem dX7_layOrders_42 : decode cX7_layOrders 42 = .ok (.ifCond .eq 33, 3) := by decide +kernel
theorem dX7_layOrders_45 : decode cX7_layOrders 45 = .ok (.aload_n 0, 1) := by decide +kernel
theorem dX7_layOrders_46 : decode cX7_layOrders 46 = .ok (.getfield 19, 3) := by decide +kernel
theorem dX7_layOrders_49 : decode cX7_layOrders 49 = .ok (.aload_n 0, 1) := by decide +kernel
theorem dX7_layOrders_50 : decode cX7_layOrders 50 = .ok (.getfield 100, 3) := by decide +kernel
theorem dX7_layOrders_53 : decode cX7_layOrders 53 = .ok (.aload_n 0, 1) := by decide +kernel
theorem dX7_layOrders_54 : decode cX7_layOrders 54 = .ok (.getfield 25, 3) := by decide +kernel
theorem dX7_layOrders_57 : decode cX7_layOrders 57 = .ok (.aload_n 0, 1) := by decide +kernel
theorem dX7_layOrders_58 : decode cX7_layOrders 58 = .ok (.getfield 73, 3) := by decide +kernel
theorem dX7_layOrders_61 : decode cX7_layOrders 61 = .ok (.invokestatic 107, 3) := by decide +kernel
theorem dX7_layOrders_64 : decode cX7_layOrders 64 = .ok (.iastore, 1) := by decide +kernel
theorem dX7_layOrders_65 : decode cX7_layOrders 65 = .ok (.aload_n 0, 1) := by decide +kernel
theorem dX7_layOrders_66 : decode cX7_layOrders 66 = .ok (.dup, 1) := by decide +kernel
theorem dX7_layOrders_67 : decode cX7_layOrders 67 = .ok (.getfield 100, 3) := by decide +kernel
theorem dX7_layOrders_70 : decode cX7_layOrders 70 = .ok (.iconst 1, 1) := by decide +kernel
theorem dX7_layOrders_71 : decode cX7_layOrders 71 = .ok (.iadd, 1) := by decide +kernel
theorem dX7_layOrders_72 : decode cX7_layOrders 72 = .ok (.putfield 100, 3) := by decide +kernel
theorem dX7_layOrders_75 : decode cX7_layOrders 75 = .ok (.aload_n 0, 1) := by decide +kernel
theorem dX7_layOrders_76 : decode cX7_layOrders 76 = .ok (.invokevirtual 111, 3) := by decide +kernel
theorem dX7_layOrders_79 : decode cX7_layOrders 79 = .ok (.istore_n 1, 1) := by decide +kernel
theorem dX7_layOrders_80 : decode cX7_layOrders 80 = .ok (.goto (-50), 3) := by decide +kernel
theorem dX7_layOrders_83 : decode cX7_layOrders 83 = .ok (.return_, 1) := by decide +kernel
theorem dX7_orderOf_0 : decode cX7_orderOf 0 = .ok (.iconst 0, 1) := by decide +kernel
theorem dX7_orderOf_1 : decode cX7_orderOf 1 = .ok (.istore_n 2, 1) := by decide +kernel
theorem dX7_orderOf_2 : decode cX7_orderOf 2 = .ok (.aload_n 0, 1) := by decide +kernel
theorem dX7_orderOf_3 : decode cX7_orderOf 3 = .ok (.getfield 19, 3) := by decide +kernel
theorem dX7_orderOf_6 : decode cX7_orderOf 6 = .ok (.iload_n 2, 1) := by decide +kernel
theorem dX7_orderOf_7 : decode cX7_orderOf 7 = .ok (.iaload, 1) := by decide +kernel
theorem dX7_orderOf_8 : decode cX7_orderOf 8 = .ok (.iload_n 1, 1) := by decide +kernel
theorem dX7_orderOf_9 : decode cX7_orderOf 9 = .ok (.if_icmp .eq 9, 3) := by decide +kernel
theorem dX7_orderOf_12 : decode cX7_orderOf 12 = .ok (.iinc 2 1, 3) := by decide +kernel
theorem dX7_orderOf_15 : decode cX7_orderOf 15 = .ok (.goto (-13), 3) := by decide +kernel
theorem dX7_orderOf_18 : decode cX7_orderOf 18 = .ok (.iload_n 2, 1) := by decide +kernel
theorem dX7_orderOf_19 : decode cX7_orderOf 19 = .ok (.ireturn, 1) := by decide +kernel
theorem dX7_orderNow_0 : decode cX7_orderNow 0 = .ok (.aload_n 0, 1) := by decide +kernel
theorem dX7_orderNow_1 : decode cX7_orderNow 1 = .ok (.aload_n 0, 1) := by decide +kernel
theorem dX7_orderNow_2 : decode cX7_orderNow 2 = .ok (.getfield 16, 3) := by decide +kernel
theorem dX7_orderNow_5 : decode cX7_orderNow 5 = .ok (.aload_n 0, 1) := by decide +kernel
theorem dX7_orderNow_6 : decode cX7_orderNow 6 = .ok (.getfield 73, 3) := by decide +kernel
theorem dX7_orderNow_9 : decode cX7_orderNow 9 = .ok (.invokestatic 107, 3) := by decide +kernel
theorem dX7_orderNow_12 : decode cX7_orderNow 12 = .ok (.invokevirtual 115, 3) := by decide +kernel
theorem dX7_orderNow_15 : decode cX7_orderNow 15 = .ok (.ireturn, 1) := by decide +kernel
theorem dX7_isOrder_0 : decode cX7_isOrder 0 = .ok (.aload_n 0, 1) := by decide +kernel
theorem dX7_isOrder_1 : decode cX7_isOrder 1 = .ok (.invokevirtual 118, 3) := by decide +kernel
theorem dX7_isOrder_4 : decode cX7_isOrder 4 = .ok (.ifCond .ne 23, 3) := by decide +kernel
theorem dX7_isOrder_7 : decode cX7_isOrder 7 = .ok (.iload_n 1, 1) := by decide +kernel
theorem dX7_isOrder_8 : decode cX7_isOrder 8 = .ok (.i2l, 1) := by decide +kernel
theorem dX7_isOrder_9 : decode cX7_isOrder 9 = .ok (.lconst 0, 1) := by decide +kernel
theorem dX7_isOrder_10 : decode cX7_isOrder 10 = .ok (.aload_n 0, 1) := by decide +kernel
theorem dX7_isOrder_11 : decode cX7_isOrder 11 = .ok (.getfield 100, 3) := by decide +kernel
theorem dX7_isOrder_14 : decode cX7_isOrder 14 = .ok (.iconst 1, 1) := by decide +kernel
theorem dX7_isOrder_15 : decode cX7_isOrder 15 = .ok (.isub, 1) := by decide +kernel
theorem dX7_isOrder_16 : decode cX7_isOrder 16 = .ok (.i2l, 1) := by decide +kernel
theorem dX7_isOrder_17 : decode cX7_isOrder 17 = .ok (.invokestatic 58, 3) := by decide +kernel
theorem dX7_isOrder_20 : decode cX7_isOrder 20 = .ok (.ifCond .eq 7, 3) := by decide +kernel
theorem dX7_isOrder_23 : decode cX7_isOrder 23 = .ok (.iconst 1, 1) := by decide +kernel
theorem dX7_isOrder_24 : decode cX7_isOrder 24 = .ok (.goto 4, 3) := by decide +kernel
theorem dX7_isOrder_27 : decode cX7_isOrder 27 = .ok (.iconst 0, 1) := by decide +kernel
theorem dX7_isOrder_28 : decode cX7_isOrder 28 = .ok (.ireturn, 1) := by decide +kernel
theorem dX7_isSticky_0 : decode cX7_isSticky 0 = .ok (.aload_n 0, 1) := by decide +kernel
theorem dX7_isSticky_1 : decode cX7_isSticky 1 = .ok (.getfield 13, 3) := by decide +kernel
theorem dX7_isSticky_4 : decode cX7_isSticky 4 = .ok (.iload_n 1, 1) := by decide +kernel
theorem dX7_isSticky_5 : decode cX7_isSticky 5 = .ok (.iaload, 1) := by decide +kernel
theorem dX7_isSticky_6 : decode cX7_isSticky 6 = .ok (.iconst 2, 1) := by decide +kernel
theorem dX7_isSticky_7 : decode cX7_isSticky 7 = .ok (.if_icmp .eq 13, 3) := by decide +kernel
theorem dX7_isSticky_10 : decode cX7_isSticky 10 = .ok (.aload_n 0, 1) := by decide +kernel
theorem dX7_isSticky_11 : decode cX7_isSticky 11 = .ok (.getfield 13, 3) := by decide +kernel
theorem dX7_isSticky_14 : decode cX7_isSticky 14 = .ok (.iload_n 1, 1) := by decide +kernel
theorem dX7_isSticky_15 : decode cX7_isSticky 15 = .ok (.iaload, 1) := by decide +kernel
theorem dX7_isSticky_16 : decode cX7_isSticky 16 = .ok (.iconst 4, 1) := by decide +kernel
theorem dX7_isSticky_17 : decode cX7_isSticky 17 = .ok (.if_icmp .ne 7, 3) := by decide +kernel
theorem dX7_isSticky_20 : decode cX7_isSticky 20 = .ok (.iconst 1, 1) := by decide +kernel
theorem dX7_isSticky_21 : decode cX7_isSticky 21 = .ok (.goto 4, 3) := by decide +kernel
theorem dX7_isSticky_24 : decode cX7_isSticky 24 = .ok (.iconst 0, 1) := by decide +kernel
theorem dX7_isSticky_25 : decode cX7_isSticky 25 = .ok (.ireturn, 1) := by decide +kernel
theorem dX7_isRight_0 : decode cX7_isRight 0 = .ok (.iload_n 2, 1) := by decide +kernel
theorem dX7_isRight_1 : decode cX7_isRight 1 = .ok (.ifCond .eq 13, 3) := by decide +kernel
theorem dX7_isRight_4 : decode cX7_isRight 4 = .ok (.iload_n 2, 1) := by decide +kernel
theorem dX7_isRight_5 : decode cX7_isRight 5 = .ok (.aload_n 0, 1) := by decide +kernel
theorem dX7_isRight_6 : decode cX7_isRight 6 = .ok (.getfield 73, 3) := by decide +kernel
theorem dX7_isRight_9 : decode cX7_isRight 9 = .ok (.iconst 1, 1) := by decide +kernel
theorem dX7_isRight_10 : decode cX7_isRight 10 = .ok (.isub, 1) := by decide +kernel
theorem dX7_isRight_11 : decode cX7_isRight 11 = .ok (.if_icmp .ne 7, 3) := by decide +kernel
theorem dX7_isRight_14 : decode cX7_isRight 14 = .ok (.iconst 1, 1) := by decide +kernel
theorem dX7_isRight_15 : decode cX7_isRight 15 = .ok (.goto 4, 3) := by decide +kernel
theorem dX7_isRight_18 : decode cX7_isRight 18 = .ok (.iconst 0, 1) := by decide +kernel
theorem dX7_isRight_19 : decode cX7_isRight 19 = .ok (.istore_n 3, 1) := by decide +kernel
theorem dX7_isRight_20 : decode cX7_isRight 20 = .ok (.iload_n 2, 1) := by decide +kernel
theorem dX7_isRight_21 : decode cX7_isRight 21 = .ok (.ifCond .le 15, 3) := by decide +kernel
theorem dX7_isRight_24 : decode cX7_isRight 24 = .ok (.aload_n 0, 1) := by decide +kernel
theorem dX7_isRight_25 : decode cX7_isRight 25 = .ok (.aload_n 1, 1) := by decide +kernel
theorem dX7_isRight_26 : decode cX7_isRight 26 = .ok (.iload_n 2, 1) := by decide +kernel
theorem dX7_isRight_27 : decode cX7_isRight 27 = .ok (.iconst 1, 1) := by decide +kernel
theorem dX7_isRight_28 : decode cX7_isRight 28 = .ok (.isub, 1) := by decide +kernel
theorem dX7_isRight_29 : decode cX7_isRight 29 = .ok (.iaload, 1) := by decide +kernel
theorem dX7_isRight_30 : decode cX7_isRight 30 = .ok (.invokevirtual 121, 3) := by decide +kernel
theorem dX7_isRight_33 : decode cX7_isRight 33 = .ok (.ifCond .ne 25, 3) := by decide +kernel
theorem dX7_isRight_36 : decode cX7_isRight 36 = .ok (.iload_n 2, 1) := by decide +kernel
theorem dX7_isRight_37 : decode cX7_isRight 37 = .ok (.aload_n 0, 1) := by decide +kernel
theorem dX7_isRight_38 : decode cX7_isRight 38 = .ok (.getfield 73, 3) := by decide +kernel
theorem dX7_isRight_41 : decode cX7_isRight 41 = .ok (.iconst 1, 1) := by decide +kernel
theorem dX7_isRight_42 : decode cX7_isRight 42 = .ok (.isub, 1) := by decide +kernel
theorem dX7_isRight_43 : decode cX7_isRight 43 = .ok (.if_icmp .ge 19, 3) := by decide +kernel
theorem dX7_isRight_46 : decode cX7_isRight 46 = .ok (.aload_n 0, 1) := by decide +kernel
theorem dX7_isRight_47 : decode cX7_isRight 47 = .ok (.aload_n 1, 1) := by decide +kernel
theorem dX7_isRight_48 : decode cX7_isRight 48 = .ok (.iload_n 2, 1) := by decide +kernel
theorem dX7_isRight_49 : decode cX7_isRight 49 = .ok (.iconst 1, 1) := by decide +kernel
theorem dX7_isRight_50 : decode cX7_isRight 50 = .ok (.iadd, 1) := by decide +kernel
theorem dX7_isRight_51 : decode cX7_isRight 51 = .ok (.iaload, 1) := by decide +kernel
theorem dX7_isRight_52 : decode cX7_isRight 52 = .ok (.invokevirtual 121, 3) := by decide +kernel
theorem dX7_isRight_55 : decode cX7_isRight 55 = .ok (.ifCond .eq 7, 3) := by decide +kernel
theorem dX7_isRight_58 : decode cX7_isRight 58 = .ok (.iconst 1, 1) := by decide +kernel
theorem dX7_isRight_59 : decode cX7_isRight 59 = .ok (.goto 4, 3) := by decide +kernel
theorem dX7_isRight_62 : decode cX7_isRight 62 = .ok (.iconst 0, 1) := by decide +kernel
theorem dX7_isRight_63 : decode cX7_isRight 63 = .ok (.istore 4, 2) := by decide +kernel
theorem dX7_isRight_65 : decode cX7_isRight 65 = .ok (.aload_n 0, 1) := by decide +kernel
theorem dX7_isRight_66 : decode cX7_isRight 66 = .ok (.getfield 13, 3) := by decide +kernel
theorem dX7_isRight_69 : decode cX7_isRight 69 = .ok (.aload_n 1, 1) := by decide +kernel
theorem dX7_isRight_70 : decode cX7_isRight 70 = .ok (.iload_n 2, 1) := by decide +kernel
theorem dX7_isRight_71 : decode cX7_isRight 71 = .ok (.iaload, 1) := by decide +kernel
theorem dX7_isRight_72 : decode cX7_isRight 72 = .ok (.iaload, 1) := by decide +kernel
theorem dX7_isRight_73 : decode cX7_isRight 73 = .ok (.tableswitch 55 2 4 #[29, 27, 40], 27) := by decide +kernel
theorem dX7_isRight_100 : decode cX7_isRight 100 = .ok (.iload_n 3, 1) := by decide +kernel
theorem dX7_isRight_101 : decode cX7_isRight 101 = .ok (.ireturn, 1) := by decide +kernel
theorem dX7_isRight_102 : decode cX7_isRight 102 = .ok (.iload 4, 2) := by decide +kernel
theorem dX7_isRight_104 : decode cX7_isRight 104 = .ok (.ifCond .ne 7, 3) := by decide +kernel
theorem dX7_isRight_107 : decode cX7_isRight 107 = .ok (.iconst 1, 1) := by decide +kernel
theorem dX7_isRight_108 : decode cX7_isRight 108 = .ok (.goto 4, 3) := by decide +kernel
theorem dX7_isRight_111 : decode cX7_isRight 111 = .ok (.iconst 0, 1) := by decide +kernel
theorem dX7_isRight_112 : decode cX7_isRight 112 = .ok (.ireturn, 1) := by decide +kernel
theorem dX7_isRight_113 : decode cX7_isRight 113 = .ok (.iload 4, 2) := by decide +kernel
theorem dX7_isRight_115 : decode cX7_isRight 115 = .ok (.ifCond .ne 11, 3) := by decide +kernel
theorem dX7_isRight_118 : decode cX7_isRight 118 = .ok (.iload_n 3, 1) := by decide +kernel
theorem dX7_isRight_119 : decode cX7_isRight 119 = .ok (.ifCond .ne 7, 3) := by decide +kernel
theorem dX7_isRight_122 : decode cX7_isRight 122 = .ok (.iconst 1, 1) := by decide +kernel
theorem dX7_isRight_123 : decode cX7_isRight 123 = .ok (.goto 4, 3) := by decide +kernel
theorem dX7_isRight_126 : decode cX7_isRight 126 = .ok (.iconst 0, 1) := by decide +kernel
theorem dX7_isRight_127 : decode cX7_isRight 127 = .ok (.ireturn, 1) := by decide +kernel
theorem dX7_isRight_128 : decode cX7_isRight 128 = .ok (.iconst 1, 1) := by decide +kernel
theorem dX7_isRight_129 : decode cX7_isRight 129 = .ok (.ireturn, 1) := by decide +kernel
theorem dX7_rightMany_0 : decode cX7_rightMany 0 = .ok (.iconst 0, 1) := by decide +kernel
theorem dX7_rightMany_1 : decode cX7_rightMany 1 = .ok (.istore_n 2, 1) := by decide +kernel
theorem dX7_rightMany_2 : decode cX7_rightMany 2 = .ok (.iconst 0, 1) := by decide +kernel
theorem dX7_rightMany_3 : decode cX7_rightMany 3 = .ok (.istore_n 3, 1) := by decide +kernel
theorem dX7_rightMany_4 : decode cX7_rightMany 4 = .ok (.iload_n 3, 1) := by decide +kernel
theorem dX7_rightMany_5 : decode cX7_rightMany 5 = .ok (.aload_n 0, 1) := by decide +kernel
theorem dX7_rightMany_6 : decode cX7_rightMany 6 = .ok (.getfield 73, 3) := by decide +kernel
theorem dX7_rightMany_9 : decode cX7_rightMany 9 = .ok (.if_icmp .ge 26, 3) := by decide +kernel
theorem dX7_rightMany_12 : decode cX7_rightMany 12 = .ok (.iload_n 2, 1) := by decide +kernel
theorem dX7_rightMany_13 : decode cX7_rightMany 13 = .ok (.aload_n 0, 1) := by decide +kernel
theorem dX7_rightMany_14 : decode cX7_rightMany 14 = .ok (.aload_n 1, 1) := by decide +kernel
theorem dX7_rightMany_15 : decode cX7_rightMany 15 = .ok (.iload_n 3, 1) := by decide +kernel
theorem dX7_rightMany_16 : decode cX7_rightMany 16 = .ok (.invokevirtual 125, 3) := by decide +kernel
theorem dX7_rightMany_19 : decode cX7_rightMany 19 = .ok (.ifCond .eq 7, 3) := by decide +kernel
theorem dX7_rightMany_22 : decode cX7_rightMany 22 = .ok (.iconst 1, 1) := by decide +kernel
theorem dX7_rightMany_23 : decode cX7_rightMany 23 = .ok (.goto 4, 3) := by decide +kernel
theorem dX7_rightMany_26 : decode cX7_rightMany 26 = .ok (.iconst 0, 1) := by decide +kernel
theorem dX7_rightMany_27 : decode cX7_rightMany 27 = .ok (.iadd, 1) := by decide +kernel
theorem dX7_rightMany_28 : decode cX7_rightMany 28 = .ok (.istore_n 2, 1) := by decide +kernel
theorem dX7_rightMany_29 : decode cX7_rightMany 29 = .ok (.iinc 3 1, 3) := by decide +kernel
theorem dX7_rightMany_32 : decode cX7_rightMany 32 = .ok (.goto (-28), 3) := by decide +kernel
theorem dX7_rightMany_35 : decode cX7_rightMany 35 = .ok (.iload_n 2, 1) := by decide +kernel
theorem dX7_rightMany_36 : decode cX7_rightMany 36 = .ok (.ireturn, 1) := by decide +kernel
theorem dX7_isFit_0 : decode cX7_isFit 0 = .ok (.aload_n 0, 1) := by decide +kernel
theorem dX7_isFit_1 : decode cX7_isFit 1 = .ok (.aload_n 1, 1) := by decide +kernel
theorem dX7_isFit_2 : decode cX7_isFit 2 = .ok (.invokevirtual 129, 3) := by decide +kernel
theorem dX7_isFit_5 : decode cX7_isFit 5 = .ok (.aload_n 0, 1) := by decide +kernel
theorem dX7_isFit_6 : decode cX7_isFit 6 = .ok (.getfield 73, 3) := by decide +kernel
theorem dX7_isFit_9 : decode cX7_isFit 9 = .ok (.if_icmp .ne 7, 3) := by decide +kernel
theorem dX7_isFit_12 : decode cX7_isFit 12 = .ok (.iconst 1, 1) := by decide +kernel
theorem dX7_isFit_13 : decode cX7_isFit 13 = .ok (.goto 4, 3) := by decide +kernel
theorem dX7_isFit_16 : decode cX7_isFit 16 = .ok (.iconst 0, 1) := by decide +kernel
theorem dX7_isFit_17 : decode cX7_isFit 17 = .ok (.ireturn, 1) := by decide +kernel
theorem dX7_isFitOrder_0 : decode cX7_isFitOrder 0 = .ok (.aload_n 0, 1) := by decide +kernel
theorem dX7_isFitOrder_1 : decode cX7_isFitOrder 1 = .ok (.aload_n 0, 1) := by decide +kernel
theorem dX7_isFitOrder_2 : decode cX7_isFitOrder 2 = .ok (.getfield 19, 3) := by decide +kernel
theorem dX7_isFitOrder_5 : decode cX7_isFitOrder 5 = .ok (.iload_n 1, 1) := by decide +kernel
theorem dX7_isFitOrder_6 : decode cX7_isFitOrder 6 = .ok (.iaload, 1) := by decide +kernel
theorem dX7_isFitOrder_7 : decode cX7_isFitOrder 7 = .ok (.aload_n 0, 1) := by decide +kernel
theorem dX7_isFitOrder_8 : decode cX7_isFitOrder 8 = .ok (.getfield 25, 3) := by decide +kernel
theorem dX7_isFitOrder_11 : decode cX7_isFitOrder 11 = .ok (.invokevirtual 133, 3) := by decide +kernel
theorem dX7_isFitOrder_14 : decode cX7_isFitOrder 14 = .ok (.aload_n 0, 1) := by decide +kernel
theorem dX7_isFitOrder_15 : decode cX7_isFitOrder 15 = .ok (.aload_n 0, 1) := by decide +kernel
theorem dX7_isFitOrder_16 : decode cX7_isFitOrder 16 = .ok (.getfield 25, 3) := by decide +kernel
theorem dX7_isFitOrder_19 : decode cX7_isFitOrder 19 = .ok (.invokevirtual 137, 3) := by decide +kernel
theorem dX7_isFitOrder_22 : decode cX7_isFitOrder 22 = .ok (.ireturn, 1) := by decide +kernel
theorem dX7_thick_0 : decode cX7_thick 0 = .ok (.aload_n 0, 1) := by decide +kernel
theorem dX7_thick_1 : decode cX7_thick 1 = .ok (.getfield 13, 3) := by decide +kernel
theorem dX7_thick_4 : decode cX7_thick 4 = .ok (.iload_n 1, 1) := by decide +kernel
theorem dX7_thick_5 : decode cX7_thick 5 = .ok (.iaload, 1) := by decide +kernel
theorem dX7_thick_6 : decode cX7_thick 6 = .ok (.iconst 1, 1) := by decide +kernel
theorem dX7_thick_7 : decode cX7_thick 7 = .ok (.if_icmp .eq 13, 3) := by decide +kernel
theorem dX7_thick_10 : decode cX7_thick 10 = .ok (.aload_n 0, 1) := by decide +kernel
theorem dX7_thick_11 : decode cX7_thick 11 = .ok (.getfield 13, 3) := by decide +kernel
theorem dX7_thick_14 : decode cX7_thick 14 = .ok (.iload_n 1, 1) := by decide +kernel
theorem dX7_thick_15 : decode cX7_thick 15 = .ok (.iaload, 1) := by decide +kernel
theorem dX7_thick_16 : decode cX7_thick 16 = .ok (.iconst 3, 1) := by decide +kernel
theorem dX7_thick_17 : decode cX7_thick 17 = .ok (.if_icmp .ne 7, 3) := by decide +kernel
theorem dX7_thick_20 : decode cX7_thick 20 = .ok (.iconst 3, 1) := by decide +kernel
theorem dX7_thick_21 : decode cX7_thick 21 = .ok (.goto 4, 3) := by decide +kernel
theorem dX7_thick_24 : decode cX7_thick 24 = .ok (.iconst 1, 1) := by decide +kernel
theorem dX7_thick_25 : decode cX7_thick 25 = .ok (.ireturn, 1) := by decide +kernel
theorem dX7_wideOf_0 : decode cX7_wideOf 0 = .ok (.aload_n 0, 1) := by decide +kernel
theorem dX7_wideOf_1 : decode cX7_wideOf 1 = .ok (.aload_n 1, 1) := by decide +kernel
theorem dX7_wideOf_2 : decode cX7_wideOf 2 = .ok (.invokevirtual 88, 3) := by decide +kernel
theorem dX7_wideOf_5 : decode cX7_wideOf 5 = .ok (.iconst 0, 1) := by decide +kernel
theorem dX7_wideOf_6 : decode cX7_wideOf 6 = .ok (.istore_n 3, 1) := by decide +kernel
theorem dX7_wideOf_7 : decode cX7_wideOf 7 = .ok (.iconst 0, 1) := by decide +kernel
theorem dX7_wideOf_8 : decode cX7_wideOf 8 = .ok (.istore 4, 2) := by decide +kernel
theorem dX7_wideOf_10 : decode cX7_wideOf 10 = .ok (.iload 4, 2) := by decide +kernel
theorem dX7_wideOf_12 : decode cX7_wideOf 12 = .ok (.aload_n 0, 1) := by decide +kernel
theorem dX7_wideOf_13 : decode cX7_wideOf 13 = .ok (.getfield 73, 3) := by decide +kernel
theorem dX7_wideOf_16 : decode cX7_wideOf 16 = .ok (.if_icmp .ge 46, 3) := by decide +kernel
theorem dX7_wideOf_19 : decode cX7_wideOf 19 = .ok (.iload_n 3, 1) := by decide +kernel
theorem dX7_wideOf_20 : decode cX7_wideOf 20 = .ok (.iload 4, 2) := by decide +kernel
theorem dX7_wideOf_22 : decode cX7_wideOf 22 = .ok (.aload_n 0, 1) := by decide +kernel
theorem dX7_wideOf_23 : decode cX7_wideOf 23 = .ok (.getfield 22, 3) := by decide +kernel
theorem dX7_wideOf_26 : decode cX7_wideOf 26 = .ok (.iload_n 2, 1) := by decide +kernel
theorem dX7_wideOf_27 : decode cX7_wideOf 27 = .ok (.iaload, 1) := by decide +kernel
theorem dX7_wideOf_28 : decode cX7_wideOf 28 = .ok (.aload_n 0, 1) := by decide +kernel
theorem dX7_wideOf_29 : decode cX7_wideOf 29 = .ok (.getfield 22, 3) := by decide +kernel
theorem dX7_wideOf_32 : decode cX7_wideOf 32 = .ok (.iload_n 2, 1) := by decide +kernel
theorem dX7_wideOf_33 : decode cX7_wideOf 33 = .ok (.iconst 1, 1) := by decide +kernel
theorem dX7_wideOf_34 : decode cX7_wideOf 34 = .ok (.iadd, 1) := by decide +kernel
theorem dX7_wideOf_35 : decode cX7_wideOf 35 = .ok (.iaload, 1) := by decide +kernel
theorem dX7_wideOf_36 : decode cX7_wideOf 36 = .ok (.invokestatic 92, 3) := by decide +kernel
theorem dX7_wideOf_39 : decode cX7_wideOf 39 = .ok (.ifCond .eq 14, 3) := by decide +kernel
theorem dX7_wideOf_42 : decode cX7_wideOf 42 = .ok (.aload_n 0, 1) := by decide +kernel
theorem dX7_wideOf_43 : decode cX7_wideOf 43 = .ok (.aload_n 1, 1) := by decide +kernel
theorem dX7_wideOf_44 : decode cX7_wideOf 44 = .ok (.iload 4, 2) := by decide +kernel
theorem dX7_wideOf_46 : decode cX7_wideOf 46 = .ok (.iaload, 1) := by decide +kernel
theorem dX7_wideOf_47 : decode cX7_wideOf 47 = .ok (.invokevirtual 140, 3) := by decide +kernel
theorem dX7_wideOf_50 : decode cX7_wideOf 50 = .ok (.goto 4, 3) := by decide +kernel
theorem dX7_wideOf_53 : decode cX7_wideOf 53 = .ok (.iconst 0, 1) := by decide +kernel
theorem dX7_wideOf_54 : decode cX7_wideOf 54 = .ok (.iadd, 1) := by decide +kernel
theorem dX7_wideOf_55 : decode cX7_wideOf 55 = .ok (.istore_n 3, 1) := by decide +kernel
theorem dX7_wideOf_56 : decode cX7_wideOf 56 = .ok (.iinc 4 1, 3) := by decide +kernel
theorem dX7_wideOf_59 : decode cX7_wideOf 59 = .ok (.goto (-49), 3) := by decide +kernel
theorem dX7_wideOf_62 : decode cX7_wideOf 62 = .ok (.iload_n 3, 1) := by decide +kernel
theorem dX7_wideOf_63 : decode cX7_wideOf 63 = .ok (.ireturn, 1) := by decide +kernel
theorem dX7_widest_0 : decode cX7_widest 0 = .ok (.iconst 0, 1) := by decide +kernel
theorem dX7_widest_1 : decode cX7_widest 1 = .ok (.istore_n 2, 1) := by decide +kernel
theorem dX7_widest_2 : decode cX7_widest 2 = .ok (.iconst 0, 1) := by decide +kernel
theorem dX7_widest_3 : decode cX7_widest 3 = .ok (.istore_n 3, 1) := by decide +kernel
theorem dX7_widest_4 : decode cX7_widest 4 = .ok (.iload_n 3, 1) := by decide +kernel
theorem dX7_widest_5 : decode cX7_widest 5 = .ok (.iconst 1, 1) := by decide +kernel
theorem dX7_widest_6 : decode cX7_widest 6 = .ok (.iadd, 1) := by decide +kernel
theorem dX7_widest_7 : decode cX7_widest 7 = .ok (.aload_n 0, 1) := by decide +kernel
theorem dX7_widest_8 : decode cX7_widest 8 = .ok (.getfield 73, 3) := by decide +kernel
theorem dX7_widest_11 : decode cX7_widest 11 = .ok (.if_icmp .ge 30, 3) := by decide +kernel
theorem dX7_widest_14 : decode cX7_widest 14 = .ok (.aload_n 0, 1) := by decide +kernel
theorem dX7_widest_15 : decode cX7_widest 15 = .ok (.aload_n 1, 1) := by decide +kernel
theorem dX7_widest_16 : decode cX7_widest 16 = .ok (.iload_n 3, 1) := by decide +kernel
theorem dX7_widest_17 : decode cX7_widest 17 = .ok (.invokevirtual 143, 3) := by decide +kernel
theorem dX7_widest_20 : decode cX7_widest 20 = .ok (.istore 4, 2) := by decide +kernel
theorem dX7_widest_22 : decode cX7_widest 22 = .ok (.iload 4, 2) := by decide +kernel
theorem dX7_widest_24 : decode cX7_widest 24 = .ok (.iload_n 2, 1) := by decide +kernel
theorem dX7_widest_25 : decode cX7_widest 25 = .ok (.if_icmp .le 8, 3) := by decide +kernel
theorem dX7_widest_28 : decode cX7_widest 28 = .ok (.iload 4, 2) := by decide +kernel
theorem dX7_widest_30 : decode cX7_widest 30 = .ok (.goto 4, 3) := by decide +kernel
theorem dX7_widest_33 : decode cX7_widest 33 = .ok (.iload_n 2, 1) := by decide +kernel
theorem dX7_widest_34 : decode cX7_widest 34 = .ok (.istore_n 2, 1) := by decide +kernel
theorem dX7_widest_35 : decode cX7_widest 35 = .ok (.iinc 3 1, 3) := by decide +kernel
theorem dX7_widest_38 : decode cX7_widest 38 = .ok (.goto (-34), 3) := by decide +kernel
theorem dX7_widest_41 : decode cX7_widest 41 = .ok (.iload_n 2, 1) := by decide +kernel
theorem dX7_widest_42 : decode cX7_widest 42 = .ok (.ireturn, 1) := by decide +kernel
theorem dX7_widerMany_0 : decode cX7_widerMany 0 = .ok (.iconst 0, 1) := by decide +kernel
theorem dX7_widerMany_1 : decode cX7_widerMany 1 = .ok (.istore_n 2, 1) := by decide +kernel
theorem dX7_widerMany_2 : decode cX7_widerMany 2 = .ok (.iconst 0, 1) := by decide +kernel
theorem dX7_widerMany_3 : decode cX7_widerMany 3 = .ok (.istore_n 3, 1) := by decide +kernel
theorem dX7_widerMany_4 : decode cX7_widerMany 4 = .ok (.iload_n 3, 1) := by decide +kernel
theorem dX7_widerMany_5 : decode cX7_widerMany 5 = .ok (.iconst 1, 1) := by decide +kernel
theorem dX7_widerMany_6 : decode cX7_widerMany 6 = .ok (.iadd, 1) := by decide +kernel
theorem dX7_widerMany_7 : decode cX7_widerMany 7 = .ok (.aload_n 0, 1) := by decide +kernel
theorem dX7_widerMany_8 : decode cX7_widerMany 8 = .ok (.getfield 73, 3) := by decide +kernel
theorem dX7_widerMany_11 : decode cX7_widerMany 11 = .ok (.if_icmp .ge 26, 3) := by decide +kernel
theorem dX7_widerMany_14 : decode cX7_widerMany 14 = .ok (.iload_n 2, 1) := by decide +kernel
theorem dX7_widerMany_15 : decode cX7_widerMany 15 = .ok (.aload_n 0, 1) := by decide +kernel
theorem dX7_widerMany_16 : decode cX7_widerMany 16 = .ok (.aload_n 1, 1) := by decide +kernel
theorem dX7_widerMany_17 : decode cX7_widerMany 17 = .ok (.iload_n 3, 1) := by decide +kernel
theorem dX7_widerMany_18 : decode cX7_widerMany 18 = .ok (.invokevirtual 143, 3) := by decide +kernel
theorem dX7_widerMany_21 : decode cX7_widerMany 21 = .ok (.ifCond .le 7, 3) := by decide +kernel
theorem dX7_widerMany_24 : decode cX7_widerMany 24 = .ok (.iconst 1, 1) := by decide +kernel
theorem dX7_widerMany_25 : decode cX7_widerMany 25 = .ok (.goto 4, 3) := by decide +kernel
theorem dX7_widerMany_28 : decode cX7_widerMany 28 = .ok (.iconst 0, 1) := by decide +kernel
theorem dX7_widerMany_29 : decode cX7_widerMany 29 = .ok (.iadd, 1) := by decide +kernel
theorem dX7_widerMany_30 : decode cX7_widerMany 30 = .ok (.istore_n 2, 1) := by decide +kernel
theorem dX7_widerMany_31 : decode cX7_widerMany 31 = .ok (.iinc 3 1, 3) := by decide +kernel
theorem dX7_widerMany_34 : decode cX7_widerMany 34 = .ok (.goto (-30), 3) := by decide +kernel
theorem dX7_widerMany_37 : decode cX7_widerMany 37 = .ok (.iload_n 2, 1) := by decide +kernel
theorem dX7_widerMany_38 : decode cX7_widerMany 38 = .ok (.ireturn, 1) := by decide +kernel
theorem dX7_placeOf_0 : decode cX7_placeOf 0 = .ok (.iconst 0, 1) := by decide +kernel
theorem dX7_placeOf_1 : decode cX7_placeOf 1 = .ok (.istore_n 2, 1) := by decide +kernel
theorem dX7_placeOf_2 : decode cX7_placeOf 2 = .ok (.aload_n 0, 1) := by decide +kernel
theorem dX7_placeOf_3 : decode cX7_placeOf 3 = .ok (.iload_n 2, 1) := by decide +kernel
theorem dX7_placeOf_4 : decode cX7_placeOf 4 = .ok (.iaload, 1) := by decide +kernel
theorem dX7_placeOf_5 : decode cX7_placeOf 5 = .ok (.iload_n 1, 1) := by decide +kernel
theorem dX7_placeOf_6 : decode cX7_placeOf 6 = .ok (.if_icmp .eq 9, 3) := by decide +kernel
theorem dX7_placeOf_9 : decode cX7_placeOf 9 = .ok (.iinc 2 1, 3) := by decide +kernel
theorem dX7_placeOf_12 : decode cX7_placeOf 12 = .ok (.goto (-10), 3) := by decide +kernel
theorem dX7_placeOf_15 : decode cX7_placeOf 15 = .ok (.iload_n 2, 1) := by decide +kernel
theorem dX7_placeOf_16 : decode cX7_placeOf 16 = .ok (.ireturn, 1) := by decide +kernel
theorem dX7_shift_0 : decode cX7_shift 0 = .ok (.aload_n 0, 1) := by decide +kernel
theorem dX7_shift_1 : decode cX7_shift 1 = .ok (.iload_n 1, 1) := by decide +kernel
theorem dX7_shift_2 : decode cX7_shift 2 = .ok (.invokestatic 146, 3) := by decide +kernel
theorem dX7_shift_5 : decode cX7_shift 5 = .ok (.istore_n 3, 1) := by decide +kernel
theorem dX7_shift_6 : decode cX7_shift 6 = .ok (.iload_n 3, 1) := by decide +kernel
theorem dX7_shift_7 : decode cX7_shift 7 = .ok (.iload_n 2, 1) := by decide +kernel
theorem dX7_shift_8 : decode cX7_shift 8 = .ok (.if_icmp .ge 17, 3) := by decide +kernel
theorem dX7_shift_11 : decode cX7_shift 11 = .ok (.aload_n 0, 1) := by decide +kernel
theorem dX7_shift_12 : decode cX7_shift 12 = .ok (.iload_n 3, 1) := by decide +kernel
theorem dX7_shift_13 : decode cX7_shift 13 = .ok (.aload_n 0, 1) := by decide +kernel
theorem dX7_shift_14 : decode cX7_shift 14 = .ok (.iload_n 3, 1) := by decide +kernel
theorem dX7_shift_15 : decode cX7_shift 15 = .ok (.iconst 1, 1) := by decide +kernel
theorem dX7_shift_16 : decode cX7_shift 16 = .ok (.iadd, 1) := by decide +kernel
theorem dX7_shift_17 : decode cX7_shift 17 = .ok (.iaload, 1) := by decide +kernel
theorem dX7_shift_18 : decode cX7_shift 18 = .ok (.iastore, 1) := by decide +kernel
theorem dX7_shift_19 : decode cX7_shift 19 = .ok (.iinc 3 1, 3) := by decide +kernel
theorem dX7_shift_22 : decode cX7_shift 22 = .ok (.goto (-16), 3) := by decide +kernel
theorem dX7_shift_25 : decode cX7_shift 25 = .ok (.iload_n 3, 1) := by decide +kernel
theorem dX7_shift_26 : decode cX7_shift 26 = .ok (.iload_n 2, 1) := by decide +kernel
theorem dX7_shift_27 : decode cX7_shift 27 = .ok (.if_icmp .le 17, 3) := by decide +kernel
theorem dX7_shift_30 : decode cX7_shift 30 = .ok (.aload_n 0, 1) := by decide +kernel
theorem dX7_shift_31 : decode cX7_shift 31 = .ok (.iload_n 3, 1) := by decide +kernel
theorem dX7_shift_32 : decode cX7_shift 32 = .ok (.aload_n 0, 1) := by decide +kernel
theorem dX7_shift_33 : decode cX7_shift 33 = .ok (.iload_n 3, 1) := by decide +kernel
theorem dX7_shift_34 : decode cX7_shift 34 = .ok (.iconst 1, 1) := by decide +kernel
theorem dX7_shift_35 : decode cX7_shift 35 = .ok (.isub, 1) := by decide +kernel
theorem dX7_shift_36 : decode cX7_shift 36 = .ok (.iaload, 1) := by decide +kernel
theorem dX7_shift_37 : decode cX7_shift 37 = .ok (.iastore, 1) := by decide +kernel
theorem dX7_shift_38 : decode cX7_shift 38 = .ok (.iinc 3 (-1), 3) := by decide +kernel
theorem dX7_shift_41 : decode cX7_shift 41 = .ok (.goto (-16), 3) := by decide +kernel
theorem dX7_shift_44 : decode cX7_shift 44 = .ok (.aload_n 0, 1) := by decide +kernel
theorem dX7_shift_45 : decode cX7_shift 45 = .ok (.iload_n 3, 1) := by decide +kernel
theorem dX7_shift_46 : decode cX7_shift 46 = .ok (.iload_n 1, 1) := by decide +kernel
theorem dX7_shift_47 : decode cX7_shift 47 = .ok (.iastore, 1) := by decide +kernel
theorem dX7_shift_48 : decode cX7_shift 48 = .ok (.return_, 1) := by decide +kernel
theorem dX7_codeBy_0 : decode cX7_codeBy 0 = .ok (.aload_n 1, 1) := by decide +kernel
theorem dX7_codeBy_1 : decode cX7_codeBy 1 = .ok (.aload_n 0, 1) := by decide +kernel
theorem dX7_codeBy_2 : decode cX7_codeBy 2 = .ok (.getfield 28, 3) := by decide +kernel
theorem dX7_codeBy_5 : decode cX7_codeBy 5 = .ok (.invokestatic 149, 3) := by decide +kernel
theorem dX7_codeBy_8 : decode cX7_codeBy 8 = .ok (.aload_n 1, 1) := by decide +kernel
theorem dX7_codeBy_9 : decode cX7_codeBy 9 = .ok (.iload_n 2, 1) := by decide +kernel
theorem dX7_codeBy_10 : decode cX7_codeBy 10 = .ok (.invokestatic 146, 3) := by decide +kernel
theorem dX7_codeBy_13 : decode cX7_codeBy 13 = .ok (.iload_n 3, 1) := by decide +kernel
theorem dX7_codeBy_14 : decode cX7_codeBy 14 = .ok (.if_icmp .ne 5, 3) := by decide +kernel
theorem dX7_codeBy_17 : decode cX7_codeBy 17 = .ok (.iconst (-1), 1) := by decide +kernel
theorem dX7_codeBy_18 : decode cX7_codeBy 18 = .ok (.ireturn, 1) := by decide +kernel
theorem dX7_codeBy_19 : decode cX7_codeBy 19 = .ok (.aload_n 0, 1) := by decide +kernel
theorem dX7_codeBy_20 : decode cX7_codeBy 20 = .ok (.getfield 28, 3) := by decide +kernel
theorem dX7_codeBy_23 : decode cX7_codeBy 23 = .ok (.iload_n 2, 1) := by decide +kernel
theorem dX7_codeBy_24 : decode cX7_codeBy 24 = .ok (.iload_n 3, 1) := by decide +kernel
theorem dX7_codeBy_25 : decode cX7_codeBy 25 = .ok (.invokestatic 153, 3) := by decide +kernel
theorem dX7_codeBy_28 : decode cX7_codeBy 28 = .ok (.aload_n 0, 1) := by decide +kernel
theorem dX7_codeBy_29 : decode cX7_codeBy 29 = .ok (.aload_n 0, 1) := by decide +kernel
theorem dX7_codeBy_30 : decode cX7_codeBy 30 = .ok (.getfield 28, 3) := by decide +kernel
theorem dX7_codeBy_33 : decode cX7_codeBy 33 = .ok (.invokevirtual 103, 3) := by decide +kernel
theorem dX7_codeBy_36 : decode cX7_codeBy 36 = .ok (.ifCond .eq 17, 3) := by decide +kernel
theorem dX7_codeBy_39 : decode cX7_codeBy 39 = .ok (.aload_n 0, 1) := by decide +kernel
theorem dX7_codeBy_40 : decode cX7_codeBy 40 = .ok (.getfield 28, 3) := by decide +kernel
theorem dX7_codeBy_43 : decode cX7_codeBy 43 = .ok (.aload_n 0, 1) := by decide +kernel
theorem dX7_codeBy_44 : decode cX7_codeBy 44 = .ok (.getfield 73, 3) := by decide +kernel
theorem dX7_codeBy_47 : decode cX7_codeBy 47 = .ok (.invokestatic 107, 3) := by decide +kernel
theorem dX7_codeBy_50 : decode cX7_codeBy 50 = .ok (.goto 4, 3) := by decide +kernel
theorem dX7_codeBy_53 : decode cX7_codeBy 53 = .ok (.iconst (-1), 1) := by decide +kernel
theorem dX7_codeBy_54 : decode cX7_codeBy 54 = .ok (.ireturn, 1) := by decide +kernel
theorem dX7_layFar_0 : decode cX7_layFar 0 = .ok (.iconst 0, 1) := by decide +kernel
theorem dX7_layFar_1 : decode cX7_layFar 1 = .ok (.istore_n 1, 1) := by decide +kernel
theorem dX7_layFar_2 : decode cX7_layFar 2 = .ok (.iload_n 1, 1) := by decide +kernel
theorem dX7_layFar_3 : decode cX7_layFar 3 = .ok (.aload_n 0, 1) := by decide +kernel
theorem dX7_layFar_4 : decode cX7_layFar 4 = .ok (.getfield 100, 3) := by decide +kernel
theorem dX7_layFar_7 : decode cX7_layFar 7 = .ok (.if_icmp .ge 16, 3) := by decide +kernel
theorem dX7_layFar_10 : decode cX7_layFar 10 = .ok (.aload_n 0, 1) := by decide +kernel
theorem dX7_layFar_11 : decode cX7_layFar 11 = .ok (.getfield 31, 3) := by decide +kernel
theorem dX7_layFar_14 : decode cX7_layFar 14 = .ok (.iload_n 1, 1) := by decide +kernel
theorem dX7_layFar_15 : decode cX7_layFar 15 = .ok (.iconst (-1), 1) := by decide +kernel
theorem dX7_layFar_16 : decode cX7_layFar 16 = .ok (.iastore, 1) := by decide +kernel
theorem dX7_layFar_17 : decode cX7_layFar 17 = .ok (.iinc 1 1, 3) := by decide +kernel
theorem dX7_layFar_20 : decode cX7_layFar 20 = .ok (.goto (-18), 3) := by decide +kernel
theorem dX7_layFar_23 : decode cX7_layFar 23 = .ok (.aload_n 0, 1) := by decide +kernel
theorem dX7_layFar_24 : decode cX7_layFar 24 = .ok (.invokevirtual 157, 3) := by decide +kernel
theorem dX7_layFar_27 : decode cX7_layFar 27 = .ok (.istore_n 1, 1) := by decide +kernel
theorem dX7_layFar_28 : decode cX7_layFar 28 = .ok (.aload_n 0, 1) := by decide +kernel
theorem dX7_layFar_29 : decode cX7_layFar 29 = .ok (.getfield 31, 3) := by decide +kernel
theorem dX7_layFar_32 : decode cX7_layFar 32 = .ok (.iload_n 1, 1) := by decide +kernel
theorem dX7_layFar_33 : decode cX7_layFar 33 = .ok (.iconst 0, 1) := by decide +kernel
theorem dX7_layFar_34 : decode cX7_layFar 34 = .ok (.iastore, 1) := by decide +kernel
theorem dX7_layFar_35 : decode cX7_layFar 35 = .ok (.aload_n 0, 1) := by decide +kernel
theorem dX7_layFar_36 : decode cX7_layFar 36 = .ok (.getfield 34, 3) := by decide +kernel
theorem dX7_layFar_39 : decode cX7_layFar 39 = .ok (.iconst 0, 1) := by decide +kernel
theorem dX7_layFar_40 : decode cX7_layFar 40 = .ok (.iload_n 1, 1) := by decide +kernel
theorem dX7_layFar_41 : decode cX7_layFar 41 = .ok (.iastore, 1) := by decide +kernel
theorem dX7_layFar_42 : decode cX7_layFar 42 = .ok (.aload_n 0, 1) := by decide +kernel
theorem dX7_layFar_43 : decode cX7_layFar 43 = .ok (.iconst 1, 1) := by decide +kernel
theorem dX7_layFar_44 : decode cX7_layFar 44 = .ok (.putfield 160, 3) := by decide +kernel
theorem dX7_layFar_47 : decode cX7_layFar 47 = .ok (.iconst 0, 1) := by decide +kernel
theorem dX7_layFar_48 : decode cX7_layFar 48 = .ok (.istore_n 2, 1) := by decide +kernel
theorem dX7_layFar_49 : decode cX7_layFar 49 = .ok (.iload_n 2, 1) := by decide +kernel
theorem dX7_layFar_50 : decode cX7_layFar 50 = .ok (.aload_n 0, 1) := by decide +kernel
theorem dX7_layFar_51 : decode cX7_layFar 51 = .ok (.getfield 160, 3) := by decide +kernel
theorem dX7_layFar_54 : decode cX7_layFar 54 = .ok (.if_icmp .ge 141, 3) := by decide +kernel
theorem dX7_layFar_57 : decode cX7_layFar 57 = .ok (.aload_n 0, 1) := by decide +kernel
theorem dX7_layFar_58 : decode cX7_layFar 58 = .ok (.aload_n 0, 1) := by decide +kernel
theorem dX7_layFar_59 : decode cX7_layFar 59 = .ok (.getfield 19, 3) := by decide +kernel
theorem dX7_layFar_62 : decode cX7_layFar 62 = .ok (.aload_n 0, 1) := by decide +kernel
theorem dX7_layFar_63 : decode cX7_layFar 63 = .ok (.getfield 34, 3) := by decide +kernel
theorem dX7_layFar_66 : decode cX7_layFar 66 = .ok (.iload_n 2, 1) := by decide +kernel
theorem dX7_layFar_67 : decode cX7_layFar 67 = .ok (.iaload, 1) := by decide +kernel
theorem dX7_layFar_68 : decode cX7_layFar 68 = .ok (.iaload, 1) := by decide +kernel
theorem dX7_layFar_69 : decode cX7_layFar 69 = .ok (.aload_n 0, 1) := by decide +kernel
theorem dX7_layFar_70 : decode cX7_layFar 70 = .ok (.getfield 25, 3) := by decide +kernel
theorem dX7_layFar_73 : decode cX7_layFar 73 = .ok (.invokevirtual 133, 3) := by decide +kernel
theorem dX7_layFar_76 : decode cX7_layFar 76 = .ok (.iconst 0, 1) := by decide +kernel
theorem dX7_layFar_77 : decode cX7_layFar 77 = .ok (.istore_n 3, 1) := by decide +kernel
theorem dX7_layFar_78 : decode cX7_layFar 78 = .ok (.iload_n 3, 1) := by decide +kernel
theorem dX7_layFar_79 : decode cX7_layFar 79 = .ok (.aload_n 0, 1) := by decide +kernel
theorem dX7_layFar_80 : decode cX7_layFar 80 = .ok (.getfield 73, 3) := by decide +kernel
theorem dX7_layFar_83 : decode cX7_layFar 83 = .ok (.aload_n 0, 1) := by decide +kernel
theorem dX7_layFar_84 : decode cX7_layFar 84 = .ok (.getfield 73, 3) := by decide +kernel
theorem dX7_layFar_87 : decode cX7_layFar 87 = .ok (.imul, 1) := by decide +kernel
theorem dX7_layFar_88 : decode cX7_layFar 88 = .ok (.if_icmp .ge 101, 3) := by decide +kernel
theorem dX7_layFar_91 : decode cX7_layFar 91 = .ok (.aload_n 0, 1) := by decide +kernel
theorem dX7_layFar_92 : decode cX7_layFar 92 = .ok (.aload_n 0, 1) := by decide +kernel
theorem dX7_layFar_93 : decode cX7_layFar 93 = .ok (.getfield 25, 3) := by decide +kernel
theorem dX7_layFar_96 : decode cX7_layFar 96 = .ok (.iload_n 3, 1) := by decide +kernel
theorem dX7_layFar_97 : decode cX7_layFar 97 = .ok (.aload_n 0, 1) := by decide +kernel
theorem dX7_layFar_98 : decode cX7_layFar 98 = .ok (.getfield 73, 3) := by decide +kernel
theorem dX7_layFar_101 : decode cX7_layFar 101 = .ok (.idiv, 1) := by decide +kernel
theorem dX7_layFar_102 : decode cX7_layFar 102 = .ok (.iload_n 3, 1) := by decide +kernel
theorem dX7_layFar_103 : decode cX7_layFar 103 = .ok (.aload_n 0, 1) := by decide +kernel
theorem dX7_layFar_104 : decode cX7_layFar 104 = .ok (.getfield 73, 3) := by decide +kernel
theorem dX7_layFar_107 : decode cX7_layFar 107 = .ok (.irem, 1) := by decide +kernel
theorem dX7_layFar_108 : decode cX7_layFar 108 = .ok (.invokevirtual 163, 3) := by decide +kernel
theorem dX7_layFar_111 : decode cX7_layFar 111 = .ok (.istore 4, 2) := by decide +kernel
theorem dX7_layFar_113 : decode cX7_layFar 113 = .ok (.iload 4, 2) := by decide +kernel
theorem dX7_layFar_115 : decode cX7_layFar 115 = .ok (.iconst (-1), 1) := by decide +kernel
theorem dX7_layFar_116 : decode cX7_layFar 116 = .ok (.if_icmp .ne 7, 3) := by decide +kernel
theorem dX7_layFar_119 : decode cX7_layFar 119 = .ok (.iload_n 1, 1) := by decide +kernel
theorem dX7_layFar_120 : decode cX7_layFar 120 = .ok (.goto 9, 3) := by decide +kernel
theorem dX7_layFar_123 : decode cX7_layFar 123 = .ok (.aload_n 0, 1) := by decide +kernel
theorem dX7_layFar_124 : decode cX7_layFar 124 = .ok (.iload 4, 2) := by decide +kernel
theorem dX7_layFar_126 : decode cX7_layFar 126 = .ok (.invokevirtual 115, 3) := by decide +kernel
theorem dX7_layFar_129 : decode cX7_layFar 129 = .ok (.istore 5, 2) := by decide +kernel
theorem dX7_layFar_131 : decode cX7_layFar 131 = .ok (.aload_n 0, 1) := by decide +kernel
theorem dX7_layFar_132 : decode cX7_layFar 132 = .ok (.getfield 31, 3) := by decide +kernel
theorem dX7_layFar_135 : decode cX7_layFar 135 = .ok (.iload 5, 2) := by decide +kernel
theorem dX7_layFar_137 : decode cX7_layFar 137 = .ok (.iaload, 1) := by decide +kernel
theorem dX7_layFar_138 : decode cX7_layFar 138 = .ok (.iconst (-1), 1) := by decide +kernel
theorem dX7_layFar_139 : decode cX7_layFar 139 = .ok (.if_icmp .ne 44, 3) := by decide +kernel
theorem dX7_layFar_142 : decode cX7_layFar 142 = .ok (.aload_n 0, 1) := by decide +kernel
theorem dX7_layFar_143 : decode cX7_layFar 143 = .ok (.getfield 31, 3) := by decide +kernel
theorem dX7_layFar_146 : decode cX7_layFar 146 = .ok (.iload 5, 2) := by decide +kernel
theorem dX7_layFar_148 : decode cX7_layFar 148 = .ok (.aload_n 0, 1) := by decide +kernel
theorem dX7_layFar_149 : decode cX7_layFar 149 = .ok (.getfield 31, 3) := by decide +kernel
theorem dX7_layFar_152 : decode cX7_layFar 152 = .ok (.aload_n 0, 1) := by decide +kernel
theorem dX7_layFar_153 : decode cX7_layFar 153 = .ok (.getfield 34, 3) := by decide +kernel
theorem dX7_layFar_156 : decode cX7_layFar 156 = .ok (.iload_n 2, 1) := by decide +kernel
theorem dX7_layFar_157 : decode cX7_layFar 157 = .ok (.iaload, 1) := by decide +kernel
theorem dX7_layFar_158 : decode cX7_layFar 158 = .ok (.iaload, 1) := by decide +kernel
theorem dX7_layFar_159 : decode cX7_layFar 159 = .ok (.iconst 1, 1) := by decide +kernel
theorem dX7_layFar_160 : decode cX7_layFar 160 = .ok (.iadd, 1) := by decide +kernel
theorem dX7_layFar_161 : decode cX7_layFar 161 = .ok (.iastore, 1) := by decide +kernel
theorem dX7_layFar_162 : decode cX7_layFar 162 = .ok (.aload_n 0, 1) := by decide +kernel
theorem dX7_layFar_163 : decode cX7_layFar 163 = .ok (.getfield 34, 3) := by decide +kernel
theorem dX7_layFar_166 : decode cX7_layFar 166 = .ok (.aload_n 0, 1) := by decide +kernel
theorem dX7_layFar_167 : decode cX7_layFar 167 = .ok (.getfield 160, 3) := by decide +kernel
theorem dX7_layFar_170 : decode cX7_layFar 170 = .ok (.iload 5, 2) := by decide +kernel
theorem dX7_layFar_172 : decode cX7_layFar 172 = .ok (.iastore, 1) := by decide +kernel
theorem dX7_layFar_173 : decode cX7_layFar 173 = .ok (.aload_n 0, 1) := by decide +kernel
theorem dX7_layFar_174 : decode cX7_layFar 174 = .ok (.dup, 1) := by decide +kernel
theorem dX7_layFar_175 : decode cX7_layFar 175 = .ok (.getfield 160, 3) := by decide +kernel
theorem dX7_layFar_178 : decode cX7_layFar 178 = .ok (.iconst 1, 1) := by decide +kernel
theorem dX7_layFar_179 : decode cX7_layFar 179 = .ok (.iadd, 1) := by decide +kernel
theorem dX7_layFar_180 : decode cX7_layFar 180 = .ok (.putfield 160, 3) := by decide +kernel
theorem dX7_layFar_183 : decode cX7_layFar 183 = .ok (.iinc 3 1, 3) := by decide +kernel
theorem dX7_layFar_186 : decode cX7_layFar 186 = .ok (.goto (-108), 3) := by decide +kernel
theorem dX7_layFar_189 : decode cX7_layFar 189 = .ok (.iinc 2 1, 3) := by decide +kernel
theorem dX7_layFar_192 : decode cX7_layFar 192 = .ok (.goto (-143), 3) := by decide +kernel
theorem dX7_layFar_195 : decode cX7_layFar 195 = .ok (.return_, 1) := by decide +kernel
theorem dX7_nearOf_0 : decode cX7_nearOf 0 = .ok (.aload_n 0, 1) := by decide +kernel
theorem dX7_nearOf_1 : decode cX7_nearOf 1 = .ok (.invokevirtual 167, 3) := by decide +kernel
theorem dX7_nearOf_4 : decode cX7_nearOf 4 = .ok (.aload_n 0, 1) := by decide +kernel
theorem dX7_nearOf_5 : decode cX7_nearOf 5 = .ok (.getfield 31, 3) := by decide +kernel
theorem dX7_nearOf_8 : decode cX7_nearOf 8 = .ok (.iload_n 1, 1) := by decide +kernel
theorem dX7_nearOf_9 : decode cX7_nearOf 9 = .ok (.iaload, 1) := by decide +kernel
theorem dX7_nearOf_10 : decode cX7_nearOf 10 = .ok (.ireturn, 1) := by decide +kernel
theorem dX7_near_0 : decode cX7_near 0 = .ok (.aload_n 0, 1) := by decide +kernel
theorem dX7_near_1 : decode cX7_near 1 = .ok (.iload_n 1, 1) := by decide +kernel
theorem dX7_near_2 : decode cX7_near 2 = .ok (.invokevirtual 170, 3) := by decide +kernel
theorem dX7_near_5 : decode cX7_near 5 = .ok (.ifCond .eq 11, 3) := by decide +kernel
theorem dX7_near_8 : decode cX7_near 8 = .ok (.aload_n 0, 1) := by decide +kernel
theorem dX7_near_9 : decode cX7_near 9 = .ok (.iload_n 1, 1) := by decide +kernel
theorem dX7_near_10 : decode cX7_near 10 = .ok (.invokevirtual 173, 3) := by decide +kernel
theorem dX7_near_13 : decode cX7_near 13 = .ok (.goto 5, 3) := by decide +kernel
theorem dX7_near_16 : decode cX7_near 16 = .ok (.bipush (-101), 2) := by decide +kernel
theorem dX7_near_18 : decode cX7_near 18 = .ok (.ireturn, 1) := by decide +kernel
theorem dX7_farthestOf_0 : decode cX7_farthestOf 0 = .ok (.aload_n 0, 1) := by decide +kernel
theorem dX7_farthestOf_1 : decode cX7_farthestOf 1 = .ok (.invokevirtual 167, 3) := by decide +kernel
theorem dX7_farthestOf_4 : decode cX7_farthestOf 4 = .ok (.iconst 0, 1) := by decide +kernel
theorem dX7_farthestOf_5 : decode cX7_farthestOf 5 = .ok (.istore_n 2, 1) := by decide +kernel
theorem dX7_farthestOf_6 : decode cX7_farthestOf 6 = .ok (.iconst 1, 1) := by decide +kernel
theorem dX7_farthestOf_7 : decode cX7_farthestOf 7 = .ok (.istore_n 3, 1) := by decide +kernel
theorem dX7_farthestOf_8 : decode cX7_farthestOf 8 = .ok (.iload_n 3, 1) := by decide +kernel
theorem dX7_farthestOf_9 : decode cX7_farthestOf 9 = .ok (.aload_n 0, 1) := by decide +kernel
theorem dX7_farthestOf_10 : decode cX7_farthestOf 10 = .ok (.getfield 100, 3) := by decide +kernel
theorem dX7_farthestOf_13 : decode cX7_farthestOf 13 = .ok (.if_icmp .ge 30, 3) := by decide +kernel
theorem dX7_farthestOf_16 : decode cX7_farthestOf 16 = .ok (.aload_n 0, 1) := by decide +kernel
theorem dX7_farthestOf_17 : decode cX7_farthestOf 17 = .ok (.getfield 31, 3) := by decide +kernel
theorem dX7_farthestOf_20 : decode cX7_farthestOf 20 = .ok (.iload_n 3, 1) := by decide +kernel
theorem dX7_farthestOf_21 : decode cX7_farthestOf 21 = .ok (.iaload, 1) := by decide +kernel
theorem dX7_farthestOf_22 : decode cX7_farthestOf 22 = .ok (.aload_n 0, 1) := by decide +kernel
theorem dX7_farthestOf_23 : decode cX7_farthestOf 23 = .ok (.getfield 31, 3) := by decide +kernel
theorem dX7_farthestOf_26 : decode cX7_farthestOf 26 = .ok (.iload_n 2, 1) := by decide +kernel
theorem dX7_farthestOf_27 : decode cX7_farthestOf 27 = .ok (.iaload, 1) := by decide +kernel
theorem dX7_farthestOf_28 : decode cX7_farthestOf 28 = .ok (.if_icmp .le 7, 3) := by decide +kernel
theorem dX7_farthestOf_31 : decode cX7_farthestOf 31 = .ok (.iload_n 3, 1) := by decide +kernel
theorem dX7_farthestOf_32 : decode cX7_farthestOf 32 = .ok (.goto 4, 3) := by decide +kernel
theorem dX7_farthestOf_35 : decode cX7_farthestOf 35 = .ok (.iload_n 2, 1) := by decide +kernel
theorem dX7_farthestOf_36 : decode cX7_farthestOf 36 = .ok (.istore_n 2, 1) := by decide +kernel
theorem dX7_farthestOf_37 : decode cX7_farthestOf 37 = .ok (.iinc 3 1, 3) := by decide +kernel
theorem dX7_farthestOf_40 : decode cX7_farthestOf 40 = .ok (.goto (-32), 3) := by decide +kernel
theorem dX7_farthestOf_43 : decode cX7_farthestOf 43 = .ok (.iload_n 1, 1) := by decide +kernel
theorem dX7_farthestOf_44 : decode cX7_farthestOf 44 = .ok (.ifCond .ne 12, 3) := by decide +kernel
theorem dX7_farthestOf_47 : decode cX7_farthestOf 47 = .ok (.aload_n 0, 1) := by decide +kernel
theorem dX7_farthestOf_48 : decode cX7_farthestOf 48 = .ok (.getfield 31, 3) := by decide +kernel
theorem dX7_farthestOf_51 : decode cX7_farthestOf 51 = .ok (.iload_n 2, 1) := by decide +kernel
theorem dX7_farthestOf_52 : decode cX7_farthestOf 52 = .ok (.iaload, 1) := by decide +kernel
theorem dX7_farthestOf_53 : decode cX7_farthestOf 53 = .ok (.goto 4, 3) := by decide +kernel
theorem dX7_farthestOf_56 : decode cX7_farthestOf 56 = .ok (.iload_n 2, 1) := by decide +kernel
theorem dX7_farthestOf_57 : decode cX7_farthestOf 57 = .ok (.ireturn, 1) := by decide +kernel
theorem dX7_homeOf_0 : decode cX7_homeOf 0 = .ok (.aload_n 0, 1) := by decide +kernel
theorem dX7_homeOf_1 : decode cX7_homeOf 1 = .ok (.invokevirtual 167, 3) := by decide +kernel
theorem dX7_homeOf_4 : decode cX7_homeOf 4 = .ok (.iconst (-1), 1) := by decide +kernel
theorem dX7_homeOf_5 : decode cX7_homeOf 5 = .ok (.istore_n 2, 1) := by decide +kernel
theorem dX7_homeOf_6 : decode cX7_homeOf 6 = .ok (.iconst 0, 1) := by decide +kernel
theorem dX7_homeOf_7 : decode cX7_homeOf 7 = .ok (.istore_n 3, 1) := by decide +kernel
theorem dX7_homeOf_8 : decode cX7_homeOf 8 = .ok (.iload_n 3, 1) := by decide +kernel
theorem dX7_homeOf_9 : decode cX7_homeOf 9 = .ok (.aload_n 0, 1) := by decide +kernel
theorem dX7_homeOf_10 : decode cX7_homeOf 10 = .ok (.getfield 100, 3) := by decide +kernel
theorem dX7_homeOf_13 : decode cX7_homeOf 13 = .ok (.if_icmp .ge 65, 3) := by decide +kernel
theorem dX7_homeOf_16 : decode cX7_homeOf 16 = .ok (.aload_n 0, 1) := by decide +kernel
theorem dX7_homeOf_17 : decode cX7_homeOf 17 = .ok (.getfield 31, 3) := by decide +kernel
theorem dX7_homeOf_20 : decode cX7_homeOf 20 = .ok (.iload_n 3, 1) := by decide +kernel
theorem dX7_homeOf_21 : decode cX7_homeOf 21 = .ok (.iaload, 1) := by decide +kernel
theorem dX7_homeOf_22 : decode cX7_homeOf 22 = .ok (.iconst (-1), 1) := by decide +kernel
theorem dX7_homeOf_23 : decode cX7_homeOf 23 = .ok (.if_icmp .eq 35, 3) := by decide +kernel
theorem dX7_homeOf_26 : decode cX7_homeOf 26 = .ok (.iload_n 2, 1) := by decide +kernel
theorem dX7_homeOf_27 : decode cX7_homeOf 27 = .ok (.iconst (-1), 1) := by decide +kernel
theorem dX7_homeOf_28 : decode cX7_homeOf 28 = .ok (.if_icmp .eq 18, 3) := by decide +kernel
theorem dX7_homeOf_31 : decode cX7_homeOf 31 = .ok (.aload_n 0, 1) := by decide +kernel
theorem dX7_homeOf_32 : decode cX7_homeOf 32 = .ok (.getfield 31, 3) := by decide +kernel
theorem dX7_homeOf_35 : decode cX7_homeOf 35 = .ok (.iload_n 3, 1) := by decide +kernel
theorem dX7_homeOf_36 : decode cX7_homeOf 36 = .ok (.iaload, 1) := by decide +kernel
theorem dX7_homeOf_37 : decode cX7_homeOf 37 = .ok (.aload_n 0, 1) := by decide +kernel
theorem dX7_homeOf_38 : decode cX7_homeOf 38 = .ok (.getfield 31, 3) := by decide +kernel
theorem dX7_homeOf_41 : decode cX7_homeOf 41 = .ok (.iload_n 2, 1) := by decide +kernel
theorem dX7_homeOf_42 : decode cX7_homeOf 42 = .ok (.iaload, 1) := by decide +kernel
theorem dX7_homeOf_43 : decode cX7_homeOf 43 = .ok (.if_icmp .ge 15, 3) := by decide +kernel
theorem dX7_homeOf_46 : decode cX7_homeOf 46 = .ok (.aload_n 0, 1) := by decide +kernel
theorem dX7_homeOf_47 : decode cX7_homeOf 47 = .ok (.iload_n 3, 1) := by decide +kernel
theorem dX7_homeOf_48 : decode cX7_homeOf 48 = .ok (.invokevirtual 176, 3) := by decide +kernel
theorem dX7_homeOf_51 : decode cX7_homeOf 51 = .ok (.ifCond .eq 7, 3) := by decide +kernel
theorem dX7_homeOf_54 : decode cX7_homeOf 54 = .ok (.iconst 1, 1) := by decide +kernel
theorem dX7_homeOf_55 : decode cX7_homeOf 55 = .ok (.goto 4, 3) := by decide +kernel
theorem dX7_homeOf_58 : decode cX7_homeOf 58 = .ok (.iconst 0, 1) := by decide +kernel
theorem dX7_homeOf_59 : decode cX7_homeOf 59 = .ok (.istore 4, 2) := by decide +kernel
theorem dX7_homeOf_61 : decode cX7_homeOf 61 = .ok (.iload 4, 2) := by decide +kernel
theorem dX7_homeOf_63 : decode cX7_homeOf 63 = .ok (.ifCond .eq 7, 3) := by decide +kernel
theorem dX7_homeOf_66 : decode cX7_homeOf 66 = .ok (.iload_n 3, 1) := by decide +kernel
theorem dX7_homeOf_67 : decode cX7_homeOf 67 = .ok (.goto 4, 3) := by decide +kernel
theorem dX7_homeOf_70 : decode cX7_homeOf 70 = .ok (.iload_n 2, 1) := by decide +kernel
theorem dX7_homeOf_71 : decode cX7_homeOf 71 = .ok (.istore_n 2, 1) := by decide +kernel
theorem dX7_homeOf_72 : decode cX7_homeOf 72 = .ok (.iinc 3 1, 3) := by decide +kernel
theorem dX7_homeOf_75 : decode cX7_homeOf 75 = .ok (.goto (-67), 3) := by decide +kernel
theorem dX7_homeOf_78 : decode cX7_homeOf 78 = .ok (.iload_n 2, 1) := by decide +kernel
theorem dX7_homeOf_79 : decode cX7_homeOf 79 = .ok (.iconst (-1), 1) := by decide +kernel
theorem dX7_homeOf_80 : decode cX7_homeOf 80 = .ok (.if_icmp .eq 8, 3) := by decide +kernel
theorem dX7_homeOf_83 : decode cX7_homeOf 83 = .ok (.iload_n 1, 1) := by decide +kernel
theorem dX7_homeOf_84 : decode cX7_homeOf 84 = .ok (.iconst 3, 1) := by decide +kernel
theorem dX7_homeOf_85 : decode cX7_homeOf 85 = .ok (.if_icmp .ne 7, 3) := by decide +kernel
theorem dX7_homeOf_88 : decode cX7_homeOf 88 = .ok (.iload_n 2, 1) := by decide +kernel
theorem dX7_homeOf_89 : decode cX7_homeOf 89 = .ok (.goto 9, 3) := by decide +kernel
theorem dX7_homeOf_92 : decode cX7_homeOf 92 = .ok (.aload_n 0, 1) := by decide +kernel
theorem dX7_homeOf_93 : decode cX7_homeOf 93 = .ok (.getfield 31, 3) := by decide +kernel
theorem dX7_homeOf_96 : decode cX7_homeOf 96 = .ok (.iload_n 2, 1) := by decide +kernel
theorem dX7_homeOf_97 : decode cX7_homeOf 97 = .ok (.iaload, 1) := by decide +kernel
theorem dX7_homeOf_98 : decode cX7_homeOf 98 = .ok (.ireturn, 1) := by decide +kernel
theorem dX7_far_0 : decode cX7_far 0 = .ok (.iload_n 1, 1) := by decide +kernel
theorem dX7_far_1 : decode cX7_far 1 = .ok (.i2l, 1) := by decide +kernel
theorem dX7_far_2 : decode cX7_far 2 = .ok (.lconst 0, 1) := by decide +kernel
theorem dX7_far_3 : decode cX7_far 3 = .ok (.ldc2_w 179, 3) := by decide +kernel
theorem dX7_far_6 : decode cX7_far 6 = .ok (.invokestatic 58, 3) := by decide +kernel
theorem dX7_far_9 : decode cX7_far 9 = .ok (.ifCond .ne 6, 3) := by decide +kernel
theorem dX7_far_12 : decode cX7_far 12 = .ok (.bipush (-102), 2) := by decide +kernel
theorem dX7_far_14 : decode cX7_far 14 = .ok (.ireturn, 1) := by decide +kernel
theorem dX7_far_15 : decode cX7_far 15 = .ok (.aload_n 0, 1) := by decide +kernel
theorem dX7_far_16 : decode cX7_far 16 = .ok (.invokevirtual 118, 3) := by decide +kernel
theorem dX7_far_19 : decode cX7_far 19 = .ok (.ifCond .eq 8, 3) := by decide +kernel
theorem dX7_far_22 : decode cX7_far 22 = .ok (.bipush (-103), 2) := by decide +kernel
theorem dX7_far_24 : decode cX7_far 24 = .ok (.goto 21, 3) := by decide +kernel
theorem dX7_far_27 : decode cX7_far 27 = .ok (.iload_n 1, 1) := by decide +kernel
theorem dX7_far_28 : decode cX7_far 28 = .ok (.iconst 2, 1) := by decide +kernel
theorem dX7_far_29 : decode cX7_far 29 = .ok (.if_icmp .ge 11, 3) := by decide +kernel
theorem dX7_far_32 : decode cX7_far 32 = .ok (.aload_n 0, 1) := by decide +kernel
theorem dX7_far_33 : decode cX7_far 33 = .ok (.iload_n 1, 1) := by decide +kernel
theorem dX7_far_34 : decode cX7_far 34 = .ok (.invokevirtual 181, 3) := by decide +kernel
theorem dX7_far_37 : decode cX7_far 37 = .ok (.goto 8, 3) := by decide +kernel
theorem dX7_far_40 : decode cX7_far 40 = .ok (.aload_n 0, 1) := by decide +kernel
theorem dX7_far_41 : decode cX7_far 41 = .ok (.iload_n 1, 1) := by decide +kernel
theorem dX7_far_42 : decode cX7_far 42 = .ok (.invokevirtual 184, 3) := by decide +kernel
theorem dX7_far_45 : decode cX7_far 45 = .ok (.ireturn, 1) := by decide +kernel
theorem dX7_trimOf_0 : decode cX7_trimOf 0 = .ok (.iconst (-1), 1) := by decide +kernel
theorem dX7_trimOf_1 : decode cX7_trimOf 1 = .ok (.istore_n 2, 1) := by decide +kernel
theorem dX7_trimOf_2 : decode cX7_trimOf 2 = .ok (.bipush 99, 2) := by decide +kernel
theorem dX7_trimOf_4 : decode cX7_trimOf 4 = .ok (.istore_n 3, 1) := by decide +kernel
theorem dX7_trimOf_5 : decode cX7_trimOf 5 = .ok (.iconst 0, 1) := by decide +kernel
theorem dX7_trimOf_6 : decode cX7_trimOf 6 = .ok (.istore 4, 2) := by decide +kernel
theorem dX7_trimOf_8 : decode cX7_trimOf 8 = .ok (.iload 4, 2) := by decide +kernel
theorem dX7_trimOf_10 : decode cX7_trimOf 10 = .ok (.aload_n 0, 1) := by decide +kernel
theorem dX7_trimOf_11 : decode cX7_trimOf 11 = .ok (.getfield 100, 3) := by decide +kernel
theorem dX7_trimOf_14 : decode cX7_trimOf 14 = .ok (.if_icmp .ge 54, 3) := by decide +kernel
theorem dX7_trimOf_17 : decode cX7_trimOf 17 = .ok (.aload_n 0, 1) := by decide +kernel
theorem dX7_trimOf_18 : decode cX7_trimOf 18 = .ok (.iload 4, 2) := by decide +kernel
theorem dX7_trimOf_20 : decode cX7_trimOf 20 = .ok (.invokevirtual 176, 3) := by decide +kernel
theorem dX7_trimOf_23 : decode cX7_trimOf 23 = .ok (.ifCond .eq 39, 3) := by decide +kernel
theorem dX7_trimOf_26 : decode cX7_trimOf 26 = .ok (.aload_n 0, 1) := by decide +kernel
theorem dX7_trimOf_27 : decode cX7_trimOf 27 = .ok (.aload_n 0, 1) := by decide +kernel
theorem dX7_trimOf_28 : decode cX7_trimOf 28 = .ok (.getfield 25, 3) := by decide +kernel
theorem dX7_trimOf_31 : decode cX7_trimOf 31 = .ok (.invokevirtual 187, 3) := by decide +kernel
theorem dX7_trimOf_34 : decode cX7_trimOf 34 = .ok (.istore 5, 2) := by decide +kernel
theorem dX7_trimOf_36 : decode cX7_trimOf 36 = .ok (.iload 5, 2) := by decide +kernel
theorem dX7_trimOf_38 : decode cX7_trimOf 38 = .ok (.iload_n 3, 1) := by decide +kernel
theorem dX7_trimOf_39 : decode cX7_trimOf 39 = .ok (.if_icmp .ge 8, 3) := by decide +kernel
theorem dX7_trimOf_42 : decode cX7_trimOf 42 = .ok (.iload 4, 2) := by decide +kernel
theorem dX7_trimOf_44 : decode cX7_trimOf 44 = .ok (.goto 4, 3) := by decide +kernel
theorem dX7_trimOf_47 : decode cX7_trimOf 47 = .ok (.iload_n 2, 1) := by decide +kernel
theorem dX7_trimOf_48 : decode cX7_trimOf 48 = .ok (.istore_n 2, 1) := by decide +kernel
theorem dX7_trimOf_49 : decode cX7_trimOf 49 = .ok (.iload 5, 2) := by decide +kernel
theorem dX7_trimOf_51 : decode cX7_trimOf 51 = .ok (.iload_n 3, 1) := by decide +kernel
theorem dX7_trimOf_52 : decode cX7_trimOf 52 = .ok (.if_icmp .ge 8, 3) := by decide +kernel
theorem dX7_trimOf_55 : decode cX7_trimOf 55 = .ok (.iload 5, 2) := by decide +kernel
theorem dX7_trimOf_57 : decode cX7_trimOf 57 = .ok (.goto 4, 3) := by decide +kernel
theorem dX7_trimOf_60 : decode cX7_trimOf 60 = .ok (.iload_n 3, 1) := by decide +kernel
theorem dX7_trimOf_61 : decode cX7_trimOf 61 = .ok (.istore_n 3, 1) := by decide +kernel
theorem dX7_trimOf_62 : decode cX7_trimOf 62 = .ok (.iinc 4 1, 3) := by decide +kernel
theorem dX7_trimOf_65 : decode cX7_trimOf 65 = .ok (.goto (-57), 3) := by decide +kernel
theorem dX7_trimOf_68 : decode cX7_trimOf 68 = .ok (.iload_n 2, 1) := by decide +kernel
theorem dX7_trimOf_69 : decode cX7_trimOf 69 = .ok (.iconst (-1), 1) := by decide +kernel
theorem dX7_trimOf_70 : decode cX7_trimOf 70 = .ok (.if_icmp .eq 7, 3) := by decide +kernel
theorem dX7_trimOf_73 : decode cX7_trimOf 73 = .ok (.iload_n 1, 1) := by decide +kernel
theorem dX7_trimOf_74 : decode cX7_trimOf 74 = .ok (.ifCond .ne 7, 3) := by decide +kernel
theorem dX7_trimOf_77 : decode cX7_trimOf 77 = .ok (.iload_n 2, 1) := by decide +kernel
theorem dX7_trimOf_78 : decode cX7_trimOf 78 = .ok (.goto 4, 3) := by decide +kernel
theorem dX7_trimOf_81 : decode cX7_trimOf 81 = .ok (.iload_n 3, 1) := by decide +kernel
theorem dX7_trimOf_82 : decode cX7_trimOf 82 = .ok (.ireturn, 1) := by decide +kernel
theorem dX7_trim_0 : decode cX7_trim 0 = .ok (.iload_n 1, 1) := by decide +kernel
theorem dX7_trim_1 : decode cX7_trim 1 = .ok (.i2l, 1) := by decide +kernel
theorem dX7_trim_2 : decode cX7_trim 2 = .ok (.lconst 0, 1) := by decide +kernel
theorem dX7_trim_3 : decode cX7_trim 3 = .ok (.lconst 1, 1) := by decide +kernel
theorem dX7_trim_4 : decode cX7_trim 4 = .ok (.invokestatic 58, 3) := by decide +kernel
theorem dX7_trim_7 : decode cX7_trim 7 = .ok (.ifCond .ne 6, 3) := by decide +kernel
theorem dX7_trim_10 : decode cX7_trim 10 = .ok (.bipush (-102), 2) := by decide +kernel
theorem dX7_trim_12 : decode cX7_trim 12 = .ok (.ireturn, 1) := by decide +kernel
theorem dX7_trim_13 : decode cX7_trim 13 = .ok (.aload_n 0, 1) := by decide +kernel
theorem dX7_trim_14 : decode cX7_trim 14 = .ok (.invokevirtual 118, 3) := by decide +kernel
theorem dX7_trim_17 : decode cX7_trim 17 = .ok (.ifCond .eq 8, 3) := by decide +kernel
theorem dX7_trim_20 : decode cX7_trim 20 = .ok (.bipush (-103), 2) := by decide +kernel
theorem dX7_trim_22 : decode cX7_trim 22 = .ok (.goto 8, 3) := by decide +kernel
theorem dX7_trim_25 : decode cX7_trim 25 = .ok (.aload_n 0, 1) := by decide +kernel
theorem dX7_trim_26 : decode cX7_trim 26 = .ok (.iload_n 1, 1) := by decide +kernel
theorem dX7_trim_27 : decode cX7_trim 27 = .ok (.invokevirtual 190, 3) := by decide +kernel
theorem dX7_trim_30 : decode cX7_trim 30 = .ok (.ireturn, 1) := by decide +kernel
theorem dX7_oddsOf_0 : decode cX7_oddsOf 0 = .ok (.iconst 0, 1) := by decide +kernel
theorem dX7_oddsOf_1 : decode cX7_oddsOf 1 = .ok (.istore 4, 2) := by decide +kernel
theorem dX7_oddsOf_3 : decode cX7_oddsOf 3 = .ok (.iconst 0, 1) := by decide +kernel
theorem dX7_oddsOf_4 : decode cX7_oddsOf 4 = .ok (.istore 5, 2) := by decide +kernel
theorem dX7_oddsOf_6 : decode cX7_oddsOf 6 = .ok (.iconst 0, 1) := by decide +kernel
theorem dX7_oddsOf_7 : decode cX7_oddsOf 7 = .ok (.istore 6, 2) := by decide +kernel
theorem dX7_oddsOf_9 : decode cX7_oddsOf 9 = .ok (.iload 6, 2) := by decide +kernel
theorem dX7_oddsOf_11 : decode cX7_oddsOf 11 = .ok (.aload_n 0, 1) := by decide +kernel
theorem dX7_oddsOf_12 : decode cX7_oddsOf 12 = .ok (.getfield 100, 3) := by decide +kernel
theorem dX7_oddsOf_15 : decode cX7_oddsOf 15 = .ok (.if_icmp .ge 50, 3) := by decide +kernel
theorem dX7_oddsOf_18 : decode cX7_oddsOf 18 = .ok (.aload_n 0, 1) := by decide +kernel
theorem dX7_oddsOf_19 : decode cX7_oddsOf 19 = .ok (.iload 6, 2) := by decide +kernel
theorem dX7_oddsOf_21 : decode cX7_oddsOf 21 = .ok (.invokevirtual 176, 3) := by decide +kernel
theorem dX7_oddsOf_24 : decode cX7_oddsOf 24 = .ok (.ifCond .eq 35, 3) := by decide +kernel
theorem dX7_oddsOf_27 : decode cX7_oddsOf 27 = .ok (.iinc 5 1, 3) := by decide +kernel
theorem dX7_oddsOf_30 : decode cX7_oddsOf 30 = .ok (.iload 4, 2) := by decide +kernel
theorem dX7_oddsOf_32 : decode cX7_oddsOf 32 = .ok (.aload_n 0, 1) := by decide +kernel
theorem dX7_oddsOf_33 : decode cX7_oddsOf 33 = .ok (.getfield 25, 3) := by decide +kernel
theorem dX7_oddsOf_36 : decode cX7_oddsOf 36 = .ok (.iload_n 1, 1) := by decide +kernel
theorem dX7_oddsOf_37 : decode cX7_oddsOf 37 = .ok (.invokestatic 146, 3) := by decide +kernel
theorem dX7_oddsOf_40 : decode cX7_oddsOf 40 = .ok (.aload_n 0, 1) := by decide +kernel
theorem dX7_oddsOf_41 : decode cX7_oddsOf 41 = .ok (.getfield 25, 3) := by decide +kernel
theorem dX7_oddsOf_44 : decode cX7_oddsOf 44 = .ok (.iload_n 2, 1) := by decide +kernel
theorem dX7_oddsOf_45 : decode cX7_oddsOf 45 = .ok (.invokestatic 146, 3) := by decide +kernel
theorem dX7_oddsOf_48 : decode cX7_oddsOf 48 = .ok (.if_icmp .ge 7, 3) := by decide +kernel
theorem dX7_oddsOf_51 : decode cX7_oddsOf 51 = .ok (.iconst 1, 1) := by decide +kernel
theorem dX7_oddsOf_52 : decode cX7_oddsOf 52 = .ok (.goto 4, 3) := by decide +kernel
theorem dX7_oddsOf_55 : decode cX7_oddsOf 55 = .ok (.iconst 0, 1) := by decide +kernel
theorem dX7_oddsOf_56 : decode cX7_oddsOf 56 = .ok (.iadd, 1) := by decide +kernel
theorem dX7_oddsOf_57 : decode cX7_oddsOf 57 = .ok (.istore 4, 2) := by decide +kernel
theorem dX7_oddsOf_59 : decode cX7_oddsOf 59 = .ok (.iinc 6 1, 3) := by decide +kernel
theorem dX7_oddsOf_62 : decode cX7_oddsOf 62 = .ok (.goto (-53), 3) := by decide +kernel
theorem dX7_oddsOf_65 : decode cX7_oddsOf 65 = .ok (.iload 5, 2) := by decide +kernel
theorem dX7_oddsOf_67 : decode cX7_oddsOf 67 = .ok (.istore 6, 2) := by decide +kernel
theorem dX7_oddsOf_69 : decode cX7_oddsOf 69 = .ok (.iload 4, 2) := by decide +kernel
theorem dX7_oddsOf_71 : decode cX7_oddsOf 71 = .ok (.istore 7, 2) := by decide +kernel
theorem dX7_oddsOf_73 : decode cX7_oddsOf 73 = .ok (.iload 7, 2) := by decide +kernel
theorem dX7_oddsOf_75 : decode cX7_oddsOf 75 = .ok (.ifCond .le 21, 3) := by decide +kernel
theorem dX7_oddsOf_78 : decode cX7_oddsOf 78 = .ok (.iload 6, 2) := by decide +kernel
theorem dX7_oddsOf_80 : decode cX7_oddsOf 80 = .ok (.iload 7, 2) := by decide +kernel
theorem dX7_oddsOf_82 : decode cX7_oddsOf 82 = .ok (.irem, 1) := by decide +kernel
theorem dX7_oddsOf_83 : decode cX7_oddsOf 83 = .ok (.istore 8, 2) := by decide +kernel
theorem dX7_oddsOf_85 : decode cX7_oddsOf 85 = .ok (.iload 7, 2) := by decide +kernel
theorem dX7_oddsOf_87 : decode cX7_oddsOf 87 = .ok (.istore 6, 2) := by decide +kernel
theorem dX7_oddsOf_89 : decode cX7_oddsOf 89 = .ok (.iload 8, 2) := by decide +kernel
theorem dX7_oddsOf_91 : decode cX7_oddsOf 91 = .ok (.istore 7, 2) := by decide +kernel
theorem dX7_oddsOf_93 : decode cX7_oddsOf 93 = .ok (.goto (-20), 3) := by decide +kernel
theorem dX7_oddsOf_96 : decode cX7_oddsOf 96 = .ok (.iload 5, 2) := by decide +kernel
theorem dX7_oddsOf_98 : decode cX7_oddsOf 98 = .ok (.ifCond .ne 7, 3) := by decide +kernel
theorem dX7_oddsOf_101 : decode cX7_oddsOf 101 = .ok (.iload_n 3, 1) := by decide +kernel
theorem dX7_oddsOf_102 : decode cX7_oddsOf 102 = .ok (.goto 20, 3) := by decide +kernel
theorem dX7_oddsOf_105 : decode cX7_oddsOf 105 = .ok (.iload_n 3, 1) := by decide +kernel
theorem dX7_oddsOf_106 : decode cX7_oddsOf 106 = .ok (.ifCond .ne 11, 3) := by decide +kernel
theorem dX7_oddsOf_109 : decode cX7_oddsOf 109 = .ok (.iload 4, 2) := by decide +kernel
theorem dX7_oddsOf_111 : decode cX7_oddsOf 111 = .ok (.iload 6, 2) := by decide +kernel
theorem dX7_oddsOf_113 : decode cX7_oddsOf 113 = .ok (.idiv, 1) := by decide +kernel
theorem dX7_oddsOf_114 : decode cX7_oddsOf 114 = .ok (.goto 8, 3) := by decide +kernel
theorem dX7_oddsOf_117 : decode cX7_oddsOf 117 = .ok (.iload 5, 2) := by decide +kernel
theorem dX7_oddsOf_119 : decode cX7_oddsOf 119 = .ok (.iload 6, 2) := by decide +kernel
theorem dX7_oddsOf_121 : decode cX7_oddsOf 121 = .ok (.idiv, 1) := by decide +kernel
theorem dX7_oddsOf_122 : decode cX7_oddsOf 122 = .ok (.ireturn, 1) := by decide +kernel
theorem dX7_odds_0 : decode cX7_odds 0 = .ok (.aload_n 0, 1) := by decide +kernel
theorem dX7_odds_1 : decode cX7_odds 1 = .ok (.iload_n 1, 1) := by decide +kernel
theorem dX7_odds_2 : decode cX7_odds 2 = .ok (.invokevirtual 193, 3) := by decide +kernel
theorem dX7_odds_5 : decode cX7_odds 5 = .ok (.ifCond .eq 16, 3) := by decide +kernel
theorem dX7_odds_8 : decode cX7_odds 8 = .ok (.aload_n 0, 1) := by decide +kernel
theorem dX7_odds_9 : decode cX7_odds 9 = .ok (.iload_n 2, 1) := by decide +kernel
theorem dX7_odds_10 : decode cX7_odds 10 = .ok (.invokevirtual 193, 3) := by decide +kernel
theorem dX7_odds_13 : decode cX7_odds 13 = .ok (.ifCond .eq 8, 3) := by decide +kernel
theorem dX7_odds_16 : decode cX7_odds 16 = .ok (.iload_n 1, 1) := by decide +kernel
theorem dX7_odds_17 : decode cX7_odds 17 = .ok (.iload_n 2, 1) := by decide +kernel
theorem dX7_odds_18 : decode cX7_odds 18 = .ok (.if_icmp .ne 6, 3) := by decide +kernel
theorem dX7_odds_21 : decode cX7_odds 21 = .ok (.bipush (-101), 2) := by decide +kernel
theorem dX7_odds_23 : decode cX7_odds 23 = .ok (.ireturn, 1) := by decide +kernel
theorem dX7_odds_24 : decode cX7_odds 24 = .ok (.iload_n 3, 1) := by decide +kernel
theorem dX7_odds_25 : decode cX7_odds 25 = .ok (.i2l, 1) := by decide +kernel
theorem dX7_odds_26 : decode cX7_odds 26 = .ok (.lconst 0, 1) := by decide +kernel
theorem dX7_odds_27 : decode cX7_odds 27 = .ok (.lconst 1, 1) := by decide +kernel
theorem dX7_odds_28 : decode cX7_odds 28 = .ok (.invokestatic 58, 3) := by decide +kernel
theorem dX7_odds_31 : decode cX7_odds 31 = .ok (.ifCond .eq 13, 3) := by decide +kernel
theorem dX7_odds_34 : decode cX7_odds 34 = .ok (.aload_n 0, 1) := by decide +kernel
theorem dX7_odds_35 : decode cX7_odds 35 = .ok (.iload_n 1, 1) := by decide +kernel
theorem dX7_odds_36 : decode cX7_odds 36 = .ok (.iload_n 2, 1) := by decide +kernel
theorem dX7_odds_37 : decode cX7_odds 37 = .ok (.iload_n 3, 1) := by decide +kernel
theorem dX7_odds_38 : decode cX7_odds 38 = .ok (.invokevirtual 196, 3) := by decide +kernel
theorem dX7_odds_41 : decode cX7_odds 41 = .ok (.goto 5, 3) := by decide +kernel
theorem dX7_odds_44 : decode cX7_odds 44 = .ok (.bipush (-102), 2) := by decide +kernel
theorem dX7_odds_46 : decode cX7_odds 46 = .ok (.ireturn, 1) := by decide +kernel
theorem dX7_tellLeaf_0 : decode cX7_tellLeaf 0 = .ok (.iload_n 2, 1) := by decide +kernel
theorem dX7_tellLeaf_1 : decode cX7_tellLeaf 1 = .ok (.tableswitch 78 0 3 #[31, 38, 44, 53], 31) := by decide +kernel
theorem dX7_tellLeaf_32 : decode cX7_tellLeaf 32 = .ok (.aload_n 0, 1) := by decide +kernel
theorem dX7_tellLeaf_33 : decode cX7_tellLeaf 33 = .ok (.getfield 13, 3) := by decide +kernel
theorem dX7_tellLeaf_36 : decode cX7_tellLeaf 36 = .ok (.iload_n 1, 1) := by decide +kernel
theorem dX7_tellLeaf_37 : decode cX7_tellLeaf 37 = .ok (.iaload, 1) := by decide +kernel
theorem dX7_tellLeaf_38 : decode cX7_tellLeaf 38 = .ok (.ireturn, 1) := by decide +kernel
theorem dX7_tellLeaf_39 : decode cX7_tellLeaf 39 = .ok (.aload_n 0, 1) := by decide +kernel
theorem dX7_tellLeaf_40 : decode cX7_tellLeaf 40 = .ok (.iload_n 1, 1) := by decide +kernel
theorem dX7_tellLeaf_41 : decode cX7_tellLeaf 41 = .ok (.invokevirtual 140, 3) := by decide +kernel
theorem dX7_tellLeaf_44 : decode cX7_tellLeaf 44 = .ok (.ireturn, 1) := by decide +kernel
theorem dX7_tellLeaf_45 : decode cX7_tellLeaf 45 = .ok (.aload_n 0, 1) := by decide +kernel
theorem dX7_tellLeaf_46 : decode cX7_tellLeaf 46 = .ok (.getfield 16, 3) := by decide +kernel
theorem dX7_tellLeaf_49 : decode cX7_tellLeaf 49 = .ok (.iload_n 1, 1) := by decide +kernel
theorem dX7_tellLeaf_50 : decode cX7_tellLeaf 50 = .ok (.invokestatic 146, 3) := by decide +kernel
theorem dX7_tellLeaf_53 : decode cX7_tellLeaf 53 = .ok (.ireturn, 1) := by decide +kernel
theorem dX7_tellLeaf_54 : decode cX7_tellLeaf 54 = .ok (.aload_n 0, 1) := by decide +kernel
theorem dX7_tellLeaf_55 : decode cX7_tellLeaf 55 = .ok (.aload_n 0, 1) := by decide +kernel
theorem dX7_tellLeaf_56 : decode cX7_tellLeaf 56 = .ok (.getfield 16, 3) := by decide +kernel
theorem dX7_tellLeaf_59 : decode cX7_tellLeaf 59 = .ok (.aload_n 0, 1) := by decide +kernel
theorem dX7_tellLeaf_60 : decode cX7_tellLeaf 60 = .ok (.getfield 16, 3) := by decide +kernel
theorem dX7_tellLeaf_63 : decode cX7_tellLeaf 63 = .ok (.iload_n 1, 1) := by decide +kernel
theorem dX7_tellLeaf_64 : decode cX7_tellLeaf 64 = .ok (.invokestatic 146, 3) := by decide +kernel
theorem dX7_tellLeaf_67 : decode cX7_tellLeaf 67 = .ok (.invokevirtual 125, 3) := by decide +kernel
theorem dX7_tellLeaf_70 : decode cX7_tellLeaf 70 = .ok (.ifCond .eq 7, 3) := by decide +kernel
theorem dX7_tellLeaf_73 : decode cX7_tellLeaf 73 = .ok (.iconst 1, 1) := by decide +kernel
theorem dX7_tellLeaf_74 : decode cX7_tellLeaf 74 = .ok (.goto 4, 3) := by decide +kernel
theorem dX7_tellLeaf_77 : decode cX7_tellLeaf 77 = .ok (.iconst 0, 1) := by decide +kernel
theorem dX7_tellLeaf_78 : decode cX7_tellLeaf 78 = .ok (.ireturn, 1) := by decide +kernel
theorem dX7_tellLeaf_79 : decode cX7_tellLeaf 79 = .ok (.bipush (-102), 2) := by decide +kernel
theorem dX7_tellLeaf_81 : decode cX7_tellLeaf 81 = .ok (.ireturn, 1) := by decide +kernel
theorem dX7_leaf_0 : decode cX7_leaf 0 = .ok (.aload_n 0, 1) := by decide +kernel
theorem dX7_leaf_1 : decode cX7_leaf 1 = .ok (.iload_n 1, 1) := by decide +kernel
theorem dX7_leaf_2 : decode cX7_leaf 2 = .ok (.invokevirtual 193, 3) := by decide +kernel
theorem dX7_leaf_5 : decode cX7_leaf 5 = .ok (.ifCond .eq 12, 3) := by decide +kernel
theorem dX7_leaf_8 : decode cX7_leaf 8 = .ok (.aload_n 0, 1) := by decide +kernel
theorem dX7_leaf_9 : decode cX7_leaf 9 = .ok (.iload_n 1, 1) := by decide +kernel
theorem dX7_leaf_10 : decode cX7_leaf 10 = .ok (.iload_n 2, 1) := by decide +kernel
theorem dX7_leaf_11 : decode cX7_leaf 11 = .ok (.invokevirtual 200, 3) := by decide +kernel
theorem dX7_leaf_14 : decode cX7_leaf 14 = .ok (.goto 5, 3) := by decide +kernel
theorem dX7_leaf_17 : decode cX7_leaf 17 = .ok (.bipush (-101), 2) := by decide +kernel
theorem dX7_leaf_19 : decode cX7_leaf 19 = .ok (.ireturn, 1) := by decide +kernel
theorem dX7_as_0 : decode cX7_as 0 = .ok (.aload_n 0, 1) := by decide +kernel
theorem dX7_as_1 : decode cX7_as 1 = .ok (.iload_n 1, 1) := by decide +kernel
theorem dX7_as_2 : decode cX7_as 2 = .ok (.invokevirtual 193, 3) := by decide +kernel
theorem dX7_as_5 : decode cX7_as 5 = .ok (.ifCond .ne 6, 3) := by decide +kernel
theorem dX7_as_8 : decode cX7_as 8 = .ok (.bipush (-101), 2) := by decide +kernel
theorem dX7_as_10 : decode cX7_as 10 = .ok (.ireturn, 1) := by decide +kernel
theorem dX7_as_11 : decode cX7_as 11 = .ok (.iload_n 2, 1) := by decide +kernel
theorem dX7_as_12 : decode cX7_as 12 = .ok (.i2l, 1) := by decide +kernel
theorem dX7_as_13 : decode cX7_as 13 = .ok (.lconst 0, 1) := by decide +kernel
theorem dX7_as_14 : decode cX7_as 14 = .ok (.ldc2_w 204, 3) := by decide +kernel
theorem dX7_as_17 : decode cX7_as 17 = .ok (.invokestatic 58, 3) := by decide +kernel
theorem dX7_as_20 : decode cX7_as 20 = .ok (.ifCond .ne 6, 3) := by decide +kernel
theorem dX7_as_23 : decode cX7_as 23 = .ok (.bipush (-102), 2) := by decide +kernel
theorem dX7_as_25 : decode cX7_as 25 = .ok (.ireturn, 1) := by decide +kernel
theorem dX7_as_26 : decode cX7_as 26 = .ok (.iload_n 2, 1) := by decide +kernel
theorem dX7_as_27 : decode cX7_as 27 = .ok (.ifCond .eq 43, 3) := by decide +kernel
theorem dX7_as_30 : decode cX7_as 30 = .ok (.iload_n 2, 1) := by decide +kernel
theorem dX7_as_31 : decode cX7_as 31 = .ok (.aload_n 0, 1) := by decide +kernel
theorem dX7_as_32 : decode cX7_as 32 = .ok (.getfield 13, 3) := by decide +kernel
theorem dX7_as_35 : decode cX7_as 35 = .ok (.iload_n 1, 1) := by decide +kernel
theorem dX7_as_36 : decode cX7_as 36 = .ok (.iaload, 1) := by decide +kernel
theorem dX7_as_37 : decode cX7_as 37 = .ok (.if_icmp .eq 33, 3) := by decide +kernel
theorem dX7_as_40 : decode cX7_as 40 = .ok (.iload_n 2, 1) := by decide +kernel
theorem dX7_as_41 : decode cX7_as 41 = .ok (.iconst 1, 1) := by decide +kernel
theorem dX7_as_42 : decode cX7_as 42 = .ok (.if_icmp .ne 13, 3) := by decide +kernel
theorem dX7_as_45 : decode cX7_as 45 = .ok (.aload_n 0, 1) := by decide +kernel
theorem dX7_as_46 : decode cX7_as 46 = .ok (.getfield 13, 3) := by decide +kernel
theorem dX7_as_49 : decode cX7_as 49 = .ok (.iload_n 1, 1) := by decide +kernel
theorem dX7_as_50 : decode cX7_as 50 = .ok (.iaload, 1) := by decide +kernel
theorem dX7_as_51 : decode cX7_as 51 = .ok (.iconst 3, 1) := by decide +kernel
theorem dX7_as_52 : decode cX7_as 52 = .ok (.if_icmp .eq 18, 3) := by decide +kernel
theorem dX7_as_55 : decode cX7_as 55 = .ok (.iload_n 2, 1) := by decide +kernel
theorem dX7_as_56 : decode cX7_as 56 = .ok (.iconst 2, 1) := by decide +kernel
theorem dX7_as_57 : decode cX7_as 57 = .ok (.if_icmp .ne 17, 3) := by decide +kernel
theorem dX7_as_60 : decode cX7_as 60 = .ok (.aload_n 0, 1) := by decide +kernel
theorem dX7_as_61 : decode cX7_as 61 = .ok (.getfield 13, 3) := by decide +kernel
theorem dX7_as_64 : decode cX7_as 64 = .ok (.iload_n 1, 1) := by decide +kernel
theorem dX7_as_65 : decode cX7_as 65 = .ok (.iaload, 1) := by decide +kernel
theorem dX7_as_66 : decode cX7_as 66 = .ok (.iconst 4, 1) := by decide +kernel
theorem dX7_as_67 : decode cX7_as 67 = .ok (.if_icmp .ne 7, 3) := by decide +kernel
theorem dX7_as_70 : decode cX7_as 70 = .ok (.iconst 1, 1) := by decide +kernel
theorem dX7_as_71 : decode cX7_as 71 = .ok (.goto 4, 3) := by decide +kernel
theorem dX7_as_74 : decode cX7_as 74 = .ok (.iconst 0, 1) := by decide +kernel
theorem dX7_as_75 : decode cX7_as 75 = .ok (.istore_n 3, 1) := by decide +kernel
theorem dX7_as_76 : decode cX7_as 76 = .ok (.iload_n 3, 1) := by decide +kernel
theorem dX7_as_77 : decode cX7_as 77 = .ok (.ifCond .eq 7, 3) := by decide +kernel
theorem dX7_as_80 : decode cX7_as 80 = .ok (.iload_n 1, 1) := by decide +kernel
theorem dX7_as_81 : decode cX7_as 81 = .ok (.goto 4, 3) := by decide +kernel
theorem dX7_as_84 : decode cX7_as 84 = .ok (.iconst (-1), 1) := by decide +kernel
theorem dX7_as_85 : decode cX7_as 85 = .ok (.ireturn, 1) := by decide +kernel
theorem dX7_hinge_0 : decode cX7_hinge 0 = .ok (.iload_n 1, 1) := by decide +kernel
theorem dX7_hinge_1 : decode cX7_hinge 1 = .ok (.i2l, 1) := by decide +kernel
theorem dX7_hinge_2 : decode cX7_hinge 2 = .ok (.lconst 0, 1) := by decide +kernel
theorem dX7_hinge_3 : decode cX7_hinge 3 = .ok (.aload_n 0, 1) := by decide +kernel
theorem dX7_hinge_4 : decode cX7_hinge 4 = .ok (.getfield 73, 3) := by decide +kernel
theorem dX7_hinge_7 : decode cX7_hinge 7 = .ok (.iconst 2, 1) := by decide +kernel
theorem dX7_hinge_8 : decode cX7_hinge 8 = .ok (.isub, 1) := by decide +kernel
theorem dX7_hinge_9 : decode cX7_hinge 9 = .ok (.i2l, 1) := by decide +kernel
theorem dX7_hinge_10 : decode cX7_hinge 10 = .ok (.invokestatic 58, 3) := by decide +kernel
theorem dX7_hinge_13 : decode cX7_hinge 13 = .ok (.ifCond .ne 6, 3) := by decide +kernel
theorem dX7_hinge_16 : decode cX7_hinge 16 = .ok (.bipush (-101), 2) := by decide +kernel
theorem dX7_hinge_18 : decode cX7_hinge 18 = .ok (.ireturn, 1) := by decide +kernel
theorem dX7_hinge_19 : decode cX7_hinge 19 = .ok (.iload_n 2, 1) := by decide +kernel
theorem dX7_hinge_20 : decode cX7_hinge 20 = .ok (.i2l, 1) := by decide +kernel
theorem dX7_hinge_21 : decode cX7_hinge 21 = .ok (.lconst 0, 1) := by decide +kernel
theorem dX7_hinge_22 : decode cX7_hinge 22 = .ok (.lconst 1, 1) := by decide +kernel
theorem dX7_hinge_23 : decode cX7_hinge 23 = .ok (.invokestatic 58, 3) := by decide +kernel
theorem dX7_hinge_26 : decode cX7_hinge 26 = .ok (.ifCond .ne 6, 3) := by decide +kernel
theorem dX7_hinge_29 : decode cX7_hinge 29 = .ok (.bipush (-102), 2) := by decide +kernel
theorem dX7_hinge_31 : decode cX7_hinge 31 = .ok (.ireturn, 1) := by decide +kernel
theorem dX7_hinge_32 : decode cX7_hinge 32 = .ok (.iload_n 2, 1) := by decide +kernel
theorem dX7_hinge_33 : decode cX7_hinge 33 = .ok (.ifCond .ne 9, 3) := by decide +kernel
theorem dX7_hinge_36 : decode cX7_hinge 36 = .ok (.iload_n 1, 1) := by decide +kernel
theorem dX7_hinge_37 : decode cX7_hinge 37 = .ok (.iconst 2, 1) := by decide +kernel
theorem dX7_hinge_38 : decode cX7_hinge 38 = .ok (.irem, 1) := by decide +kernel
theorem dX7_hinge_39 : decode cX7_hinge 39 = .ok (.goto 12, 3) := by decide +kernel
theorem dX7_hinge_42 : decode cX7_hinge 42 = .ok (.aload_n 0, 1) := by decide +kernel
theorem dX7_hinge_43 : decode cX7_hinge 43 = .ok (.aload_n 0, 1) := by decide +kernel
theorem dX7_hinge_44 : decode cX7_hinge 44 = .ok (.getfield 16, 3) := by decide +kernel
theorem dX7_hinge_47 : decode cX7_hinge 47 = .ok (.iload_n 1, 1) := by decide +kernel
theorem dX7_hinge_48 : decode cX7_hinge 48 = .ok (.invokevirtual 143, 3) := by decide +kernel
theorem dX7_hinge_51 : decode cX7_hinge 51 = .ok (.ireturn, 1) := by decide +kernel
theorem dX7_at_0 : decode cX7_at 0 = .ok (.aload_n 0, 1) := by decide +kernel
theorem dX7_at_1 : decode cX7_at 1 = .ok (.iload_n 1, 1) := by decide +kernel
theorem dX7_at_2 : decode cX7_at 2 = .ok (.invokevirtual 193, 3) := by decide +kernel
theorem dX7_at_5 : decode cX7_at 5 = .ok (.ifCond .eq 12, 3) := by decide +kernel
theorem dX7_at_8 : decode cX7_at 8 = .ok (.aload_n 0, 1) := by decide +kernel
theorem dX7_at_9 : decode cX7_at 9 = .ok (.getfield 16, 3) := by decide +kernel
theorem dX7_at_12 : decode cX7_at 12 = .ok (.iload_n 1, 1) := by decide +kernel
theorem dX7_at_13 : decode cX7_at 13 = .ok (.iaload, 1) := by decide +kernel
theorem dX7_at_14 : decode cX7_at 14 = .ok (.goto 5, 3) := by decide +kernel
theorem dX7_at_17 : decode cX7_at 17 = .ok (.bipush (-101), 2) := by decide +kernel
theorem dX7_at_19 : decode cX7_at 19 = .ok (.ireturn, 1) := by decide +kernel
theorem dX7_may_0 : decode cX7_may 0 = .ok (.aload_n 0, 1) := by decide +kernel
theorem dX7_may_1 : decode cX7_may 1 = .ok (.iload_n 1, 1) := by decide +kernel
theorem dX7_may_2 : decode cX7_may 2 = .ok (.invokevirtual 193, 3) := by decide +kernel
theorem dX7_may_5 : decode cX7_may 5 = .ok (.ifCond .eq 11, 3) := by decide +kernel
theorem dX7_may_8 : decode cX7_may 8 = .ok (.aload_n 0, 1) := by decide +kernel
theorem dX7_may_9 : decode cX7_may 9 = .ok (.iload_n 2, 1) := by decide +kernel
theorem dX7_may_10 : decode cX7_may 10 = .ok (.invokevirtual 193, 3) := by decide +kernel
theorem dX7_may_13 : decode cX7_may 13 = .ok (.ifCond .ne 6, 3) := by decide +kernel
theorem dX7_may_16 : decode cX7_may 16 = .ok (.bipush (-101), 2) := by decide +kernel
theorem dX7_may_18 : decode cX7_may 18 = .ok (.ireturn, 1) := by decide +kernel
theorem dX7_may_19 : decode cX7_may 19 = .ok (.aload_n 0, 1) := by decide +kernel
theorem dX7_may_20 : decode cX7_may 20 = .ok (.getfield 16, 3) := by decide +kernel
theorem dX7_may_23 : decode cX7_may 23 = .ok (.iload_n 1, 1) := by decide +kernel
theorem dX7_may_24 : decode cX7_may 24 = .ok (.invokestatic 146, 3) := by decide +kernel
theorem dX7_may_27 : decode cX7_may 27 = .ok (.iload_n 2, 1) := by decide +kernel
theorem dX7_may_28 : decode cX7_may 28 = .ok (.if_icmp .eq 17, 3) := by decide +kernel
theorem dX7_may_31 : decode cX7_may 31 = .ok (.aload_n 0, 1) := by decide +kernel
theorem dX7_may_32 : decode cX7_may 32 = .ok (.aload_n 0, 1) := by decide +kernel
theorem dX7_may_33 : decode cX7_may 33 = .ok (.getfield 16, 3) := by decide +kernel
theorem dX7_may_36 : decode cX7_may 36 = .ok (.iload_n 1, 1) := by decide +kernel
theorem dX7_may_37 : decode cX7_may 37 = .ok (.iload_n 2, 1) := by decide +kernel
theorem dX7_may_38 : decode cX7_may 38 = .ok (.invokevirtual 163, 3) := by decide +kernel
theorem dX7_may_41 : decode cX7_may 41 = .ok (.iconst (-1), 1) := by decide +kernel
theorem dX7_may_42 : decode cX7_may 42 = .ok (.if_icmp .eq 7, 3) := by decide +kernel
theorem dX7_may_45 : decode cX7_may 45 = .ok (.iconst 1, 1) := by decide +kernel
theorem dX7_may_46 : decode cX7_may 46 = .ok (.goto 4, 3) := by decide +kernel
theorem dX7_may_49 : decode cX7_may 49 = .ok (.iconst 0, 1) := by decide +kernel
theorem dX7_may_50 : decode cX7_may 50 = .ok (.ireturn, 1) := by decide +kernel
theorem dX7_fitMany_0 : decode cX7_fitMany 0 = .ok (.iconst 0, 1) := by decide +kernel
theorem dX7_fitMany_1 : decode cX7_fitMany 1 = .ok (.istore_n 1, 1) := by decide +kernel
theorem dX7_fitMany_2 : decode cX7_fitMany 2 = .ok (.iconst 0, 1) := by decide +kernel
theorem dX7_fitMany_3 : decode cX7_fitMany 3 = .ok (.istore_n 2, 1) := by decide +kernel
theorem dX7_fitMany_4 : decode cX7_fitMany 4 = .ok (.iload_n 2, 1) := by decide +kernel
theorem dX7_fitMany_5 : decode cX7_fitMany 5 = .ok (.aload_n 0, 1) := by decide +kernel
theorem dX7_fitMany_6 : decode cX7_fitMany 6 = .ok (.getfield 100, 3) := by decide +kernel
theorem dX7_fitMany_9 : decode cX7_fitMany 9 = .ok (.if_icmp .ge 25, 3) := by decide +kernel
theorem dX7_fitMany_12 : decode cX7_fitMany 12 = .ok (.iload_n 1, 1) := by decide +kernel
theorem dX7_fitMany_13 : decode cX7_fitMany 13 = .ok (.aload_n 0, 1) := by decide +kernel
theorem dX7_fitMany_14 : decode cX7_fitMany 14 = .ok (.iload_n 2, 1) := by decide +kernel
theorem dX7_fitMany_15 : decode cX7_fitMany 15 = .ok (.invokevirtual 176, 3) := by decide +kernel
theorem dX7_fitMany_18 : decode cX7_fitMany 18 = .ok (.ifCond .eq 7, 3) := by decide +kernel
theorem dX7_fitMany_21 : decode cX7_fitMany 21 = .ok (.iconst 1, 1) := by decide +kernel
theorem dX7_fitMany_22 : decode cX7_fitMany 22 = .ok (.goto 4, 3) := by decide +kernel
theorem dX7_fitMany_25 : decode cX7_fitMany 25 = .ok (.iconst 0, 1) := by decide +kernel
theorem dX7_fitMany_26 : decode cX7_fitMany 26 = .ok (.iadd, 1) := by decide +kernel
theorem dX7_fitMany_27 : decode cX7_fitMany 27 = .ok (.istore_n 1, 1) := by decide +kernel
theorem dX7_fitMany_28 : decode cX7_fitMany 28 = .ok (.iinc 2 1, 3) := by decide +kernel
theorem dX7_fitMany_31 : decode cX7_fitMany 31 = .ok (.goto (-27), 3) := by decide +kernel
theorem dX7_fitMany_34 : decode cX7_fitMany 34 = .ok (.iload_n 1, 1) := by decide +kernel
theorem dX7_fitMany_35 : decode cX7_fitMany 35 = .ok (.ireturn, 1) := by decide +kernel
theorem dX7_ordersOf_0 : decode cX7_ordersOf 0 = .ok (.iload_n 1, 1) := by decide +kernel
theorem dX7_ordersOf_1 : decode cX7_ordersOf 1 = .ok (.tableswitch 42 0 2 #[27, 32, 37], 27) := by decide +kernel
theorem dX7_ordersOf_28 : decode cX7_ordersOf 28 = .ok (.aload_n 0, 1) := by decide +kernel
theorem dX7_ordersOf_29 : decode cX7_ordersOf 29 = .ok (.getfield 100, 3) := by decide +kernel
theorem dX7_ordersOf_32 : decode cX7_ordersOf 32 = .ok (.ireturn, 1) := by decide +kernel
theorem dX7_ordersOf_33 : decode cX7_ordersOf 33 = .ok (.aload_n 0, 1) := by decide +kernel
theorem dX7_ordersOf_34 : decode cX7_ordersOf 34 = .ok (.invokevirtual 206, 3) := by decide +kernel
theorem dX7_ordersOf_37 : decode cX7_ordersOf 37 = .ok (.ireturn, 1) := by decide +kernel
theorem dX7_ordersOf_38 : decode cX7_ordersOf 38 = .ok (.aload_n 0, 1) := by decide +kernel
theorem dX7_ordersOf_39 : decode cX7_ordersOf 39 = .ok (.invokevirtual 157, 3) := by decide +kernel
theorem dX7_ordersOf_42 : decode cX7_ordersOf 42 = .ok (.ireturn, 1) := by decide +kernel
theorem dX7_ordersOf_43 : decode cX7_ordersOf 43 = .ok (.aload_n 0, 1) := by decide +kernel
theorem dX7_ordersOf_44 : decode cX7_ordersOf 44 = .ok (.aload_n 0, 1) := by decide +kernel
theorem dX7_ordersOf_45 : decode cX7_ordersOf 45 = .ok (.getfield 16, 3) := by decide +kernel
theorem dX7_ordersOf_48 : decode cX7_ordersOf 48 = .ok (.invokevirtual 137, 3) := by decide +kernel
theorem dX7_ordersOf_51 : decode cX7_ordersOf 51 = .ok (.ifCond .eq 7, 3) := by decide +kernel
theorem dX7_ordersOf_54 : decode cX7_ordersOf 54 = .ok (.iconst 1, 1) := by decide +kernel
theorem dX7_ordersOf_55 : decode cX7_ordersOf 55 = .ok (.goto 4, 3) := by decide +kernel
theorem dX7_ordersOf_58 : decode cX7_ordersOf 58 = .ok (.iconst 0, 1) := by decide +kernel
theorem dX7_ordersOf_59 : decode cX7_ordersOf 59 = .ok (.ireturn, 1) := by decide +kernel
theorem dX7_orders_0 : decode cX7_orders 0 = .ok (.iload_n 1, 1) := by decide +kernel
theorem dX7_orders_1 : decode cX7_orders 1 = .ok (.i2l, 1) := by decide +kernel
theorem dX7_orders_2 : decode cX7_orders 2 = .ok (.lconst 0, 1) := by decide +kernel
theorem dX7_orders_3 : decode cX7_orders 3 = .ok (.ldc2_w 179, 3) := by decide +kernel
theorem dX7_orders_6 : decode cX7_orders 6 = .ok (.invokestatic 58, 3) := by decide +kernel
theorem dX7_orders_9 : decode cX7_orders 9 = .ok (.ifCond .ne 6, 3) := by decide +kernel
theorem dX7_orders_12 : decode cX7_orders 12 = .ok (.bipush (-102), 2) := by decide +kernel
theorem dX7_orders_14 : decode cX7_orders 14 = .ok (.ireturn, 1) := by decide +kernel
theorem dX7_orders_15 : decode cX7_orders 15 = .ok (.aload_n 0, 1) := by decide +kernel
theorem dX7_orders_16 : decode cX7_orders 16 = .ok (.invokevirtual 118, 3) := by decide +kernel
theorem dX7_orders_19 : decode cX7_orders 19 = .ok (.ifCond .eq 8, 3) := by decide +kernel
theorem dX7_orders_22 : decode cX7_orders 22 = .ok (.bipush (-103), 2) := by decide +kernel
theorem dX7_orders_24 : decode cX7_orders 24 = .ok (.goto 8, 3) := by decide +kernel
theorem dX7_orders_27 : decode cX7_orders 27 = .ok (.aload_n 0, 1) := by decide +kernel
theorem dX7_orders_28 : decode cX7_orders 28 = .ok (.iload_n 1, 1) := by decide +kernel
theorem dX7_orders_29 : decode cX7_orders 29 = .ok (.invokevirtual 209, 3) := by decide +kernel
theorem dX7_orders_32 : decode cX7_orders 32 = .ok (.ireturn, 1) := by decide +kernel
theorem dX7_tellOrder_0 : decode cX7_tellOrder 0 = .ok (.aload_n 0, 1) := by decide +kernel
theorem dX7_tellOrder_1 : decode cX7_tellOrder 1 = .ok (.aload_n 0, 1) := by decide +kernel
theorem dX7_tellOrder_2 : decode cX7_tellOrder 2 = .ok (.getfield 19, 3) := by decide +kernel
theorem dX7_tellOrder_5 : decode cX7_tellOrder 5 = .ok (.iload_n 1, 1) := by decide +kernel
theorem dX7_tellOrder_6 : decode cX7_tellOrder 6 = .ok (.iaload, 1) := by decide +kernel
theorem dX7_tellOrder_7 : decode cX7_tellOrder 7 = .ok (.aload_n 0, 1) := by decide +kernel
theorem dX7_tellOrder_8 : decode cX7_tellOrder 8 = .ok (.getfield 25, 3) := by decide +kernel
theorem dX7_tellOrder_11 : decode cX7_tellOrder 11 = .ok (.invokevirtual 133, 3) := by decide +kernel
theorem dX7_tellOrder_14 : decode cX7_tellOrder 14 = .ok (.iload_n 2, 1) := by decide +kernel
theorem dX7_tellOrder_15 : decode cX7_tellOrder 15 = .ok (.iconst 2, 1) := by decide +kernel
theorem dX7_tellOrder_16 : decode cX7_tellOrder 16 = .ok (.if_icmp .ge 36, 3) := by decide +kernel
theorem dX7_tellOrder_19 : decode cX7_tellOrder 19 = .ok (.iload_n 2, 1) := by decide +kernel
theorem dX7_tellOrder_20 : decode cX7_tellOrder 20 = .ok (.iconst 1, 1) := by decide +kernel
theorem dX7_tellOrder_21 : decode cX7_tellOrder 21 = .ok (.if_icmp .ne 14, 3) := by decide +kernel
theorem dX7_tellOrder_24 : decode cX7_tellOrder 24 = .ok (.aload_n 0, 1) := by decide +kernel
theorem dX7_tellOrder_25 : decode cX7_tellOrder 25 = .ok (.aload_n 0, 1) := by decide +kernel
theorem dX7_tellOrder_26 : decode cX7_tellOrder 26 = .ok (.getfield 25, 3) := by decide +kernel
theorem dX7_tellOrder_29 : decode cX7_tellOrder 29 = .ok (.invokevirtual 187, 3) := by decide +kernel
theorem dX7_tellOrder_32 : decode cX7_tellOrder 32 = .ok (.goto 19, 3) := by decide +kernel
theorem dX7_tellOrder_35 : decode cX7_tellOrder 35 = .ok (.aload_n 0, 1) := by decide +kernel
theorem dX7_tellOrder_36 : decode cX7_tellOrder 36 = .ok (.aload_n 0, 1) := by decide +kernel
theorem dX7_tellOrder_37 : decode cX7_tellOrder 37 = .ok (.getfield 25, 3) := by decide +kernel
theorem dX7_tellOrder_40 : decode cX7_tellOrder 40 = .ok (.invokevirtual 137, 3) := by decide +kernel
theorem dX7_tellOrder_43 : decode cX7_tellOrder 43 = .ok (.ifCond .eq 7, 3) := by decide +kernel
theorem dX7_tellOrder_46 : decode cX7_tellOrder 46 = .ok (.iconst 1, 1) := by decide +kernel
theorem dX7_tellOrder_47 : decode cX7_tellOrder 47 = .ok (.goto 4, 3) := by decide +kernel
theorem dX7_tellOrder_50 : decode cX7_tellOrder 50 = .ok (.iconst 0, 1) := by decide +kernel
theorem dX7_tellOrder_51 : decode cX7_tellOrder 51 = .ok (.ireturn, 1) := by decide +kernel
theorem dX7_tellOrder_52 : decode cX7_tellOrder 52 = .ok (.iload_n 2, 1) := by decide +kernel
theorem dX7_tellOrder_53 : decode cX7_tellOrder 53 = .ok (.bipush 10, 2) := by decide +kernel
theorem dX7_tellOrder_55 : decode cX7_tellOrder 55 = .ok (.isub, 1) := by decide +kernel
theorem dX7_tellOrder_56 : decode cX7_tellOrder 56 = .ok (.aload_n 0, 1) := by decide +kernel
theorem dX7_tellOrder_57 : decode cX7_tellOrder 57 = .ok (.getfield 73, 3) := by decide +kernel
theorem dX7_tellOrder_60 : decode cX7_tellOrder 60 = .ok (.if_icmp .ge 15, 3) := by decide +kernel
theorem dX7_tellOrder_63 : decode cX7_tellOrder 63 = .ok (.aload_n 0, 1) := by decide +kernel
theorem dX7_tellOrder_64 : decode cX7_tellOrder 64 = .ok (.getfield 25, 3) := by decide +kernel
theorem dX7_tellOrder_67 : decode cX7_tellOrder 67 = .ok (.iload_n 2, 1) := by decide +kernel
theorem dX7_tellOrder_68 : decode cX7_tellOrder 68 = .ok (.bipush 10, 2) := by decide +kernel
theorem dX7_tellOrder_70 : decode cX7_tellOrder 70 = .ok (.isub, 1) := by decide +kernel
theorem dX7_tellOrder_71 : decode cX7_tellOrder 71 = .ok (.iaload, 1) := by decide +kernel
theorem dX7_tellOrder_72 : decode cX7_tellOrder 72 = .ok (.goto 4, 3) := by decide +kernel
theorem dX7_tellOrder_75 : decode cX7_tellOrder 75 = .ok (.iconst (-1), 1) := by decide +kernel
theorem dX7_tellOrder_76 : decode cX7_tellOrder 76 = .ok (.ireturn, 1) := by decide +kernel
theorem dX7_order_0 : decode cX7_order 0 = .ok (.aload_n 0, 1) := by decide +kernel
theorem dX7_order_1 : decode cX7_order 1 = .ok (.iload_n 1, 1) := by decide +kernel
theorem dX7_order_2 : decode cX7_order 2 = .ok (.invokevirtual 170, 3) := by decide +kernel
theorem dX7_order_5 : decode cX7_order 5 = .ok (.ifCond .ne 6, 3) := by decide +kernel
theorem dX7_order_8 : decode cX7_order 8 = .ok (.bipush (-101), 2) := by decide +kernel
theorem dX7_order_10 : decode cX7_order 10 = .ok (.ireturn, 1) := by decide +kernel
theorem dX7_order_11 : decode cX7_order 11 = .ok (.iload_n 2, 1) := by decide +kernel
theorem dX7_order_12 : decode cX7_order 12 = .ok (.i2l, 1) := by decide +kernel
theorem dX7_order_13 : decode cX7_order 13 = .ok (.lconst 0, 1) := by decide +kernel
theorem dX7_order_14 : decode cX7_order 14 = .ok (.lconst 1, 1) := by decide +kernel
theorem dX7_order_15 : decode cX7_order 15 = .ok (.invokestatic 58, 3) := by decide +kernel
theorem dX7_order_18 : decode cX7_order 18 = .ok (.ifCond .ne 17, 3) := by decide +kernel
theorem dX7_order_21 : decode cX7_order 21 = .ok (.iload_n 2, 1) := by decide +kernel
theorem dX7_order_22 : decode cX7_order 22 = .ok (.i2l, 1) := by decide +kernel
theorem dX7_order_23 : decode cX7_order 23 = .ok (.ldc2_w 212, 3) := by decide +kernel
theorem dX7_order_26 : decode cX7_order 26 = .ok (.ldc2_w 214, 3) := by decide +kernel
theorem dX7_order_29 : decode cX7_order 29 = .ok (.invokestatic 58, 3) := by decide +kernel
theorem dX7_order_32 : decode cX7_order 32 = .ok (.ifCond .eq 12, 3) := by decide +kernel
theorem dX7_order_35 : decode cX7_order 35 = .ok (.aload_n 0, 1) := by decide +kernel
theorem dX7_order_36 : decode cX7_order 36 = .ok (.iload_n 1, 1) := by decide +kernel
theorem dX7_order_37 : decode cX7_order 37 = .ok (.iload_n 2, 1) := by decide +kernel
theorem dX7_order_38 : decode cX7_order 38 = .ok (.invokevirtual 216, 3) := by decide +kernel
theorem dX7_order_41 : decode cX7_order 41 = .ok (.goto 5, 3) := by decide +kernel
theorem dX7_order_44 : decode cX7_order 44 = .ok (.bipush (-102), 2) := by decide +kernel
theorem dX7_order_46 : decode cX7_order 46 = .ok (.ireturn, 1) := by decide +kernel
theorem dX7_topsOf_0 : decode cX7_topsOf 0 = .ok (.iconst 0, 1) := by decide +kernel
theorem dX7_topsOf_1 : decode cX7_topsOf 1 = .ok (.istore_n 3, 1) := by decide +kernel
theorem dX7_topsOf_2 : decode cX7_topsOf 2 = .ok (.iconst 0, 1) := by decide +kernel
theorem dX7_topsOf_3 : decode cX7_topsOf 3 = .ok (.istore 4, 2) := by decide +kernel
theorem dX7_topsOf_5 : decode cX7_topsOf 5 = .ok (.iload 4, 2) := by decide +kernel
theorem dX7_topsOf_7 : decode cX7_topsOf 7 = .ok (.aload_n 0, 1) := by decide +kernel
theorem dX7_topsOf_8 : decode cX7_topsOf 8 = .ok (.getfield 100, 3) := by decide +kernel
theorem dX7_topsOf_11 : decode cX7_topsOf 11 = .ok (.if_icmp .ge 67, 3) := by decide +kernel
theorem dX7_topsOf_14 : decode cX7_topsOf 14 = .ok (.iload_n 2, 1) := by decide +kernel
theorem dX7_topsOf_15 : decode cX7_topsOf 15 = .ok (.ifCond .eq 12, 3) := by decide +kernel
theorem dX7_topsOf_18 : decode cX7_topsOf 18 = .ok (.aload_n 0, 1) := by decide +kernel
theorem dX7_topsOf_19 : decode cX7_topsOf 19 = .ok (.iload 4, 2) := by decide +kernel
theorem dX7_topsOf_21 : decode cX7_topsOf 21 = .ok (.invokevirtual 176, 3) := by decide +kernel
theorem dX7_topsOf_24 : decode cX7_topsOf 24 = .ok (.ifCond .eq 7, 3) := by decide +kernel
theorem dX7_topsOf_27 : decode cX7_topsOf 27 = .ok (.iconst 1, 1) := by decide +kernel
theorem dX7_topsOf_28 : decode cX7_topsOf 28 = .ok (.goto 4, 3) := by decide +kernel
theorem dX7_topsOf_31 : decode cX7_topsOf 31 = .ok (.iconst 0, 1) := by decide +kernel
theorem dX7_topsOf_32 : decode cX7_topsOf 32 = .ok (.istore 5, 2) := by decide +kernel
theorem dX7_topsOf_34 : decode cX7_topsOf 34 = .ok (.aload_n 0, 1) := by decide +kernel
theorem dX7_topsOf_35 : decode cX7_topsOf 35 = .ok (.aload_n 0, 1) := by decide +kernel
theorem dX7_topsOf_36 : decode cX7_topsOf 36 = .ok (.getfield 19, 3) := by decide +kernel
theorem dX7_topsOf_39 : decode cX7_topsOf 39 = .ok (.iload 4, 2) := by decide +kernel
theorem dX7_topsOf_41 : decode cX7_topsOf 41 = .ok (.iaload, 1) := by decide +kernel
theorem dX7_topsOf_42 : decode cX7_topsOf 42 = .ok (.aload_n 0, 1) := by decide +kernel
theorem dX7_topsOf_43 : decode cX7_topsOf 43 = .ok (.getfield 25, 3) := by decide +kernel
theorem dX7_topsOf_46 : decode cX7_topsOf 46 = .ok (.invokevirtual 133, 3) := by decide +kernel
theorem dX7_topsOf_49 : decode cX7_topsOf 49 = .ok (.iload_n 3, 1) := by decide +kernel
theorem dX7_topsOf_50 : decode cX7_topsOf 50 = .ok (.iload 5, 2) := by decide +kernel
theorem dX7_topsOf_52 : decode cX7_topsOf 52 = .ok (.ifCond .eq 17, 3) := by decide +kernel
theorem dX7_topsOf_55 : decode cX7_topsOf 55 = .ok (.aload_n 0, 1) := by decide +kernel
theorem dX7_topsOf_56 : decode cX7_topsOf 56 = .ok (.getfield 25, 3) := by decide +kernel
theorem dX7_topsOf_59 : decode cX7_topsOf 59 = .ok (.iconst 0, 1) := by decide +kernel
theorem dX7_topsOf_60 : decode cX7_topsOf 60 = .ok (.iaload, 1) := by decide +kernel
theorem dX7_topsOf_61 : decode cX7_topsOf 61 = .ok (.iload_n 1, 1) := by decide +kernel
theorem dX7_topsOf_62 : decode cX7_topsOf 62 = .ok (.if_icmp .ne 7, 3) := by decide +kernel
theorem dX7_topsOf_65 : decode cX7_topsOf 65 = .ok (.iconst 1, 1) := by decide +kernel
theorem dX7_topsOf_66 : decode cX7_topsOf 66 = .ok (.goto 4, 3) := by decide +kernel
theorem dX7_topsOf_69 : decode cX7_topsOf 69 = .ok (.iconst 0, 1) := by decide +kernel
theorem dX7_topsOf_70 : decode cX7_topsOf 70 = .ok (.iadd, 1) := by decide +kernel
theorem dX7_topsOf_71 : decode cX7_topsOf 71 = .ok (.istore_n 3, 1) := by decide +kernel
theorem dX7_topsOf_72 : decode cX7_topsOf 72 = .ok (.iinc 4 1, 3) := by decide +kernel
theorem dX7_topsOf_75 : decode cX7_topsOf 75 = .ok (.goto (-70), 3) := by decide +kernel
theorem dX7_topsOf_78 : decode cX7_topsOf 78 = .ok (.iload_n 3, 1) := by decide +kernel
theorem dX7_topsOf_79 : decode cX7_topsOf 79 = .ok (.ireturn, 1) := by decide +kernel
theorem dX7_tops_0 : decode cX7_tops 0 = .ok (.aload_n 0, 1) := by decide +kernel
theorem dX7_tops_1 : decode cX7_tops 1 = .ok (.iload_n 1, 1) := by decide +kernel
theorem dX7_tops_2 : decode cX7_tops 2 = .ok (.invokevirtual 193, 3) := by decide +kernel
theorem dX7_tops_5 : decode cX7_tops 5 = .ok (.ifCond .ne 6, 3) := by decide +kernel
theorem dX7_tops_8 : decode cX7_tops 8 = .ok (.bipush (-101), 2) := by decide +kernel
theorem dX7_tops_10 : decode cX7_tops 10 = .ok (.ireturn, 1) := by decide +kernel
theorem dX7_tops_11 : decode cX7_tops 11 = .ok (.iload_n 2, 1) := by decide +kernel
theorem dX7_tops_12 : decode cX7_tops 12 = .ok (.i2l, 1) := by decide +kernel
theorem dX7_tops_13 : decode cX7_tops 13 = .ok (.lconst 0, 1) := by decide +kernel
theorem dX7_tops_14 : decode cX7_tops 14 = .ok (.lconst 1, 1) := by decide +kernel
theorem dX7_tops_15 : decode cX7_tops 15 = .ok (.invokestatic 58, 3) := by decide +kernel
theorem dX7_tops_18 : decode cX7_tops 18 = .ok (.ifCond .eq 12, 3) := by decide +kernel
theorem dX7_tops_21 : decode cX7_tops 21 = .ok (.aload_n 0, 1) := by decide +kernel
theorem dX7_tops_22 : decode cX7_tops 22 = .ok (.iload_n 1, 1) := by decide +kernel
theorem dX7_tops_23 : decode cX7_tops 23 = .ok (.iload_n 2, 1) := by decide +kernel
theorem dX7_tops_24 : decode cX7_tops 24 = .ok (.invokevirtual 219, 3) := by decide +kernel
theorem dX7_tops_27 : decode cX7_tops 27 = .ok (.goto 5, 3) := by decide +kernel
theorem dX7_tops_30 : decode cX7_tops 30 = .ok (.bipush (-102), 2) := by decide +kernel
theorem dX7_tops_32 : decode cX7_tops 32 = .ok (.ireturn, 1) := by decide +kernel
theorem dX7_move_0 : decode cX7_move 0 = .ok (.aload_n 0, 1) := by decide +kernel
theorem dX7_move_1 : decode cX7_move 1 = .ok (.iload_n 1, 1) := by decide +kernel
theorem dX7_move_2 : decode cX7_move 2 = .ok (.invokevirtual 193, 3) := by decide +kernel
theorem dX7_move_5 : decode cX7_move 5 = .ok (.ifCond .eq 11, 3) := by decide +kernel
theorem dX7_move_8 : decode cX7_move 8 = .ok (.aload_n 0, 1) := by decide +kernel
theorem dX7_move_9 : decode cX7_move 9 = .ok (.iload_n 2, 1) := by decide +kernel
theorem dX7_move_10 : decode cX7_move 10 = .ok (.invokevirtual 193, 3) := by decide +kernel
theorem dX7_move_13 : decode cX7_move 13 = .ok (.ifCond .ne 6, 3) := by decide +kernel
theorem dX7_move_16 : decode cX7_move 16 = .ok (.bipush (-101), 2) := by decide +kernel
theorem dX7_move_18 : decode cX7_move 18 = .ok (.ireturn, 1) := by decide +kernel
theorem dX7_move_19 : decode cX7_move 19 = .ok (.aload_n 0, 1) := by decide +kernel
theorem dX7_move_20 : decode cX7_move 20 = .ok (.aload_n 0, 1) := by decide +kernel
theorem dX7_move_21 : decode cX7_move 21 = .ok (.getfield 16, 3) := by decide +kernel
theorem dX7_move_24 : decode cX7_move 24 = .ok (.iload_n 1, 1) := by decide +kernel
theorem dX7_move_25 : decode cX7_move 25 = .ok (.iload_n 2, 1) := by decide +kernel
theorem dX7_move_26 : decode cX7_move 26 = .ok (.invokevirtual 163, 3) := by decide +kernel
theorem dX7_move_29 : decode cX7_move 29 = .ok (.iconst (-1), 1) := by decide +kernel
theorem dX7_move_30 : decode cX7_move 30 = .ok (.if_icmp .ne 6, 3) := by decide +kernel
theorem dX7_move_33 : decode cX7_move 33 = .ok (.bipush (-103), 2) := by decide +kernel
theorem dX7_move_35 : decode cX7_move 35 = .ok (.ireturn, 1) := by decide +kernel
theorem dX7_move_36 : decode cX7_move 36 = .ok (.aload_n 0, 1) := by decide +kernel
theorem dX7_move_37 : decode cX7_move 37 = .ok (.getfield 79, 3) := by decide +kernel
theorem dX7_move_40 : decode cX7_move 40 = .ok (.sipush 999, 3) := by decide +kernel
theorem dX7_move_43 : decode cX7_move 43 = .ok (.if_icmp .ne 6, 3) := by decide +kernel
theorem dX7_move_46 : decode cX7_move 46 = .ok (.bipush (-104), 2) := by decide +kernel
theorem dX7_move_48 : decode cX7_move 48 = .ok (.ireturn, 1) := by decide +kernel
theorem dX7_move_49 : decode cX7_move 49 = .ok (.aload_n 0, 1) := by decide +kernel
theorem dX7_move_50 : decode cX7_move 50 = .ok (.getfield 16, 3) := by decide +kernel
theorem dX7_move_53 : decode cX7_move 53 = .ok (.iload_n 1, 1) := by decide +kernel
theorem dX7_move_54 : decode cX7_move 54 = .ok (.iload_n 2, 1) := by decide +kernel
theorem dX7_move_55 : decode cX7_move 55 = .ok (.invokestatic 153, 3) := by decide +kernel
theorem dX7_move_58 : decode cX7_move 58 = .ok (.aload_n 0, 1) := by decide +kernel
theorem dX7_move_59 : decode cX7_move 59 = .ok (.dup, 1) := by decide +kernel
theorem dX7_move_60 : decode cX7_move 60 = .ok (.getfield 79, 3) := by decide +kernel
theorem dX7_move_63 : decode cX7_move 63 = .ok (.iconst 1, 1) := by decide +kernel
theorem dX7_move_64 : decode cX7_move 64 = .ok (.iadd, 1) := by decide +kernel
theorem dX7_move_65 : decode cX7_move 65 = .ok (.putfield 79, 3) := by decide +kernel
theorem dX7_move_68 : decode cX7_move 68 = .ok (.aload_n 0, 1) := by decide +kernel
theorem dX7_move_69 : decode cX7_move 69 = .ok (.aload_n 0, 1) := by decide +kernel
theorem dX7_move_70 : decode cX7_move 70 = .ok (.getfield 16, 3) := by decide +kernel
theorem dX7_move_73 : decode cX7_move 73 = .ok (.invokevirtual 222, 3) := by decide +kernel
theorem dX7_move_76 : decode cX7_move 76 = .ok (.ireturn, 1) := by decide +kernel
theorem dX7_turn_0 : decode cX7_turn 0 = .ok (.aload_n 0, 1) := by decide +kernel
theorem dX7_turn_1 : decode cX7_turn 1 = .ok (.invokevirtual 118, 3) := by decide +kernel
theorem dX7_turn_4 : decode cX7_turn 4 = .ok (.ifCond .eq 6, 3) := by decide +kernel
theorem dX7_turn_7 : decode cX7_turn 7 = .ok (.bipush (-103), 2) := by decide +kernel
theorem dX7_turn_9 : decode cX7_turn 9 = .ok (.ireturn, 1) := by decide +kernel
theorem dX7_turn_10 : decode cX7_turn 10 = .ok (.aload_n 0, 1) := by decide +kernel
theorem dX7_turn_11 : decode cX7_turn 11 = .ok (.getfield 16, 3) := by decide +kernel
theorem dX7_turn_14 : decode cX7_turn 14 = .ok (.aload_n 0, 1) := by decide +kernel
theorem dX7_turn_15 : decode cX7_turn 15 = .ok (.getfield 28, 3) := by decide +kernel
theorem dX7_turn_18 : decode cX7_turn 18 = .ok (.invokestatic 149, 3) := by decide +kernel
theorem dX7_turn_21 : decode cX7_turn 21 = .ok (.iconst 0, 1) := by decide +kernel
theorem dX7_turn_22 : decode cX7_turn 22 = .ok (.istore_n 1, 1) := by decide +kernel
theorem dX7_turn_23 : decode cX7_turn 23 = .ok (.iload_n 1, 1) := by decide +kernel
theorem dX7_turn_24 : decode cX7_turn 24 = .ok (.aload_n 0, 1) := by decide +kernel
theorem dX7_turn_25 : decode cX7_turn 25 = .ok (.getfield 73, 3) := by decide +kernel
theorem dX7_turn_28 : decode cX7_turn 28 = .ok (.if_icmp .ge 28, 3) := by decide +kernel
theorem dX7_turn_31 : decode cX7_turn 31 = .ok (.aload_n 0, 1) := by decide +kernel
theorem dX7_turn_32 : decode cX7_turn 32 = .ok (.getfield 16, 3) := by decide +kernel
theorem dX7_turn_35 : decode cX7_turn 35 = .ok (.iload_n 1, 1) := by decide +kernel
theorem dX7_turn_36 : decode cX7_turn 36 = .ok (.aload_n 0, 1) := by decide +kernel
theorem dX7_turn_37 : decode cX7_turn 37 = .ok (.getfield 28, 3) := by decide +kernel
theorem dX7_turn_40 : decode cX7_turn 40 = .ok (.aload_n 0, 1) := by decide +kernel
theorem dX7_turn_41 : decode cX7_turn 41 = .ok (.getfield 73, 3) := by decide +kernel
theorem dX7_turn_44 : decode cX7_turn 44 = .ok (.iconst 1, 1) := by decide +kernel
theorem dX7_turn_45 : decode cX7_turn 45 = .ok (.isub, 1) := by decide +kernel
theorem dX7_turn_46 : decode cX7_turn 46 = .ok (.iload_n 1, 1) := by decide +kernel
theorem dX7_turn_47 : decode cX7_turn 47 = .ok (.isub, 1) := by decide +kernel
theorem dX7_turn_48 : decode cX7_turn 48 = .ok (.iaload, 1) := by decide +kernel
theorem dX7_turn_49 : decode cX7_turn 49 = .ok (.iastore, 1) := by decide +kernel
theorem dX7_turn_50 : decode cX7_turn 50 = .ok (.iinc 1 1, 3) := by decide +kernel
theorem dX7_turn_53 : decode cX7_turn 53 = .ok (.goto (-30), 3) := by decide +kernel
theorem dX7_turn_56 : decode cX7_turn 56 = .ok (.aload_n 0, 1) := by decide +kernel
theorem dX7_turn_57 : decode cX7_turn 57 = .ok (.getfield 16, 3) := by decide +kernel
theorem dX7_turn_60 : decode cX7_turn 60 = .ok (.iconst 0, 1) := by decide +kernel
theorem dX7_turn_61 : decode cX7_turn 61 = .ok (.iaload, 1) := by decide +kernel
theorem dX7_turn_62 : decode cX7_turn 62 = .ok (.ireturn, 1) := by decide +kernel
theorem dX7_lay_0 : decode cX7_lay 0 = .ok (.aload_n 0, 1) := by decide +kernel
theorem dX7_lay_1 : decode cX7_lay 1 = .ok (.iload_n 1, 1) := by decide +kernel
theorem dX7_lay_2 : decode cX7_lay 2 = .ok (.invokevirtual 170, 3) := by decide +kernel
theorem dX7_lay_5 : decode cX7_lay 5 = .ok (.ifCond .ne 6, 3) := by decide +kernel
theorem dX7_lay_8 : decode cX7_lay 8 = .ok (.bipush (-101), 2) := by decide +kernel
theorem dX7_lay_10 : decode cX7_lay 10 = .ok (.ireturn, 1) := by decide +kernel
theorem dX7_lay_11 : decode cX7_lay 11 = .ok (.aload_n 0, 1) := by decide +kernel
theorem dX7_lay_12 : decode cX7_lay 12 = .ok (.invokevirtual 157, 3) := by decide +kernel
theorem dX7_lay_15 : decode cX7_lay 15 = .ok (.istore_n 2, 1) := by decide +kernel
theorem dX7_lay_16 : decode cX7_lay 16 = .ok (.aload_n 0, 1) := by decide +kernel
theorem dX7_lay_17 : decode cX7_lay 17 = .ok (.aload_n 0, 1) := by decide +kernel
theorem dX7_lay_18 : decode cX7_lay 18 = .ok (.getfield 19, 3) := by decide +kernel
theorem dX7_lay_21 : decode cX7_lay 21 = .ok (.iload_n 1, 1) := by decide +kernel
theorem dX7_lay_22 : decode cX7_lay 22 = .ok (.iaload, 1) := by decide +kernel
theorem dX7_lay_23 : decode cX7_lay 23 = .ok (.aload_n 0, 1) := by decide +kernel
theorem dX7_lay_24 : decode cX7_lay 24 = .ok (.getfield 16, 3) := by decide +kernel
theorem dX7_lay_27 : decode cX7_lay 27 = .ok (.invokevirtual 133, 3) := by decide +kernel
theorem dX7_lay_30 : decode cX7_lay 30 = .ok (.iload_n 2, 1) := by decide +kernel
theorem dX7_lay_31 : decode cX7_lay 31 = .ok (.ireturn, 1) := by decide +kernel
theorem dX7_change_0 : decode cX7_change 0 = .ok (.aload_n 0, 1) := by decide +kernel
theorem dX7_change_1 : decode cX7_change 1 = .ok (.iload_n 1, 1) := by decide +kernel
theorem dX7_change_2 : decode cX7_change 2 = .ok (.invokevirtual 193, 3) := by decide +kernel
theorem dX7_change_5 : decode cX7_change 5 = .ok (.ifCond .ne 6, 3) := by decide +kernel
theorem dX7_change_8 : decode cX7_change 8 = .ok (.bipush (-101), 2) := by decide +kernel
theorem dX7_change_10 : decode cX7_change 10 = .ok (.ireturn, 1) := by decide +kernel
theorem dX7_change_11 : decode cX7_change 11 = .ok (.iload_n 2, 1) := by decide +kernel
theorem dX7_change_12 : decode cX7_change 12 = .ok (.i2l, 1) := by decide +kernel
theorem dX7_change_13 : decode cX7_change 13 = .ok (.lconst 0, 1) := by decide +kernel
theorem dX7_change_14 : decode cX7_change 14 = .ok (.ldc2_w 204, 3) := by decide +kernel
theorem dX7_change_17 : decode cX7_change 17 = .ok (.invokestatic 58, 3) := by decide +kernel
theorem dX7_change_20 : decode cX7_change 20 = .ok (.ifCond .ne 6, 3) := by decide +kernel
theorem dX7_change_23 : decode cX7_change 23 = .ok (.bipush (-102), 2) := by decide +kernel
theorem dX7_change_25 : decode cX7_change 25 = .ok (.ireturn, 1) := by decide +kernel
theorem dX7_change_26 : decode cX7_change 26 = .ok (.aload_n 0, 1) := by decide +kernel
theorem dX7_change_27 : decode cX7_change 27 = .ok (.getfield 13, 3) := by decide +kernel
theorem dX7_change_30 : decode cX7_change 30 = .ok (.iload_n 1, 1) := by decide +kernel
theorem dX7_change_31 : decode cX7_change 31 = .ok (.iaload, 1) := by decide +kernel
theorem dX7_change_32 : decode cX7_change 32 = .ok (.istore_n 3, 1) := by decide +kernel
theorem dX7_change_33 : decode cX7_change 33 = .ok (.aload_n 0, 1) := by decide +kernel
theorem dX7_change_34 : decode cX7_change 34 = .ok (.getfield 13, 3) := by decide +kernel
theorem dX7_change_37 : decode cX7_change 37 = .ok (.iload_n 1, 1) := by decide +kernel
theorem dX7_change_38 : decode cX7_change 38 = .ok (.iload_n 2, 1) := by decide +kernel
theorem dX7_change_39 : decode cX7_change 39 = .ok (.iastore, 1) := by decide +kernel
theorem dX7_change_40 : decode cX7_change 40 = .ok (.iload_n 3, 1) := by decide +kernel
theorem dX7_change_41 : decode cX7_change 41 = .ok (.ireturn, 1) := by decide +kernel
theorem dX7_see_0 : decode cX7_see 0 = .ok (.aload_n 0, 1) := by decide +kernel
theorem dX7_see_1 : decode cX7_see 1 = .ok (.iload_n 1, 1) := by decide +kernel
theorem dX7_see_2 : decode cX7_see 2 = .ok (.invokevirtual 193, 3) := by decide +kernel
theorem dX7_see_5 : decode cX7_see 5 = .ok (.ifCond .ne 6, 3) := by decide +kernel
theorem dX7_see_8 : decode cX7_see 8 = .ok (.bipush (-101), 2) := by decide +kernel
theorem dX7_see_10 : decode cX7_see 10 = .ok (.ireturn, 1) := by decide +kernel
theorem dX7_see_11 : decode cX7_see 11 = .ok (.iload_n 2, 1) := by decide +kernel
theorem dX7_see_12 : decode cX7_see 12 = .ok (.i2l, 1) := by decide +kernel
theorem dX7_see_13 : decode cX7_see 13 = .ok (.lconst 1, 1) := by decide +kernel
theorem dX7_see_14 : decode cX7_see 14 = .ok (.aload_n 0, 1) := by decide +kernel
theorem dX7_see_15 : decode cX7_see 15 = .ok (.getfield 73, 3) := by decide +kernel
theorem dX7_see_18 : decode cX7_see 18 = .ok (.i2l, 1) := by decide +kernel
theorem dX7_see_19 : decode cX7_see 19 = .ok (.invokestatic 58, 3) := by decide +kernel
theorem dX7_see_22 : decode cX7_see 22 = .ok (.ifCond .ne 6, 3) := by decide +kernel
theorem dX7_see_25 : decode cX7_see 25 = .ok (.bipush (-102), 2) := by decide +kernel
theorem dX7_see_27 : decode cX7_see 27 = .ok (.ireturn, 1) := by decide +kernel
theorem dX7_see_28 : decode cX7_see 28 = .ok (.aload_n 0, 1) := by decide +kernel
theorem dX7_see_29 : decode cX7_see 29 = .ok (.getfield 82, 3) := by decide +kernel
theorem dX7_see_32 : decode cX7_see 32 = .ok (.bipush 6, 2) := by decide +kernel
theorem dX7_see_34 : decode cX7_see 34 = .ok (.if_icmp .ne 6, 3) := by decide +kernel
theorem dX7_see_37 : decode cX7_see 37 = .ok (.bipush (-104), 2) := by decide +kernel
theorem dX7_see_39 : decode cX7_see 39 = .ok (.ireturn, 1) := by decide +kernel
theorem dX7_see_40 : decode cX7_see 40 = .ok (.aload_n 0, 1) := by decide +kernel
theorem dX7_see_41 : decode cX7_see 41 = .ok (.getfield 37, 3) := by decide +kernel
theorem dX7_see_44 : decode cX7_see 44 = .ok (.iconst 3, 1) := by decide +kernel
theorem dX7_see_45 : decode cX7_see 45 = .ok (.aload_n 0, 1) := by decide +kernel
theorem dX7_see_46 : decode cX7_see 46 = .ok (.getfield 82, 3) := by decide +kernel
theorem dX7_see_49 : decode cX7_see 49 = .ok (.imul, 1) := by decide +kernel
theorem dX7_see_50 : decode cX7_see 50 = .ok (.iload_n 1, 1) := by decide +kernel
theorem dX7_see_51 : decode cX7_see 51 = .ok (.iastore, 1) := by decide +kernel
theorem dX7_see_52 : decode cX7_see 52 = .ok (.aload_n 0, 1) := by decide +kernel
theorem dX7_see_53 : decode cX7_see 53 = .ok (.getfield 37, 3) := by decide +kernel
theorem dX7_see_56 : decode cX7_see 56 = .ok (.iconst 3, 1) := by decide +kernel
theorem dX7_see_57 : decode cX7_see 57 = .ok (.aload_n 0, 1) := by decide +kernel
theorem dX7_see_58 : decode cX7_see 58 = .ok (.getfield 82, 3) := by decide +kernel
theorem dX7_see_61 : decode cX7_see 61 = .ok (.imul, 1) := by decide +kernel
theorem dX7_see_62 : decode cX7_see 62 = .ok (.iconst 1, 1) := by decide +kernel
theorem dX7_see_63 : decode cX7_see 63 = .ok (.iadd, 1) := by decide +kernel
theorem dX7_see_64 : decode cX7_see 64 = .ok (.iload_n 2, 1) := by decide +kernel
theorem dX7_see_65 : decode cX7_see 65 = .ok (.iastore, 1) := by decide +kernel
theorem dX7_see_66 : decode cX7_see 66 = .ok (.aload_n 0, 1) := by decide +kernel
theorem dX7_see_67 : decode cX7_see 67 = .ok (.getfield 37, 3) := by decide +kernel
theorem dX7_see_70 : decode cX7_see 70 = .ok (.iconst 3, 1) := by decide +kernel
theorem dX7_see_71 : decode cX7_see 71 = .ok (.aload_n 0, 1) := by decide +kernel
theorem dX7_see_72 : decode cX7_see 72 = .ok (.getfield 82, 3) := by decide +kernel
theorem dX7_see_75 : decode cX7_see 75 = .ok (.imul, 1) := by decide +kernel
theorem dX7_see_76 : decode cX7_see 76 = .ok (.iconst 2, 1) := by decide +kernel
theorem dX7_see_77 : decode cX7_see 77 = .ok (.iadd, 1) := by decide +kernel
theorem dX7_see_78 : decode cX7_see 78 = .ok (.iload_n 3, 1) := by decide +kernel
theorem dX7_see_79 : decode cX7_see 79 = .ok (.ifCond .eq 7, 3) := by decide +kernel
theorem dX7_see_82 : decode cX7_see 82 = .ok (.iconst 1, 1) := by decide +kernel
theorem dX7_see_83 : decode cX7_see 83 = .ok (.goto 4, 3) := by decide +kernel
theorem dX7_see_86 : decode cX7_see 86 = .ok (.iconst 0, 1) := by decide +kernel
theorem dX7_see_87 : decode cX7_see 87 = .ok (.iastore, 1) := by decide +kernel
theorem dX7_see_88 : decode cX7_see 88 = .ok (.aload_n 0, 1) := by decide +kernel
theorem dX7_see_89 : decode cX7_see 89 = .ok (.dup, 1) := by decide +kernel
theorem dX7_see_90 : decode cX7_see 90 = .ok (.getfield 82, 3) := by decide +kernel
theorem dX7_see_93 : decode cX7_see 93 = .ok (.iconst 1, 1) := by decide +kernel
theorem dX7_see_94 : decode cX7_see 94 = .ok (.iadd, 1) := by decide +kernel
theorem dX7_see_95 : decode cX7_see 95 = .ok (.putfield 82, 3) := by decide +kernel
theorem dX7_see_98 : decode cX7_see 98 = .ok (.aload_n 0, 1) := by decide +kernel
theorem dX7_see_99 : decode cX7_see 99 = .ok (.getfield 82, 3) := by decide +kernel
theorem dX7_see_102 : decode cX7_see 102 = .ok (.ireturn, 1) := by decide +kernel
theorem dX7_forget_0 : decode cX7_forget 0 = .ok (.aload_n 0, 1) := by decide +kernel
theorem dX7_forget_1 : decode cX7_forget 1 = .ok (.getfield 82, 3) := by decide +kernel
theorem dX7_forget_4 : decode cX7_forget 4 = .ok (.istore_n 1, 1) := by decide +kernel
theorem dX7_forget_5 : decode cX7_forget 5 = .ok (.aload_n 0, 1) := by decide +kernel
theorem dX7_forget_6 : decode cX7_forget 6 = .ok (.iconst 0, 1) := by decide +kernel
theorem dX7_forget_7 : decode cX7_forget 7 = .ok (.putfield 82, 3) := by decide +kernel
theorem dX7_forget_10 : decode cX7_forget 10 = .ok (.iload_n 1, 1) := by decide +kernel
theorem dX7_forget_11 : decode cX7_forget 11 = .ok (.ireturn, 1) := by decide +kernel
theorem dX7_isLikely_0 : decode cX7_isLikely 0 = .ok (.aload_n 0, 1) := by decide +kernel
theorem dX7_isLikely_1 : decode cX7_isLikely 1 = .ok (.aload_n 0, 1) := by decide +kernel
theorem dX7_isLikely_2 : decode cX7_isLikely 2 = .ok (.getfield 19, 3) := by decide +kernel
theorem dX7_isLikely_5 : decode cX7_isLikely 5 = .ok (.iload_n 1, 1) := by decide +kernel
theorem dX7_isLikely_6 : decode cX7_isLikely 6 = .ok (.iaload, 1) := by decide +kernel
theorem dX7_isLikely_7 : decode cX7_isLikely 7 = .ok (.aload_n 0, 1) := by decide +kernel
theorem dX7_isLikely_8 : decode cX7_isLikely 8 = .ok (.getfield 25, 3) := by decide +kernel
theorem dX7_isLikely_11 : decode cX7_isLikely 11 = .ok (.invokevirtual 133, 3) := by decide +kernel
theorem dX7_isLikely_14 : decode cX7_isLikely 14 = .ok (.iconst 1, 1) := by decide +kernel
theorem dX7_isLikely_15 : decode cX7_isLikely 15 = .ok (.istore_n 2, 1) := by decide +kernel
theorem dX7_isLikely_16 : decode cX7_isLikely 16 = .ok (.iconst 0, 1) := by decide +kernel
theorem dX7_isLikely_17 : decode cX7_isLikely 17 = .ok (.istore_n 3, 1) := by decide +kernel
theorem dX7_isLikely_18 : decode cX7_isLikely 18 = .ok (.iload_n 3, 1) := by decide +kernel
theorem dX7_isLikely_19 : decode cX7_isLikely 19 = .ok (.iconst 3, 1) := by decide +kernel
theorem dX7_isLikely_20 : decode cX7_isLikely 20 = .ok (.aload_n 0, 1) := by decide +kernel
theorem dX7_isLikely_21 : decode cX7_isLikely 21 = .ok (.getfield 82, 3) := by decide +kernel
theorem dX7_isLikely_24 : decode cX7_isLikely 24 = .ok (.imul, 1) := by decide +kernel
theorem dX7_isLikely_25 : decode cX7_isLikely 25 = .ok (.if_icmp .ge 63, 3) := by decide +kernel
theorem dX7_isLikely_28 : decode cX7_isLikely 28 = .ok (.aload_n 0, 1) := by decide +kernel
theorem dX7_isLikely_29 : decode cX7_isLikely 29 = .ok (.getfield 25, 3) := by decide +kernel
theorem dX7_isLikely_32 : decode cX7_isLikely 32 = .ok (.aload_n 0, 1) := by decide +kernel
theorem dX7_isLikely_33 : decode cX7_isLikely 33 = .ok (.getfield 37, 3) := by decide +kernel
theorem dX7_isLikely_36 : decode cX7_isLikely 36 = .ok (.iload_n 3, 1) := by decide +kernel
theorem dX7_isLikely_37 : decode cX7_isLikely 37 = .ok (.iaload, 1) := by decide +kernel
theorem dX7_isLikely_38 : decode cX7_isLikely 38 = .ok (.invokestatic 146, 3) := by decide +kernel
theorem dX7_isLikely_41 : decode cX7_isLikely 41 = .ok (.aload_n 0, 1) := by decide +kernel
theorem dX7_isLikely_42 : decode cX7_isLikely 42 = .ok (.getfield 37, 3) := by decide +kernel
theorem dX7_isLikely_45 : decode cX7_isLikely 45 = .ok (.iload_n 3, 1) := by decide +kernel
theorem dX7_isLikely_46 : decode cX7_isLikely 46 = .ok (.iconst 1, 1) := by decide +kernel
theorem dX7_isLikely_47 : decode cX7_isLikely 47 = .ok (.iadd, 1) := by decide +kernel
theorem dX7_isLikely_48 : decode cX7_isLikely 48 = .ok (.iaload, 1) := by decide +kernel
theorem dX7_isLikely_49 : decode cX7_isLikely 49 = .ok (.if_icmp .ge 7, 3) := by decide +kernel
theorem dX7_isLikely_52 : decode cX7_isLikely 52 = .ok (.iconst 1, 1) := by decide +kernel
theorem dX7_isLikely_53 : decode cX7_isLikely 53 = .ok (.goto 4, 3) := by decide +kernel
theorem dX7_isLikely_56 : decode cX7_isLikely 56 = .ok (.iconst 0, 1) := by decide +kernel
theorem dX7_isLikely_57 : decode cX7_isLikely 57 = .ok (.istore 4, 2) := by decide +kernel
theorem dX7_isLikely_59 : decode cX7_isLikely 59 = .ok (.iload_n 2, 1) := by decide +kernel
theorem dX7_isLikely_60 : decode cX7_isLikely 60 = .ok (.ifCond .eq 20, 3) := by decide +kernel
theorem dX7_isLikely_63 : decode cX7_isLikely 63 = .ok (.iload 4, 2) := by decide +kernel
theorem dX7_isLikely_65 : decode cX7_isLikely 65 = .ok (.aload_n 0, 1) := by decide +kernel
theorem dX7_isLikely_66 : decode cX7_isLikely 66 = .ok (.getfield 37, 3) := by decide +kernel
theorem dX7_isLikely_69 : decode cX7_isLikely 69 = .ok (.iload_n 3, 1) := by decide +kernel
theorem dX7_isLikely_70 : decode cX7_isLikely 70 = .ok (.iconst 2, 1) := by decide +kernel
theorem dX7_isLikely_71 : decode cX7_isLikely 71 = .ok (.iadd, 1) := by decide +kernel
theorem dX7_isLikely_72 : decode cX7_isLikely 72 = .ok (.iaload, 1) := by decide +kernel
theorem dX7_isLikely_73 : decode cX7_isLikely 73 = .ok (.if_icmp .ne 7, 3) := by decide +kernel
theorem dX7_isLikely_76 : decode cX7_isLikely 76 = .ok (.iconst 1, 1) := by decide +kernel
theorem dX7_isLikely_77 : decode cX7_isLikely 77 = .ok (.goto 4, 3) := by decide +kernel
theorem dX7_isLikely_80 : decode cX7_isLikely 80 = .ok (.iconst 0, 1) := by decide +kernel
theorem dX7_isLikely_81 : decode cX7_isLikely 81 = .ok (.istore_n 2, 1) := by decide +kernel
theorem dX7_isLikely_82 : decode cX7_isLikely 82 = .ok (.iinc 3 3, 3) := by decide +kernel
theorem dX7_isLikely_85 : decode cX7_isLikely 85 = .ok (.goto (-67), 3) := by decide +kernel
theorem dX7_isLikely_88 : decode cX7_isLikely 88 = .ok (.iload_n 2, 1) := by decide +kernel
theorem dX7_isLikely_89 : decode cX7_isLikely 89 = .ok (.ireturn, 1) := by decide +kernel
theorem dX7_couldOf_0 : decode cX7_couldOf 0 = .ok (.iconst 0, 1) := by decide +kernel
theorem dX7_couldOf_1 : decode cX7_couldOf 1 = .ok (.istore_n 1, 1) := by decide +kernel
theorem dX7_couldOf_2 : decode cX7_couldOf 2 = .ok (.iconst 0, 1) := by decide +kernel
theorem dX7_couldOf_3 : decode cX7_couldOf 3 = .ok (.istore_n 2, 1) := by decide +kernel
theorem dX7_couldOf_4 : decode cX7_couldOf 4 = .ok (.iload_n 2, 1) := by decide +kernel
theorem dX7_couldOf_5 : decode cX7_couldOf 5 = .ok (.aload_n 0, 1) := by decide +kernel
theorem dX7_couldOf_6 : decode cX7_couldOf 6 = .ok (.getfield 100, 3) := by decide +kernel
theorem dX7_couldOf_9 : decode cX7_couldOf 9 = .ok (.if_icmp .ge 25, 3) := by decide +kernel
theorem dX7_couldOf_12 : decode cX7_couldOf 12 = .ok (.iload_n 1, 1) := by decide +kernel
theorem dX7_couldOf_13 : decode cX7_couldOf 13 = .ok (.aload_n 0, 1) := by decide +kernel
theorem dX7_couldOf_14 : decode cX7_couldOf 14 = .ok (.iload_n 2, 1) := by decide +kernel
theorem dX7_couldOf_15 : decode cX7_couldOf 15 = .ok (.invokevirtual 225, 3) := by decide +kernel
theorem dX7_couldOf_18 : decode cX7_couldOf 18 = .ok (.ifCond .eq 7, 3) := by decide +kernel
theorem dX7_couldOf_21 : decode cX7_couldOf 21 = .ok (.iconst 1, 1) := by decide +kernel
theorem dX7_couldOf_22 : decode cX7_couldOf 22 = .ok (.goto 4, 3) := by decide +kernel
theorem dX7_couldOf_25 : decode cX7_couldOf 25 = .ok (.iconst 0, 1) := by decide +kernel
theorem dX7_couldOf_26 : decode cX7_couldOf 26 = .ok (.iadd, 1) := by decide +kernel
theorem dX7_couldOf_27 : decode cX7_couldOf 27 = .ok (.istore_n 1, 1) := by decide +kernel
theorem dX7_couldOf_28 : decode cX7_couldOf 28 = .ok (.iinc 2 1, 3) := by decide +kernel
theorem dX7_couldOf_31 : decode cX7_couldOf 31 = .ok (.goto (-27), 3) := by decide +kernel
theorem dX7_couldOf_34 : decode cX7_couldOf 34 = .ok (.iload_n 1, 1) := by decide +kernel
theorem dX7_couldOf_35 : decode cX7_couldOf 35 = .ok (.ireturn, 1) := by decide +kernel
theorem dX7_could_0 : decode cX7_could 0 = .ok (.aload_n 0, 1) := by decide +kernel
theorem dX7_could_1 : decode cX7_could 1 = .ok (.invokevirtual 118, 3) := by decide +kernel
theorem dX7_could_4 : decode cX7_could 4 = .ok (.ifCond .eq 8, 3) := by decide +kernel
theorem dX7_could_7 : decode cX7_could 7 = .ok (.bipush (-103), 2) := by decide +kernel
theorem dX7_could_9 : decode cX7_could 9 = .ok (.goto 7, 3) := by decide +kernel
theorem dX7_could_12 : decode cX7_could 12 = .ok (.aload_n 0, 1) := by decide +kernel
theorem dX7_could_13 : decode cX7_could 13 = .ok (.invokevirtual 228, 3) := by decide +kernel
theorem dX7_could_16 : decode cX7_could 16 = .ok (.ireturn, 1) := by decide +kernel
theorem dX7_worstBy_0 : decode cX7_worstBy 0 = .ok (.iconst 0, 1) := by decide +kernel
theorem dX7_worstBy_1 : decode cX7_worstBy 1 = .ok (.istore 4, 2) := by decide +kernel
theorem dX7_worstBy_3 : decode cX7_worstBy 3 = .ok (.iconst 0, 1) := by decide +kernel
theorem dX7_worstBy_4 : decode cX7_worstBy 4 = .ok (.istore 5, 2) := by decide +kernel
theorem dX7_worstBy_6 : decode cX7_worstBy 6 = .ok (.iload 5, 2) := by decide +kernel
theorem dX7_worstBy_8 : decode cX7_worstBy 8 = .ok (.aload_n 0, 1) := by decide +kernel
theorem dX7_worstBy_9 : decode cX7_worstBy 9 = .ok (.getfield 100, 3) := by decide +kernel
theorem dX7_worstBy_12 : decode cX7_worstBy 12 = .ok (.if_icmp .ge 40, 3) := by decide +kernel
theorem dX7_worstBy_15 : decode cX7_worstBy 15 = .ok (.iload 4, 2) := by decide +kernel
theorem dX7_worstBy_17 : decode cX7_worstBy 17 = .ok (.aload_n 0, 1) := by decide +kernel
theorem dX7_worstBy_18 : decode cX7_worstBy 18 = .ok (.iload 5, 2) := by decide +kernel
theorem dX7_worstBy_20 : decode cX7_worstBy 20 = .ok (.invokevirtual 225, 3) := by decide +kernel
theorem dX7_worstBy_23 : decode cX7_worstBy 23 = .ok (.ifCond .eq 19, 3) := by decide +kernel
theorem dX7_worstBy_26 : decode cX7_worstBy 26 = .ok (.aload_n 0, 1) := by decide +kernel
theorem dX7_worstBy_27 : decode cX7_worstBy 27 = .ok (.getfield 25, 3) := by decide +kernel
theorem dX7_worstBy_30 : decode cX7_worstBy 30 = .ok (.iload_n 2, 1) := by decide +kernel
theorem dX7_worstBy_31 : decode cX7_worstBy 31 = .ok (.invokestatic 146, 3) := by decide +kernel
theorem dX7_worstBy_34 : decode cX7_worstBy 34 = .ok (.iload_n 1, 1) := by decide +kernel
theorem dX7_worstBy_35 : decode cX7_worstBy 35 = .ok (.if_icmp .ge 7, 3) := by decide +kernel
theorem dX7_worstBy_38 : decode cX7_worstBy 38 = .ok (.iconst 1, 1) := by decide +kernel
theorem dX7_worstBy_39 : decode cX7_worstBy 39 = .ok (.goto 4, 3) := by decide +kernel
theorem dX7_worstBy_42 : decode cX7_worstBy 42 = .ok (.iconst 0, 1) := by decide +kernel
theorem dX7_worstBy_43 : decode cX7_worstBy 43 = .ok (.iadd, 1) := by decide +kernel
theorem dX7_worstBy_44 : decode cX7_worstBy 44 = .ok (.istore 4, 2) := by decide +kernel
theorem dX7_worstBy_46 : decode cX7_worstBy 46 = .ok (.iinc 5 1, 3) := by decide +kernel
theorem dX7_worstBy_49 : decode cX7_worstBy 49 = .ok (.goto (-43), 3) := by decide +kernel
theorem dX7_worstBy_52 : decode cX7_worstBy 52 = .ok (.iload 4, 2) := by decide +kernel
theorem dX7_worstBy_54 : decode cX7_worstBy 54 = .ok (.iload_n 3, 1) := by decide +kernel
theorem dX7_worstBy_55 : decode cX7_worstBy 55 = .ok (.iload 4, 2) := by decide +kernel
theorem dX7_worstBy_57 : decode cX7_worstBy 57 = .ok (.isub, 1) := by decide +kernel
theorem dX7_worstBy_58 : decode cX7_worstBy 58 = .ok (.if_icmp .le 8, 3) := by decide +kernel
theorem dX7_worstBy_61 : decode cX7_worstBy 61 = .ok (.iload 4, 2) := by decide +kernel
theorem dX7_worstBy_63 : decode cX7_worstBy 63 = .ok (.goto 7, 3) := by decide +kernel
theorem dX7_worstBy_66 : decode cX7_worstBy 66 = .ok (.iload_n 3, 1) := by decide +kernel
theorem dX7_worstBy_67 : decode cX7_worstBy 67 = .ok (.iload 4, 2) := by decide +kernel
theorem dX7_worstBy_69 : decode cX7_worstBy 69 = .ok (.isub, 1) := by decide +kernel
theorem dX7_worstBy_70 : decode cX7_worstBy 70 = .ok (.ireturn, 1) := by decide +kernel
theorem dX7_trialOf_0 : decode cX7_trialOf 0 = .ok (.aload_n 0, 1) := by decide +kernel
theorem dX7_trialOf_1 : decode cX7_trialOf 1 = .ok (.invokevirtual 228, 3) := by decide +kernel
theorem dX7_trialOf_4 : decode cX7_trialOf 4 = .ok (.istore_n 1, 1) := by decide +kernel
theorem dX7_trialOf_5 : decode cX7_trialOf 5 = .ok (.iconst (-1), 1) := by decide +kernel
theorem dX7_trialOf_6 : decode cX7_trialOf 6 = .ok (.istore_n 2, 1) := by decide +kernel
theorem dX7_trialOf_7 : decode cX7_trialOf 7 = .ok (.sipush 1000, 3) := by decide +kernel
theorem dX7_trialOf_10 : decode cX7_trialOf 10 = .ok (.istore_n 3, 1) := by decide +kernel
theorem dX7_trialOf_11 : decode cX7_trialOf 11 = .ok (.iconst 0, 1) := by decide +kernel
theorem dX7_trialOf_12 : decode cX7_trialOf 12 = .ok (.istore 4, 2) := by decide +kernel
theorem dX7_trialOf_14 : decode cX7_trialOf 14 = .ok (.iload 4, 2) := by decide +kernel
theorem dX7_trialOf_16 : decode cX7_trialOf 16 = .ok (.aload_n 0, 1) := by decide +kernel
theorem dX7_trialOf_17 : decode cX7_trialOf 17 = .ok (.getfield 73, 3) := by decide +kernel
theorem dX7_trialOf_20 : decode cX7_trialOf 20 = .ok (.aload_n 0, 1) := by decide +kernel
theorem dX7_trialOf_21 : decode cX7_trialOf 21 = .ok (.getfield 73, 3) := by decide +kernel
theorem dX7_trialOf_24 : decode cX7_trialOf 24 = .ok (.imul, 1) := by decide +kernel
theorem dX7_trialOf_25 : decode cX7_trialOf 25 = .ok (.if_icmp .ge 80, 3) := by decide +kernel
theorem dX7_trialOf_28 : decode cX7_trialOf 28 = .ok (.iload_n 1, 1) := by decide +kernel
theorem dX7_trialOf_29 : decode cX7_trialOf 29 = .ok (.ifCond .le 76, 3) := by decide +kernel
theorem dX7_trialOf_32 : decode cX7_trialOf 32 = .ok (.aload_n 0, 1) := by decide +kernel
theorem dX7_trialOf_33 : decode cX7_trialOf 33 = .ok (.iload 4, 2) := by decide +kernel
theorem dX7_trialOf_35 : decode cX7_trialOf 35 = .ok (.aload_n 0, 1) := by decide +kernel
theorem dX7_trialOf_36 : decode cX7_trialOf 36 = .ok (.getfield 73, 3) := by decide +kernel
theorem dX7_trialOf_39 : decode cX7_trialOf 39 = .ok (.idiv, 1) := by decide +kernel
theorem dX7_trialOf_40 : decode cX7_trialOf 40 = .ok (.iconst 1, 1) := by decide +kernel
theorem dX7_trialOf_41 : decode cX7_trialOf 41 = .ok (.iadd, 1) := by decide +kernel
theorem dX7_trialOf_42 : decode cX7_trialOf 42 = .ok (.iload 4, 2) := by decide +kernel
theorem dX7_trialOf_44 : decode cX7_trialOf 44 = .ok (.aload_n 0, 1) := by decide +kernel
theorem dX7_trialOf_45 : decode cX7_trialOf 45 = .ok (.getfield 73, 3) := by decide +kernel
theorem dX7_trialOf_48 : decode cX7_trialOf 48 = .ok (.irem, 1) := by decide +kernel
theorem dX7_trialOf_49 : decode cX7_trialOf 49 = .ok (.iload_n 1, 1) := by decide +kernel
theorem dX7_trialOf_50 : decode cX7_trialOf 50 = .ok (.invokevirtual 231, 3) := by decide +kernel
theorem dX7_trialOf_53 : decode cX7_trialOf 53 = .ok (.istore 5, 2) := by decide +kernel
theorem dX7_trialOf_55 : decode cX7_trialOf 55 = .ok (.iload 5, 2) := by decide +kernel
theorem dX7_trialOf_57 : decode cX7_trialOf 57 = .ok (.iload_n 3, 1) := by decide +kernel
theorem dX7_trialOf_58 : decode cX7_trialOf 58 = .ok (.if_icmp .ge 26, 3) := by decide +kernel
theorem dX7_trialOf_61 : decode cX7_trialOf 61 = .ok (.bipush 10, 2) := by decide +kernel
theorem dX7_trialOf_63 : decode cX7_trialOf 63 = .ok (.iload 4, 2) := by decide +kernel
theorem dX7_trialOf_65 : decode cX7_trialOf 65 = .ok (.aload_n 0, 1) := by decide +kernel
theorem dX7_trialOf_66 : decode cX7_trialOf 66 = .ok (.getfield 73, 3) := by decide +kernel
theorem dX7_trialOf_69 : decode cX7_trialOf 69 = .ok (.idiv, 1) := by decide +kernel
theorem dX7_trialOf_70 : decode cX7_trialOf 70 = .ok (.iconst 1, 1) := by decide +kernel
theorem dX7_trialOf_71 : decode cX7_trialOf 71 = .ok (.iadd, 1) := by decide +kernel
theorem dX7_trialOf_72 : decode cX7_trialOf 72 = .ok (.imul, 1) := by decide +kernel
theorem dX7_trialOf_73 : decode cX7_trialOf 73 = .ok (.iload 4, 2) := by decide +kernel
theorem dX7_trialOf_75 : decode cX7_trialOf 75 = .ok (.aload_n 0, 1) := by decide +kernel
theorem dX7_trialOf_76 : decode cX7_trialOf 76 = .ok (.getfield 73, 3) := by decide +kernel
theorem dX7_trialOf_79 : decode cX7_trialOf 79 = .ok (.irem, 1) := by decide +kernel
theorem dX7_trialOf_80 : decode cX7_trialOf 80 = .ok (.iadd, 1) := by decide +kernel
theorem dX7_trialOf_81 : decode cX7_trialOf 81 = .ok (.goto 4, 3) := by decide +kernel
theorem dX7_trialOf_84 : decode cX7_trialOf 84 = .ok (.iload_n 2, 1) := by decide +kernel
theorem dX7_trialOf_85 : decode cX7_trialOf 85 = .ok (.istore_n 2, 1) := by decide +kernel
theorem dX7_trialOf_86 : decode cX7_trialOf 86 = .ok (.iload 5, 2) := by decide +kernel
theorem dX7_trialOf_88 : decode cX7_trialOf 88 = .ok (.iload_n 3, 1) := by decide +kernel
theorem dX7_trialOf_89 : decode cX7_trialOf 89 = .ok (.if_icmp .ge 8, 3) := by decide +kernel
theorem dX7_trialOf_92 : decode cX7_trialOf 92 = .ok (.iload 5, 2) := by decide +kernel
theorem dX7_trialOf_94 : decode cX7_trialOf 94 = .ok (.goto 4, 3) := by decide +kernel
theorem dX7_trialOf_97 : decode cX7_trialOf 97 = .ok (.iload_n 3, 1) := by decide +kernel
theorem dX7_trialOf_98 : decode cX7_trialOf 98 = .ok (.istore_n 3, 1) := by decide +kernel
theorem dX7_trialOf_99 : decode cX7_trialOf 99 = .ok (.iinc 4 1, 3) := by decide +kernel
theorem dX7_trialOf_102 : decode cX7_trialOf 102 = .ok (.goto (-88), 3) := by decide +kernel
theorem dX7_trialOf_105 : decode cX7_trialOf 105 = .ok (.iload_n 2, 1) := by decide +kernel
theorem dX7_trialOf_106 : decode cX7_trialOf 106 = .ok (.ireturn, 1) := by decide +kernel
theorem dX7_trial_0 : decode cX7_trial 0 = .ok (.aload_n 0, 1) := by decide +kernel
theorem dX7_trial_1 : decode cX7_trial 1 = .ok (.invokevirtual 118, 3) := by decide +kernel
theorem dX7_trial_4 : decode cX7_trial 4 = .ok (.ifCond .eq 8, 3) := by decide +kernel
theorem dX7_trial_7 : decode cX7_trial 7 = .ok (.bipush (-103), 2) := by decide +kernel
theorem dX7_trial_9 : decode cX7_trial 9 = .ok (.goto 7, 3) := by decide +kernel
theorem dX7_trial_12 : decode cX7_trial 12 = .ok (.aload_n 0, 1) := by decide +kernel
theorem dX7_trial_13 : decode cX7_trial 13 = .ok (.invokevirtual 234, 3) := by decide +kernel
theorem dX7_trial_16 : decode cX7_trial 16 = .ok (.ireturn, 1) := by decide +kernel
theorem dX7_draw_0 : decode cX7_draw 0 = .ok (.aload_n 0, 1) := by decide +kernel
theorem dX7_draw_1 : decode cX7_draw 1 = .ok (.ldc2_w 237, 3) := by decide +kernel
theorem dX7_draw_4 : decode cX7_draw 4 = .ok (.aload_n 0, 1) := by decide +kernel
theorem dX7_draw_5 : decode cX7_draw 5 = .ok (.getfield 239, 3) := by decide +kernel
theorem dX7_draw_8 : decode cX7_draw 8 = .ok (.i2l, 1) := by decide +kernel
theorem dX7_draw_9 : decode cX7_draw 9 = .ok (.lmul, 1) := by decide +kernel
theorem dX7_draw_10 : decode cX7_draw 10 = .ok (.ldc2_w 242, 3) := by decide +kernel
theorem dX7_draw_13 : decode cX7_draw 13 = .ok (.ladd, 1) := by decide +kernel
theorem dX7_draw_14 : decode cX7_draw 14 = .ok (.ldc2_w 244, 3) := by decide +kernel
theorem dX7_draw_17 : decode cX7_draw 17 = .ok (.land, 1) := by decide +kernel
theorem dX7_draw_18 : decode cX7_draw 18 = .ok (.l2i, 1) := by decide +kernel
theorem dX7_draw_19 : decode cX7_draw 19 = .ok (.putfield 239, 3) := by decide +kernel
theorem dX7_draw_22 : decode cX7_draw 22 = .ok (.aload_n 0, 1) := by decide +kernel
theorem dX7_draw_23 : decode cX7_draw 23 = .ok (.getfield 239, 3) := by decide +kernel
theorem dX7_draw_26 : decode cX7_draw 26 = .ok (.ldc 246, 2) := by decide +kernel
theorem dX7_draw_28 : decode cX7_draw 28 = .ok (.idiv, 1) := by decide +kernel
theorem dX7_draw_29 : decode cX7_draw 29 = .ok (.iload_n 1, 1) := by decide +kernel
theorem dX7_draw_30 : decode cX7_draw 30 = .ok (.irem, 1) := by decide +kernel
theorem dX7_draw_31 : decode cX7_draw 31 = .ok (.ireturn, 1) := by decide +kernel
theorem dX7_shuffles_0 : decode cX7_shuffles 0 = .ok (.iload_n 1, 1) := by decide +kernel
theorem dX7_shuffles_1 : decode cX7_shuffles 1 = .ok (.i2l, 1) := by decide +kernel
theorem dX7_shuffles_2 : decode cX7_shuffles 2 = .ok (.lconst 1, 1) := by decide +kernel
theorem dX7_shuffles_3 : decode cX7_shuffles 3 = .ok (.ldc2_w 247, 3) := by decide +kernel
theorem dX7_shuffles_6 : decode cX7_shuffles 6 = .ok (.invokestatic 58, 3) := by decide +kernel
theorem dX7_shuffles_9 : decode cX7_shuffles 9 = .ok (.ifCond .eq 19, 3) := by decide +kernel
theorem dX7_shuffles_12 : decode cX7_shuffles 12 = .ok (.iload_n 2, 1) := by decide +kernel
theorem dX7_shuffles_13 : decode cX7_shuffles 13 = .ok (.ifCond .lt 15, 3) := by decide +kernel
theorem dX7_shuffles_16 : decode cX7_shuffles 16 = .ok (.iload_n 3, 1) := by decide +kernel
theorem dX7_shuffles_17 : decode cX7_shuffles 17 = .ok (.i2l, 1) := by decide +kernel
theorem dX7_shuffles_18 : decode cX7_shuffles 18 = .ok (.lconst 0, 1) := by decide +kernel
theorem dX7_shuffles_19 : decode cX7_shuffles 19 = .ok (.ldc2_w 249, 3) := by decide +kernel
theorem dX7_shuffles_22 : decode cX7_shuffles 22 = .ok (.invokestatic 58, 3) := by decide +kernel
theorem dX7_shuffles_25 : decode cX7_shuffles 25 = .ok (.ifCond .ne 6, 3) := by decide +kernel
theorem dX7_shuffles_28 : decode cX7_shuffles 28 = .ok (.bipush (-102), 2) := by decide +kernel
theorem dX7_shuffles_30 : decode cX7_shuffles 30 = .ok (.ireturn, 1) := by decide +kernel
theorem dX7_shuffles_31 : decode cX7_shuffles 31 = .ok (.aload_n 0, 1) := by decide +kernel
theorem dX7_shuffles_32 : decode cX7_shuffles 32 = .ok (.invokevirtual 118, 3) := by decide +kernel
theorem dX7_shuffles_35 : decode cX7_shuffles 35 = .ok (.ifCond .eq 6, 3) := by decide +kernel
theorem dX7_shuffles_38 : decode cX7_shuffles 38 = .ok (.bipush (-103), 2) := by decide +kernel
theorem dX7_shuffles_40 : decode cX7_shuffles 40 = .ok (.ireturn, 1) := by decide +kernel
theorem dX7_shuffles_41 : decode cX7_shuffles 41 = .ok (.aload_n 0, 1) := by decide +kernel
theorem dX7_shuffles_42 : decode cX7_shuffles 42 = .ok (.iload_n 2, 1) := by decide +kernel
theorem dX7_shuffles_43 : decode cX7_shuffles 43 = .ok (.putfield 239, 3) := by decide +kernel
theorem dX7_shuffles_46 : decode cX7_shuffles 46 = .ok (.aload_n 0, 1) := by decide +kernel
theorem dX7_shuffles_47 : decode cX7_shuffles 47 = .ok (.getfield 16, 3) := by decide +kernel
theorem dX7_shuffles_50 : decode cX7_shuffles 50 = .ok (.aload_n 0, 1) := by decide +kernel
theorem dX7_shuffles_51 : decode cX7_shuffles 51 = .ok (.getfield 40, 3) := by decide +kernel
theorem dX7_shuffles_54 : decode cX7_shuffles 54 = .ok (.invokestatic 149, 3) := by decide +kernel
theorem dX7_shuffles_57 : decode cX7_shuffles 57 = .ok (.iconst 0, 1) := by decide +kernel
theorem dX7_shuffles_58 : decode cX7_shuffles 58 = .ok (.istore 4, 2) := by decide +kernel
theorem dX7_shuffles_60 : decode cX7_shuffles 60 = .ok (.iconst 0, 1) := by decide +kernel
theorem dX7_shuffles_61 : decode cX7_shuffles 61 = .ok (.istore 5, 2) := by decide +kernel
theorem dX7_shuffles_63 : decode cX7_shuffles 63 = .ok (.iload 5, 2) := by decide +kernel
theorem dX7_shuffles_65 : decode cX7_shuffles 65 = .ok (.iload_n 1, 1) := by decide +kernel
theorem dX7_shuffles_66 : decode cX7_shuffles 66 = .ok (.if_icmp .ge 59, 3) := by decide +kernel
theorem dX7_shuffles_69 : decode cX7_shuffles 69 = .ok (.aload_n 0, 1) := by decide +kernel
theorem dX7_shuffles_70 : decode cX7_shuffles 70 = .ok (.aload_n 0, 1) := by decide +kernel
theorem dX7_shuffles_71 : decode cX7_shuffles 71 = .ok (.getfield 73, 3) := by decide +kernel
theorem dX7_shuffles_74 : decode cX7_shuffles 74 = .ok (.invokevirtual 251, 3) := by decide +kernel
theorem dX7_shuffles_77 : decode cX7_shuffles 77 = .ok (.istore 6, 2) := by decide +kernel
theorem dX7_shuffles_79 : decode cX7_shuffles 79 = .ok (.aload_n 0, 1) := by decide +kernel
theorem dX7_shuffles_80 : decode cX7_shuffles 80 = .ok (.aload_n 0, 1) := by decide +kernel
theorem dX7_shuffles_81 : decode cX7_shuffles 81 = .ok (.getfield 73, 3) := by decide +kernel
theorem dX7_shuffles_84 : decode cX7_shuffles 84 = .ok (.invokevirtual 251, 3) := by decide +kernel
theorem dX7_shuffles_87 : decode cX7_shuffles 87 = .ok (.istore 7, 2) := by decide +kernel
theorem dX7_shuffles_89 : decode cX7_shuffles 89 = .ok (.aload_n 0, 1) := by decide +kernel
theorem dX7_shuffles_90 : decode cX7_shuffles 90 = .ok (.aload_n 0, 1) := by decide +kernel
theorem dX7_shuffles_91 : decode cX7_shuffles 91 = .ok (.getfield 40, 3) := by decide +kernel
theorem dX7_shuffles_94 : decode cX7_shuffles 94 = .ok (.iload 6, 2) := by decide +kernel
theorem dX7_shuffles_96 : decode cX7_shuffles 96 = .ok (.iload 7, 2) := by decide +kernel
theorem dX7_shuffles_98 : decode cX7_shuffles 98 = .ok (.invokevirtual 163, 3) := by decide +kernel
theorem dX7_shuffles_101 : decode cX7_shuffles 101 = .ok (.iconst (-1), 1) := by decide +kernel
theorem dX7_shuffles_102 : decode cX7_shuffles 102 = .ok (.if_icmp .eq 17, 3) := by decide +kernel
theorem dX7_shuffles_105 : decode cX7_shuffles 105 = .ok (.aload_n 0, 1) := by decide +kernel
theorem dX7_shuffles_106 : decode cX7_shuffles 106 = .ok (.getfield 40, 3) := by decide +kernel
theorem dX7_shuffles_109 : decode cX7_shuffles 109 = .ok (.iload 6, 2) := by decide +kernel
theorem dX7_shuffles_111 : decode cX7_shuffles 111 = .ok (.iload 7, 2) := by decide +kernel
theorem dX7_shuffles_113 : decode cX7_shuffles 113 = .ok (.invokestatic 153, 3) := by decide +kernel
theorem dX7_shuffles_116 : decode cX7_shuffles 116 = .ok (.iinc 4 1, 3) := by decide +kernel
theorem dX7_shuffles_119 : decode cX7_shuffles 119 = .ok (.iinc 5 1, 3) := by decide +kernel
theorem dX7_shuffles_122 : decode cX7_shuffles 122 = .ok (.goto (-59), 3) := by decide +kernel
theorem dX7_shuffles_125 : decode cX7_shuffles 125 = .ok (.iload_n 3, 1) := by decide +kernel
theorem dX7_shuffles_126 : decode cX7_shuffles 126 = .ok (.ifCond .ne 8, 3) := by decide +kernel
theorem dX7_shuffles_129 : decode cX7_shuffles 129 = .ok (.iload 4, 2) := by decide +kernel
theorem dX7_shuffles_131 : decode cX7_shuffles 131 = .ok (.goto 30, 3) := by decide +kernel
theorem dX7_shuffles_134 : decode cX7_shuffles 134 = .ok (.iload_n 3, 1) := by decide +kernel
theorem dX7_shuffles_135 : decode cX7_shuffles 135 = .ok (.iconst 1, 1) := by decide +kernel
theorem dX7_shuffles_136 : decode cX7_shuffles 136 = .ok (.if_icmp .ne 21, 3) := by decide +kernel
theorem dX7_shuffles_139 : decode cX7_shuffles 139 = .ok (.aload_n 0, 1) := by decide +kernel
theorem dX7_shuffles_140 : decode cX7_shuffles 140 = .ok (.aload_n 0, 1) := by decide +kernel
theorem dX7_shuffles_141 : decode cX7_shuffles 141 = .ok (.getfield 40, 3) := by decide +kernel
theorem dX7_shuffles_144 : decode cX7_shuffles 144 = .ok (.aload_n 0, 1) := by decide +kernel
theorem dX7_shuffles_145 : decode cX7_shuffles 145 = .ok (.getfield 73, 3) := by decide +kernel
theorem dX7_shuffles_148 : decode cX7_shuffles 148 = .ok (.invokestatic 107, 3) := by decide +kernel
theorem dX7_shuffles_151 : decode cX7_shuffles 151 = .ok (.invokevirtual 115, 3) := by decide +kernel
theorem dX7_shuffles_154 : decode cX7_shuffles 154 = .ok (.goto 7, 3) := by decide +kernel
theorem dX7_shuffles_157 : decode cX7_shuffles 157 = .ok (.aload_n 0, 1) := by decide +kernel
theorem dX7_shuffles_158 : decode cX7_shuffles 158 = .ok (.getfield 239, 3) := by decide +kernel
theorem dX7_shuffles_161 : decode cX7_shuffles 161 = .ok (.ireturn, 1) := by decide +kernel
theorem dX7_image_0 : decode cX7_image 0 = .ok (.aload_n 0, 1) := by decide +kernel
theorem dX7_image_1 : decode cX7_image 1 = .ok (.invokevirtual 118, 3) := by decide +kernel
theorem dX7_image_4 : decode cX7_image 4 = .ok (.ifCond .eq 6, 3) := by decide +kernel
theorem dX7_image_7 : decode cX7_image 7 = .ok (.bipush (-103), 2) := by decide +kernel
theorem dX7_image_9 : decode cX7_image 9 = .ok (.ireturn, 1) := by decide +kernel
theorem dX7_image_10 : decode cX7_image 10 = .ok (.aload_n 0, 1) := by decide +kernel
theorem dX7_image_11 : decode cX7_image 11 = .ok (.getfield 13, 3) := by decide +kernel
theorem dX7_image_14 : decode cX7_image 14 = .ok (.aload_n 0, 1) := by decide +kernel
theorem dX7_image_15 : decode cX7_image 15 = .ok (.getfield 43, 3) := by decide +kernel
theorem dX7_image_18 : decode cX7_image 18 = .ok (.invokestatic 149, 3) := by decide +kernel
theorem dX7_image_21 : decode cX7_image 21 = .ok (.aload_n 0, 1) := by decide +kernel
theorem dX7_image_22 : decode cX7_image 22 = .ok (.getfield 16, 3) := by decide +kernel
theorem dX7_image_25 : decode cX7_image 25 = .ok (.aload_n 0, 1) := by decide +kernel
theorem dX7_image_26 : decode cX7_image 26 = .ok (.getfield 46, 3) := by decide +kernel
theorem dX7_image_29 : decode cX7_image 29 = .ok (.invokestatic 149, 3) := by decide +kernel
theorem dX7_image_32 : decode cX7_image 32 = .ok (.aload_n 0, 1) := by decide +kernel
theorem dX7_image_33 : decode cX7_image 33 = .ok (.getfield 37, 3) := by decide +kernel
theorem dX7_image_36 : decode cX7_image 36 = .ok (.aload_n 0, 1) := by decide +kernel
theorem dX7_image_37 : decode cX7_image 37 = .ok (.getfield 49, 3) := by decide +kernel
theorem dX7_image_40 : decode cX7_image 40 = .ok (.invokestatic 149, 3) := by decide +kernel
theorem dX7_image_43 : decode cX7_image 43 = .ok (.aload_n 0, 1) := by decide +kernel
theorem dX7_image_44 : decode cX7_image 44 = .ok (.aload_n 0, 1) := by decide +kernel
theorem dX7_image_45 : decode cX7_image 45 = .ok (.getfield 79, 3) := by decide +kernel
theorem dX7_image_48 : decode cX7_image 48 = .ok (.putfield 254, 3) := by decide +kernel
theorem dX7_image_51 : decode cX7_image 51 = .ok (.aload_n 0, 1) := by decide +kernel
theorem dX7_image_52 : decode cX7_image 52 = .ok (.aload_n 0, 1) := by decide +kernel
theorem dX7_image_53 : decode cX7_image 53 = .ok (.getfield 82, 3) := by decide +kernel
theorem dX7_image_56 : decode cX7_image 56 = .ok (.putfield 257, 3) := by decide +kernel
theorem dX7_image_59 : decode cX7_image 59 = .ok (.aload_n 0, 1) := by decide +kernel
theorem dX7_image_60 : decode cX7_image 60 = .ok (.aload_n 0, 1) := by decide +kernel
theorem dX7_image_61 : decode cX7_image 61 = .ok (.getfield 85, 3) := by decide +kernel
theorem dX7_image_64 : decode cX7_image 64 = .ok (.putfield 52, 3) := by decide +kernel
theorem dX7_image_67 : decode cX7_image 67 = .ok (.aload_n 0, 1) := by decide +kernel
theorem dX7_image_68 : decode cX7_image 68 = .ok (.getfield 79, 3) := by decide +kernel
theorem dX7_image_71 : decode cX7_image 71 = .ok (.ireturn, 1) := by decide +kernel
theorem dX7_restore_0 : decode cX7_restore 0 = .ok (.aload_n 0, 1) := by decide +kernel
theorem dX7_restore_1 : decode cX7_restore 1 = .ok (.getfield 52, 3) := by decide +kernel
theorem dX7_restore_4 : decode cX7_restore 4 = .ok (.aload_n 0, 1) := by decide +kernel
theorem dX7_restore_5 : decode cX7_restore 5 = .ok (.getfield 85, 3) := by decide +kernel
theorem dX7_restore_8 : decode cX7_restore 8 = .ok (.if_icmp .eq 6, 3) := by decide +kernel
theorem dX7_restore_11 : decode cX7_restore 11 = .ok (.bipush (-103), 2) := by decide +kernel
theorem dX7_restore_13 : decode cX7_restore 13 = .ok (.ireturn, 1) := by decide +kernel
theorem dX7_restore_14 : decode cX7_restore 14 = .ok (.aload_n 0, 1) := by decide +kernel
theorem dX7_restore_15 : decode cX7_restore 15 = .ok (.getfield 43, 3) := by decide +kernel
theorem dX7_restore_18 : decode cX7_restore 18 = .ok (.aload_n 0, 1) := by decide +kernel
theorem dX7_restore_19 : decode cX7_restore 19 = .ok (.getfield 13, 3) := by decide +kernel
theorem dX7_restore_22 : decode cX7_restore 22 = .ok (.invokestatic 149, 3) := by decide +kernel
theorem dX7_restore_25 : decode cX7_restore 25 = .ok (.aload_n 0, 1) := by decide +kernel
theorem dX7_restore_26 : decode cX7_restore 26 = .ok (.getfield 46, 3) := by decide +kernel
theorem dX7_restore_29 : decode cX7_restore 29 = .ok (.aload_n 0, 1) := by decide +kernel
theorem dX7_restore_30 : decode cX7_restore 30 = .ok (.getfield 16, 3) := by decide +kernel
theorem dX7_restore_33 : decode cX7_restore 33 = .ok (.invokestatic 149, 3) := by decide +kernel
theorem dX7_restore_36 : decode cX7_restore 36 = .ok (.aload_n 0, 1) := by decide +kernel
theorem dX7_restore_37 : decode cX7_restore 37 = .ok (.getfield 49, 3) := by decide +kernel
theorem dX7_restore_40 : decode cX7_restore 40 = .ok (.aload_n 0, 1) := by decide +kernel
theorem dX7_restore_41 : decode cX7_restore 41 = .ok (.getfield 37, 3) := by decide +kernel
theorem dX7_restore_44 : decode cX7_restore 44 = .ok (.invokestatic 149, 3) := by decide +kernel
theorem dX7_restore_47 : decode cX7_restore 47 = .ok (.aload_n 0, 1) := by decide +kernel
theorem dX7_restore_48 : decode cX7_restore 48 = .ok (.aload_n 0, 1) := by decide +kernel
theorem dX7_restore_49 : decode cX7_restore 49 = .ok (.getfield 254, 3) := by decide +kernel
theorem dX7_restore_52 : decode cX7_restore 52 = .ok (.putfield 79, 3) := by decide +kernel
theorem dX7_restore_55 : decode cX7_restore 55 = .ok (.aload_n 0, 1) := by decide +kernel
theorem dX7_restore_56 : decode cX7_restore 56 = .ok (.aload_n 0, 1) := by decide +kernel
theorem dX7_restore_57 : decode cX7_restore 57 = .ok (.getfield 257, 3) := by decide +kernel
theorem dX7_restore_60 : decode cX7_restore 60 = .ok (.putfield 82, 3) := by decide +kernel
theorem dX7_restore_63 : decode cX7_restore 63 = .ok (.aload_n 0, 1) := by decide +kernel
theorem dX7_restore_64 : decode cX7_restore 64 = .ok (.getfield 79, 3) := by decide +kernel
theorem dX7_restore_67 : decode cX7_restore 67 = .ok (.ireturn, 1) := by decide +kernel
theorem dX7_thickAll_0 : decode cX7_thickAll 0 = .ok (.iconst 0, 1) := by decide +kernel
theorem dX7_thickAll_1 : decode cX7_thickAll 1 = .ok (.istore_n 1, 1) := by decide +kernel
theorem dX7_thickAll_2 : decode cX7_thickAll 2 = .ok (.iconst 0, 1) := by decide +kernel
theorem dX7_thickAll_3 : decode cX7_thickAll 3 = .ok (.istore_n 2, 1) := by decide +kernel
theorem dX7_thickAll_4 : decode cX7_thickAll 4 = .ok (.iload_n 2, 1) := by decide +kernel
theorem dX7_thickAll_5 : decode cX7_thickAll 5 = .ok (.aload_n 0, 1) := by decide +kernel
theorem dX7_thickAll_6 : decode cX7_thickAll 6 = .ok (.getfield 73, 3) := by decide +kernel
theorem dX7_thickAll_9 : decode cX7_thickAll 9 = .ok (.if_icmp .ge 17, 3) := by decide +kernel
theorem dX7_thickAll_12 : decode cX7_thickAll 12 = .ok (.iload_n 1, 1) := by decide +kernel
theorem dX7_thickAll_13 : decode cX7_thickAll 13 = .ok (.aload_n 0, 1) := by decide +kernel
theorem dX7_thickAll_14 : decode cX7_thickAll 14 = .ok (.iload_n 2, 1) := by decide +kernel
theorem dX7_thickAll_15 : decode cX7_thickAll 15 = .ok (.invokevirtual 140, 3) := by decide +kernel
theorem dX7_thickAll_18 : decode cX7_thickAll 18 = .ok (.iadd, 1) := by decide +kernel
theorem dX7_thickAll_19 : decode cX7_thickAll 19 = .ok (.istore_n 1, 1) := by decide +kernel
theorem dX7_thickAll_20 : decode cX7_thickAll 20 = .ok (.iinc 2 1, 3) := by decide +kernel
theorem dX7_thickAll_23 : decode cX7_thickAll 23 = .ok (.goto (-19), 3) := by decide +kernel
theorem dX7_thickAll_26 : decode cX7_thickAll 26 = .ok (.iload_n 1, 1) := by decide +kernel
theorem dX7_thickAll_27 : decode cX7_thickAll 27 = .ok (.ireturn, 1) := by decide +kernel
theorem dX7_movesNow_0 : decode cX7_movesNow 0 = .ok (.iconst 0, 1) := by decide +kernel
theorem dX7_movesNow_1 : decode cX7_movesNow 1 = .ok (.istore_n 1, 1) := by decide +kernel
theorem dX7_movesNow_2 : decode cX7_movesNow 2 = .ok (.iconst 0, 1) := by decide +kernel
theorem dX7_movesNow_3 : decode cX7_movesNow 3 = .ok (.istore_n 2, 1) := by decide +kernel
theorem dX7_movesNow_4 : decode cX7_movesNow 4 = .ok (.iload_n 2, 1) := by decide +kernel
theorem dX7_movesNow_5 : decode cX7_movesNow 5 = .ok (.aload_n 0, 1) := by decide +kernel
theorem dX7_movesNow_6 : decode cX7_movesNow 6 = .ok (.getfield 73, 3) := by decide +kernel
theorem dX7_movesNow_9 : decode cX7_movesNow 9 = .ok (.aload_n 0, 1) := by decide +kernel
theorem dX7_movesNow_10 : decode cX7_movesNow 10 = .ok (.getfield 73, 3) := by decide +kernel
theorem dX7_movesNow_13 : decode cX7_movesNow 13 = .ok (.imul, 1) := by decide +kernel
theorem dX7_movesNow_14 : decode cX7_movesNow 14 = .ok (.if_icmp .ge 41, 3) := by decide +kernel
theorem dX7_movesNow_17 : decode cX7_movesNow 17 = .ok (.iload_n 1, 1) := by decide +kernel
theorem dX7_movesNow_18 : decode cX7_movesNow 18 = .ok (.aload_n 0, 1) := by decide +kernel
theorem dX7_movesNow_19 : decode cX7_movesNow 19 = .ok (.aload_n 0, 1) := by decide +kernel
theorem dX7_movesNow_20 : decode cX7_movesNow 20 = .ok (.getfield 16, 3) := by decide +kernel
theorem dX7_movesNow_23 : decode cX7_movesNow 23 = .ok (.iload_n 2, 1) := by decide +kernel
theorem dX7_movesNow_24 : decode cX7_movesNow 24 = .ok (.aload_n 0, 1) := by decide +kernel
theorem dX7_movesNow_25 : decode cX7_movesNow 25 = .ok (.getfield 73, 3) := by decide +kernel
theorem dX7_movesNow_28 : decode cX7_movesNow 28 = .ok (.idiv, 1) := by decide +kernel
theorem dX7_movesNow_29 : decode cX7_movesNow 29 = .ok (.iload_n 2, 1) := by decide +kernel
theorem dX7_movesNow_30 : decode cX7_movesNow 30 = .ok (.aload_n 0, 1) := by decide +kernel
theorem dX7_movesNow_31 : decode cX7_movesNow 31 = .ok (.getfield 73, 3) := by decide +kernel
theorem dX7_movesNow_34 : decode cX7_movesNow 34 = .ok (.irem, 1) := by decide +kernel
theorem dX7_movesNow_35 : decode cX7_movesNow 35 = .ok (.invokevirtual 163, 3) := by decide +kernel
theorem dX7_movesNow_38 : decode cX7_movesNow 38 = .ok (.iconst (-1), 1) := by decide +kernel
theorem dX7_movesNow_39 : decode cX7_movesNow 39 = .ok (.if_icmp .ne 7, 3) := by decide +kernel
theorem dX7_movesNow_42 : decode cX7_movesNow 42 = .ok (.iconst 0, 1) := by decide +kernel
theorem dX7_movesNow_43 : decode cX7_movesNow 43 = .ok (.goto 4, 3) := by decide +kernel
theorem dX7_movesNow_46 : decode cX7_movesNow 46 = .ok (.iconst 1, 1) := by decide +kernel
theorem dX7_movesNow_47 : decode cX7_movesNow 47 = .ok (.iadd, 1) := by decide +kernel
theorem dX7_movesNow_48 : decode cX7_movesNow 48 = .ok (.istore_n 1, 1) := by decide +kernel
theorem dX7_movesNow_49 : decode cX7_movesNow 49 = .ok (.iinc 2 1, 3) := by decide +kernel
theorem dX7_movesNow_52 : decode cX7_movesNow 52 = .ok (.goto (-48), 3) := by decide +kernel
theorem dX7_movesNow_55 : decode cX7_movesNow 55 = .ok (.iload_n 1, 1) := by decide +kernel
theorem dX7_movesNow_56 : decode cX7_movesNow 56 = .ok (.ireturn, 1) := by decide +kernel
theorem dX7_countOf_0 : decode cX7_countOf 0 = .ok (.iload_n 1, 1) := by decide +kernel
theorem dX7_countOf_1 : decode cX7_countOf 1 = .ok (.tableswitch 117 0 9 #[55, 60, 65, 74, 83, 92, 97, 102, 107, 112], 55) := by decide +kernel
theorem dX7_countOf_56 : decode cX7_countOf 56 = .ok (.aload_n 0, 1) := by decide +kernel
theorem dX7_countOf_57 : decode cX7_countOf 57 = .ok (.getfield 73, 3) := by decide +kernel
theorem dX7_countOf_60 : decode cX7_countOf 60 = .ok (.ireturn, 1) := by decide +kernel
theorem dX7_countOf_61 : decode cX7_countOf 61 = .ok (.aload_n 0, 1) := by decide +kernel
theorem dX7_countOf_62 : decode cX7_countOf 62 = .ok (.invokevirtual 260, 3) := by decide +kernel
theorem dX7_countOf_65 : decode cX7_countOf 65 = .ok (.ireturn, 1) := by decide +kernel
theorem dX7_countOf_66 : decode cX7_countOf 66 = .ok (.aload_n 0, 1) := by decide +kernel
theorem dX7_countOf_67 : decode cX7_countOf 67 = .ok (.aload_n 0, 1) := by decide +kernel
theorem dX7_countOf_68 : decode cX7_countOf 68 = .ok (.getfield 16, 3) := by decide +kernel
theorem dX7_countOf_71 : decode cX7_countOf 71 = .ok (.invokevirtual 187, 3) := by decide +kernel
theorem dX7_countOf_74 : decode cX7_countOf 74 = .ok (.ireturn, 1) := by decide +kernel
theorem dX7_countOf_75 : decode cX7_countOf 75 = .ok (.aload_n 0, 1) := by decide +kernel
theorem dX7_countOf_76 : decode cX7_countOf 76 = .ok (.aload_n 0, 1) := by decide +kernel
theorem dX7_countOf_77 : decode cX7_countOf 77 = .ok (.getfield 16, 3) := by decide +kernel
theorem dX7_countOf_80 : decode cX7_countOf 80 = .ok (.invokevirtual 222, 3) := by decide +kernel
theorem dX7_countOf_83 : decode cX7_countOf 83 = .ok (.ireturn, 1) := by decide +kernel
theorem dX7_countOf_84 : decode cX7_countOf 84 = .ok (.aload_n 0, 1) := by decide +kernel
theorem dX7_countOf_85 : decode cX7_countOf 85 = .ok (.aload_n 0, 1) := by decide +kernel
theorem dX7_countOf_86 : decode cX7_countOf 86 = .ok (.getfield 16, 3) := by decide +kernel
theorem dX7_countOf_89 : decode cX7_countOf 89 = .ok (.invokevirtual 129, 3) := by decide +kernel
theorem dX7_countOf_92 : decode cX7_countOf 92 = .ok (.ireturn, 1) := by decide +kernel
theorem dX7_countOf_93 : decode cX7_countOf 93 = .ok (.aload_n 0, 1) := by decide +kernel
theorem dX7_countOf_94 : decode cX7_countOf 94 = .ok (.invokevirtual 263, 3) := by decide +kernel
theorem dX7_countOf_97 : decode cX7_countOf 97 = .ok (.ireturn, 1) := by decide +kernel
theorem dX7_countOf_98 : decode cX7_countOf 98 = .ok (.aload_n 0, 1) := by decide +kernel
theorem dX7_countOf_99 : decode cX7_countOf 99 = .ok (.getfield 79, 3) := by decide +kernel
theorem dX7_countOf_102 : decode cX7_countOf 102 = .ok (.ireturn, 1) := by decide +kernel
theorem dX7_countOf_103 : decode cX7_countOf 103 = .ok (.aload_n 0, 1) := by decide +kernel
theorem dX7_countOf_104 : decode cX7_countOf 104 = .ok (.getfield 82, 3) := by decide +kernel
theorem dX7_countOf_107 : decode cX7_countOf 107 = .ok (.ireturn, 1) := by decide +kernel
theorem dX7_countOf_108 : decode cX7_countOf 108 = .ok (.aload_n 0, 1) := by decide +kernel
theorem dX7_countOf_109 : decode cX7_countOf 109 = .ok (.getfield 62, 3) := by decide +kernel
theorem dX7_countOf_112 : decode cX7_countOf 112 = .ok (.ireturn, 1) := by decide +kernel
theorem dX7_countOf_113 : decode cX7_countOf 113 = .ok (.aload_n 0, 1) := by decide +kernel
theorem dX7_countOf_114 : decode cX7_countOf 114 = .ok (.getfield 85, 3) := by decide +kernel
theorem dX7_countOf_117 : decode cX7_countOf 117 = .ok (.ireturn, 1) := by decide +kernel
theorem dX7_countOf_118 : decode cX7_countOf 118 = .ok (.bipush (-102), 2) := by decide +kernel
theorem dX7_countOf_120 : decode cX7_countOf 120 = .ok (.ireturn, 1) := by decide +kernel
theorem dX7_count_0 : decode cX7_count 0 = .ok (.aload_n 0, 1) := by decide +kernel
theorem dX7_count_1 : decode cX7_count 1 = .ok (.iload_n 1, 1) := by decide +kernel
theorem dX7_count_2 : decode cX7_count 2 = .ok (.invokevirtual 266, 3) := by decide +kernel
theorem dX7_count_5 : decode cX7_count 5 = .ok (.ireturn, 1) := by decide +kernel
theorem dX7_say_0 : decode cX7_say 0 = .ok (.aload_n 0, 1) := by decide +kernel
theorem dX7_say_1 : decode cX7_say 1 = .ok (.ldc2_w 269, 3) := by decide +kernel
theorem dX7_say_4 : decode cX7_say 4 = .ok (.aload_n 0, 1) := by decide +kernel
theorem dX7_say_5 : decode cX7_say 5 = .ok (.getfield 271, 3) := by decide +kernel
theorem dX7_say_8 : decode cX7_say 8 = .ok (.lmul, 1) := by decide +kernel
theorem dX7_say_9 : decode cX7_say 9 = .ok (.lload_n 1, 1) := by decide +kernel
theorem dX7_say_10 : decode cX7_say 10 = .ok (.ladd, 1) := by decide +kernel
theorem dX7_say_11 : decode cX7_say 11 = .ok (.putfield 271, 3) := by decide +kernel
theorem dX7_say_14 : decode cX7_say 14 = .ok (.return_, 1) := by decide +kernel
theorem dX7_sayStrip_0 : decode cX7_sayStrip 0 = .ok (.iconst 0, 1) := by decide +kernel
theorem dX7_sayStrip_1 : decode cX7_sayStrip 1 = .ok (.istore_n 1, 1) := by decide +kernel
theorem dX7_sayStrip_2 : decode cX7_sayStrip 2 = .ok (.iload_n 1, 1) := by decide +kernel
theorem dX7_sayStrip_3 : decode cX7_sayStrip 3 = .ok (.iconst 4, 1) := by decide +kernel
theorem dX7_sayStrip_4 : decode cX7_sayStrip 4 = .ok (.if_icmp .ge 19, 3) := by decide +kernel
theorem dX7_sayStrip_7 : decode cX7_sayStrip 7 = .ok (.aload_n 0, 1) := by decide +kernel
theorem dX7_sayStrip_8 : decode cX7_sayStrip 8 = .ok (.aload_n 0, 1) := by decide +kernel
theorem dX7_sayStrip_9 : decode cX7_sayStrip 9 = .ok (.iload_n 1, 1) := by decide +kernel
theorem dX7_sayStrip_10 : decode cX7_sayStrip 10 = .ok (.invokevirtual 209, 3) := by decide +kernel
theorem dX7_sayStrip_13 : decode cX7_sayStrip 13 = .ok (.i2l, 1) := by decide +kernel
theorem dX7_sayStrip_14 : decode cX7_sayStrip 14 = .ok (.invokevirtual 275, 3) := by decide +kernel
theorem dX7_sayStrip_17 : decode cX7_sayStrip 17 = .ok (.iinc 1 1, 3) := by decide +kernel
theorem dX7_sayStrip_20 : decode cX7_sayStrip 20 = .ok (.goto (-18), 3) := by decide +kernel
theorem dX7_sayStrip_23 : decode cX7_sayStrip 23 = .ok (.aload_n 0, 1) := by decide +kernel
theorem dX7_sayStrip_24 : decode cX7_sayStrip 24 = .ok (.aload_n 0, 1) := by decide +kernel
theorem dX7_sayStrip_25 : decode cX7_sayStrip 25 = .ok (.iconst 0, 1) := by decide +kernel
theorem dX7_sayStrip_26 : decode cX7_sayStrip 26 = .ok (.invokevirtual 190, 3) := by decide +kernel
theorem dX7_sayStrip_29 : decode cX7_sayStrip 29 = .ok (.i2l, 1) := by decide +kernel
theorem dX7_sayStrip_30 : decode cX7_sayStrip 30 = .ok (.invokevirtual 275, 3) := by decide +kernel
theorem dX7_sayStrip_33 : decode cX7_sayStrip 33 = .ok (.aload_n 0, 1) := by decide +kernel
theorem dX7_sayStrip_34 : decode cX7_sayStrip 34 = .ok (.aload_n 0, 1) := by decide +kernel
theorem dX7_sayStrip_35 : decode cX7_sayStrip 35 = .ok (.iconst 1, 1) := by decide +kernel
theorem dX7_sayStrip_36 : decode cX7_sayStrip 36 = .ok (.invokevirtual 190, 3) := by decide +kernel
theorem dX7_sayStrip_39 : decode cX7_sayStrip 39 = .ok (.i2l, 1) := by decide +kernel
theorem dX7_sayStrip_40 : decode cX7_sayStrip 40 = .ok (.invokevirtual 275, 3) := by decide +kernel
theorem dX7_sayStrip_43 : decode cX7_sayStrip 43 = .ok (.aload_n 0, 1) := by decide +kernel
theorem dX7_sayStrip_44 : decode cX7_sayStrip 44 = .ok (.aload_n 0, 1) := by decide +kernel
theorem dX7_sayStrip_45 : decode cX7_sayStrip 45 = .ok (.iconst 0, 1) := by decide +kernel
theorem dX7_sayStrip_46 : decode cX7_sayStrip 46 = .ok (.iconst 1, 1) := by decide +kernel
theorem dX7_sayStrip_47 : decode cX7_sayStrip 47 = .ok (.iconst 0, 1) := by decide +kernel
theorem dX7_sayStrip_48 : decode cX7_sayStrip 48 = .ok (.invokevirtual 196, 3) := by decide +kernel
theorem dX7_sayStrip_51 : decode cX7_sayStrip 51 = .ok (.i2l, 1) := by decide +kernel
theorem dX7_sayStrip_52 : decode cX7_sayStrip 52 = .ok (.invokevirtual 275, 3) := by decide +kernel
theorem dX7_sayStrip_55 : decode cX7_sayStrip 55 = .ok (.aload_n 0, 1) := by decide +kernel
theorem dX7_sayStrip_56 : decode cX7_sayStrip 56 = .ok (.aload_n 0, 1) := by decide +kernel
theorem dX7_sayStrip_57 : decode cX7_sayStrip 57 = .ok (.iconst 0, 1) := by decide +kernel
theorem dX7_sayStrip_58 : decode cX7_sayStrip 58 = .ok (.iconst 1, 1) := by decide +kernel
theorem dX7_sayStrip_59 : decode cX7_sayStrip 59 = .ok (.iconst 1, 1) := by decide +kernel
theorem dX7_sayStrip_60 : decode cX7_sayStrip 60 = .ok (.invokevirtual 196, 3) := by decide +kernel
theorem dX7_sayStrip_63 : decode cX7_sayStrip 63 = .ok (.i2l, 1) := by decide +kernel
theorem dX7_sayStrip_64 : decode cX7_sayStrip 64 = .ok (.invokevirtual 275, 3) := by decide +kernel
theorem dX7_sayStrip_67 : decode cX7_sayStrip 67 = .ok (.aload_n 0, 1) := by decide +kernel
theorem dX7_sayStrip_68 : decode cX7_sayStrip 68 = .ok (.aload_n 0, 1) := by decide +kernel
theorem dX7_sayStrip_69 : decode cX7_sayStrip 69 = .ok (.invokevirtual 228, 3) := by decide +kernel
theorem dX7_sayStrip_72 : decode cX7_sayStrip 72 = .ok (.i2l, 1) := by decide +kernel
theorem dX7_sayStrip_73 : decode cX7_sayStrip 73 = .ok (.invokevirtual 275, 3) := by decide +kernel
theorem dX7_sayStrip_76 : decode cX7_sayStrip 76 = .ok (.return_, 1) := by decide +kernel
theorem dX7_digest_0 : decode cX7_digest 0 = .ok (.aload_n 0, 1) := by decide +kernel
theorem dX7_digest_1 : decode cX7_digest 1 = .ok (.ldc2_w 279, 3) := by decide +kernel
theorem dX7_digest_4 : decode cX7_digest 4 = .ok (.putfield 271, 3) := by decide +kernel
theorem dX7_digest_7 : decode cX7_digest 7 = .ok (.iconst 0, 1) := by decide +kernel
theorem dX7_digest_8 : decode cX7_digest 8 = .ok (.istore_n 1, 1) := by decide +kernel
theorem dX7_digest_9 : decode cX7_digest 9 = .ok (.iload_n 1, 1) := by decide +kernel
theorem dX7_digest_10 : decode cX7_digest 10 = .ok (.aload_n 0, 1) := by decide +kernel
theorem dX7_digest_11 : decode cX7_digest 11 = .ok (.getfield 73, 3) := by decide +kernel
theorem dX7_digest_14 : decode cX7_digest 14 = .ok (.if_icmp .ge 55, 3) := by decide +kernel
theorem dX7_digest_17 : decode cX7_digest 17 = .ok (.iconst 0, 1) := by decide +kernel
theorem dX7_digest_18 : decode cX7_digest 18 = .ok (.istore_n 2, 1) := by decide +kernel
theorem dX7_digest_19 : decode cX7_digest 19 = .ok (.iload_n 2, 1) := by decide +kernel
theorem dX7_digest_20 : decode cX7_digest 20 = .ok (.iconst 4, 1) := by decide +kernel
theorem dX7_digest_21 : decode cX7_digest 21 = .ok (.if_icmp .ge 20, 3) := by decide +kernel
theorem dX7_digest_24 : decode cX7_digest 24 = .ok (.aload_n 0, 1) := by decide +kernel
theorem dX7_digest_25 : decode cX7_digest 25 = .ok (.aload_n 0, 1) := by decide +kernel
theorem dX7_digest_26 : decode cX7_digest 26 = .ok (.iload_n 1, 1) := by decide +kernel
theorem dX7_digest_27 : decode cX7_digest 27 = .ok (.iload_n 2, 1) := by decide +kernel
theorem dX7_digest_28 : decode cX7_digest 28 = .ok (.invokevirtual 200, 3) := by decide +kernel
theorem dX7_digest_31 : decode cX7_digest 31 = .ok (.i2l, 1) := by decide +kernel
theorem dX7_digest_32 : decode cX7_digest 32 = .ok (.invokevirtual 275, 3) := by decide +kernel
theorem dX7_digest_35 : decode cX7_digest 35 = .ok (.iinc 2 1, 3) := by decide +kernel
theorem dX7_digest_38 : decode cX7_digest 38 = .ok (.goto (-19), 3) := by decide +kernel
theorem dX7_digest_41 : decode cX7_digest 41 = .ok (.aload_n 0, 1) := by decide +kernel
theorem dX7_digest_42 : decode cX7_digest 42 = .ok (.aload_n 0, 1) := by decide +kernel
theorem dX7_digest_43 : decode cX7_digest 43 = .ok (.iload_n 1, 1) := by decide +kernel
theorem dX7_digest_44 : decode cX7_digest 44 = .ok (.iconst 0, 1) := by decide +kernel
theorem dX7_digest_45 : decode cX7_digest 45 = .ok (.invokevirtual 219, 3) := by decide +kernel
theorem dX7_digest_48 : decode cX7_digest 48 = .ok (.i2l, 1) := by decide +kernel
theorem dX7_digest_49 : decode cX7_digest 49 = .ok (.invokevirtual 275, 3) := by decide +kernel
theorem dX7_digest_52 : decode cX7_digest 52 = .ok (.aload_n 0, 1) := by decide +kernel
theorem dX7_digest_53 : decode cX7_digest 53 = .ok (.aload_n 0, 1) := by decide +kernel
theorem dX7_digest_54 : decode cX7_digest 54 = .ok (.iload_n 1, 1) := by decide +kernel
theorem dX7_digest_55 : decode cX7_digest 55 = .ok (.iconst 1, 1) := by decide +kernel
theorem dX7_digest_56 : decode cX7_digest 56 = .ok (.invokevirtual 219, 3) := by decide +kernel
theorem dX7_digest_59 : decode cX7_digest 59 = .ok (.i2l, 1) := by decide +kernel
theorem dX7_digest_60 : decode cX7_digest 60 = .ok (.invokevirtual 275, 3) := by decide +kernel
theorem dX7_digest_63 : decode cX7_digest 63 = .ok (.iinc 1 1, 3) := by decide +kernel
theorem dX7_digest_66 : decode cX7_digest 66 = .ok (.goto (-57), 3) := by decide +kernel
theorem dX7_digest_69 : decode cX7_digest 69 = .ok (.iconst 0, 1) := by decide +kernel
theorem dX7_digest_70 : decode cX7_digest 70 = .ok (.istore_n 1, 1) := by decide +kernel
theorem dX7_digest_71 : decode cX7_digest 71 = .ok (.iload_n 1, 1) := by decide +kernel
theorem dX7_digest_72 : decode cX7_digest 72 = .ok (.iconst 1, 1) := by decide +kernel
theorem dX7_digest_73 : decode cX7_digest 73 = .ok (.iadd, 1) := by decide +kernel
theorem dX7_digest_74 : decode cX7_digest 74 = .ok (.aload_n 0, 1) := by decide +kernel
theorem dX7_digest_75 : decode cX7_digest 75 = .ok (.getfield 73, 3) := by decide +kernel
theorem dX7_digest_78 : decode cX7_digest 78 = .ok (.if_icmp .ge 31, 3) := by decide +kernel
theorem dX7_digest_81 : decode cX7_digest 81 = .ok (.aload_n 0, 1) := by decide +kernel
theorem dX7_digest_82 : decode cX7_digest 82 = .ok (.iload_n 1, 1) := by decide +kernel
theorem dX7_digest_83 : decode cX7_digest 83 = .ok (.iconst 2, 1) := by decide +kernel
theorem dX7_digest_84 : decode cX7_digest 84 = .ok (.irem, 1) := by decide +kernel
theorem dX7_digest_85 : decode cX7_digest 85 = .ok (.i2l, 1) := by decide +kernel
theorem dX7_digest_86 : decode cX7_digest 86 = .ok (.invokevirtual 275, 3) := by decide +kernel
theorem dX7_digest_89 : decode cX7_digest 89 = .ok (.aload_n 0, 1) := by decide +kernel
theorem dX7_digest_90 : decode cX7_digest 90 = .ok (.aload_n 0, 1) := by decide +kernel
theorem dX7_digest_91 : decode cX7_digest 91 = .ok (.aload_n 0, 1) := by decide +kernel
theorem dX7_digest_92 : decode cX7_digest 92 = .ok (.getfield 16, 3) := by decide +kernel
theorem dX7_digest_95 : decode cX7_digest 95 = .ok (.iload_n 1, 1) := by decide +kernel
theorem dX7_digest_96 : decode cX7_digest 96 = .ok (.invokevirtual 143, 3) := by decide +kernel
theorem dX7_digest_99 : decode cX7_digest 99 = .ok (.i2l, 1) := by decide +kernel
theorem dX7_digest_100 : decode cX7_digest 100 = .ok (.invokevirtual 275, 3) := by decide +kernel
theorem dX7_digest_103 : decode cX7_digest 103 = .ok (.iinc 1 1, 3) := by decide +kernel
theorem dX7_digest_106 : decode cX7_digest 106 = .ok (.goto (-35), 3) := by decide +kernel
theorem dX7_digest_109 : decode cX7_digest 109 = .ok (.aload_n 0, 1) := by decide +kernel
theorem dX7_digest_110 : decode cX7_digest 110 = .ok (.invokevirtual 118, 3) := by decide +kernel
theorem dX7_digest_113 : decode cX7_digest 113 = .ok (.ifCond .ne 7, 3) := by decide +kernel
theorem dX7_digest_116 : decode cX7_digest 116 = .ok (.aload_n 0, 1) := by decide +kernel
theorem dX7_digest_117 : decode cX7_digest 117 = .ok (.invokevirtual 281, 3) := by decide +kernel
theorem dX7_digest_120 : decode cX7_digest 120 = .ok (.iconst 0, 1) := by decide +kernel
theorem dX7_digest_121 : decode cX7_digest 121 = .ok (.istore_n 1, 1) := by decide +kernel
theorem dX7_digest_122 : decode cX7_digest 122 = .ok (.iload_n 1, 1) := by decide +kernel
theorem dX7_digest_123 : decode cX7_digest 123 = .ok (.aload_n 0, 1) := by decide +kernel
theorem dX7_digest_124 : decode cX7_digest 124 = .ok (.getfield 62, 3) := by decide +kernel
theorem dX7_digest_127 : decode cX7_digest 127 = .ok (.if_icmp .ge 20, 3) := by decide +kernel
theorem dX7_digest_130 : decode cX7_digest 130 = .ok (.aload_n 0, 1) := by decide +kernel
theorem dX7_digest_131 : decode cX7_digest 131 = .ok (.aload_n 0, 1) := by decide +kernel
theorem dX7_digest_132 : decode cX7_digest 132 = .ok (.getfield 7, 3) := by decide +kernel
theorem dX7_digest_135 : decode cX7_digest 135 = .ok (.iload_n 1, 1) := by decide +kernel
theorem dX7_digest_136 : decode cX7_digest 136 = .ok (.iaload, 1) := by decide +kernel
theorem dX7_digest_137 : decode cX7_digest 137 = .ok (.i2l, 1) := by decide +kernel
theorem dX7_digest_138 : decode cX7_digest 138 = .ok (.invokevirtual 275, 3) := by decide +kernel
theorem dX7_digest_141 : decode cX7_digest 141 = .ok (.iinc 1 1, 3) := by decide +kernel
theorem dX7_digest_144 : decode cX7_digest 144 = .ok (.goto (-22), 3) := by decide +kernel
theorem dX7_digest_147 : decode cX7_digest 147 = .ok (.iconst 0, 1) := by decide +kernel
theorem dX7_digest_148 : decode cX7_digest 148 = .ok (.istore_n 1, 1) := by decide +kernel
theorem dX7_digest_149 : decode cX7_digest 149 = .ok (.iload_n 1, 1) := by decide +kernel
theorem dX7_digest_150 : decode cX7_digest 150 = .ok (.bipush 10, 2) := by decide +kernel
theorem dX7_digest_152 : decode cX7_digest 152 = .ok (.if_icmp .ge 19, 3) := by decide +kernel
theorem dX7_digest_155 : decode cX7_digest 155 = .ok (.aload_n 0, 1) := by decide +kernel
theorem dX7_digest_156 : decode cX7_digest 156 = .ok (.aload_n 0, 1) := by decide +kernel
theorem dX7_digest_157 : decode cX7_digest 157 = .ok (.iload_n 1, 1) := by decide +kernel
theorem dX7_digest_158 : decode cX7_digest 158 = .ok (.invokevirtual 266, 3) := by decide +kernel
theorem dX7_digest_161 : decode cX7_digest 161 = .ok (.i2l, 1) := by decide +kernel
theorem dX7_digest_162 : decode cX7_digest 162 = .ok (.invokevirtual 275, 3) := by decide +kernel
theorem dX7_digest_165 : decode cX7_digest 165 = .ok (.iinc 1 1, 3) := by decide +kernel
theorem dX7_digest_168 : decode cX7_digest 168 = .ok (.goto (-19), 3) := by decide +kernel
theorem dX7_digest_171 : decode cX7_digest 171 = .ok (.aload_n 0, 1) := by decide +kernel
theorem dX7_digest_172 : decode cX7_digest 172 = .ok (.getfield 271, 3) := by decide +kernel
theorem dX7_digest_175 : decode cX7_digest 175 = .ok (.lreturn, 1) := by decide +kernel
end
section
theorem dJ0_length_8abf5_0 : decode cJ0_length_8abf5 0 = .ok (.aload_n 0, 1) := by decide +kernel
theorem dJ0_length_8abf5_1 : decode cJ0_length_8abf5 1 = .ok (.getfield 9, 3) := by decide +kernel
theorem dJ0_length_8abf5_4 : decode cJ0_length_8abf5 4 = .ok (.arraylength, 1) := by decide +kernel
theorem dJ0_length_8abf5_5 : decode cJ0_length_8abf5 5 = .ok (.aload_n 0, 1) := by decide +kernel
theorem dJ0_length_8abf5_6 : decode cJ0_length_8abf5 6 = .ok (.invokevirtual 335, 3) := by decide +kernel
theorem dJ0_length_8abf5_9 : decode cJ0_length_8abf5 9 = .ok (.ishr, 1) := by decide +kernel
theorem dJ0_length_8abf5_10 : decode cJ0_length_8abf5 10 = .ok (.ireturn, 1) := by decide +kernel
theorem dJ0_indexOf_0f7a4_0 : decode cJ0_indexOf_0f7a4 0 = .ok (.aload_n 0, 1) := by decide +kernel
theorem dJ0_indexOf_0f7a4_1 : decode cJ0_indexOf_0f7a4 1 = .ok (.iload_n 1, 1) := by decide +kernel
theorem dJ0_indexOf_0f7a4_2 : decode cJ0_indexOf_0f7a4 2 = .ok (.iconst 0, 1) := by decide +kernel
theorem dJ0_indexOf_0f7a4_3 : decode cJ0_indexOf_0f7a4 3 = .ok (.invokevirtual 633, 3) := by decide +kernel
theorem dJ0_indexOf_0f7a4_6 : decode cJ0_indexOf_0f7a4 6 = .ok (.ireturn, 1) := by decide +kernel
theorem dJ0_indexOf_7cf53_0 : decode cJ0_indexOf_7cf53 0 = .ok (.aload_n 0, 1) := by decide +kernel
theorem dJ0_indexOf_7cf53_1 : decode cJ0_indexOf_7cf53 1 = .ok (.invokevirtual 492, 3) := by decide +kernel
theorem dJ0_indexOf_7cf53_4 : decode cJ0_indexOf_7cf53 4 = .ok (.ifCond .eq 19, 3) := by decide +kernel
theorem dJ0_indexOf_7cf53_7 : decode cJ0_indexOf_7cf53 7 = .ok (.aload_n 0, 1) := by decide +kernel
theorem dJ0_indexOf_7cf53_8 : decode cJ0_indexOf_7cf53 8 = .ok (.getfield 9, 3) := by decide +kernel
theorem dJ0_indexOf_7cf53_11 : decode cJ0_indexOf_7cf53 11 = .ok (.iload_n 1, 1) := by decide +kernel
theorem dJ0_indexOf_7cf53_12 : decode cJ0_indexOf_7cf53 12 = .ok (.iload_n 2, 1) := by decide +kernel
theorem dJ0_indexOf_7cf53_13 : decode cJ0_indexOf_7cf53 13 = .ok (.aload_n 0, 1) := by decide +kernel
theorem dJ0_indexOf_7cf53_14 : decode cJ0_indexOf_7cf53 14 = .ok (.invokevirtual 505, 3) := by decide +kernel
theorem dJ0_indexOf_7cf53_17 : decode cJ0_indexOf_7cf53 17 = .ok (.invokestatic 637, 3) := by decide +kernel
theorem dJ0_indexOf_7cf53_20 : decode cJ0_indexOf_7cf53 20 = .ok (.goto 16, 3) := by decide +kernel
theorem dJ0_indexOf_7cf53_23 : decode cJ0_indexOf_7cf53 23 = .ok (.aload_n 0, 1) := by decide +kernel
theorem dJ0_indexOf_7cf53_24 : decode cJ0_indexOf_7cf53 24 = .ok (.getfield 9, 3) := by decide +kernel
theorem dJ0_indexOf_7cf53_27 : decode cJ0_indexOf_7cf53 27 = .ok (.iload_n 1, 1) := by decide +kernel
theorem dJ0_indexOf_7cf53_28 : decode cJ0_indexOf_7cf53 28 = .ok (.iload_n 2, 1) := by decide +kernel
theorem dJ0_indexOf_7cf53_29 : decode cJ0_indexOf_7cf53 29 = .ok (.aload_n 0, 1) := by decide +kernel
theorem dJ0_indexOf_7cf53_30 : decode cJ0_indexOf_7cf53 30 = .ok (.invokevirtual 505, 3) := by decide +kernel
theorem dJ0_indexOf_7cf53_33 : decode cJ0_indexOf_7cf53 33 = .ok (.invokestatic 640, 3) := by decide +kernel
theorem dJ0_indexOf_7cf53_36 : decode cJ0_indexOf_7cf53 36 = .ok (.ireturn, 1) := by decide +kernel
theorem dJ0_coder_7d493_0 : decode cJ0_coder_7d493 0 = .ok (.getstatic 38, 3) := by decide +kernel
theorem dJ0_coder_7d493_3 : decode cJ0_coder_7d493 3 = .ok (.ifCond .eq 10, 3) := by decide +kernel
theorem dJ0_coder_7d493_6 : decode cJ0_coder_7d493 6 = .ok (.aload_n 0, 1) := by decide +kernel
theorem dJ0_coder_7d493_7 : decode cJ0_coder_7d493 7 = .ok (.getfield 15, 3) := by decide +kernel
theorem dJ0_coder_7d493_10 : decode cJ0_coder_7d493 10 = .ok (.goto 4, 3) := by decide +kernel
theorem dJ0_coder_7d493_13 : decode cJ0_coder_7d493 13 = .ok (.iconst 1, 1) := by decide +kernel
theorem dJ0_coder_7d493_14 : decode cJ0_coder_7d493 14 = .ok (.ireturn, 1) := by decide +kernel
theorem dJ0_isLatin1_aae02_0 : decode cJ0_isLatin1_aae02 0 = .ok (.getstatic 38, 3) := by decide +kernel
theorem dJ0_isLatin1_aae02_3 : decode cJ0_isLatin1_aae02 3 = .ok (.ifCond .eq 14, 3) := by decide +kernel
theorem dJ0_isLatin1_aae02_6 : decode cJ0_isLatin1_aae02 6 = .ok (.aload_n 0, 1) := by decide +kernel
theorem dJ0_isLatin1_aae02_7 : decode cJ0_isLatin1_aae02 7 = .ok (.getfield 15, 3) := by decide +kernel
theorem dJ0_isLatin1_aae02_10 : decode cJ0_isLatin1_aae02 10 = .ok (.ifCond .ne 7, 3) := by decide +kernel
theorem dJ0_isLatin1_aae02_13 : decode cJ0_isLatin1_aae02 13 = .ok (.iconst 1, 1) := by decide +kernel
theorem dJ0_isLatin1_aae02_14 : decode cJ0_isLatin1_aae02 14 = .ok (.goto 4, 3) := by decide +kernel
theorem dJ0_isLatin1_aae02_17 : decode cJ0_isLatin1_aae02 17 = .ok (.iconst 0, 1) := by decide +kernel
theorem dJ0_isLatin1_aae02_18 : decode cJ0_isLatin1_aae02 18 = .ok (.ireturn, 1) := by decide +kernel
theorem dJ1_canEncode_9a6ad_0 : decode cJ1_canEncode_9a6ad 0 = .ok (.iload_n 0, 1) := by decide +kernel
theorem dJ1_canEncode_9a6ad_1 : decode cJ1_canEncode_9a6ad 1 = .ok (.ifCond .lt 14, 3) := by decide +kernel
theorem dJ1_canEncode_9a6ad_4 : decode cJ1_canEncode_9a6ad 4 = .ok (.iload_n 0, 1) := by decide +kernel
theorem dJ1_canEncode_9a6ad_5 : decode cJ1_canEncode_9a6ad 5 = .ok (.sipush 255, 3) := by decide +kernel
theorem dJ1_canEncode_9a6ad_8 : decode cJ1_canEncode_9a6ad 8 = .ok (.if_icmp .gt 7, 3) := by decide +kernel
theorem dJ1_canEncode_9a6ad_11 : decode cJ1_canEncode_9a6ad 11 = .ok (.iconst 1, 1) := by decide +kernel
theorem dJ1_canEncode_9a6ad_12 : decode cJ1_canEncode_9a6ad 12 = .ok (.goto 4, 3) := by decide +kernel
theorem dJ1_canEncode_9a6ad_15 : decode cJ1_canEncode_9a6ad 15 = .ok (.iconst 0, 1) := by decide +kernel
theorem dJ1_canEncode_9a6ad_16 : decode cJ1_canEncode_9a6ad 16 = .ok (.ireturn, 1) := by decide +kernel
theorem dJ1_indexOf_4cfef_0 : decode cJ1_indexOf_4cfef 0 = .ok (.iload_n 1, 1) := by decide +kernel
theorem dJ1_indexOf_4cfef_1 : decode cJ1_indexOf_4cfef 1 = .ok (.invokestatic 88, 3) := by decide +kernel
theorem dJ1_indexOf_4cfef_4 : decode cJ1_indexOf_4cfef 4 = .ok (.ifCond .ne 5, 3) := by decide +kernel
theorem dJ1_indexOf_4cfef_7 : decode cJ1_indexOf_4cfef 7 = .ok (.iconst (-1), 1) := by decide +kernel
theorem dJ1_indexOf_4cfef_8 : decode cJ1_indexOf_4cfef 8 = .ok (.ireturn, 1) := by decide +kernel
theorem dJ1_indexOf_4cfef_9 : decode cJ1_indexOf_4cfef 9 = .ok (.iload_n 2, 1) := by decide +kernel
theorem dJ1_indexOf_4cfef_10 : decode cJ1_indexOf_4cfef 10 = .ok (.iconst 0, 1) := by decide +kernel
theorem dJ1_indexOf_4cfef_11 : decode cJ1_indexOf_4cfef 11 = .ok (.invokestatic 92, 3) := by decide +kernel
theorem dJ1_indexOf_4cfef_14 : decode cJ1_indexOf_4cfef 14 = .ok (.istore_n 2, 1) := by decide +kernel
theorem dJ1_indexOf_4cfef_15 : decode cJ1_indexOf_4cfef 15 = .ok (.iload_n 3, 1) := by decide +kernel
theorem dJ1_indexOf_4cfef_16 : decode cJ1_indexOf_4cfef 16 = .ok (.aload_n 0, 1) := by decide +kernel
theorem dJ1_indexOf_4cfef_17 : decode cJ1_indexOf_4cfef 17 = .ok (.arraylength, 1) := by decide +kernel
theorem dJ1_indexOf_4cfef_18 : decode cJ1_indexOf_4cfef 18 = .ok (.invokestatic 38, 3) := by decide +kernel
theorem dJ1_indexOf_4cfef_21 : decode cJ1_indexOf_4cfef 21 = .ok (.istore_n 3, 1) := by decide +kernel
theorem dJ1_indexOf_4cfef_22 : decode cJ1_indexOf_4cfef 22 = .ok (.iload_n 2, 1) := by decide +kernel
theorem dJ1_indexOf_4cfef_23 : decode cJ1_indexOf_4cfef 23 = .ok (.iload_n 3, 1) := by decide +kernel
theorem dJ1_indexOf_4cfef_24 : decode cJ1_indexOf_4cfef 24 = .ok (.if_icmp .lt 5, 3) := by decide +kernel
theorem dJ1_indexOf_4cfef_27 : decode cJ1_indexOf_4cfef 27 = .ok (.iconst (-1), 1) := by decide +kernel
theorem dJ1_indexOf_4cfef_28 : decode cJ1_indexOf_4cfef 28 = .ok (.ireturn, 1) := by decide +kernel
theorem dJ1_indexOf_4cfef_29 : decode cJ1_indexOf_4cfef 29 = .ok (.aload_n 0, 1) := by decide +kernel
theorem dJ1_indexOf_4cfef_30 : decode cJ1_indexOf_4cfef 30 = .ok (.iload_n 1, 1) := by decide +kernel
theorem dJ1_indexOf_4cfef_31 : decode cJ1_indexOf_4cfef 31 = .ok (.iload_n 2, 1) := by decide +kernel
theorem dJ1_indexOf_4cfef_32 : decode cJ1_indexOf_4cfef 32 = .ok (.iload_n 3, 1) := by decide +kernel
theorem dJ1_indexOf_4cfef_33 : decode cJ1_indexOf_4cfef 33 = .ok (.invokestatic 95, 3) := by decide +kernel
theorem dJ1_indexOf_4cfef_36 : decode cJ1_indexOf_4cfef 36 = .ok (.ireturn, 1) := by decide +kernel
theorem dJ1_indexOfChar_4cfef_0 : decode cJ1_indexOfChar_4cfef 0 = .ok (.iload_n 1, 1) := by decide +kernel
theorem dJ1_indexOfChar_4cfef_1 : decode cJ1_indexOfChar_4cfef 1 = .ok (.i2b, 1) := by decide +kernel
theorem dJ1_indexOfChar_4cfef_2 : decode cJ1_indexOfChar_4cfef 2 = .ok (.istore 4, 2) := by decide +kernel
theorem dJ1_indexOfChar_4cfef_4 : decode cJ1_indexOfChar_4cfef 4 = .ok (.iload_n 2, 1) := by decide +kernel
theorem dJ1_indexOfChar_4cfef_5 : decode cJ1_indexOfChar_4cfef 5 = .ok (.istore 5, 2) := by decide +kernel
theorem dJ1_indexOfChar_4cfef_7 : decode cJ1_indexOfChar_4cfef 7 = .ok (.iload 5, 2) := by decide +kernel
theorem dJ1_indexOfChar_4cfef_9 : decode cJ1_indexOfChar_4cfef 9 = .ok (.iload_n 3, 1) := by decide +kernel
theorem dJ1_indexOfChar_4cfef_10 : decode cJ1_indexOfChar_4cfef 10 = .ok (.if_icmp .ge 21, 3) := by decide +kernel
theorem dJ1_indexOfChar_4cfef_13 : decode cJ1_indexOfChar_4cfef 13 = .ok (.aload_n 0, 1) := by decide +kernel
theorem dJ1_indexOfChar_4cfef_14 : decode cJ1_indexOfChar_4cfef 14 = .ok (.iload 5, 2) := by decide +kernel
theorem dJ1_indexOfChar_4cfef_16 : decode cJ1_indexOfChar_4cfef 16 = .ok (.baload, 1) := by decide +kernel
theorem dJ1_indexOfChar_4cfef_17 : decode cJ1_indexOfChar_4cfef 17 = .ok (.iload 4, 2) := by decide +kernel
theorem dJ1_indexOfChar_4cfef_19 : decode cJ1_indexOfChar_4cfef 19 = .ok (.if_icmp .ne 6, 3) := by decide +kernel
theorem dJ1_indexOfChar_4cfef_22 : decode cJ1_indexOfChar_4cfef 22 = .ok (.iload 5, 2) := by decide +kernel
theorem dJ1_indexOfChar_4cfef_24 : decode cJ1_indexOfChar_4cfef 24 = .ok (.ireturn, 1) := by decide +kernel
theorem dJ1_indexOfChar_4cfef_25 : decode cJ1_indexOfChar_4cfef 25 = .ok (.iinc 5 1, 3) := by decide +kernel
theorem dJ1_indexOfChar_4cfef_28 : decode cJ1_indexOfChar_4cfef 28 = .ok (.goto (-21), 3) := by decide +kernel
theorem dJ1_indexOfChar_4cfef_31 : decode cJ1_indexOfChar_4cfef 31 = .ok (.iconst (-1), 1) := by decide +kernel
theorem dJ1_indexOfChar_4cfef_32 : decode cJ1_indexOfChar_4cfef 32 = .ok (.ireturn, 1) := by decide +kernel
end
section
theorem dL_law_0 : decode cL_law 0 = .ok (.new 7, 3) := by decide +kernel
theorem dL_law_3 : decode cL_law 3 = .ok (.dup, 1) := by decide +kernel
theorem dL_law_4 : decode cL_law 4 = .ok (.invokespecial 9, 3) := by decide +kernel
theorem dL_law_7 : decode cL_law 7 = .ok (.astore_n 1, 1) := by decide +kernel
theorem dL_law_8 : decode cL_law 8 = .ok (.new 10, 3) := by decide +kernel
theorem dL_law_11 : decode cL_law 11 = .ok (.dup, 1) := by decide +kernel
theorem dL_law_12 : decode cL_law 12 = .ok (.invokespecial 12, 3) := by decide +kernel
theorem dL_law_15 : decode cL_law 15 = .ok (.astore_n 2, 1) := by decide +kernel
theorem dL_law_16 : decode cL_law 16 = .ok (.iconst 0, 1) := by decide +kernel
theorem dL_law_17 : decode cL_law 17 = .ok (.istore_n 3, 1) := by decide +kernel
theorem dL_law_18 : decode cL_law 18 = .ok (.iload_n 3, 1) := by decide +kernel
theorem dL_law_19 : decode cL_law 19 = .ok (.aload_n 0, 1) := by decide +kernel
theorem dL_law_20 : decode cL_law 20 = .ok (.arraylength, 1) := by decide +kernel
theorem dL_law_21 : decode cL_law 21 = .ok (.iconst 4, 1) := by decide +kernel
theorem dL_law_22 : decode cL_law 22 = .ok (.isub, 1) := by decide +kernel
theorem dL_law_23 : decode cL_law 23 = .ok (.if_icmp .gt 871, 3) := by decide +kernel
theorem dL_law_26 : decode cL_law 26 = .ok (.aload_n 0, 1) := by decide +kernel
theorem dL_law_27 : decode cL_law 27 = .ok (.iload_n 3, 1) := by decide +kernel
theorem dL_law_28 : decode cL_law 28 = .ok (.iaload, 1) := by decide +kernel
theorem dL_law_29 : decode cL_law 29 = .ok (.bipush 31, 2) := by decide +kernel
theorem dL_law_31 : decode cL_law 31 = .ok (.iand, 1) := by decide +kernel
theorem dL_law_32 : decode cL_law 32 = .ok (.tableswitch 856 0 28 #[132, 155, 168, 181, 194, 227, 260, 293, 316, 349, 382, 395, 418, 451, 474, 507, 540, 563, 586, 609, 652, 711, 724, 737, 750, 793, 806, 819, 842], 132) := by decide +kernel
theorem dL_law_164 : decode cL_law 164 = .ok (.aload_n 1, 1) := by decide +kernel
theorem dL_law_165 : decode cL_law 165 = .ok (.aload_n 0, 1) := by decide +kernel
theorem dL_law_166 : decode cL_law 166 = .ok (.iload_n 3, 1) := by decide +kernel
theorem dL_law_167 : decode cL_law 167 = .ok (.iconst 1, 1) := by decide +kernel
theorem dL_law_168 : decode cL_law 168 = .ok (.iadd, 1) := by decide +kernel
theorem dL_law_169 : decode cL_law 169 = .ok (.iaload, 1) := by decide +kernel
theorem dL_law_170 : decode cL_law 170 = .ok (.invokevirtual 13, 3) := by decide +kernel
theorem dL_law_173 : decode cL_law 173 = .ok (.aload_n 2, 1) := by decide +kernel
theorem dL_law_174 : decode cL_law 174 = .ok (.aload_n 0, 1) := by decide +kernel
theorem dL_law_175 : decode cL_law 175 = .ok (.iload_n 3, 1) := by decide +kernel
theorem dL_law_176 : decode cL_law 176 = .ok (.iconst 1, 1) := by decide +kernel
theorem dL_law_177 : decode cL_law 177 = .ok (.iadd, 1) := by decide +kernel
theorem dL_law_178 : decode cL_law 178 = .ok (.iaload, 1) := by decide +kernel
theorem dL_law_179 : decode cL_law 179 = .ok (.invokevirtual 17, 3) := by decide +kernel
theorem dL_law_182 : decode cL_law 182 = .ok (.if_icmp .eq 706, 3) := by decide +kernel
theorem dL_law_185 : decode cL_law 185 = .ok (.iconst 0, 1) := by decide +kernel
theorem dL_law_186 : decode cL_law 186 = .ok (.ireturn, 1) := by decide +kernel
theorem dL_law_187 : decode cL_law 187 = .ok (.aload_n 1, 1) := by decide +kernel
theorem dL_law_188 : decode cL_law 188 = .ok (.invokevirtual 18, 3) := by decide +kernel
theorem dL_law_191 : decode cL_law 191 = .ok (.aload_n 2, 1) := by decide +kernel
theorem dL_law_192 : decode cL_law 192 = .ok (.invokevirtual 22, 3) := by decide +kernel
theorem dL_law_195 : decode cL_law 195 = .ok (.if_icmp .eq 693, 3) := by decide +kernel
theorem dL_law_198 : decode cL_law 198 = .ok (.iconst 0, 1) := by decide +kernel
theorem dL_law_199 : decode cL_law 199 = .ok (.ireturn, 1) := by decide +kernel
theorem dL_law_200 : decode cL_law 200 = .ok (.aload_n 1, 1) := by decide +kernel
theorem dL_law_201 : decode cL_law 201 = .ok (.invokevirtual 23, 3) := by decide +kernel
theorem dL_law_204 : decode cL_law 204 = .ok (.aload_n 2, 1) := by decide +kernel
theorem dL_law_205 : decode cL_law 205 = .ok (.invokevirtual 26, 3) := by decide +kernel
theorem dL_law_208 : decode cL_law 208 = .ok (.if_icmp .eq 680, 3) := by decide +kernel
theorem dL_law_211 : decode cL_law 211 = .ok (.iconst 0, 1) := by decide +kernel
theorem dL_law_212 : decode cL_law 212 = .ok (.ireturn, 1) := by decide +kernel
theorem dL_law_213 : decode cL_law 213 = .ok (.aload_n 1, 1) := by decide +kernel
theorem dL_law_214 : decode cL_law 214 = .ok (.invokevirtual 27, 3) := by decide +kernel
theorem dL_law_217 : decode cL_law 217 = .ok (.aload_n 2, 1) := by decide +kernel
theorem dL_law_218 : decode cL_law 218 = .ok (.invokevirtual 30, 3) := by decide +kernel
theorem dL_law_221 : decode cL_law 221 = .ok (.if_icmp .eq 667, 3) := by decide +kernel
theorem dL_law_224 : decode cL_law 224 = .ok (.iconst 0, 1) := by decide +kernel
theorem dL_law_225 : decode cL_law 225 = .ok (.ireturn, 1) := by decide +kernel
theorem dL_law_226 : decode cL_law 226 = .ok (.aload_n 1, 1) := by decide +kernel
theorem dL_law_227 : decode cL_law 227 = .ok (.aload_n 0, 1) := by decide +kernel
theorem dL_law_228 : decode cL_law 228 = .ok (.iload_n 3, 1) := by decide +kernel
theorem dL_law_229 : decode cL_law 229 = .ok (.iconst 1, 1) := by decide +kernel
theorem dL_law_230 : decode cL_law 230 = .ok (.iadd, 1) := by decide +kernel
theorem dL_law_231 : decode cL_law 231 = .ok (.iaload, 1) := by decide +kernel
theorem dL_law_232 : decode cL_law 232 = .ok (.aload_n 0, 1) := by decide +kernel
theorem dL_law_233 : decode cL_law 233 = .ok (.iload_n 3, 1) := by decide +kernel
theorem dL_law_234 : decode cL_law 234 = .ok (.iconst 2, 1) := by decide +kernel
theorem dL_law_235 : decode cL_law 235 = .ok (.iadd, 1) := by decide +kernel
theorem dL_law_236 : decode cL_law 236 = .ok (.iaload, 1) := by decide +kernel
theorem dL_law_237 : decode cL_law 237 = .ok (.invokevirtual 31, 3) := by decide +kernel
theorem dL_law_240 : decode cL_law 240 = .ok (.aload_n 2, 1) := by decide +kernel
theorem dL_law_241 : decode cL_law 241 = .ok (.aload_n 0, 1) := by decide +kernel
theorem dL_law_242 : decode cL_law 242 = .ok (.iload_n 3, 1) := by decide +kernel
theorem dL_law_243 : decode cL_law 243 = .ok (.iconst 1, 1) := by decide +kernel
theorem dL_law_244 : decode cL_law 244 = .ok (.iadd, 1) := by decide +kernel
theorem dL_law_245 : decode cL_law 245 = .ok (.iaload, 1) := by decide +kernel
theorem dL_law_246 : decode cL_law 246 = .ok (.aload_n 0, 1) := by decide +kernel
theorem dL_law_247 : decode cL_law 247 = .ok (.iload_n 3, 1) := by decide +kernel
theorem dL_law_248 : decode cL_law 248 = .ok (.iconst 2, 1) := by decide +kernel
theorem dL_law_249 : decode cL_law 249 = .ok (.iadd, 1) := by decide +kernel
theorem dL_law_250 : decode cL_law 250 = .ok (.iaload, 1) := by decide +kernel
theorem dL_law_251 : decode cL_law 251 = .ok (.invokevirtual 35, 3) := by decide +kernel
theorem dL_law_254 : decode cL_law 254 = .ok (.if_icmp .eq 634, 3) := by decide +kernel
theorem dL_law_257 : decode cL_law 257 = .ok (.iconst 0, 1) := by decide +kernel
theorem dL_law_258 : decode cL_law 258 = .ok (.ireturn, 1) := by decide +kernel
theorem dL_law_259 : decode cL_law 259 = .ok (.aload_n 1, 1) := by decide +kernel
theorem dL_law_260 : decode cL_law 260 = .ok (.aload_n 0, 1) := by decide +kernel
theorem dL_law_261 : decode cL_law 261 = .ok (.iload_n 3, 1) := by decide +kernel
theorem dL_law_262 : decode cL_law 262 = .ok (.iconst 1, 1) := by decide +kernel
theorem dL_law_263 : decode cL_law 263 = .ok (.iadd, 1) := by decide +kernel
theorem dL_law_264 : decode cL_law 264 = .ok (.iaload, 1) := by decide +kernel
theorem dL_law_265 : decode cL_law 265 = .ok (.aload_n 0, 1) := by decide +kernel
theorem dL_law_266 : decode cL_law 266 = .ok (.iload_n 3, 1) := by decide +kernel
theorem dL_law_267 : decode cL_law 267 = .ok (.iconst 2, 1) := by decide +kernel
theorem dL_law_268 : decode cL_law 268 = .ok (.iadd, 1) := by decide +kernel
theorem dL_law_269 : decode cL_law 269 = .ok (.iaload, 1) := by decide +kernel
theorem dL_law_270 : decode cL_law 270 = .ok (.invokevirtual 36, 3) := by decide +kernel
theorem dL_law_273 : decode cL_law 273 = .ok (.aload_n 2, 1) := by decide +kernel
theorem dL_law_274 : decode cL_law 274 = .ok (.aload_n 0, 1) := by decide +kernel
theorem dL_law_275 : decode cL_law 275 = .ok (.iload_n 3, 1) := by decide +kernel
theorem dL_law_276 : decode cL_law 276 = .ok (.iconst 1, 1) := by decide +kernel
theorem dL_law_277 : decode cL_law 277 = .ok (.iadd, 1) := by decide +kernel
theorem dL_law_278 : decode cL_law 278 = .ok (.iaload, 1) := by decide +kernel
theorem dL_law_279 : decode cL_law 279 = .ok (.aload_n 0, 1) := by decide +kernel
theorem dL_law_280 : decode cL_law 280 = .ok (.iload_n 3, 1) := by decide +kernel
theorem dL_law_281 : decode cL_law 281 = .ok (.iconst 2, 1) := by decide +kernel
theorem dL_law_282 : decode cL_law 282 = .ok (.iadd, 1) := by decide +kernel
theorem dL_law_283 : decode cL_law 283 = .ok (.iaload, 1) := by decide +kernel
theorem dL_law_284 : decode cL_law 284 = .ok (.invokevirtual 39, 3) := by decide +kernel
theorem dL_law_287 : decode cL_law 287 = .ok (.if_icmp .eq 601, 3) := by decide +kernel
theorem dL_law_290 : decode cL_law 290 = .ok (.iconst 0, 1) := by decide +kernel
theorem dL_law_291 : decode cL_law 291 = .ok (.ireturn, 1) := by decide +kernel
theorem dL_law_292 : decode cL_law 292 = .ok (.aload_n 1, 1) := by decide +kernel
theorem dL_law_293 : decode cL_law 293 = .ok (.aload_n 0, 1) := by decide +kernel
theorem dL_law_294 : decode cL_law 294 = .ok (.iload_n 3, 1) := by decide +kernel
theorem dL_law_295 : decode cL_law 295 = .ok (.iconst 1, 1) := by decide +kernel
theorem dL_law_296 : decode cL_law 296 = .ok (.iadd, 1) := by decide +kernel
theorem dL_law_297 : decode cL_law 297 = .ok (.iaload, 1) := by decide +kernel
theorem dL_law_298 : decode cL_law 298 = .ok (.aload_n 0, 1) := by decide +kernel
theorem dL_law_299 : decode cL_law 299 = .ok (.iload_n 3, 1) := by decide +kernel
theorem dL_law_300 : decode cL_law 300 = .ok (.iconst 2, 1) := by decide +kernel
theorem dL_law_301 : decode cL_law 301 = .ok (.iadd, 1) := by decide +kernel
theorem dL_law_302 : decode cL_law 302 = .ok (.iaload, 1) := by decide +kernel
theorem dL_law_303 : decode cL_law 303 = .ok (.invokevirtual 40, 3) := by decide +kernel
theorem dL_law_306 : decode cL_law 306 = .ok (.aload_n 2, 1) := by decide +kernel
theorem dL_law_307 : decode cL_law 307 = .ok (.aload_n 0, 1) := by decide +kernel
theorem dL_law_308 : decode cL_law 308 = .ok (.iload_n 3, 1) := by decide +kernel
theorem dL_law_309 : decode cL_law 309 = .ok (.iconst 1, 1) := by decide +kernel
theorem dL_law_310 : decode cL_law 310 = .ok (.iadd, 1) := by decide +kernel
theorem dL_law_311 : decode cL_law 311 = .ok (.iaload, 1) := by decide +kernel
theorem dL_law_312 : decode cL_law 312 = .ok (.aload_n 0, 1) := by decide +kernel
theorem dL_law_313 : decode cL_law 313 = .ok (.iload_n 3, 1) := by decide +kernel
theorem dL_law_314 : decode cL_law 314 = .ok (.iconst 2, 1) := by decide +kernel
theorem dL_law_315 : decode cL_law 315 = .ok (.iadd, 1) := by decide +kernel
theorem dL_law_316 : decode cL_law 316 = .ok (.iaload, 1) := by decide +kernel
theorem dL_law_317 : decode cL_law 317 = .ok (.invokevirtual 43, 3) := by decide +kernel
theorem dL_law_320 : decode cL_law 320 = .ok (.if_icmp .eq 568, 3) := by decide +kernel
theorem dL_law_323 : decode cL_law 323 = .ok (.iconst 0, 1) := by decide +kernel
theorem dL_law_324 : decode cL_law 324 = .ok (.ireturn, 1) := by decide +kernel
theorem dL_law_325 : decode cL_law 325 = .ok (.aload_n 1, 1) := by decide +kernel
theorem dL_law_326 : decode cL_law 326 = .ok (.aload_n 0, 1) := by decide +kernel
theorem dL_law_327 : decode cL_law 327 = .ok (.iload_n 3, 1) := by decide +kernel
theorem dL_law_328 : decode cL_law 328 = .ok (.iconst 1, 1) := by decide +kernel
theorem dL_law_329 : decode cL_law 329 = .ok (.iadd, 1) := by decide +kernel
theorem dL_law_330 : decode cL_law 330 = .ok (.iaload, 1) := by decide +kernel
theorem dL_law_331 : decode cL_law 331 = .ok (.invokevirtual 44, 3) := by decide +kernel
theorem dL_law_334 : decode cL_law 334 = .ok (.aload_n 2, 1) := by decide +kernel
theorem dL_law_335 : decode cL_law 335 = .ok (.aload_n 0, 1) := by decide +kernel
theorem dL_law_336 : decode cL_law 336 = .ok (.iload_n 3, 1) := by decide +kernel
theorem dL_law_337 : decode cL_law 337 = .ok (.iconst 1, 1) := by decide +kernel
theorem dL_law_338 : decode cL_law 338 = .ok (.iadd, 1) := by decide +kernel
theorem dL_law_339 : decode cL_law 339 = .ok (.iaload, 1) := by decide +kernel
theorem dL_law_340 : decode cL_law 340 = .ok (.invokevirtual 47, 3) := by decide +kernel
theorem dL_law_343 : decode cL_law 343 = .ok (.if_icmp .eq 545, 3) := by decide +kernel
theorem dL_law_346 : decode cL_law 346 = .ok (.iconst 0, 1) := by decide +kernel
theorem dL_law_347 : decode cL_law 347 = .ok (.ireturn, 1) := by decide +kernel
theorem dL_law_348 : decode cL_law 348 = .ok (.aload_n 1, 1) := by decide +kernel
theorem dL_law_349 : decode cL_law 349 = .ok (.aload_n 0, 1) := by decide +kernel
theorem dL_law_350 : decode cL_law 350 = .ok (.iload_n 3, 1) := by decide +kernel
theorem dL_law_351 : decode cL_law 351 = .ok (.iconst 1, 1) := by decide +kernel
theorem dL_law_352 : decode cL_law 352 = .ok (.iadd, 1) := by decide +kernel
theorem dL_law_353 : decode cL_law 353 = .ok (.iaload, 1) := by decide +kernel
theorem dL_law_354 : decode cL_law 354 = .ok (.aload_n 0, 1) := by decide +kernel
theorem dL_law_355 : decode cL_law 355 = .ok (.iload_n 3, 1) := by decide +kernel
theorem dL_law_356 : decode cL_law 356 = .ok (.iconst 2, 1) := by decide +kernel
theorem dL_law_357 : decode cL_law 357 = .ok (.iadd, 1) := by decide +kernel
theorem dL_law_358 : decode cL_law 358 = .ok (.iaload, 1) := by decide +kernel
theorem dL_law_359 : decode cL_law 359 = .ok (.invokevirtual 48, 3) := by decide +kernel
theorem dL_law_362 : decode cL_law 362 = .ok (.aload_n 2, 1) := by decide +kernel
theorem dL_law_363 : decode cL_law 363 = .ok (.aload_n 0, 1) := by decide +kernel
theorem dL_law_364 : decode cL_law 364 = .ok (.iload_n 3, 1) := by decide +kernel
theorem dL_law_365 : decode cL_law 365 = .ok (.iconst 1, 1) := by decide +kernel
theorem dL_law_366 : decode cL_law 366 = .ok (.iadd, 1) := by decide +kernel
theorem dL_law_367 : decode cL_law 367 = .ok (.iaload, 1) := by decide +kernel
theorem dL_law_368 : decode cL_law 368 = .ok (.aload_n 0, 1) := by decide +kernel
theorem dL_law_369 : decode cL_law 369 = .ok (.iload_n 3, 1) := by decide +kernel
theorem dL_law_370 : decode cL_law 370 = .ok (.iconst 2, 1) := by decide +kernel
theorem dL_law_371 : decode cL_law 371 = .ok (.iadd, 1) := by decide +kernel
theorem dL_law_372 : decode cL_law 372 = .ok (.iaload, 1) := by decide +kernel
theorem dL_law_373 : decode cL_law 373 = .ok (.invokevirtual 51, 3) := by decide +kernel
theorem dL_law_376 : decode cL_law 376 = .ok (.if_icmp .eq 512, 3) := by decide +kernel
theorem dL_law_379 : decode cL_law 379 = .ok (.iconst 0, 1) := by decide +kernel
theorem dL_law_380 : decode cL_law 380 = .ok (.ireturn, 1) := by decide +kernel
theorem dL_law_381 : decode cL_law 381 = .ok (.aload_n 1, 1) := by decide +kernel
theorem dL_law_382 : decode cL_law 382 = .ok (.aload_n 0, 1) := by decide +kernel
theorem dL_law_383 : decode cL_law 383 = .ok (.iload_n 3, 1) := by decide +kernel
theorem dL_law_384 : decode cL_law 384 = .ok (.iconst 1, 1) := by decide +kernel
theorem dL_law_385 : decode cL_law 385 = .ok (.iadd, 1) := by decide +kernel
theorem dL_law_386 : decode cL_law 386 = .ok (.iaload, 1) := by decide +kernel
theorem dL_law_387 : decode cL_law 387 = .ok (.aload_n 0, 1) := by decide +kernel
theorem dL_law_388 : decode cL_law 388 = .ok (.iload_n 3, 1) := by decide +kernel
theorem dL_law_389 : decode cL_law 389 = .ok (.iconst 2, 1) := by decide +kernel
theorem dL_law_390 : decode cL_law 390 = .ok (.iadd, 1) := by decide +kernel
theorem dL_law_391 : decode cL_law 391 = .ok (.iaload, 1) := by decide +kernel
theorem dL_law_392 : decode cL_law 392 = .ok (.invokevirtual 52, 3) := by decide +kernel
theorem dL_law_395 : decode cL_law 395 = .ok (.aload_n 2, 1) := by decide +kernel
theorem dL_law_396 : decode cL_law 396 = .ok (.aload_n 0, 1) := by decide +kernel
theorem dL_law_397 : decode cL_law 397 = .ok (.iload_n 3, 1) := by decide +kernel
theorem dL_law_398 : decode cL_law 398 = .ok (.iconst 1, 1) := by decide +kernel
theorem dL_law_399 : decode cL_law 399 = .ok (.iadd, 1) := by decide +kernel
theorem dL_law_400 : decode cL_law 400 = .ok (.iaload, 1) := by decide +kernel
theorem dL_law_401 : decode cL_law 401 = .ok (.aload_n 0, 1) := by decide +kernel
theorem dL_law_402 : decode cL_law 402 = .ok (.iload_n 3, 1) := by decide +kernel
theorem dL_law_403 : decode cL_law 403 = .ok (.iconst 2, 1) := by decide +kernel
theorem dL_law_404 : decode cL_law 404 = .ok (.iadd, 1) := by decide +kernel
theorem dL_law_405 : decode cL_law 405 = .ok (.iaload, 1) := by decide +kernel
theorem dL_law_406 : decode cL_law 406 = .ok (.invokevirtual 55, 3) := by decide +kernel
theorem dL_law_409 : decode cL_law 409 = .ok (.if_icmp .eq 479, 3) := by decide +kernel
theorem dL_law_412 : decode cL_law 412 = .ok (.iconst 0, 1) := by decide +kernel
theorem dL_law_413 : decode cL_law 413 = .ok (.ireturn, 1) := by decide +kernel
theorem dL_law_414 : decode cL_law 414 = .ok (.aload_n 1, 1) := by decide +kernel
theorem dL_law_415 : decode cL_law 415 = .ok (.invokevirtual 56, 3) := by decide +kernel
theorem dL_law_418 : decode cL_law 418 = .ok (.aload_n 2, 1) := by decide +kernel
theorem dL_law_419 : decode cL_law 419 = .ok (.invokevirtual 59, 3) := by decide +kernel
theorem dL_law_422 : decode cL_law 422 = .ok (.if_icmp .eq 466, 3) := by decide +kernel
theorem dL_law_425 : decode cL_law 425 = .ok (.iconst 0, 1) := by decide +kernel
theorem dL_law_426 : decode cL_law 426 = .ok (.ireturn, 1) := by decide +kernel
theorem dL_law_427 : decode cL_law 427 = .ok (.aload_n 1, 1) := by decide +kernel
theorem dL_law_428 : decode cL_law 428 = .ok (.aload_n 0, 1) := by decide +kernel
theorem dL_law_429 : decode cL_law 429 = .ok (.iload_n 3, 1) := by decide +kernel
theorem dL_law_430 : decode cL_law 430 = .ok (.iconst 1, 1) := by decide +kernel
theorem dL_law_431 : decode cL_law 431 = .ok (.iadd, 1) := by decide +kernel
theorem dL_law_432 : decode cL_law 432 = .ok (.iaload, 1) := by decide +kernel
theorem dL_law_433 : decode cL_law 433 = .ok (.invokevirtual 60, 3) := by decide +kernel
theorem dL_law_436 : decode cL_law 436 = .ok (.aload_n 2, 1) := by decide +kernel
theorem dL_law_437 : decode cL_law 437 = .ok (.aload_n 0, 1) := by decide +kernel
theorem dL_law_438 : decode cL_law 438 = .ok (.iload_n 3, 1) := by decide +kernel
theorem dL_law_439 : decode cL_law 439 = .ok (.iconst 1, 1) := by decide +kernel
theorem dL_law_440 : decode cL_law 440 = .ok (.iadd, 1) := by decide +kernel
theorem dL_law_441 : decode cL_law 441 = .ok (.iaload, 1) := by decide +kernel
theorem dL_law_442 : decode cL_law 442 = .ok (.invokevirtual 63, 3) := by decide +kernel
theorem dL_law_445 : decode cL_law 445 = .ok (.if_icmp .eq 443, 3) := by decide +kernel
theorem dL_law_448 : decode cL_law 448 = .ok (.iconst 0, 1) := by decide +kernel
theorem dL_law_449 : decode cL_law 449 = .ok (.ireturn, 1) := by decide +kernel
theorem dL_law_450 : decode cL_law 450 = .ok (.aload_n 1, 1) := by decide +kernel
theorem dL_law_451 : decode cL_law 451 = .ok (.aload_n 0, 1) := by decide +kernel
theorem dL_law_452 : decode cL_law 452 = .ok (.iload_n 3, 1) := by decide +kernel
theorem dL_law_453 : decode cL_law 453 = .ok (.iconst 1, 1) := by decide +kernel
theorem dL_law_454 : decode cL_law 454 = .ok (.iadd, 1) := by decide +kernel
theorem dL_law_455 : decode cL_law 455 = .ok (.iaload, 1) := by decide +kernel
theorem dL_law_456 : decode cL_law 456 = .ok (.aload_n 0, 1) := by decide +kernel
theorem dL_law_457 : decode cL_law 457 = .ok (.iload_n 3, 1) := by decide +kernel
theorem dL_law_458 : decode cL_law 458 = .ok (.iconst 2, 1) := by decide +kernel
theorem dL_law_459 : decode cL_law 459 = .ok (.iadd, 1) := by decide +kernel
theorem dL_law_460 : decode cL_law 460 = .ok (.iaload, 1) := by decide +kernel
theorem dL_law_461 : decode cL_law 461 = .ok (.invokevirtual 64, 3) := by decide +kernel
theorem dL_law_464 : decode cL_law 464 = .ok (.aload_n 2, 1) := by decide +kernel
theorem dL_law_465 : decode cL_law 465 = .ok (.aload_n 0, 1) := by decide +kernel
theorem dL_law_466 : decode cL_law 466 = .ok (.iload_n 3, 1) := by decide +kernel
theorem dL_law_467 : decode cL_law 467 = .ok (.iconst 1, 1) := by decide +kernel
theorem dL_law_468 : decode cL_law 468 = .ok (.iadd, 1) := by decide +kernel
theorem dL_law_469 : decode cL_law 469 = .ok (.iaload, 1) := by decide +kernel
theorem dL_law_470 : decode cL_law 470 = .ok (.aload_n 0, 1) := by decide +kernel
theorem dL_law_471 : decode cL_law 471 = .ok (.iload_n 3, 1) := by decide +kernel
theorem dL_law_472 : decode cL_law 472 = .ok (.iconst 2, 1) := by decide +kernel
theorem dL_law_473 : decode cL_law 473 = .ok (.iadd, 1) := by decide +kernel
theorem dL_law_474 : decode cL_law 474 = .ok (.iaload, 1) := by decide +kernel
theorem dL_law_475 : decode cL_law 475 = .ok (.invokevirtual 67, 3) := by decide +kernel
theorem dL_law_478 : decode cL_law 478 = .ok (.if_icmp .eq 410, 3) := by decide +kernel
theorem dL_law_481 : decode cL_law 481 = .ok (.iconst 0, 1) := by decide +kernel
theorem dL_law_482 : decode cL_law 482 = .ok (.ireturn, 1) := by decide +kernel
theorem dL_law_483 : decode cL_law 483 = .ok (.aload_n 1, 1) := by decide +kernel
theorem dL_law_484 : decode cL_law 484 = .ok (.aload_n 0, 1) := by decide +kernel
theorem dL_law_485 : decode cL_law 485 = .ok (.iload_n 3, 1) := by decide +kernel
theorem dL_law_486 : decode cL_law 486 = .ok (.iconst 1, 1) := by decide +kernel
theorem dL_law_487 : decode cL_law 487 = .ok (.iadd, 1) := by decide +kernel
theorem dL_law_488 : decode cL_law 488 = .ok (.iaload, 1) := by decide +kernel
theorem dL_law_489 : decode cL_law 489 = .ok (.invokevirtual 68, 3) := by decide +kernel
theorem dL_law_492 : decode cL_law 492 = .ok (.aload_n 2, 1) := by decide +kernel
theorem dL_law_493 : decode cL_law 493 = .ok (.aload_n 0, 1) := by decide +kernel
theorem dL_law_494 : decode cL_law 494 = .ok (.iload_n 3, 1) := by decide +kernel
theorem dL_law_495 : decode cL_law 495 = .ok (.iconst 1, 1) := by decide +kernel
theorem dL_law_496 : decode cL_law 496 = .ok (.iadd, 1) := by decide +kernel
theorem dL_law_497 : decode cL_law 497 = .ok (.iaload, 1) := by decide +kernel
theorem dL_law_498 : decode cL_law 498 = .ok (.invokevirtual 71, 3) := by decide +kernel
theorem dL_law_501 : decode cL_law 501 = .ok (.if_icmp .eq 387, 3) := by decide +kernel
theorem dL_law_504 : decode cL_law 504 = .ok (.iconst 0, 1) := by decide +kernel
theorem dL_law_505 : decode cL_law 505 = .ok (.ireturn, 1) := by decide +kernel
theorem dL_law_506 : decode cL_law 506 = .ok (.aload_n 1, 1) := by decide +kernel
theorem dL_law_507 : decode cL_law 507 = .ok (.aload_n 0, 1) := by decide +kernel
theorem dL_law_508 : decode cL_law 508 = .ok (.iload_n 3, 1) := by decide +kernel
theorem dL_law_509 : decode cL_law 509 = .ok (.iconst 1, 1) := by decide +kernel
theorem dL_law_510 : decode cL_law 510 = .ok (.iadd, 1) := by decide +kernel
theorem dL_law_511 : decode cL_law 511 = .ok (.iaload, 1) := by decide +kernel
theorem dL_law_512 : decode cL_law 512 = .ok (.aload_n 0, 1) := by decide +kernel
theorem dL_law_513 : decode cL_law 513 = .ok (.iload_n 3, 1) := by decide +kernel
theorem dL_law_514 : decode cL_law 514 = .ok (.iconst 2, 1) := by decide +kernel
theorem dL_law_515 : decode cL_law 515 = .ok (.iadd, 1) := by decide +kernel
theorem dL_law_516 : decode cL_law 516 = .ok (.iaload, 1) := by decide +kernel
theorem dL_law_517 : decode cL_law 517 = .ok (.invokevirtual 72, 3) := by decide +kernel
theorem dL_law_520 : decode cL_law 520 = .ok (.aload_n 2, 1) := by decide +kernel
theorem dL_law_521 : decode cL_law 521 = .ok (.aload_n 0, 1) := by decide +kernel
theorem dL_law_522 : decode cL_law 522 = .ok (.iload_n 3, 1) := by decide +kernel
theorem dL_law_523 : decode cL_law 523 = .ok (.iconst 1, 1) := by decide +kernel
theorem dL_law_524 : decode cL_law 524 = .ok (.iadd, 1) := by decide +kernel
theorem dL_law_525 : decode cL_law 525 = .ok (.iaload, 1) := by decide +kernel
theorem dL_law_526 : decode cL_law 526 = .ok (.aload_n 0, 1) := by decide +kernel
theorem dL_law_527 : decode cL_law 527 = .ok (.iload_n 3, 1) := by decide +kernel
theorem dL_law_528 : decode cL_law 528 = .ok (.iconst 2, 1) := by decide +kernel
theorem dL_law_529 : decode cL_law 529 = .ok (.iadd, 1) := by decide +kernel
theorem dL_law_530 : decode cL_law 530 = .ok (.iaload, 1) := by decide +kernel
theorem dL_law_531 : decode cL_law 531 = .ok (.invokevirtual 75, 3) := by decide +kernel
theorem dL_law_534 : decode cL_law 534 = .ok (.if_icmp .eq 354, 3) := by decide +kernel
theorem dL_law_537 : decode cL_law 537 = .ok (.iconst 0, 1) := by decide +kernel
theorem dL_law_538 : decode cL_law 538 = .ok (.ireturn, 1) := by decide +kernel
theorem dL_law_539 : decode cL_law 539 = .ok (.aload_n 1, 1) := by decide +kernel
theorem dL_law_540 : decode cL_law 540 = .ok (.aload_n 0, 1) := by decide +kernel
theorem dL_law_541 : decode cL_law 541 = .ok (.iload_n 3, 1) := by decide +kernel
theorem dL_law_542 : decode cL_law 542 = .ok (.iconst 1, 1) := by decide +kernel
theorem dL_law_543 : decode cL_law 543 = .ok (.iadd, 1) := by decide +kernel
theorem dL_law_544 : decode cL_law 544 = .ok (.iaload, 1) := by decide +kernel
theorem dL_law_545 : decode cL_law 545 = .ok (.aload_n 0, 1) := by decide +kernel
theorem dL_law_546 : decode cL_law 546 = .ok (.iload_n 3, 1) := by decide +kernel
theorem dL_law_547 : decode cL_law 547 = .ok (.iconst 2, 1) := by decide +kernel
theorem dL_law_548 : decode cL_law 548 = .ok (.iadd, 1) := by decide +kernel
theorem dL_law_549 : decode cL_law 549 = .ok (.iaload, 1) := by decide +kernel
theorem dL_law_550 : decode cL_law 550 = .ok (.invokevirtual 76, 3) := by decide +kernel
theorem dL_law_553 : decode cL_law 553 = .ok (.aload_n 2, 1) := by decide +kernel
theorem dL_law_554 : decode cL_law 554 = .ok (.aload_n 0, 1) := by decide +kernel
theorem dL_law_555 : decode cL_law 555 = .ok (.iload_n 3, 1) := by decide +kernel
theorem dL_law_556 : decode cL_law 556 = .ok (.iconst 1, 1) := by decide +kernel
theorem dL_law_557 : decode cL_law 557 = .ok (.iadd, 1) := by decide +kernel
theorem dL_law_558 : decode cL_law 558 = .ok (.iaload, 1) := by decide +kernel
theorem dL_law_559 : decode cL_law 559 = .ok (.aload_n 0, 1) := by decide +kernel
theorem dL_law_560 : decode cL_law 560 = .ok (.iload_n 3, 1) := by decide +kernel
theorem dL_law_561 : decode cL_law 561 = .ok (.iconst 2, 1) := by decide +kernel
theorem dL_law_562 : decode cL_law 562 = .ok (.iadd, 1) := by decide +kernel
theorem dL_law_563 : decode cL_law 563 = .ok (.iaload, 1) := by decide +kernel
theorem dL_law_564 : decode cL_law 564 = .ok (.invokevirtual 79, 3) := by decide +kernel
theorem dL_law_567 : decode cL_law 567 = .ok (.if_icmp .eq 321, 3) := by decide +kernel
theorem dL_law_570 : decode cL_law 570 = .ok (.iconst 0, 1) := by decide +kernel
theorem dL_law_571 : decode cL_law 571 = .ok (.ireturn, 1) := by decide +kernel
theorem dL_law_572 : decode cL_law 572 = .ok (.aload_n 1, 1) := by decide +kernel
theorem dL_law_573 : decode cL_law 573 = .ok (.aload_n 0, 1) := by decide +kernel
theorem dL_law_574 : decode cL_law 574 = .ok (.iload_n 3, 1) := by decide +kernel
theorem dL_law_575 : decode cL_law 575 = .ok (.iconst 1, 1) := by decide +kernel
theorem dL_law_576 : decode cL_law 576 = .ok (.iadd, 1) := by decide +kernel
theorem dL_law_577 : decode cL_law 577 = .ok (.iaload, 1) := by decide +kernel
theorem dL_law_578 : decode cL_law 578 = .ok (.invokevirtual 80, 3) := by decide +kernel
theorem dL_law_581 : decode cL_law 581 = .ok (.aload_n 2, 1) := by decide +kernel
theorem dL_law_582 : decode cL_law 582 = .ok (.aload_n 0, 1) := by decide +kernel
theorem dL_law_583 : decode cL_law 583 = .ok (.iload_n 3, 1) := by decide +kernel
theorem dL_law_584 : decode cL_law 584 = .ok (.iconst 1, 1) := by decide +kernel
theorem dL_law_585 : decode cL_law 585 = .ok (.iadd, 1) := by decide +kernel
theorem dL_law_586 : decode cL_law 586 = .ok (.iaload, 1) := by decide +kernel
theorem dL_law_587 : decode cL_law 587 = .ok (.invokevirtual 83, 3) := by decide +kernel
theorem dL_law_590 : decode cL_law 590 = .ok (.if_icmp .eq 298, 3) := by decide +kernel
theorem dL_law_593 : decode cL_law 593 = .ok (.iconst 0, 1) := by decide +kernel
theorem dL_law_594 : decode cL_law 594 = .ok (.ireturn, 1) := by decide +kernel
theorem dL_law_595 : decode cL_law 595 = .ok (.aload_n 1, 1) := by decide +kernel
theorem dL_law_596 : decode cL_law 596 = .ok (.aload_n 0, 1) := by decide +kernel
theorem dL_law_597 : decode cL_law 597 = .ok (.iload_n 3, 1) := by decide +kernel
theorem dL_law_598 : decode cL_law 598 = .ok (.iconst 1, 1) := by decide +kernel
theorem dL_law_599 : decode cL_law 599 = .ok (.iadd, 1) := by decide +kernel
theorem dL_law_600 : decode cL_law 600 = .ok (.iaload, 1) := by decide +kernel
theorem dL_law_601 : decode cL_law 601 = .ok (.invokevirtual 84, 3) := by decide +kernel
theorem dL_law_604 : decode cL_law 604 = .ok (.aload_n 2, 1) := by decide +kernel
theorem dL_law_605 : decode cL_law 605 = .ok (.aload_n 0, 1) := by decide +kernel
theorem dL_law_606 : decode cL_law 606 = .ok (.iload_n 3, 1) := by decide +kernel
theorem dL_law_607 : decode cL_law 607 = .ok (.iconst 1, 1) := by decide +kernel
theorem dL_law_608 : decode cL_law 608 = .ok (.iadd, 1) := by decide +kernel
theorem dL_law_609 : decode cL_law 609 = .ok (.iaload, 1) := by decide +kernel
theorem dL_law_610 : decode cL_law 610 = .ok (.invokevirtual 87, 3) := by decide +kernel
theorem dL_law_613 : decode cL_law 613 = .ok (.if_icmp .eq 275, 3) := by decide +kernel
theorem dL_law_616 : decode cL_law 616 = .ok (.iconst 0, 1) := by decide +kernel
theorem dL_law_617 : decode cL_law 617 = .ok (.ireturn, 1) := by decide +kernel
theorem dL_law_618 : decode cL_law 618 = .ok (.aload_n 1, 1) := by decide +kernel
theorem dL_law_619 : decode cL_law 619 = .ok (.aload_n 0, 1) := by decide +kernel
theorem dL_law_620 : decode cL_law 620 = .ok (.iload_n 3, 1) := by decide +kernel
theorem dL_law_621 : decode cL_law 621 = .ok (.iconst 1, 1) := by decide +kernel
theorem dL_law_622 : decode cL_law 622 = .ok (.iadd, 1) := by decide +kernel
theorem dL_law_623 : decode cL_law 623 = .ok (.iaload, 1) := by decide +kernel
theorem dL_law_624 : decode cL_law 624 = .ok (.invokevirtual 88, 3) := by decide +kernel
theorem dL_law_627 : decode cL_law 627 = .ok (.aload_n 2, 1) := by decide +kernel
theorem dL_law_628 : decode cL_law 628 = .ok (.aload_n 0, 1) := by decide +kernel
theorem dL_law_629 : decode cL_law 629 = .ok (.iload_n 3, 1) := by decide +kernel
theorem dL_law_630 : decode cL_law 630 = .ok (.iconst 1, 1) := by decide +kernel
theorem dL_law_631 : decode cL_law 631 = .ok (.iadd, 1) := by decide +kernel
theorem dL_law_632 : decode cL_law 632 = .ok (.iaload, 1) := by decide +kernel
theorem dL_law_633 : decode cL_law 633 = .ok (.invokevirtual 91, 3) := by decide +kernel
theorem dL_law_636 : decode cL_law 636 = .ok (.if_icmp .eq 252, 3) := by decide +kernel
theorem dL_law_639 : decode cL_law 639 = .ok (.iconst 0, 1) := by decide +kernel
theorem dL_law_640 : decode cL_law 640 = .ok (.ireturn, 1) := by decide +kernel
theorem dL_law_641 : decode cL_law 641 = .ok (.aload_n 1, 1) := by decide +kernel
theorem dL_law_642 : decode cL_law 642 = .ok (.aload_n 0, 1) := by decide +kernel
theorem dL_law_643 : decode cL_law 643 = .ok (.iload_n 3, 1) := by decide +kernel
theorem dL_law_644 : decode cL_law 644 = .ok (.iconst 1, 1) := by decide +kernel
theorem dL_law_645 : decode cL_law 645 = .ok (.iadd, 1) := by decide +kernel
theorem dL_law_646 : decode cL_law 646 = .ok (.iaload, 1) := by decide +kernel
theorem dL_law_647 : decode cL_law 647 = .ok (.aload_n 0, 1) := by decide +kernel
theorem dL_law_648 : decode cL_law 648 = .ok (.iload_n 3, 1) := by decide +kernel
theorem dL_law_649 : decode cL_law 649 = .ok (.iconst 2, 1) := by decide +kernel
theorem dL_law_650 : decode cL_law 650 = .ok (.iadd, 1) := by decide +kernel
theorem dL_law_651 : decode cL_law 651 = .ok (.iaload, 1) := by decide +kernel
theorem dL_law_652 : decode cL_law 652 = .ok (.aload_n 0, 1) := by decide +kernel
theorem dL_law_653 : decode cL_law 653 = .ok (.iload_n 3, 1) := by decide +kernel
theorem dL_law_654 : decode cL_law 654 = .ok (.iconst 3, 1) := by decide +kernel
theorem dL_law_655 : decode cL_law 655 = .ok (.iadd, 1) := by decide +kernel
theorem dL_law_656 : decode cL_law 656 = .ok (.iaload, 1) := by decide +kernel
theorem dL_law_657 : decode cL_law 657 = .ok (.invokevirtual 92, 3) := by decide +kernel
theorem dL_law_660 : decode cL_law 660 = .ok (.aload_n 2, 1) := by decide +kernel
theorem dL_law_661 : decode cL_law 661 = .ok (.aload_n 0, 1) := by decide +kernel
theorem dL_law_662 : decode cL_law 662 = .ok (.iload_n 3, 1) := by decide +kernel
theorem dL_law_663 : decode cL_law 663 = .ok (.iconst 1, 1) := by decide +kernel
theorem dL_law_664 : decode cL_law 664 = .ok (.iadd, 1) := by decide +kernel
theorem dL_law_665 : decode cL_law 665 = .ok (.iaload, 1) := by decide +kernel
theorem dL_law_666 : decode cL_law 666 = .ok (.aload_n 0, 1) := by decide +kernel
theorem dL_law_667 : decode cL_law 667 = .ok (.iload_n 3, 1) := by decide +kernel
theorem dL_law_668 : decode cL_law 668 = .ok (.iconst 2, 1) := by decide +kernel
theorem dL_law_669 : decode cL_law 669 = .ok (.iadd, 1) := by decide +kernel
theorem dL_law_670 : decode cL_law 670 = .ok (.iaload, 1) := by decide +kernel
theorem dL_law_671 : decode cL_law 671 = .ok (.aload_n 0, 1) := by decide +kernel
theorem dL_law_672 : decode cL_law 672 = .ok (.iload_n 3, 1) := by decide +kernel
theorem dL_law_673 : decode cL_law 673 = .ok (.iconst 3, 1) := by decide +kernel
theorem dL_law_674 : decode cL_law 674 = .ok (.iadd, 1) := by decide +kernel
theorem dL_law_675 : decode cL_law 675 = .ok (.iaload, 1) := by decide +kernel
theorem dL_law_676 : decode cL_law 676 = .ok (.invokevirtual 96, 3) := by decide +kernel
theorem dL_law_679 : decode cL_law 679 = .ok (.if_icmp .eq 209, 3) := by decide +kernel
theorem dL_law_682 : decode cL_law 682 = .ok (.iconst 0, 1) := by decide +kernel
theorem dL_law_683 : decode cL_law 683 = .ok (.ireturn, 1) := by decide +kernel
theorem dL_law_684 : decode cL_law 684 = .ok (.aload_n 1, 1) := by decide +kernel
theorem dL_law_685 : decode cL_law 685 = .ok (.aload_n 0, 1) := by decide +kernel
theorem dL_law_686 : decode cL_law 686 = .ok (.iload_n 3, 1) := by decide +kernel
theorem dL_law_687 : decode cL_law 687 = .ok (.iconst 1, 1) := by decide +kernel
theorem dL_law_688 : decode cL_law 688 = .ok (.iadd, 1) := by decide +kernel
theorem dL_law_689 : decode cL_law 689 = .ok (.iaload, 1) := by decide +kernel
theorem dL_law_690 : decode cL_law 690 = .ok (.aload_n 0, 1) := by decide +kernel
theorem dL_law_691 : decode cL_law 691 = .ok (.iload_n 3, 1) := by decide +kernel
theorem dL_law_692 : decode cL_law 692 = .ok (.iconst 2, 1) := by decide +kernel
theorem dL_law_693 : decode cL_law 693 = .ok (.iadd, 1) := by decide +kernel
theorem dL_law_694 : decode cL_law 694 = .ok (.iaload, 1) := by decide +kernel
theorem dL_law_695 : decode cL_law 695 = .ok (.aload_n 0, 1) := by decide +kernel
theorem dL_law_696 : decode cL_law 696 = .ok (.iload_n 3, 1) := by decide +kernel
theorem dL_law_697 : decode cL_law 697 = .ok (.iconst 3, 1) := by decide +kernel
theorem dL_law_698 : decode cL_law 698 = .ok (.iadd, 1) := by decide +kernel
theorem dL_law_699 : decode cL_law 699 = .ok (.iaload, 1) := by decide +kernel
theorem dL_law_700 : decode cL_law 700 = .ok (.ifCond .eq 7, 3) := by decide +kernel
theorem dL_law_703 : decode cL_law 703 = .ok (.iconst 1, 1) := by decide +kernel
theorem dL_law_704 : decode cL_law 704 = .ok (.goto 4, 3) := by decide +kernel
theorem dL_law_707 : decode cL_law 707 = .ok (.iconst 0, 1) := by decide +kernel
theorem dL_law_708 : decode cL_law 708 = .ok (.invokevirtual 97, 3) := by decide +kernel
theorem dL_law_711 : decode cL_law 711 = .ok (.aload_n 2, 1) := by decide +kernel
theorem dL_law_712 : decode cL_law 712 = .ok (.aload_n 0, 1) := by decide +kernel
theorem dL_law_713 : decode cL_law 713 = .ok (.iload_n 3, 1) := by decide +kernel
theorem dL_law_714 : decode cL_law 714 = .ok (.iconst 1, 1) := by decide +kernel
theorem dL_law_715 : decode cL_law 715 = .ok (.iadd, 1) := by decide +kernel
theorem dL_law_716 : decode cL_law 716 = .ok (.iaload, 1) := by decide +kernel
theorem dL_law_717 : decode cL_law 717 = .ok (.aload_n 0, 1) := by decide +kernel
theorem dL_law_718 : decode cL_law 718 = .ok (.iload_n 3, 1) := by decide +kernel
theorem dL_law_719 : decode cL_law 719 = .ok (.iconst 2, 1) := by decide +kernel
theorem dL_law_720 : decode cL_law 720 = .ok (.iadd, 1) := by decide +kernel
theorem dL_law_721 : decode cL_law 721 = .ok (.iaload, 1) := by decide +kernel
theorem dL_law_722 : decode cL_law 722 = .ok (.aload_n 0, 1) := by decide +kernel
theorem dL_law_723 : decode cL_law 723 = .ok (.iload_n 3, 1) := by decide +kernel
theorem dL_law_724 : decode cL_law 724 = .ok (.iconst 3, 1) := by decide +kernel
theorem dL_law_725 : decode cL_law 725 = .ok (.iadd, 1) := by decide +kernel
theorem dL_law_726 : decode cL_law 726 = .ok (.iaload, 1) := by decide +kernel
theorem dL_law_727 : decode cL_law 727 = .ok (.ifCond .eq 7, 3) := by decide +kernel
theorem dL_law_730 : decode cL_law 730 = .ok (.iconst 1, 1) := by decide +kernel
theorem dL_law_731 : decode cL_law 731 = .ok (.goto 4, 3) := by decide +kernel
theorem dL_law_734 : decode cL_law 734 = .ok (.iconst 0, 1) := by decide +kernel
theorem dL_law_735 : decode cL_law 735 = .ok (.invokevirtual 101, 3) := by decide +kernel
theorem dL_law_738 : decode cL_law 738 = .ok (.if_icmp .eq 150, 3) := by decide +kernel
theorem dL_law_741 : decode cL_law 741 = .ok (.iconst 0, 1) := by decide +kernel
theorem dL_law_742 : decode cL_law 742 = .ok (.ireturn, 1) := by decide +kernel
theorem dL_law_743 : decode cL_law 743 = .ok (.aload_n 1, 1) := by decide +kernel
theorem dL_law_744 : decode cL_law 744 = .ok (.invokevirtual 102, 3) := by decide +kernel
theorem dL_law_747 : decode cL_law 747 = .ok (.aload_n 2, 1) := by decide +kernel
theorem dL_law_748 : decode cL_law 748 = .ok (.invokevirtual 105, 3) := by decide +kernel
theorem dL_law_751 : decode cL_law 751 = .ok (.if_icmp .eq 137, 3) := by decide +kernel
theorem dL_law_754 : decode cL_law 754 = .ok (.iconst 0, 1) := by decide +kernel
theorem dL_law_755 : decode cL_law 755 = .ok (.ireturn, 1) := by decide +kernel
theorem dL_law_756 : decode cL_law 756 = .ok (.aload_n 1, 1) := by decide +kernel
theorem dL_law_757 : decode cL_law 757 = .ok (.invokevirtual 106, 3) := by decide +kernel
theorem dL_law_760 : decode cL_law 760 = .ok (.aload_n 2, 1) := by decide +kernel
theorem dL_law_761 : decode cL_law 761 = .ok (.invokevirtual 109, 3) := by decide +kernel
theorem dL_law_764 : decode cL_law 764 = .ok (.if_icmp .eq 124, 3) := by decide +kernel
theorem dL_law_767 : decode cL_law 767 = .ok (.iconst 0, 1) := by decide +kernel
theorem dL_law_768 : decode cL_law 768 = .ok (.ireturn, 1) := by decide +kernel
theorem dL_law_769 : decode cL_law 769 = .ok (.aload_n 1, 1) := by decide +kernel
theorem dL_law_770 : decode cL_law 770 = .ok (.invokevirtual 110, 3) := by decide +kernel
theorem dL_law_773 : decode cL_law 773 = .ok (.aload_n 2, 1) := by decide +kernel
theorem dL_law_774 : decode cL_law 774 = .ok (.invokevirtual 113, 3) := by decide +kernel
theorem dL_law_777 : decode cL_law 777 = .ok (.if_icmp .eq 111, 3) := by decide +kernel
theorem dL_law_780 : decode cL_law 780 = .ok (.iconst 0, 1) := by decide +kernel
theorem dL_law_781 : decode cL_law 781 = .ok (.ireturn, 1) := by decide +kernel
theorem dL_law_782 : decode cL_law 782 = .ok (.aload_n 1, 1) := by decide +kernel
theorem dL_law_783 : decode cL_law 783 = .ok (.aload_n 0, 1) := by decide +kernel
theorem dL_law_784 : decode cL_law 784 = .ok (.iload_n 3, 1) := by decide +kernel
theorem dL_law_785 : decode cL_law 785 = .ok (.iconst 1, 1) := by decide +kernel
theorem dL_law_786 : decode cL_law 786 = .ok (.iadd, 1) := by decide +kernel
theorem dL_law_787 : decode cL_law 787 = .ok (.iaload, 1) := by decide +kernel
theorem dL_law_788 : decode cL_law 788 = .ok (.aload_n 0, 1) := by decide +kernel
theorem dL_law_789 : decode cL_law 789 = .ok (.iload_n 3, 1) := by decide +kernel
theorem dL_law_790 : decode cL_law 790 = .ok (.iconst 2, 1) := by decide +kernel
theorem dL_law_791 : decode cL_law 791 = .ok (.iadd, 1) := by decide +kernel
theorem dL_law_792 : decode cL_law 792 = .ok (.iaload, 1) := by decide +kernel
theorem dL_law_793 : decode cL_law 793 = .ok (.aload_n 0, 1) := by decide +kernel
theorem dL_law_794 : decode cL_law 794 = .ok (.iload_n 3, 1) := by decide +kernel
theorem dL_law_795 : decode cL_law 795 = .ok (.iconst 3, 1) := by decide +kernel
theorem dL_law_796 : decode cL_law 796 = .ok (.iadd, 1) := by decide +kernel
theorem dL_law_797 : decode cL_law 797 = .ok (.iaload, 1) := by decide +kernel
theorem dL_law_798 : decode cL_law 798 = .ok (.invokevirtual 114, 3) := by decide +kernel
theorem dL_law_801 : decode cL_law 801 = .ok (.aload_n 2, 1) := by decide +kernel
theorem dL_law_802 : decode cL_law 802 = .ok (.aload_n 0, 1) := by decide +kernel
theorem dL_law_803 : decode cL_law 803 = .ok (.iload_n 3, 1) := by decide +kernel
theorem dL_law_804 : decode cL_law 804 = .ok (.iconst 1, 1) := by decide +kernel
theorem dL_law_805 : decode cL_law 805 = .ok (.iadd, 1) := by decide +kernel
theorem dL_law_806 : decode cL_law 806 = .ok (.iaload, 1) := by decide +kernel
theorem dL_law_807 : decode cL_law 807 = .ok (.aload_n 0, 1) := by decide +kernel
theorem dL_law_808 : decode cL_law 808 = .ok (.iload_n 3, 1) := by decide +kernel
theorem dL_law_809 : decode cL_law 809 = .ok (.iconst 2, 1) := by decide +kernel
theorem dL_law_810 : decode cL_law 810 = .ok (.iadd, 1) := by decide +kernel
theorem dL_law_811 : decode cL_law 811 = .ok (.iaload, 1) := by decide +kernel
theorem dL_law_812 : decode cL_law 812 = .ok (.aload_n 0, 1) := by decide +kernel
theorem dL_law_813 : decode cL_law 813 = .ok (.iload_n 3, 1) := by decide +kernel
theorem dL_law_814 : decode cL_law 814 = .ok (.iconst 3, 1) := by decide +kernel
theorem dL_law_815 : decode cL_law 815 = .ok (.iadd, 1) := by decide +kernel
theorem dL_law_816 : decode cL_law 816 = .ok (.iaload, 1) := by decide +kernel
theorem dL_law_817 : decode cL_law 817 = .ok (.invokevirtual 117, 3) := by decide +kernel
theorem dL_law_820 : decode cL_law 820 = .ok (.if_icmp .eq 68, 3) := by decide +kernel
theorem dL_law_823 : decode cL_law 823 = .ok (.iconst 0, 1) := by decide +kernel
theorem dL_law_824 : decode cL_law 824 = .ok (.ireturn, 1) := by decide +kernel
theorem dL_law_825 : decode cL_law 825 = .ok (.aload_n 1, 1) := by decide +kernel
theorem dL_law_826 : decode cL_law 826 = .ok (.invokevirtual 118, 3) := by decide +kernel
theorem dL_law_829 : decode cL_law 829 = .ok (.aload_n 2, 1) := by decide +kernel
theorem dL_law_830 : decode cL_law 830 = .ok (.invokevirtual 121, 3) := by decide +kernel
theorem dL_law_833 : decode cL_law 833 = .ok (.if_icmp .eq 55, 3) := by decide +kernel
theorem dL_law_836 : decode cL_law 836 = .ok (.iconst 0, 1) := by decide +kernel
theorem dL_law_837 : decode cL_law 837 = .ok (.ireturn, 1) := by decide +kernel
theorem dL_law_838 : decode cL_law 838 = .ok (.aload_n 1, 1) := by decide +kernel
theorem dL_law_839 : decode cL_law 839 = .ok (.invokevirtual 122, 3) := by decide +kernel
theorem dL_law_842 : decode cL_law 842 = .ok (.aload_n 2, 1) := by decide +kernel
theorem dL_law_843 : decode cL_law 843 = .ok (.invokevirtual 125, 3) := by decide +kernel
theorem dL_law_846 : decode cL_law 846 = .ok (.if_icmp .eq 42, 3) := by decide +kernel
theorem dL_law_849 : decode cL_law 849 = .ok (.iconst 0, 1) := by decide +kernel
theorem dL_law_850 : decode cL_law 850 = .ok (.ireturn, 1) := by decide +kernel
theorem dL_law_851 : decode cL_law 851 = .ok (.aload_n 1, 1) := by decide +kernel
theorem dL_law_852 : decode cL_law 852 = .ok (.aload_n 0, 1) := by decide +kernel
theorem dL_law_853 : decode cL_law 853 = .ok (.iload_n 3, 1) := by decide +kernel
theorem dL_law_854 : decode cL_law 854 = .ok (.iconst 1, 1) := by decide +kernel
theorem dL_law_855 : decode cL_law 855 = .ok (.iadd, 1) := by decide +kernel
theorem dL_law_856 : decode cL_law 856 = .ok (.iaload, 1) := by decide +kernel
theorem dL_law_857 : decode cL_law 857 = .ok (.invokevirtual 126, 3) := by decide +kernel
theorem dL_law_860 : decode cL_law 860 = .ok (.aload_n 2, 1) := by decide +kernel
theorem dL_law_861 : decode cL_law 861 = .ok (.aload_n 0, 1) := by decide +kernel
theorem dL_law_862 : decode cL_law 862 = .ok (.iload_n 3, 1) := by decide +kernel
theorem dL_law_863 : decode cL_law 863 = .ok (.iconst 1, 1) := by decide +kernel
theorem dL_law_864 : decode cL_law 864 = .ok (.iadd, 1) := by decide +kernel
theorem dL_law_865 : decode cL_law 865 = .ok (.iaload, 1) := by decide +kernel
theorem dL_law_866 : decode cL_law 866 = .ok (.invokevirtual 129, 3) := by decide +kernel
theorem dL_law_869 : decode cL_law 869 = .ok (.if_icmp .eq 19, 3) := by decide +kernel
theorem dL_law_872 : decode cL_law 872 = .ok (.iconst 0, 1) := by decide +kernel
theorem dL_law_873 : decode cL_law 873 = .ok (.ireturn, 1) := by decide +kernel
theorem dL_law_874 : decode cL_law 874 = .ok (.aload_n 1, 1) := by decide +kernel
theorem dL_law_875 : decode cL_law 875 = .ok (.invokevirtual 130, 3) := by decide +kernel
theorem dL_law_878 : decode cL_law 878 = .ok (.aload_n 2, 1) := by decide +kernel
theorem dL_law_879 : decode cL_law 879 = .ok (.invokevirtual 134, 3) := by decide +kernel
theorem dL_law_882 : decode cL_law 882 = .ok (.lcmp, 1) := by decide +kernel
theorem dL_law_883 : decode cL_law 883 = .ok (.ifCond .eq 5, 3) := by decide +kernel
theorem dL_law_886 : decode cL_law 886 = .ok (.iconst 0, 1) := by decide +kernel
theorem dL_law_887 : decode cL_law 887 = .ok (.ireturn, 1) := by decide +kernel
theorem dL_law_888 : decode cL_law 888 = .ok (.iinc 3 4, 3) := by decide +kernel
theorem dL_law_891 : decode cL_law 891 = .ok (.goto (-873), 3) := by decide +kernel
theorem dL_law_894 : decode cL_law 894 = .ok (.iconst 1, 1) := by decide +kernel
theorem dL_law_895 : decode cL_law 895 = .ok (.ireturn, 1) := by decide +kernel
end
section
theorem hdX0_init : yX0_init.cls = RX0 ∧ yX0_init.cls ≠ "java/lang/invoke/MethodHandle" ∧ yX0_init.cls ≠ "java/lang/invoke/VarHandle" ∧ (parseMethodDescriptor yX0_init.desc).map (fun d => d.parameters.length) = some 0 := by decide +kernel
theorem hdX0_foldAll : yX0_foldAll.cls = RX0 ∧ yX0_foldAll.cls ≠ "java/lang/invoke/MethodHandle" ∧ yX0_foldAll.cls ≠ "java/lang/invoke/VarHandle" ∧ (parseMethodDescriptor yX0_foldAll.desc).map (fun d => d.parameters.length) = some 1 := by decide +kernel
theorem hdX0_leafAt : yX0_leafAt.cls = RX0 ∧ yX0_leafAt.cls ≠ "java/lang/invoke/MethodHandle" ∧ yX0_leafAt.cls ≠ "java/lang/invoke/VarHandle" ∧ (parseMethodDescriptor yX0_leafAt.desc).map (fun d => d.parameters.length) = some 2 := by decide +kernel
theorem hdX0_placeOf : yX0_placeOf.cls = RX0 ∧ yX0_placeOf.cls ≠ "java/lang/invoke/MethodHandle" ∧ yX0_placeOf.cls ≠ "java/lang/invoke/VarHandle" ∧ (parseMethodDescriptor yX0_placeOf.desc).map (fun d => d.parameters.length) = some 2 := by decide +kernel
theorem hdX0_afterMove : yX0_afterMove.cls = RX0 ∧ yX0_afterMove.cls ≠ "java/lang/invoke/MethodHandle" ∧ yX0_afterMove.cls ≠ "java/lang/invoke/VarHandle" ∧ (parseMethodDescriptor yX0_afterMove.desc).map (fun d => d.parameters.length) = some 3 := by decide +kernel
theorem hdX0_afterTurn : yX0_afterTurn.cls = RX0 ∧ yX0_afterTurn.cls ≠ "java/lang/invoke/MethodHandle" ∧ yX0_afterTurn.cls ≠ "java/lang/invoke/VarHandle" ∧ (parseMethodDescriptor yX0_afterTurn.desc).map (fun d => d.parameters.length) = some 1 := by decide +kernel
theorem hdX0_addBelow : yX0_addBelow.cls = RX0 ∧ yX0_addBelow.cls ≠ "java/lang/invoke/MethodHandle" ∧ yX0_addBelow.cls ≠ "java/lang/invoke/VarHandle" ∧ (parseMethodDescriptor yX0_addBelow.desc).map (fun d => d.parameters.length) = some 3 := by decide +kernel
theorem hdX0_canComeNext : yX0_canComeNext.cls = RX0 ∧ yX0_canComeNext.cls ≠ "java/lang/invoke/MethodHandle" ∧ yX0_canComeNext.cls ≠ "java/lang/invoke/VarHandle" ∧ (parseMethodDescriptor yX0_canComeNext.desc).map (fun d => d.parameters.length) = some 1 := by decide +kernel
theorem hdX0_keep : yX0_keep.cls = RX0 ∧ yX0_keep.cls ≠ "java/lang/invoke/MethodHandle" ∧ yX0_keep.cls ≠ "java/lang/invoke/VarHandle" ∧ (parseMethodDescriptor yX0_keep.desc).map (fun d => d.parameters.length) = some 1 := by decide +kernel
theorem hdX0_crossesAbove : yX0_crossesAbove.cls = RX0 ∧ yX0_crossesAbove.cls ≠ "java/lang/invoke/MethodHandle" ∧ yX0_crossesAbove.cls ≠ "java/lang/invoke/VarHandle" ∧ (parseMethodDescriptor yX0_crossesAbove.desc).map (fun d => d.parameters.length) = some 2 := by decide +kernel
theorem hdX0_mateOf : yX0_mateOf.cls = RX0 ∧ yX0_mateOf.cls ≠ "java/lang/invoke/MethodHandle" ∧ yX0_mateOf.cls ≠ "java/lang/invoke/VarHandle" ∧ (parseMethodDescriptor yX0_mateOf.desc).map (fun d => d.parameters.length) = some 2 := by decide +kernel
theorem hdX0_find : yX0_find.cls = RX0 ∧ yX0_find.cls ≠ "java/lang/invoke/MethodHandle" ∧ yX0_find.cls ≠ "java/lang/invoke/VarHandle" ∧ (parseMethodDescriptor yX0_find.desc).map (fun d => d.parameters.length) = some 1 := by decide +kernel
theorem hdX0_shiftOf : yX0_shiftOf.cls = RX0 ∧ yX0_shiftOf.cls ≠ "java/lang/invoke/MethodHandle" ∧ yX0_shiftOf.cls ≠ "java/lang/invoke/VarHandle" ∧ (parseMethodDescriptor yX0_shiftOf.desc).map (fun d => d.parameters.length) = some 1 := by decide +kernel
theorem hdX0_leafIn : yX0_leafIn.cls = RX0 ∧ yX0_leafIn.cls ≠ "java/lang/invoke/MethodHandle" ∧ yX0_leafIn.cls ≠ "java/lang/invoke/VarHandle" ∧ (parseMethodDescriptor yX0_leafIn.desc).map (fun d => d.parameters.length) = some 2 := by decide +kernel
theorem hdX0_takeOut : yX0_takeOut.cls = RX0 ∧ yX0_takeOut.cls ≠ "java/lang/invoke/MethodHandle" ∧ yX0_takeOut.cls ≠ "java/lang/invoke/VarHandle" ∧ (parseMethodDescriptor yX0_takeOut.desc).map (fun d => d.parameters.length) = some 2 := by decide +kernel
theorem hdX0_putIn : yX0_putIn.cls = RX0 ∧ yX0_putIn.cls ≠ "java/lang/invoke/MethodHandle" ∧ yX0_putIn.cls ≠ "java/lang/invoke/VarHandle" ∧ (parseMethodDescriptor yX0_putIn.desc).map (fun d => d.parameters.length) = some 3 := by decide +kernel
theorem hdX0_upTo : yX0_upTo.cls = RX0 ∧ yX0_upTo.cls ≠ "java/lang/invoke/MethodHandle" ∧ yX0_upTo.cls ≠ "java/lang/invoke/VarHandle" ∧ (parseMethodDescriptor yX0_upTo.desc).map (fun d => d.parameters.length) = some 2 := by decide +kernel
theorem hdX1_init : yX1_init.cls = RX1 ∧ yX1_init.cls ≠ "java/lang/invoke/MethodHandle" ∧ yX1_init.cls ≠ "java/lang/invoke/VarHandle" ∧ (parseMethodDescriptor yX1_init.desc).map (fun d => d.parameters.length) = some 2 := by decide +kernel
theorem hdX1_countPossible : yX1_countPossible.cls = RX1 ∧ yX1_countPossible.cls ≠ "java/lang/invoke/MethodHandle" ∧ yX1_countPossible.cls ≠ "java/lang/invoke/VarHandle" ∧ (parseMethodDescriptor yX1_countPossible.desc).map (fun d => d.parameters.length) = some 0 := by decide +kernel
theorem hdX1_bestTry : yX1_bestTry.cls = RX1 ∧ yX1_bestTry.cls ≠ "java/lang/invoke/MethodHandle" ∧ yX1_bestTry.cls ≠ "java/lang/invoke/VarHandle" ∧ (parseMethodDescriptor yX1_bestTry.desc).map (fun d => d.parameters.length) = some 0 := by decide +kernel
theorem hdX1_countThrough : yX1_countThrough.cls = RX1 ∧ yX1_countThrough.cls ≠ "java/lang/invoke/MethodHandle" ∧ yX1_countThrough.cls ≠ "java/lang/invoke/VarHandle" ∧ (parseMethodDescriptor yX1_countThrough.desc).map (fun d => d.parameters.length) = some 0 := by decide +kernel
theorem hdX1_isPossible : yX1_isPossible.cls = RX1 ∧ yX1_isPossible.cls ≠ "java/lang/invoke/MethodHandle" ∧ yX1_isPossible.cls ≠ "java/lang/invoke/VarHandle" ∧ (parseMethodDescriptor yX1_isPossible.desc).map (fun d => d.parameters.length) = some 1 := by decide +kernel
theorem hdX1_rowOf : yX1_rowOf.cls = RX1 ∧ yX1_rowOf.cls ≠ "java/lang/invoke/MethodHandle" ∧ yX1_rowOf.cls ≠ "java/lang/invoke/VarHandle" ∧ (parseMethodDescriptor yX1_rowOf.desc).map (fun d => d.parameters.length) = some 1 := by decide +kernel
theorem hdX2_init : yX2_init.cls = RX2 ∧ yX2_init.cls ≠ "java/lang/invoke/MethodHandle" ∧ yX2_init.cls ≠ "java/lang/invoke/VarHandle" ∧ (parseMethodDescriptor yX2_init.desc).map (fun d => d.parameters.length) = some 0 := by decide +kernel
theorem hdX2_add : yX2_add.cls = RX2 ∧ yX2_add.cls ≠ "java/lang/invoke/MethodHandle" ∧ yX2_add.cls ≠ "java/lang/invoke/VarHandle" ∧ (parseMethodDescriptor yX2_add.desc).map (fun d => d.parameters.length) = some 1 := by decide +kernel
theorem hdX2_kindAt : yX2_kindAt.cls = RX2 ∧ yX2_kindAt.cls ≠ "java/lang/invoke/MethodHandle" ∧ yX2_kindAt.cls ≠ "java/lang/invoke/VarHandle" ∧ (parseMethodDescriptor yX2_kindAt.desc).map (fun d => d.parameters.length) = some 1 := by decide +kernel
theorem hdX2_firstWrong : yX2_firstWrong.cls = RX2 ∧ yX2_firstWrong.cls ≠ "java/lang/invoke/MethodHandle" ∧ yX2_firstWrong.cls ≠ "java/lang/invoke/VarHandle" ∧ (parseMethodDescriptor yX2_firstWrong.desc).map (fun d => d.parameters.length) = some 0 := by decide +kernel
theorem hdX3_init : yX3_init.cls = RX3 ∧ yX3_init.cls ≠ "java/lang/invoke/MethodHandle" ∧ yX3_init.cls ≠ "java/lang/invoke/VarHandle" ∧ (parseMethodDescriptor yX3_init.desc).map (fun d => d.parameters.length) = some 1 := by decide +kernel
theorem hdX3_distanceTo : yX3_distanceTo.cls = RX3 ∧ yX3_distanceTo.cls ≠ "java/lang/invoke/MethodHandle" ∧ yX3_distanceTo.cls ≠ "java/lang/invoke/VarHandle" ∧ (parseMethodDescriptor yX3_distanceTo.desc).map (fun d => d.parameters.length) = some 1 := by decide +kernel
theorem hdX3_measureFrom : yX3_measureFrom.cls = RX3 ∧ yX3_measureFrom.cls ≠ "java/lang/invoke/MethodHandle" ∧ yX3_measureFrom.cls ≠ "java/lang/invoke/VarHandle" ∧ (parseMethodDescriptor yX3_measureFrom.desc).map (fun d => d.parameters.length) = some 1 := by decide +kernel
theorem hdX3_spread : yX3_spread.cls = RX3 ∧ yX3_spread.cls ≠ "java/lang/invoke/MethodHandle" ∧ yX3_spread.cls ≠ "java/lang/invoke/VarHandle" ∧ (parseMethodDescriptor yX3_spread.desc).map (fun d => d.parameters.length) = some 2 := by decide +kernel
theorem hdX3_findSteps : yX3_findSteps.cls = RX3 ∧ yX3_findSteps.cls ≠ "java/lang/invoke/MethodHandle" ∧ yX3_findSteps.cls ≠ "java/lang/invoke/VarHandle" ∧ (parseMethodDescriptor yX3_findSteps.desc).map (fun d => d.parameters.length) = some 0 := by decide +kernel
theorem hdX3_findStepsFrom : yX3_findStepsFrom.cls = RX3 ∧ yX3_findStepsFrom.cls ≠ "java/lang/invoke/MethodHandle" ∧ yX3_findStepsFrom.cls ≠ "java/lang/invoke/VarHandle" ∧ (parseMethodDescriptor yX3_findStepsFrom.desc).map (fun d => d.parameters.length) = some 1 := by decide +kernel
theorem hdX3_addStep : yX3_addStep.cls = RX3 ∧ yX3_addStep.cls ≠ "java/lang/invoke/MethodHandle" ∧ yX3_addStep.cls ≠ "java/lang/invoke/VarHandle" ∧ (parseMethodDescriptor yX3_addStep.desc).map (fun d => d.parameters.length) = some 1 := by decide +kernel
theorem hdX4_init : yX4_init.cls = RX4 ∧ yX4_init.cls ≠ "java/lang/invoke/MethodHandle" ∧ yX4_init.cls ≠ "java/lang/invoke/VarHandle" ∧ (parseMethodDescriptor yX4_init.desc).map (fun d => d.parameters.length) = some 0 := by decide +kernel
theorem hdX4_addSeen : yX4_addSeen.cls = RX4 ∧ yX4_addSeen.cls ≠ "java/lang/invoke/MethodHandle" ∧ yX4_addSeen.cls ≠ "java/lang/invoke/VarHandle" ∧ (parseMethodDescriptor yX4_addSeen.desc).map (fun d => d.parameters.length) = some 3 := by decide +kernel
theorem hdX4_copyFrom : yX4_copyFrom.cls = RX4 ∧ yX4_copyFrom.cls ≠ "java/lang/invoke/MethodHandle" ∧ yX4_copyFrom.cls ≠ "java/lang/invoke/VarHandle" ∧ (parseMethodDescriptor yX4_copyFrom.desc).map (fun d => d.parameters.length) = some 1 := by decide +kernel
theorem hdX5_init : yX5_init.cls = RX5 ∧ yX5_init.cls ≠ "java/lang/invoke/MethodHandle" ∧ yX5_init.cls ≠ "java/lang/invoke/VarHandle" ∧ (parseMethodDescriptor yX5_init.desc).map (fun d => d.parameters.length) = some 2 := by decide +kernel
theorem hdX5_judgeAll : yX5_judgeAll.cls = RX5 ∧ yX5_judgeAll.cls ≠ "java/lang/invoke/MethodHandle" ∧ yX5_judgeAll.cls ≠ "java/lang/invoke/VarHandle" ∧ (parseMethodDescriptor yX5_judgeAll.desc).map (fun d => d.parameters.length) = some 0 := by decide +kernel
theorem hdX5_isFit : yX5_isFit.cls = RX5 ∧ yX5_isFit.cls ≠ "java/lang/invoke/MethodHandle" ∧ yX5_isFit.cls ≠ "java/lang/invoke/VarHandle" ∧ (parseMethodDescriptor yX5_isFit.desc).map (fun d => d.parameters.length) = some 1 := by decide +kernel
theorem hdX5_widestOf : yX5_widestOf.cls = RX5 ∧ yX5_widestOf.cls ≠ "java/lang/invoke/MethodHandle" ∧ yX5_widestOf.cls ≠ "java/lang/invoke/VarHandle" ∧ (parseMethodDescriptor yX5_widestOf.desc).map (fun d => d.parameters.length) = some 1 := by decide +kernel
theorem hdX5_trimmest : yX5_trimmest.cls = RX5 ∧ yX5_trimmest.cls ≠ "java/lang/invoke/MethodHandle" ∧ yX5_trimmest.cls ≠ "java/lang/invoke/VarHandle" ∧ (parseMethodDescriptor yX5_trimmest.desc).map (fun d => d.parameters.length) = some 0 := by decide +kernel
theorem hdX5_fitsWithAbove : yX5_fitsWithAbove.cls = RX5 ∧ yX5_fitsWithAbove.cls ≠ "java/lang/invoke/MethodHandle" ∧ yX5_fitsWithAbove.cls ≠ "java/lang/invoke/VarHandle" ∧ (parseMethodDescriptor yX5_fitsWithAbove.desc).map (fun d => d.parameters.length) = some 2 := by decide +kernel
theorem hdX5_isContent : yX5_isContent.cls = RX5 ∧ yX5_isContent.cls ≠ "java/lang/invoke/MethodHandle" ∧ yX5_isContent.cls ≠ "java/lang/invoke/VarHandle" ∧ (parseMethodDescriptor yX5_isContent.desc).map (fun d => d.parameters.length) = some 2 := by decide +kernel
theorem hdX5_width : yX5_width.cls = RX5 ∧ yX5_width.cls ≠ "java/lang/invoke/MethodHandle" ∧ yX5_width.cls ≠ "java/lang/invoke/VarHandle" ∧ (parseMethodDescriptor yX5_width.desc).map (fun d => d.parameters.length) = some 2 := by decide +kernel
theorem hdX5_areAllContent : yX5_areAllContent.cls = RX5 ∧ yX5_areAllContent.cls ≠ "java/lang/invoke/MethodHandle" ∧ yX5_areAllContent.cls ≠ "java/lang/invoke/VarHandle" ∧ (parseMethodDescriptor yX5_areAllContent.desc).map (fun d => d.parameters.length) = some 1 := by decide +kernel
theorem hdX5_widestHinge : yX5_widestHinge.cls = RX5 ∧ yX5_widestHinge.cls ≠ "java/lang/invoke/MethodHandle" ∧ yX5_widestHinge.cls ≠ "java/lang/invoke/VarHandle" ∧ (parseMethodDescriptor yX5_widestHinge.desc).map (fun d => d.parameters.length) = some 1 := by decide +kernel
theorem hdX5_hasWaxAt : yX5_hasWaxAt.cls = RX5 ∧ yX5_hasWaxAt.cls ≠ "java/lang/invoke/MethodHandle" ∧ yX5_hasWaxAt.cls ≠ "java/lang/invoke/VarHandle" ∧ (parseMethodDescriptor yX5_hasWaxAt.desc).map (fun d => d.parameters.length) = some 2 := by decide +kernel
theorem hdX6_init : yX6_init.cls = RX6 ∧ yX6_init.cls ≠ "java/lang/invoke/MethodHandle" ∧ yX6_init.cls ≠ "java/lang/invoke/VarHandle" ∧ (parseMethodDescriptor yX6_init.desc).map (fun d => d.parameters.length) = some 0 := by decide +kernel
theorem hdX6_letter : yX6_letter.cls = RX6 ∧ yX6_letter.cls ≠ "java/lang/invoke/MethodHandle" ∧ yX6_letter.cls ≠ "java/lang/invoke/VarHandle" ∧ (parseMethodDescriptor yX6_letter.desc).map (fun d => d.parameters.length) = some 1 := by decide +kernel
theorem hdX6_blank : yX6_blank.cls = RX6 ∧ yX6_blank.cls ≠ "java/lang/invoke/MethodHandle" ∧ yX6_blank.cls ≠ "java/lang/invoke/VarHandle" ∧ (parseMethodDescriptor yX6_blank.desc).map (fun d => d.parameters.length) = some 0 := by decide +kernel
theorem hdX6_fault : yX6_fault.cls = RX6 ∧ yX6_fault.cls ≠ "java/lang/invoke/MethodHandle" ∧ yX6_fault.cls ≠ "java/lang/invoke/VarHandle" ∧ (parseMethodDescriptor yX6_fault.desc).map (fun d => d.parameters.length) = some 0 := by decide +kernel
theorem hdX6_strip : yX6_strip.cls = RX6 ∧ yX6_strip.cls ≠ "java/lang/invoke/MethodHandle" ∧ yX6_strip.cls ≠ "java/lang/invoke/VarHandle" ∧ (parseMethodDescriptor yX6_strip.desc).map (fun d => d.parameters.length) = some 0 := by decide +kernel
theorem hdX6_leaf : yX6_leaf.cls = RX6 ∧ yX6_leaf.cls ≠ "java/lang/invoke/MethodHandle" ∧ yX6_leaf.cls ≠ "java/lang/invoke/VarHandle" ∧ (parseMethodDescriptor yX6_leaf.desc).map (fun d => d.parameters.length) = some 2 := by decide +kernel
theorem hdX6_as : yX6_as.cls = RX6 ∧ yX6_as.cls ≠ "java/lang/invoke/MethodHandle" ∧ yX6_as.cls ≠ "java/lang/invoke/VarHandle" ∧ (parseMethodDescriptor yX6_as.desc).map (fun d => d.parameters.length) = some 2 := by decide +kernel
theorem hdX6_hinge : yX6_hinge.cls = RX6 ∧ yX6_hinge.cls ≠ "java/lang/invoke/MethodHandle" ∧ yX6_hinge.cls ≠ "java/lang/invoke/VarHandle" ∧ (parseMethodDescriptor yX6_hinge.desc).map (fun d => d.parameters.length) = some 2 := by decide +kernel
theorem hdX6_at : yX6_at.cls = RX6 ∧ yX6_at.cls ≠ "java/lang/invoke/MethodHandle" ∧ yX6_at.cls ≠ "java/lang/invoke/VarHandle" ∧ (parseMethodDescriptor yX6_at.desc).map (fun d => d.parameters.length) = some 1 := by decide +kernel
theorem hdX6_may : yX6_may.cls = RX6 ∧ yX6_may.cls ≠ "java/lang/invoke/MethodHandle" ∧ yX6_may.cls ≠ "java/lang/invoke/VarHandle" ∧ (parseMethodDescriptor yX6_may.desc).map (fun d => d.parameters.length) = some 2 := by decide +kernel
theorem hdX6_move : yX6_move.cls = RX6 ∧ yX6_move.cls ≠ "java/lang/invoke/MethodHandle" ∧ yX6_move.cls ≠ "java/lang/invoke/VarHandle" ∧ (parseMethodDescriptor yX6_move.desc).map (fun d => d.parameters.length) = some 2 := by decide +kernel
theorem hdX6_turn : yX6_turn.cls = RX6 ∧ yX6_turn.cls ≠ "java/lang/invoke/MethodHandle" ∧ yX6_turn.cls ≠ "java/lang/invoke/VarHandle" ∧ (parseMethodDescriptor yX6_turn.desc).map (fun d => d.parameters.length) = some 0 := by decide +kernel
theorem hdX6_lay : yX6_lay.cls = RX6 ∧ yX6_lay.cls ≠ "java/lang/invoke/MethodHandle" ∧ yX6_lay.cls ≠ "java/lang/invoke/VarHandle" ∧ (parseMethodDescriptor yX6_lay.desc).map (fun d => d.parameters.length) = some 1 := by decide +kernel
theorem hdX6_change : yX6_change.cls = RX6 ∧ yX6_change.cls ≠ "java/lang/invoke/MethodHandle" ∧ yX6_change.cls ≠ "java/lang/invoke/VarHandle" ∧ (parseMethodDescriptor yX6_change.desc).map (fun d => d.parameters.length) = some 2 := by decide +kernel
theorem hdX6_orders : yX6_orders.cls = RX6 ∧ yX6_orders.cls ≠ "java/lang/invoke/MethodHandle" ∧ yX6_orders.cls ≠ "java/lang/invoke/VarHandle" ∧ (parseMethodDescriptor yX6_orders.desc).map (fun d => d.parameters.length) = some 1 := by decide +kernel
theorem hdX6_order : yX6_order.cls = RX6 ∧ yX6_order.cls ≠ "java/lang/invoke/MethodHandle" ∧ yX6_order.cls ≠ "java/lang/invoke/VarHandle" ∧ (parseMethodDescriptor yX6_order.desc).map (fun d => d.parameters.length) = some 2 := by decide +kernel
theorem hdX6_tops : yX6_tops.cls = RX6 ∧ yX6_tops.cls ≠ "java/lang/invoke/MethodHandle" ∧ yX6_tops.cls ≠ "java/lang/invoke/VarHandle" ∧ (parseMethodDescriptor yX6_tops.desc).map (fun d => d.parameters.length) = some 2 := by decide +kernel
theorem hdX6_near : yX6_near.cls = RX6 ∧ yX6_near.cls ≠ "java/lang/invoke/MethodHandle" ∧ yX6_near.cls ≠ "java/lang/invoke/VarHandle" ∧ (parseMethodDescriptor yX6_near.desc).map (fun d => d.parameters.length) = some 1 := by decide +kernel
theorem hdX6_far : yX6_far.cls = RX6 ∧ yX6_far.cls ≠ "java/lang/invoke/MethodHandle" ∧ yX6_far.cls ≠ "java/lang/invoke/VarHandle" ∧ (parseMethodDescriptor yX6_far.desc).map (fun d => d.parameters.length) = some 1 := by decide +kernel
theorem hdX6_trim : yX6_trim.cls = RX6 ∧ yX6_trim.cls ≠ "java/lang/invoke/MethodHandle" ∧ yX6_trim.cls ≠ "java/lang/invoke/VarHandle" ∧ (parseMethodDescriptor yX6_trim.desc).map (fun d => d.parameters.length) = some 1 := by decide +kernel
theorem hdX6_odds : yX6_odds.cls = RX6 ∧ yX6_odds.cls ≠ "java/lang/invoke/MethodHandle" ∧ yX6_odds.cls ≠ "java/lang/invoke/VarHandle" ∧ (parseMethodDescriptor yX6_odds.desc).map (fun d => d.parameters.length) = some 3 := by decide +kernel
theorem hdX6_see : yX6_see.cls = RX6 ∧ yX6_see.cls ≠ "java/lang/invoke/MethodHandle" ∧ yX6_see.cls ≠ "java/lang/invoke/VarHandle" ∧ (parseMethodDescriptor yX6_see.desc).map (fun d => d.parameters.length) = some 3 := by decide +kernel
theorem hdX6_forget : yX6_forget.cls = RX6 ∧ yX6_forget.cls ≠ "java/lang/invoke/MethodHandle" ∧ yX6_forget.cls ≠ "java/lang/invoke/VarHandle" ∧ (parseMethodDescriptor yX6_forget.desc).map (fun d => d.parameters.length) = some 0 := by decide +kernel
theorem hdX6_could : yX6_could.cls = RX6 ∧ yX6_could.cls ≠ "java/lang/invoke/MethodHandle" ∧ yX6_could.cls ≠ "java/lang/invoke/VarHandle" ∧ (parseMethodDescriptor yX6_could.desc).map (fun d => d.parameters.length) = some 0 := by decide +kernel
theorem hdX6_trial : yX6_trial.cls = RX6 ∧ yX6_trial.cls ≠ "java/lang/invoke/MethodHandle" ∧ yX6_trial.cls ≠ "java/lang/invoke/VarHandle" ∧ (parseMethodDescriptor yX6_trial.desc).map (fun d => d.parameters.length) = some 0 := by decide +kernel
theorem hdX6_shuffles : yX6_shuffles.cls = RX6 ∧ yX6_shuffles.cls ≠ "java/lang/invoke/MethodHandle" ∧ yX6_shuffles.cls ≠ "java/lang/invoke/VarHandle" ∧ (parseMethodDescriptor yX6_shuffles.desc).map (fun d => d.parameters.length) = some 3 := by decide +kernel
theorem hdX6_image : yX6_image.cls = RX6 ∧ yX6_image.cls ≠ "java/lang/invoke/MethodHandle" ∧ yX6_image.cls ≠ "java/lang/invoke/VarHandle" ∧ (parseMethodDescriptor yX6_image.desc).map (fun d => d.parameters.length) = some 0 := by decide +kernel
theorem hdX6_restore : yX6_restore.cls = RX6 ∧ yX6_restore.cls ≠ "java/lang/invoke/MethodHandle" ∧ yX6_restore.cls ≠ "java/lang/invoke/VarHandle" ∧ (parseMethodDescriptor yX6_restore.desc).map (fun d => d.parameters.length) = some 0 := by decide +kernel
theorem hdX6_count : yX6_count.cls = RX6 ∧ yX6_count.cls ≠ "java/lang/invoke/MethodHandle" ∧ yX6_count.cls ≠ "java/lang/invoke/VarHandle" ∧ (parseMethodDescriptor yX6_count.desc).map (fun d => d.parameters.length) = some 1 := by decide +kernel
theorem hdX6_digest : yX6_digest.cls = RX6 ∧ yX6_digest.cls ≠ "java/lang/invoke/MethodHandle" ∧ yX6_digest.cls ≠ "java/lang/invoke/VarHandle" ∧ (parseMethodDescriptor yX6_digest.desc).map (fun d => d.parameters.length) = some 0 := by decide +kernel
theorem hdX6_withOrders : yX6_withOrders.cls = RX6 ∧ yX6_withOrders.cls ≠ "java/lang/invoke/MethodHandle" ∧ yX6_withOrders.cls ≠ "java/lang/invoke/VarHandle" ∧ (parseMethodDescriptor yX6_withOrders.desc).map (fun d => d.parameters.length) = some 1 := by decide +kernel
theorem hdX6_isWithoutStrip : yX6_isWithoutStrip.cls = RX6 ∧ yX6_isWithoutStrip.cls ≠ "java/lang/invoke/MethodHandle" ∧ yX6_isWithoutStrip.cls ≠ "java/lang/invoke/VarHandle" ∧ (parseMethodDescriptor yX6_isWithoutStrip.desc).map (fun d => d.parameters.length) = some 0 := by decide +kernel
theorem hdX6_isLeaf : yX6_isLeaf.cls = RX6 ∧ yX6_isLeaf.cls ≠ "java/lang/invoke/MethodHandle" ∧ yX6_isLeaf.cls ≠ "java/lang/invoke/VarHandle" ∧ (parseMethodDescriptor yX6_isLeaf.desc).map (fun d => d.parameters.length) = some 1 := by decide +kernel
theorem hdX6_isPlace : yX6_isPlace.cls = RX6 ∧ yX6_isPlace.cls ≠ "java/lang/invoke/MethodHandle" ∧ yX6_isPlace.cls ≠ "java/lang/invoke/VarHandle" ∧ (parseMethodDescriptor yX6_isPlace.desc).map (fun d => d.parameters.length) = some 1 := by decide +kernel
theorem hdX6_isOrder : yX6_isOrder.cls = RX6 ∧ yX6_isOrder.cls ≠ "java/lang/invoke/MethodHandle" ∧ yX6_isOrder.cls ≠ "java/lang/invoke/VarHandle" ∧ (parseMethodDescriptor yX6_isOrder.desc).map (fun d => d.parameters.length) = some 1 := by decide +kernel
theorem hdX6_farthest : yX6_farthest.cls = RX6 ∧ yX6_farthest.cls ≠ "java/lang/invoke/MethodHandle" ∧ yX6_farthest.cls ≠ "java/lang/invoke/VarHandle" ∧ (parseMethodDescriptor yX6_farthest.desc).map (fun d => d.parameters.length) = some 0 := by decide +kernel
theorem hdX6_home : yX6_home.cls = RX6 ∧ yX6_home.cls ≠ "java/lang/invoke/MethodHandle" ∧ yX6_home.cls ≠ "java/lang/invoke/VarHandle" ∧ (parseMethodDescriptor yX6_home.desc).map (fun d => d.parameters.length) = some 0 := by decide +kernel
theorem hdX6_wholeThickness : yX6_wholeThickness.cls = RX6 ∧ yX6_wholeThickness.cls ≠ "java/lang/invoke/MethodHandle" ∧ yX6_wholeThickness.cls ≠ "java/lang/invoke/VarHandle" ∧ (parseMethodDescriptor yX6_wholeThickness.desc).map (fun d => d.parameters.length) = some 0 := by decide +kernel
theorem hdX6_openHinges : yX6_openHinges.cls = RX6 ∧ yX6_openHinges.cls ≠ "java/lang/invoke/MethodHandle" ∧ yX6_openHinges.cls ≠ "java/lang/invoke/VarHandle" ∧ (parseMethodDescriptor yX6_openHinges.desc).map (fun d => d.parameters.length) = some 0 := by decide +kernel
theorem hdX6_contentLeaves : yX6_contentLeaves.cls = RX6 ∧ yX6_contentLeaves.cls ≠ "java/lang/invoke/MethodHandle" ∧ yX6_contentLeaves.cls ≠ "java/lang/invoke/VarHandle" ∧ (parseMethodDescriptor yX6_contentLeaves.desc).map (fun d => d.parameters.length) = some 0 := by decide +kernel
theorem hdX6_possibleMoves : yX6_possibleMoves.cls = RX6 ∧ yX6_possibleMoves.cls ≠ "java/lang/invoke/MethodHandle" ∧ yX6_possibleMoves.cls ≠ "java/lang/invoke/VarHandle" ∧ (parseMethodDescriptor yX6_possibleMoves.desc).map (fun d => d.parameters.length) = some 0 := by decide +kernel
theorem hdX6_asNumber : yX6_asNumber.cls = RX6 ∧ yX6_asNumber.cls ≠ "java/lang/invoke/MethodHandle" ∧ yX6_asNumber.cls ≠ "java/lang/invoke/VarHandle" ∧ (parseMethodDescriptor yX6_asNumber.desc).map (fun d => d.parameters.length) = some 1 := by decide +kernel
theorem hdX6_isKind : yX6_isKind.cls = RX6 ∧ yX6_isKind.cls ≠ "java/lang/invoke/MethodHandle" ∧ yX6_isKind.cls ≠ "java/lang/invoke/VarHandle" ∧ (parseMethodDescriptor yX6_isKind.desc).map (fun d => d.parameters.length) = some 1 := by decide +kernel
theorem hdX6_isOfKind : yX6_isOfKind.cls = RX6 ∧ yX6_isOfKind.cls ≠ "java/lang/invoke/MethodHandle" ∧ yX6_isOfKind.cls ≠ "java/lang/invoke/VarHandle" ∧ (parseMethodDescriptor yX6_isOfKind.desc).map (fun d => d.parameters.length) = some 2 := by decide +kernel
theorem hdX6_thickness : yX6_thickness.cls = RX6 ∧ yX6_thickness.cls ≠ "java/lang/invoke/MethodHandle" ∧ yX6_thickness.cls ≠ "java/lang/invoke/VarHandle" ∧ (parseMethodDescriptor yX6_thickness.desc).map (fun d => d.parameters.length) = some 1 := by decide +kernel
theorem hdX6_seedAfter : yX6_seedAfter.cls = RX6 ∧ yX6_seedAfter.cls ≠ "java/lang/invoke/MethodHandle" ∧ yX6_seedAfter.cls ≠ "java/lang/invoke/VarHandle" ∧ (parseMethodDescriptor yX6_seedAfter.desc).map (fun d => d.parameters.length) = some 1 := by decide +kernel
theorem hdX6_draw : yX6_draw.cls = RX6 ∧ yX6_draw.cls ≠ "java/lang/invoke/MethodHandle" ∧ yX6_draw.cls ≠ "java/lang/invoke/VarHandle" ∧ (parseMethodDescriptor yX6_draw.desc).map (fun d => d.parameters.length) = some 2 := by decide +kernel
theorem hdX6_commonDivisor : yX6_commonDivisor.cls = RX6 ∧ yX6_commonDivisor.cls ≠ "java/lang/invoke/MethodHandle" ∧ yX6_commonDivisor.cls ≠ "java/lang/invoke/VarHandle" ∧ (parseMethodDescriptor yX6_commonDivisor.desc).map (fun d => d.parameters.length) = some 2 := by decide +kernel
theorem hdX7_init : yX7_init.cls = RX7 ∧ yX7_init.cls ≠ "java/lang/invoke/MethodHandle" ∧ yX7_init.cls ≠ "java/lang/invoke/VarHandle" ∧ (parseMethodDescriptor yX7_init.desc).map (fun d => d.parameters.length) = some 0 := by decide +kernel
theorem hdX7_in : yX7_in.cls = RX7 ∧ yX7_in.cls ≠ "java/lang/invoke/MethodHandle" ∧ yX7_in.cls ≠ "java/lang/invoke/VarHandle" ∧ (parseMethodDescriptor yX7_in.desc).map (fun d => d.parameters.length) = some 3 := by decide +kernel
theorem hdX7_copy : yX7_copy.cls = RX7 ∧ yX7_copy.cls ≠ "java/lang/invoke/MethodHandle" ∧ yX7_copy.cls ≠ "java/lang/invoke/VarHandle" ∧ (parseMethodDescriptor yX7_copy.desc).map (fun d => d.parameters.length) = some 2 := by decide +kernel
theorem hdX7_letter : yX7_letter.cls = RX7 ∧ yX7_letter.cls ≠ "java/lang/invoke/MethodHandle" ∧ yX7_letter.cls ≠ "java/lang/invoke/VarHandle" ∧ (parseMethodDescriptor yX7_letter.desc).map (fun d => d.parameters.length) = some 1 := by decide +kernel
theorem hdX7_blank : yX7_blank.cls = RX7 ∧ yX7_blank.cls ≠ "java/lang/invoke/MethodHandle" ∧ yX7_blank.cls ≠ "java/lang/invoke/VarHandle" ∧ (parseMethodDescriptor yX7_blank.desc).map (fun d => d.parameters.length) = some 0 := by decide +kernel
theorem hdX7_kindBy : yX7_kindBy.cls = RX7 ∧ yX7_kindBy.cls ≠ "java/lang/invoke/MethodHandle" ∧ yX7_kindBy.cls ≠ "java/lang/invoke/VarHandle" ∧ (parseMethodDescriptor yX7_kindBy.desc).map (fun d => d.parameters.length) = some 1 := by decide +kernel
theorem hdX7_faultOf : yX7_faultOf.cls = RX7 ∧ yX7_faultOf.cls ≠ "java/lang/invoke/MethodHandle" ∧ yX7_faultOf.cls ≠ "java/lang/invoke/VarHandle" ∧ (parseMethodDescriptor yX7_faultOf.desc).map (fun d => d.parameters.length) = some 0 := by decide +kernel
theorem hdX7_fault : yX7_fault.cls = RX7 ∧ yX7_fault.cls ≠ "java/lang/invoke/MethodHandle" ∧ yX7_fault.cls ≠ "java/lang/invoke/VarHandle" ∧ (parseMethodDescriptor yX7_fault.desc).map (fun d => d.parameters.length) = some 0 := by decide +kernel
theorem hdX7_strip : yX7_strip.cls = RX7 ∧ yX7_strip.cls ≠ "java/lang/invoke/MethodHandle" ∧ yX7_strip.cls ≠ "java/lang/invoke/VarHandle" ∧ (parseMethodDescriptor yX7_strip.desc).map (fun d => d.parameters.length) = some 0 := by decide +kernel
theorem hdX7_lacks : yX7_lacks.cls = RX7 ∧ yX7_lacks.cls ≠ "java/lang/invoke/MethodHandle" ∧ yX7_lacks.cls ≠ "java/lang/invoke/VarHandle" ∧ (parseMethodDescriptor yX7_lacks.desc).map (fun d => d.parameters.length) = some 0 := by decide +kernel
theorem hdX7_isLeaf : yX7_isLeaf.cls = RX7 ∧ yX7_isLeaf.cls ≠ "java/lang/invoke/MethodHandle" ∧ yX7_isLeaf.cls ≠ "java/lang/invoke/VarHandle" ∧ (parseMethodDescriptor yX7_isLeaf.desc).map (fun d => d.parameters.length) = some 1 := by decide +kernel
theorem hdX7_codeOf : yX7_codeOf.cls = RX7 ∧ yX7_codeOf.cls ≠ "java/lang/invoke/MethodHandle" ∧ yX7_codeOf.cls ≠ "java/lang/invoke/VarHandle" ∧ (parseMethodDescriptor yX7_codeOf.desc).map (fun d => d.parameters.length) = some 2 := by decide +kernel
theorem hdX7_layRow : yX7_layRow.cls = RX7 ∧ yX7_layRow.cls ≠ "java/lang/invoke/MethodHandle" ∧ yX7_layRow.cls ≠ "java/lang/invoke/VarHandle" ∧ (parseMethodDescriptor yX7_layRow.desc).map (fun d => d.parameters.length) = some 2 := by decide +kernel
theorem hdX7_layPlaces : yX7_layPlaces.cls = RX7 ∧ yX7_layPlaces.cls ≠ "java/lang/invoke/MethodHandle" ∧ yX7_layPlaces.cls ≠ "java/lang/invoke/VarHandle" ∧ (parseMethodDescriptor yX7_layPlaces.desc).map (fun d => d.parameters.length) = some 1 := by decide +kernel
theorem hdX7_isWithin : yX7_isWithin.cls = RX7 ∧ yX7_isWithin.cls ≠ "java/lang/invoke/MethodHandle" ∧ yX7_isWithin.cls ≠ "java/lang/invoke/VarHandle" ∧ (parseMethodDescriptor yX7_isWithin.desc).map (fun d => d.parameters.length) = some 3 := by decide +kernel
theorem hdX7_isFolded : yX7_isFolded.cls = RX7 ∧ yX7_isFolded.cls ≠ "java/lang/invoke/MethodHandle" ∧ yX7_isFolded.cls ≠ "java/lang/invoke/VarHandle" ∧ (parseMethodDescriptor yX7_isFolded.desc).map (fun d => d.parameters.length) = some 1 := by decide +kernel
theorem hdX7_isStepped : yX7_isStepped.cls = RX7 ∧ yX7_isStepped.cls ≠ "java/lang/invoke/MethodHandle" ∧ yX7_isStepped.cls ≠ "java/lang/invoke/VarHandle" ∧ (parseMethodDescriptor yX7_isStepped.desc).map (fun d => d.parameters.length) = some 0 := by decide +kernel
theorem hdX7_trade : yX7_trade.cls = RX7 ∧ yX7_trade.cls ≠ "java/lang/invoke/MethodHandle" ∧ yX7_trade.cls ≠ "java/lang/invoke/VarHandle" ∧ (parseMethodDescriptor yX7_trade.desc).map (fun d => d.parameters.length) = some 2 := by decide +kernel
theorem hdX7_layOrders : yX7_layOrders.cls = RX7 ∧ yX7_layOrders.cls ≠ "java/lang/invoke/MethodHandle" ∧ yX7_layOrders.cls ≠ "java/lang/invoke/VarHandle" ∧ (parseMethodDescriptor yX7_layOrders.desc).map (fun d => d.parameters.length) = some 0 := by decide +kernel
theorem hdX7_orderOf : yX7_orderOf.cls = RX7 ∧ yX7_orderOf.cls ≠ "java/lang/invoke/MethodHandle" ∧ yX7_orderOf.cls ≠ "java/lang/invoke/VarHandle" ∧ (parseMethodDescriptor yX7_orderOf.desc).map (fun d => d.parameters.length) = some 1 := by decide +kernel
theorem hdX7_orderNow : yX7_orderNow.cls = RX7 ∧ yX7_orderNow.cls ≠ "java/lang/invoke/MethodHandle" ∧ yX7_orderNow.cls ≠ "java/lang/invoke/VarHandle" ∧ (parseMethodDescriptor yX7_orderNow.desc).map (fun d => d.parameters.length) = some 0 := by decide +kernel
theorem hdX7_isOrder : yX7_isOrder.cls = RX7 ∧ yX7_isOrder.cls ≠ "java/lang/invoke/MethodHandle" ∧ yX7_isOrder.cls ≠ "java/lang/invoke/VarHandle" ∧ (parseMethodDescriptor yX7_isOrder.desc).map (fun d => d.parameters.length) = some 1 := by decide +kernel
theorem hdX7_isSticky : yX7_isSticky.cls = RX7 ∧ yX7_isSticky.cls ≠ "java/lang/invoke/MethodHandle" ∧ yX7_isSticky.cls ≠ "java/lang/invoke/VarHandle" ∧ (parseMethodDescriptor yX7_isSticky.desc).map (fun d => d.parameters.length) = some 1 := by decide +kernel
theorem hdX7_isRight : yX7_isRight.cls = RX7 ∧ yX7_isRight.cls ≠ "java/lang/invoke/MethodHandle" ∧ yX7_isRight.cls ≠ "java/lang/invoke/VarHandle" ∧ (parseMethodDescriptor yX7_isRight.desc).map (fun d => d.parameters.length) = some 2 := by decide +kernel
theorem hdX7_rightMany : yX7_rightMany.cls = RX7 ∧ yX7_rightMany.cls ≠ "java/lang/invoke/MethodHandle" ∧ yX7_rightMany.cls ≠ "java/lang/invoke/VarHandle" ∧ (parseMethodDescriptor yX7_rightMany.desc).map (fun d => d.parameters.length) = some 1 := by decide +kernel
theorem hdX7_isFit : yX7_isFit.cls = RX7 ∧ yX7_isFit.cls ≠ "java/lang/invoke/MethodHandle" ∧ yX7_isFit.cls ≠ "java/lang/invoke/VarHandle" ∧ (parseMethodDescriptor yX7_isFit.desc).map (fun d => d.parameters.length) = some 1 := by decide +kernel
theorem hdX7_isFitOrder : yX7_isFitOrder.cls = RX7 ∧ yX7_isFitOrder.cls ≠ "java/lang/invoke/MethodHandle" ∧ yX7_isFitOrder.cls ≠ "java/lang/invoke/VarHandle" ∧ (parseMethodDescriptor yX7_isFitOrder.desc).map (fun d => d.parameters.length) = some 1 := by decide +kernel
theorem hdX7_thick : yX7_thick.cls = RX7 ∧ yX7_thick.cls ≠ "java/lang/invoke/MethodHandle" ∧ yX7_thick.cls ≠ "java/lang/invoke/VarHandle" ∧ (parseMethodDescriptor yX7_thick.desc).map (fun d => d.parameters.length) = some 1 := by decide +kernel
theorem hdX7_wideOf : yX7_wideOf.cls = RX7 ∧ yX7_wideOf.cls ≠ "java/lang/invoke/MethodHandle" ∧ yX7_wideOf.cls ≠ "java/lang/invoke/VarHandle" ∧ (parseMethodDescriptor yX7_wideOf.desc).map (fun d => d.parameters.length) = some 2 := by decide +kernel
theorem hdX7_widest : yX7_widest.cls = RX7 ∧ yX7_widest.cls ≠ "java/lang/invoke/MethodHandle" ∧ yX7_widest.cls ≠ "java/lang/invoke/VarHandle" ∧ (parseMethodDescriptor yX7_widest.desc).map (fun d => d.parameters.length) = some 1 := by decide +kernel
theorem hdX7_widerMany : yX7_widerMany.cls = RX7 ∧ yX7_widerMany.cls ≠ "java/lang/invoke/MethodHandle" ∧ yX7_widerMany.cls ≠ "java/lang/invoke/VarHandle" ∧ (parseMethodDescriptor yX7_widerMany.desc).map (fun d => d.parameters.length) = some 1 := by decide +kernel
theorem hdX7_placeOf : yX7_placeOf.cls = RX7 ∧ yX7_placeOf.cls ≠ "java/lang/invoke/MethodHandle" ∧ yX7_placeOf.cls ≠ "java/lang/invoke/VarHandle" ∧ (parseMethodDescriptor yX7_placeOf.desc).map (fun d => d.parameters.length) = some 2 := by decide +kernel
theorem hdX7_shift : yX7_shift.cls = RX7 ∧ yX7_shift.cls ≠ "java/lang/invoke/MethodHandle" ∧ yX7_shift.cls ≠ "java/lang/invoke/VarHandle" ∧ (parseMethodDescriptor yX7_shift.desc).map (fun d => d.parameters.length) = some 3 := by decide +kernel
theorem hdX7_codeBy : yX7_codeBy.cls = RX7 ∧ yX7_codeBy.cls ≠ "java/lang/invoke/MethodHandle" ∧ yX7_codeBy.cls ≠ "java/lang/invoke/VarHandle" ∧ (parseMethodDescriptor yX7_codeBy.desc).map (fun d => d.parameters.length) = some 3 := by decide +kernel
theorem hdX7_layFar : yX7_layFar.cls = RX7 ∧ yX7_layFar.cls ≠ "java/lang/invoke/MethodHandle" ∧ yX7_layFar.cls ≠ "java/lang/invoke/VarHandle" ∧ (parseMethodDescriptor yX7_layFar.desc).map (fun d => d.parameters.length) = some 0 := by decide +kernel
theorem hdX7_nearOf : yX7_nearOf.cls = RX7 ∧ yX7_nearOf.cls ≠ "java/lang/invoke/MethodHandle" ∧ yX7_nearOf.cls ≠ "java/lang/invoke/VarHandle" ∧ (parseMethodDescriptor yX7_nearOf.desc).map (fun d => d.parameters.length) = some 1 := by decide +kernel
theorem hdX7_near : yX7_near.cls = RX7 ∧ yX7_near.cls ≠ "java/lang/invoke/MethodHandle" ∧ yX7_near.cls ≠ "java/lang/invoke/VarHandle" ∧ (parseMethodDescriptor yX7_near.desc).map (fun d => d.parameters.length) = some 1 := by decide +kernel
theorem hdX7_farthestOf : yX7_farthestOf.cls = RX7 ∧ yX7_farthestOf.cls ≠ "java/lang/invoke/MethodHandle" ∧ yX7_farthestOf.cls ≠ "java/lang/invoke/VarHandle" ∧ (parseMethodDescriptor yX7_farthestOf.desc).map (fun d => d.parameters.length) = some 1 := by decide +kernel
theorem hdX7_homeOf : yX7_homeOf.cls = RX7 ∧ yX7_homeOf.cls ≠ "java/lang/invoke/MethodHandle" ∧ yX7_homeOf.cls ≠ "java/lang/invoke/VarHandle" ∧ (parseMethodDescriptor yX7_homeOf.desc).map (fun d => d.parameters.length) = some 1 := by decide +kernel
theorem hdX7_far : yX7_far.cls = RX7 ∧ yX7_far.cls ≠ "java/lang/invoke/MethodHandle" ∧ yX7_far.cls ≠ "java/lang/invoke/VarHandle" ∧ (parseMethodDescriptor yX7_far.desc).map (fun d => d.parameters.length) = some 1 := by decide +kernel
theorem hdX7_trimOf : yX7_trimOf.cls = RX7 ∧ yX7_trimOf.cls ≠ "java/lang/invoke/MethodHandle" ∧ yX7_trimOf.cls ≠ "java/lang/invoke/VarHandle" ∧ (parseMethodDescriptor yX7_trimOf.desc).map (fun d => d.parameters.length) = some 1 := by decide +kernel
theorem hdX7_trim : yX7_trim.cls = RX7 ∧ yX7_trim.cls ≠ "java/lang/invoke/MethodHandle" ∧ yX7_trim.cls ≠ "java/lang/invoke/VarHandle" ∧ (parseMethodDescriptor yX7_trim.desc).map (fun d => d.parameters.length) = some 1 := by decide +kernel
theorem hdX7_oddsOf : yX7_oddsOf.cls = RX7 ∧ yX7_oddsOf.cls ≠ "java/lang/invoke/MethodHandle" ∧ yX7_oddsOf.cls ≠ "java/lang/invoke/VarHandle" ∧ (parseMethodDescriptor yX7_oddsOf.desc).map (fun d => d.parameters.length) = some 3 := by decide +kernel
theorem hdX7_odds : yX7_odds.cls = RX7 ∧ yX7_odds.cls ≠ "java/lang/invoke/MethodHandle" ∧ yX7_odds.cls ≠ "java/lang/invoke/VarHandle" ∧ (parseMethodDescriptor yX7_odds.desc).map (fun d => d.parameters.length) = some 3 := by decide +kernel
theorem hdX7_tellLeaf : yX7_tellLeaf.cls = RX7 ∧ yX7_tellLeaf.cls ≠ "java/lang/invoke/MethodHandle" ∧ yX7_tellLeaf.cls ≠ "java/lang/invoke/VarHandle" ∧ (parseMethodDescriptor yX7_tellLeaf.desc).map (fun d => d.parameters.length) = some 2 := by decide +kernel
theorem hdX7_leaf : yX7_leaf.cls = RX7 ∧ yX7_leaf.cls ≠ "java/lang/invoke/MethodHandle" ∧ yX7_leaf.cls ≠ "java/lang/invoke/VarHandle" ∧ (parseMethodDescriptor yX7_leaf.desc).map (fun d => d.parameters.length) = some 2 := by decide +kernel
theorem hdX7_as : yX7_as.cls = RX7 ∧ yX7_as.cls ≠ "java/lang/invoke/MethodHandle" ∧ yX7_as.cls ≠ "java/lang/invoke/VarHandle" ∧ (parseMethodDescriptor yX7_as.desc).map (fun d => d.parameters.length) = some 2 := by decide +kernel
theorem hdX7_hinge : yX7_hinge.cls = RX7 ∧ yX7_hinge.cls ≠ "java/lang/invoke/MethodHandle" ∧ yX7_hinge.cls ≠ "java/lang/invoke/VarHandle" ∧ (parseMethodDescriptor yX7_hinge.desc).map (fun d => d.parameters.length) = some 2 := by decide +kernel
theorem hdX7_at : yX7_at.cls = RX7 ∧ yX7_at.cls ≠ "java/lang/invoke/MethodHandle" ∧ yX7_at.cls ≠ "java/lang/invoke/VarHandle" ∧ (parseMethodDescriptor yX7_at.desc).map (fun d => d.parameters.length) = some 1 := by decide +kernel
theorem hdX7_may : yX7_may.cls = RX7 ∧ yX7_may.cls ≠ "java/lang/invoke/MethodHandle" ∧ yX7_may.cls ≠ "java/lang/invoke/VarHandle" ∧ (parseMethodDescriptor yX7_may.desc).map (fun d => d.parameters.length) = some 2 := by decide +kernel
theorem hdX7_fitMany : yX7_fitMany.cls = RX7 ∧ yX7_fitMany.cls ≠ "java/lang/invoke/MethodHandle" ∧ yX7_fitMany.cls ≠ "java/lang/invoke/VarHandle" ∧ (parseMethodDescriptor yX7_fitMany.desc).map (fun d => d.parameters.length) = some 0 := by decide +kernel
theorem hdX7_ordersOf : yX7_ordersOf.cls = RX7 ∧ yX7_ordersOf.cls ≠ "java/lang/invoke/MethodHandle" ∧ yX7_ordersOf.cls ≠ "java/lang/invoke/VarHandle" ∧ (parseMethodDescriptor yX7_ordersOf.desc).map (fun d => d.parameters.length) = some 1 := by decide +kernel
theorem hdX7_orders : yX7_orders.cls = RX7 ∧ yX7_orders.cls ≠ "java/lang/invoke/MethodHandle" ∧ yX7_orders.cls ≠ "java/lang/invoke/VarHandle" ∧ (parseMethodDescriptor yX7_orders.desc).map (fun d => d.parameters.length) = some 1 := by decide +kernel
theorem hdX7_tellOrder : yX7_tellOrder.cls = RX7 ∧ yX7_tellOrder.cls ≠ "java/lang/invoke/MethodHandle" ∧ yX7_tellOrder.cls ≠ "java/lang/invoke/VarHandle" ∧ (parseMethodDescriptor yX7_tellOrder.desc).map (fun d => d.parameters.length) = some 2 := by decide +kernel
theorem hdX7_order : yX7_order.cls = RX7 ∧ yX7_order.cls ≠ "java/lang/invoke/MethodHandle" ∧ yX7_order.cls ≠ "java/lang/invoke/VarHandle" ∧ (parseMethodDescriptor yX7_order.desc).map (fun d => d.parameters.length) = some 2 := by decide +kernel
theorem hdX7_topsOf : yX7_topsOf.cls = RX7 ∧ yX7_topsOf.cls ≠ "java/lang/invoke/MethodHandle" ∧ yX7_topsOf.cls ≠ "java/lang/invoke/VarHandle" ∧ (parseMethodDescriptor yX7_topsOf.desc).map (fun d => d.parameters.length) = some 2 := by decide +kernel
theorem hdX7_tops : yX7_tops.cls = RX7 ∧ yX7_tops.cls ≠ "java/lang/invoke/MethodHandle" ∧ yX7_tops.cls ≠ "java/lang/invoke/VarHandle" ∧ (parseMethodDescriptor yX7_tops.desc).map (fun d => d.parameters.length) = some 2 := by decide +kernel
theorem hdX7_move : yX7_move.cls = RX7 ∧ yX7_move.cls ≠ "java/lang/invoke/MethodHandle" ∧ yX7_move.cls ≠ "java/lang/invoke/VarHandle" ∧ (parseMethodDescriptor yX7_move.desc).map (fun d => d.parameters.length) = some 2 := by decide +kernel
theorem hdX7_turn : yX7_turn.cls = RX7 ∧ yX7_turn.cls ≠ "java/lang/invoke/MethodHandle" ∧ yX7_turn.cls ≠ "java/lang/invoke/VarHandle" ∧ (parseMethodDescriptor yX7_turn.desc).map (fun d => d.parameters.length) = some 0 := by decide +kernel
theorem hdX7_lay : yX7_lay.cls = RX7 ∧ yX7_lay.cls ≠ "java/lang/invoke/MethodHandle" ∧ yX7_lay.cls ≠ "java/lang/invoke/VarHandle" ∧ (parseMethodDescriptor yX7_lay.desc).map (fun d => d.parameters.length) = some 1 := by decide +kernel
theorem hdX7_change : yX7_change.cls = RX7 ∧ yX7_change.cls ≠ "java/lang/invoke/MethodHandle" ∧ yX7_change.cls ≠ "java/lang/invoke/VarHandle" ∧ (parseMethodDescriptor yX7_change.desc).map (fun d => d.parameters.length) = some 2 := by decide +kernel
theorem hdX7_see : yX7_see.cls = RX7 ∧ yX7_see.cls ≠ "java/lang/invoke/MethodHandle" ∧ yX7_see.cls ≠ "java/lang/invoke/VarHandle" ∧ (parseMethodDescriptor yX7_see.desc).map (fun d => d.parameters.length) = some 3 := by decide +kernel
theorem hdX7_forget : yX7_forget.cls = RX7 ∧ yX7_forget.cls ≠ "java/lang/invoke/MethodHandle" ∧ yX7_forget.cls ≠ "java/lang/invoke/VarHandle" ∧ (parseMethodDescriptor yX7_forget.desc).map (fun d => d.parameters.length) = some 0 := by decide +kernel
theorem hdX7_isLikely : yX7_isLikely.cls = RX7 ∧ yX7_isLikely.cls ≠ "java/lang/invoke/MethodHandle" ∧ yX7_isLikely.cls ≠ "java/lang/invoke/VarHandle" ∧ (parseMethodDescriptor yX7_isLikely.desc).map (fun d => d.parameters.length) = some 1 := by decide +kernel
theorem hdX7_couldOf : yX7_couldOf.cls = RX7 ∧ yX7_couldOf.cls ≠ "java/lang/invoke/MethodHandle" ∧ yX7_couldOf.cls ≠ "java/lang/invoke/VarHandle" ∧ (parseMethodDescriptor yX7_couldOf.desc).map (fun d => d.parameters.length) = some 0 := by decide +kernel
theorem hdX7_could : yX7_could.cls = RX7 ∧ yX7_could.cls ≠ "java/lang/invoke/MethodHandle" ∧ yX7_could.cls ≠ "java/lang/invoke/VarHandle" ∧ (parseMethodDescriptor yX7_could.desc).map (fun d => d.parameters.length) = some 0 := by decide +kernel
theorem hdX7_worstBy : yX7_worstBy.cls = RX7 ∧ yX7_worstBy.cls ≠ "java/lang/invoke/MethodHandle" ∧ yX7_worstBy.cls ≠ "java/lang/invoke/VarHandle" ∧ (parseMethodDescriptor yX7_worstBy.desc).map (fun d => d.parameters.length) = some 3 := by decide +kernel
theorem hdX7_trialOf : yX7_trialOf.cls = RX7 ∧ yX7_trialOf.cls ≠ "java/lang/invoke/MethodHandle" ∧ yX7_trialOf.cls ≠ "java/lang/invoke/VarHandle" ∧ (parseMethodDescriptor yX7_trialOf.desc).map (fun d => d.parameters.length) = some 0 := by decide +kernel
theorem hdX7_trial : yX7_trial.cls = RX7 ∧ yX7_trial.cls ≠ "java/lang/invoke/MethodHandle" ∧ yX7_trial.cls ≠ "java/lang/invoke/VarHandle" ∧ (parseMethodDescriptor yX7_trial.desc).map (fun d => d.parameters.length) = some 0 := by decide +kernel
theorem hdX7_draw : yX7_draw.cls = RX7 ∧ yX7_draw.cls ≠ "java/lang/invoke/MethodHandle" ∧ yX7_draw.cls ≠ "java/lang/invoke/VarHandle" ∧ (parseMethodDescriptor yX7_draw.desc).map (fun d => d.parameters.length) = some 1 := by decide +kernel
theorem hdX7_shuffles : yX7_shuffles.cls = RX7 ∧ yX7_shuffles.cls ≠ "java/lang/invoke/MethodHandle" ∧ yX7_shuffles.cls ≠ "java/lang/invoke/VarHandle" ∧ (parseMethodDescriptor yX7_shuffles.desc).map (fun d => d.parameters.length) = some 3 := by decide +kernel
theorem hdX7_image : yX7_image.cls = RX7 ∧ yX7_image.cls ≠ "java/lang/invoke/MethodHandle" ∧ yX7_image.cls ≠ "java/lang/invoke/VarHandle" ∧ (parseMethodDescriptor yX7_image.desc).map (fun d => d.parameters.length) = some 0 := by decide +kernel
theorem hdX7_restore : yX7_restore.cls = RX7 ∧ yX7_restore.cls ≠ "java/lang/invoke/MethodHandle" ∧ yX7_restore.cls ≠ "java/lang/invoke/VarHandle" ∧ (parseMethodDescriptor yX7_restore.desc).map (fun d => d.parameters.length) = some 0 := by decide +kernel
theorem hdX7_thickAll : yX7_thickAll.cls = RX7 ∧ yX7_thickAll.cls ≠ "java/lang/invoke/MethodHandle" ∧ yX7_thickAll.cls ≠ "java/lang/invoke/VarHandle" ∧ (parseMethodDescriptor yX7_thickAll.desc).map (fun d => d.parameters.length) = some 0 := by decide +kernel
theorem hdX7_movesNow : yX7_movesNow.cls = RX7 ∧ yX7_movesNow.cls ≠ "java/lang/invoke/MethodHandle" ∧ yX7_movesNow.cls ≠ "java/lang/invoke/VarHandle" ∧ (parseMethodDescriptor yX7_movesNow.desc).map (fun d => d.parameters.length) = some 0 := by decide +kernel
theorem hdX7_countOf : yX7_countOf.cls = RX7 ∧ yX7_countOf.cls ≠ "java/lang/invoke/MethodHandle" ∧ yX7_countOf.cls ≠ "java/lang/invoke/VarHandle" ∧ (parseMethodDescriptor yX7_countOf.desc).map (fun d => d.parameters.length) = some 1 := by decide +kernel
theorem hdX7_count : yX7_count.cls = RX7 ∧ yX7_count.cls ≠ "java/lang/invoke/MethodHandle" ∧ yX7_count.cls ≠ "java/lang/invoke/VarHandle" ∧ (parseMethodDescriptor yX7_count.desc).map (fun d => d.parameters.length) = some 1 := by decide +kernel
theorem hdX7_say : yX7_say.cls = RX7 ∧ yX7_say.cls ≠ "java/lang/invoke/MethodHandle" ∧ yX7_say.cls ≠ "java/lang/invoke/VarHandle" ∧ (parseMethodDescriptor yX7_say.desc).map (fun d => d.parameters.length) = some 1 := by decide +kernel
theorem hdX7_sayStrip : yX7_sayStrip.cls = RX7 ∧ yX7_sayStrip.cls ≠ "java/lang/invoke/MethodHandle" ∧ yX7_sayStrip.cls ≠ "java/lang/invoke/VarHandle" ∧ (parseMethodDescriptor yX7_sayStrip.desc).map (fun d => d.parameters.length) = some 0 := by decide +kernel
theorem hdX7_digest : yX7_digest.cls = RX7 ∧ yX7_digest.cls ≠ "java/lang/invoke/MethodHandle" ∧ yX7_digest.cls ≠ "java/lang/invoke/VarHandle" ∧ (parseMethodDescriptor yX7_digest.desc).map (fun d => d.parameters.length) = some 0 := by decide +kernel
end
section
/-! ints as numbers: zI n, for n of any sign; rows of the kit over them -/
def zI (n : Int) : Int32 := Int32.ofInt n
def zL (n : Int) : Int64 := Int64.ofInt n
theorem zI_toInt {n : Int} (h1 : -2147483648 ≤ n) (h2 : n < 2147483648) : (zI n).toInt = n := by
  unfold zI
  exact Int32.toInt_ofInt_of_le (by omega) (by omega)
theorem zI_of (x : Int32) : zI x.toInt = x := Int32.ofInt_toInt x
theorem zI_nat (n : Nat) : zI (n : Int) = nI n := Int32.ofInt_eq_ofNat
theorem zI_add (a b : Int) : zI a + zI b = zI (a + b) := (Int32.ofInt_add a b).symm
theorem zI_sub (a b : Int) : zI a - zI b = zI (a - b) := (Int32.ofInt_sub a b).symm
theorem zI_mul (a b : Int) : zI a * zI b = zI (a * b) := (Int32.ofInt_mul a b).symm
theorem zI_le {a b : Int} (a1 : -2147483648 ≤ a) (a2 : a < 2147483648) (b1 : -2147483648 ≤ b) (b2 : b < 2147483648) : zI a ≤ zI b ↔ a ≤ b := by
  rw [Int32.le_iff_toInt_le, zI_toInt a1 a2, zI_toInt b1 b2]
theorem zI_lt {a b : Int} (a1 : -2147483648 ≤ a) (a2 : a < 2147483648) (b1 : -2147483648 ≤ b) (b2 : b < 2147483648) : zI a < zI b ↔ a < b := by
  rw [Int32.lt_iff_toInt_lt, zI_toInt a1 a2, zI_toInt b1 b2]
theorem zI_eq {a b : Int} (a1 : -2147483648 ≤ a) (a2 : a < 2147483648) (b1 : -2147483648 ≤ b) (b2 : b < 2147483648) : zI a = zI b ↔ a = b := by
  rw [← Int32.toInt_inj, zI_toInt a1 a2, zI_toInt b1 b2]
theorem zI_clamp {i : Int} (h0 : 0 ≤ i) (h : i < 2147483648) : (zI i).toNatClampNeg = i.toNat := by
  show (zI i).toInt.toNat = i.toNat
  rw [zI_toInt (by omega) h]
theorem zI_in {i : Int} {n : Nat} (h0 : 0 ≤ i) (h1 : i < n) (hn : n < 2147483648) : vp_in (zI i) n := vp_in_iff.mpr (by
  rw [zI_toInt (by omega) (by omega)]; exact ⟨h0, h1⟩)
theorem zI_div {a b : Int} (a0 : 0 ≤ a) (a2 : a < 2147483648) (b0 : 0 < b) (b2 : b < 2147483648) : zI a / zI b = zI (a / b) := by
  obtain ⟨x, rfl⟩ := Int.eq_ofNat_of_zero_le a0
  obtain ⟨y, rfl⟩ := Int.eq_ofNat_of_zero_le (Int.le_of_lt b0)
  rw [zI_nat, zI_nat, pk_div (by omega) (by omega) (by omega), ← zI_nat, Int.natCast_ediv]
theorem zI_rem {a b : Int} (a0 : 0 ≤ a) (a2 : a < 2147483648) (b0 : 0 < b) (b2 : b < 2147483648) : zI a - zI a / zI b * zI b = zI (a % b) := by
  obtain ⟨x, rfl⟩ := Int.eq_ofNat_of_zero_le a0
  obtain ⟨y, rfl⟩ := Int.eq_ofNat_of_zero_le (Int.le_of_lt b0)
  rw [zI_nat, zI_nat, pk_rem (by omega) (by omega) (by omega), ← zI_nat, Int.natCast_emod]
theorem zI_ne0 {b : Int} (b0 : 0 < b) (b2 : b < 2147483648) : ¬ zI b = 0 := by
  show ¬ zI b = zI 0
  rw [zI_eq (by omega) b2 (by omega) (by omega)]
  omega
/-- a truth as a number -/
def b2 (b : Bool) : Int := if b then 1 else 0
theorem b2_r (b : Bool) : 0 ≤ b2 b ∧ b2 b ≤ 1 := by cases b <;> decide
theorem b2_t : b2 true = 1 := rfl
theorem b2_f : b2 false = 0 := rfl
theorem b2_0 {b : Bool} (h : b2 b = 0) : b = false := by cases b with | false => rfl | true => exact absurd h (by decide)
theorem b2_1 {b : Bool} (h : ¬ b2 b = 0) : b = true := by cases b with | true => rfl | false => exact absurd rfl h

section ZW
variable {p : Program} {l : Launch} {e : Env} {R : Room} {s : State} {m : MethodId} {args : Array Value} {below : List Frame} {meth : Method} {c : Code} {H : Heap} {locs : List Loc} {cells slots : Nat} {Q : State → Prop}
variable {cc : ByteArray} {pc : Nat} {ls : Array Slot} {rest : List Value}
theorem z_iadd (hexec : p.tables.exec = Jvm.exec) (hb : c.code = cc) {a b : Int} (hdg : decode cc pc = .ok (.iadd, 1)) (k : W p l e R s m args below meth c H locs cells slots Q (F0 m (pc + 1) ls (.int (zI (a + b)) :: rest))) : W p l e R s m args below meth c H locs cells slots Q (F0 m (pc) ls (.int (zI b) :: .int (zI a) :: rest)) := lv_iadd hexec hb hdg (by rw [zI_add]; exact k)
theorem z_isub (hexec : p.tables.exec = Jvm.exec) (hb : c.code = cc) {a b : Int} (hdg : decode cc pc = .ok (.isub, 1)) (k : W p l e R s m args below meth c H locs cells slots Q (F0 m (pc + 1) ls (.int (zI (a - b)) :: rest))) : W p l e R s m args below meth c H locs cells slots Q (F0 m (pc) ls (.int (zI b) :: .int (zI a) :: rest)) := lv_isub hexec hb hdg (by rw [zI_sub]; exact k)
theorem z_imul (hexec : p.tables.exec = Jvm.exec) (hb : c.code = cc) {a b : Int} (hdg : decode cc pc = .ok (.imul, 1)) (k : W p l e R s m args below meth c H locs cells slots Q (F0 m (pc + 1) ls (.int (zI (a * b)) :: rest))) : W p l e R s m args below meth c H locs cells slots Q (F0 m (pc) ls (.int (zI b) :: .int (zI a) :: rest)) := lv_imul hexec hb hdg (by rw [zI_mul]; exact k)
theorem z_idiv (hexec : p.tables.exec = Jvm.exec) (hb : c.code = cc) {a b : Int} (a0 : 0 ≤ a) (a2 : a < 2147483648) (b0 : 0 < b) (b2 : b < 2147483648) (hdg : decode cc pc = .ok (.idiv, 1)) (k : W p l e R s m args below meth c H locs cells slots Q (F0 m (pc + 1) ls (.int (zI (a / b)) :: rest))) : W p l e R s m args below meth c H locs cells slots Q (F0 m (pc) ls (.int (zI b) :: .int (zI a) :: rest)) := lv_idiv hexec hb hdg (zI_ne0 b0 b2) (by rw [zI_div a0 a2 b0 b2]; exact k)
theorem z_irem (hexec : p.tables.exec = Jvm.exec) (hb : c.code = cc) {a b : Int} (a0 : 0 ≤ a) (a2 : a < 2147483648) (b0 : 0 < b) (b2 : b < 2147483648) (hdg : decode cc pc = .ok (.irem, 1)) (k : W p l e R s m args below meth c H locs cells slots Q (F0 m (pc + 1) ls (.int (zI (a % b)) :: rest))) : W p l e R s m args below meth c H locs cells slots Q (F0 m (pc) ls (.int (zI b) :: .int (zI a) :: rest)) := lv_irem hexec hb hdg (zI_ne0 b0 b2) (by rw [zI_rem a0 a2 b0 b2]; exact k)
theorem z_iconst (hexec : p.tables.exec = Jvm.exec) (hb : c.code = cc) {n : Int} (hdg : decode cc pc = .ok (.iconst n, 1)) (k : W p l e R s m args below meth c H locs cells slots Q (F0 m (pc + 1) ls (.int (zI n) :: rest))) : W p l e R s m args below meth c H locs cells slots Q (F0 m (pc) ls (rest)) := lv_iconst hexec hb hdg rfl k
theorem z_bipush (hexec : p.tables.exec = Jvm.exec) (hb : c.code = cc) {n : Int} (hdg : decode cc pc = .ok (.bipush n, 2)) (hv : (Int8.ofInt n).toInt32 = zI n) (k : W p l e R s m args below meth c H locs cells slots Q (F0 m (pc + 2) ls (.int (zI n) :: rest))) : W p l e R s m args below meth c H locs cells slots Q (F0 m (pc) ls (rest)) := lv_bipush hexec hb hdg hv k
theorem z_sipush (hexec : p.tables.exec = Jvm.exec) (hb : c.code = cc) {n : Int} (hdg : decode cc pc = .ok (.sipush n, 3)) (hv : (Int16.ofInt n).toInt32 = zI n) (k : W p l e R s m args below meth c H locs cells slots Q (F0 m (pc + 3) ls (.int (zI n) :: rest))) : W p l e R s m args below meth c H locs cells slots Q (F0 m (pc) ls (rest)) := lv_sipush hexec hb hdg hv k
theorem z_iinc (hexec : p.tables.exec = Jvm.exec) (hb : c.code = cc) {i nL k : Nat} {n a : Int} {lv lv' : List (Nat × Value)} (hdg : decode cc pc = .ok (.iinc i n, 3)) (h : lv_has ls nL lv) (hk : lv[k]? = some (i, .int (zI a))) (hn : i < nL) (hl : (i, Value.int (zI (a + n))) :: lv.filter (fun q => !(q.1 == i) && !(q.1 + 1 == i && q.2.category == 2)) = lv') (kk : ∀ ls' : Array Slot, lv_has ls' nL lv' → W p l e R s m args below meth c H locs cells slots Q (F0 m (pc + 3) ls' rest)) : W p l e R s m args below meth c H locs cells slots Q (F0 m (pc) ls (rest)) := lv_iinc hexec hb hdg h hk (show zI a + zI n = zI (a + n) from zI_add a n) hn hl kk
theorem z_icmp_eq (hexec : p.tables.exec = Jvm.exec) (hb : c.code = cc) {a b off : Int} {tgt : Nat} (a1 : -2147483648 ≤ a) (a2 : a < 2147483648) (b1 : -2147483648 ≤ b) (b2 : b < 2147483648) (hdg : decode cc pc = .ok (.if_icmp .eq off, 3)) (ht : (pc : Int) + off = (tgt : Int)) (kt : a = b → W p l e R s m args below meth c H locs cells slots Q (F0 m (tgt) ls (rest))) (kf : ¬ a = b → W p l e R s m args below meth c H locs cells slots Q (F0 m (pc + 3) ls (rest))) : W p l e R s m args below meth c H locs cells slots Q (F0 m (pc) ls (.int (zI b) :: .int (zI a) :: rest)) := lv_icmp_eq hexec hb hdg ht (fun h => kt ((zI_eq a1 a2 b1 b2).mp h)) (fun h => kf (fun g => h ((zI_eq a1 a2 b1 b2).mpr g)))
theorem z_if_eq (hexec : p.tables.exec = Jvm.exec) (hb : c.code = cc) {a off : Int} {tgt : Nat} (a1 : -2147483648 ≤ a) (a2 : a < 2147483648) (hdg : decode cc pc = .ok (.ifCond .eq off, 3)) (ht : (pc : Int) + off = (tgt : Int)) (kt : a = 0 → W p l e R s m args below meth c H locs cells slots Q (F0 m (tgt) ls (rest))) (kf : ¬ a = 0 → W p l e R s m args below meth c H locs cells slots Q (F0 m (pc + 3) ls (rest))) : W p l e R s m args below meth c H locs cells slots Q (F0 m (pc) ls (.int (zI a) :: rest)) := by
  have b1 : (-2147483648 : Int) ≤ 0 := by omega
  have b2 : (0 : Int) < 2147483648 := by omega
  exact lv_if_eq hexec hb hdg ht (fun h => kt ((zI_eq (a := a) (b := 0) a1 a2 b1 b2).mp h)) (fun h => kf (fun g => h ((zI_eq (a := a) (b := 0) a1 a2 b1 b2).mpr g)))
theorem z_icmp_ne (hexec : p.tables.exec = Jvm.exec) (hb : c.code = cc) {a b off : Int} {tgt : Nat} (a1 : -2147483648 ≤ a) (a2 : a < 2147483648) (b1 : -2147483648 ≤ b) (b2 : b < 2147483648) (hdg : decode cc pc = .ok (.if_icmp .ne off, 3)) (ht : (pc : Int) + off = (tgt : Int)) (kt : ¬ a = b → W p l e R s m args below meth c H locs cells slots Q (F0 m (tgt) ls (rest))) (kf : a = b → W p l e R s m args below meth c H locs cells slots Q (F0 m (pc + 3) ls (rest))) : W p l e R s m args below meth c H locs cells slots Q (F0 m (pc) ls (.int (zI b) :: .int (zI a) :: rest)) := lv_icmp_ne hexec hb hdg ht (fun h => kt (fun g => h ((zI_eq a1 a2 b1 b2).mpr g))) (fun h => kf ((zI_eq a1 a2 b1 b2).mp h))
theorem z_if_ne (hexec : p.tables.exec = Jvm.exec) (hb : c.code = cc) {a off : Int} {tgt : Nat} (a1 : -2147483648 ≤ a) (a2 : a < 2147483648) (hdg : decode cc pc = .ok (.ifCond .ne off, 3)) (ht : (pc : Int) + off = (tgt : Int)) (kt : ¬ a = 0 → W p l e R s m args below meth c H locs cells slots Q (F0 m (tgt) ls (rest))) (kf : a = 0 → W p l e R s m args below meth c H locs cells slots Q (F0 m (pc + 3) ls (rest))) : W p l e R s m args below meth c H locs cells slots Q (F0 m (pc) ls (.int (zI a) :: rest)) := by
  have b1 : (-2147483648 : Int) ≤ 0 := by omega
  have b2 : (0 : Int) < 2147483648 := by omega
  exact lv_if_ne hexec hb hdg ht (fun h => kt (fun g => h ((zI_eq (a := a) (b := 0) a1 a2 b1 b2).mpr g))) (fun h => kf ((zI_eq (a := a) (b := 0) a1 a2 b1 b2).mp h))
theorem z_icmp_lt (hexec : p.tables.exec = Jvm.exec) (hb : c.code = cc) {a b off : Int} {tgt : Nat} (a1 : -2147483648 ≤ a) (a2 : a < 2147483648) (b1 : -2147483648 ≤ b) (b2 : b < 2147483648) (hdg : decode cc pc = .ok (.if_icmp .lt off, 3)) (ht : (pc : Int) + off = (tgt : Int)) (kt : a < b → W p l e R s m args below meth c H locs cells slots Q (F0 m (tgt) ls (rest))) (kf : b ≤ a → W p l e R s m args below meth c H locs cells slots Q (F0 m (pc + 3) ls (rest))) : W p l e R s m args below meth c H locs cells slots Q (F0 m (pc) ls (.int (zI b) :: .int (zI a) :: rest)) := lv_icmp_lt hexec hb hdg ht (fun h => kt ((zI_lt a1 a2 b1 b2).mp h)) (fun h => kf (by have := (not_congr (zI_lt a1 a2 b1 b2)).mp h; omega))
theorem z_if_lt (hexec : p.tables.exec = Jvm.exec) (hb : c.code = cc) {a off : Int} {tgt : Nat} (a1 : -2147483648 ≤ a) (a2 : a < 2147483648) (hdg : decode cc pc = .ok (.ifCond .lt off, 3)) (ht : (pc : Int) + off = (tgt : Int)) (kt : a < 0 → W p l e R s m args below meth c H locs cells slots Q (F0 m (tgt) ls (rest))) (kf : 0 ≤ a → W p l e R s m args below meth c H locs cells slots Q (F0 m (pc + 3) ls (rest))) : W p l e R s m args below meth c H locs cells slots Q (F0 m (pc) ls (.int (zI a) :: rest)) := by
  have b1 : (-2147483648 : Int) ≤ 0 := by omega
  have b2 : (0 : Int) < 2147483648 := by omega
  exact lv_if_lt hexec hb hdg ht (fun h => kt ((zI_lt (a := a) (b := 0) a1 a2 b1 b2).mp h)) (fun h => kf (by have := (not_congr (zI_lt (a := a) (b := 0) a1 a2 b1 b2)).mp h; omega))
theorem z_icmp_ge (hexec : p.tables.exec = Jvm.exec) (hb : c.code = cc) {a b off : Int} {tgt : Nat} (a1 : -2147483648 ≤ a) (a2 : a < 2147483648) (b1 : -2147483648 ≤ b) (b2 : b < 2147483648) (hdg : decode cc pc = .ok (.if_icmp .ge off, 3)) (ht : (pc : Int) + off = (tgt : Int)) (kt : b ≤ a → W p l e R s m args below meth c H locs cells slots Q (F0 m (tgt) ls (rest))) (kf : a < b → W p l e R s m args below meth c H locs cells slots Q (F0 m (pc + 3) ls (rest))) : W p l e R s m args below meth c H locs cells slots Q (F0 m (pc) ls (.int (zI b) :: .int (zI a) :: rest)) := lv_icmp_ge hexec hb hdg ht (fun h => kt ((zI_le b1 b2 a1 a2).mp h)) (fun h => kf (by have := (not_congr (zI_le b1 b2 a1 a2)).mp h; omega))
theorem z_if_ge (hexec : p.tables.exec = Jvm.exec) (hb : c.code = cc) {a off : Int} {tgt : Nat} (a1 : -2147483648 ≤ a) (a2 : a < 2147483648) (hdg : decode cc pc = .ok (.ifCond .ge off, 3)) (ht : (pc : Int) + off = (tgt : Int)) (kt : 0 ≤ a → W p l e R s m args below meth c H locs cells slots Q (F0 m (tgt) ls (rest))) (kf : a < 0 → W p l e R s m args below meth c H locs cells slots Q (F0 m (pc + 3) ls (rest))) : W p l e R s m args below meth c H locs cells slots Q (F0 m (pc) ls (.int (zI a) :: rest)) := by
  have b1 : (-2147483648 : Int) ≤ 0 := by omega
  have b2 : (0 : Int) < 2147483648 := by omega
  exact lv_if_ge hexec hb hdg ht (fun h => kt ((zI_le (a := 0) (b := a) b1 b2 a1 a2).mp h)) (fun h => kf (by have := (not_congr (zI_le (a := 0) (b := a) b1 b2 a1 a2)).mp h; omega))
theorem z_icmp_gt (hexec : p.tables.exec = Jvm.exec) (hb : c.code = cc) {a b off : Int} {tgt : Nat} (a1 : -2147483648 ≤ a) (a2 : a < 2147483648) (b1 : -2147483648 ≤ b) (b2 : b < 2147483648) (hdg : decode cc pc = .ok (.if_icmp .gt off, 3)) (ht : (pc : Int) + off = (tgt : Int)) (kt : b < a → W p l e R s m args below meth c H locs cells slots Q (F0 m (tgt) ls (rest))) (kf : a ≤ b → W p l e R s m args below meth c H locs cells slots Q (F0 m (pc + 3) ls (rest))) : W p l e R s m args below meth c H locs cells slots Q (F0 m (pc) ls (.int (zI b) :: .int (zI a) :: rest)) := lv_icmp_gt hexec hb hdg ht (fun h => kt ((zI_lt b1 b2 a1 a2).mp h)) (fun h => kf (by have := (not_congr (zI_lt b1 b2 a1 a2)).mp h; omega))
theorem z_if_gt (hexec : p.tables.exec = Jvm.exec) (hb : c.code = cc) {a off : Int} {tgt : Nat} (a1 : -2147483648 ≤ a) (a2 : a < 2147483648) (hdg : decode cc pc = .ok (.ifCond .gt off, 3)) (ht : (pc : Int) + off = (tgt : Int)) (kt : 0 < a → W p l e R s m args below meth c H locs cells slots Q (F0 m (tgt) ls (rest))) (kf : a ≤ 0 → W p l e R s m args below meth c H locs cells slots Q (F0 m (pc + 3) ls (rest))) : W p l e R s m args below meth c H locs cells slots Q (F0 m (pc) ls (.int (zI a) :: rest)) := by
  have b1 : (-2147483648 : Int) ≤ 0 := by omega
  have b2 : (0 : Int) < 2147483648 := by omega
  exact lv_if_gt hexec hb hdg ht (fun h => kt ((zI_lt (a := 0) (b := a) b1 b2 a1 a2).mp h)) (fun h => kf (by have := (not_congr (zI_lt (a := 0) (b := a) b1 b2 a1 a2)).mp h; omega))
theorem z_icmp_le (hexec : p.tables.exec = Jvm.exec) (hb : c.code = cc) {a b off : Int} {tgt : Nat} (a1 : -2147483648 ≤ a) (a2 : a < 2147483648) (b1 : -2147483648 ≤ b) (b2 : b < 2147483648) (hdg : decode cc pc = .ok (.if_icmp .le off, 3)) (ht : (pc : Int) + off = (tgt : Int)) (kt : a ≤ b → W p l e R s m args below meth c H locs cells slots Q (F0 m (tgt) ls (rest))) (kf : b < a → W p l e R s m args below meth c H locs cells slots Q (F0 m (pc + 3) ls (rest))) : W p l e R s m args below meth c H locs cells slots Q (F0 m (pc) ls (.int (zI b) :: .int (zI a) :: rest)) := lv_icmp_le hexec hb hdg ht (fun h => kt ((zI_le a1 a2 b1 b2).mp h)) (fun h => kf (by have := (not_congr (zI_le a1 a2 b1 b2)).mp h; omega))
theorem z_if_le (hexec : p.tables.exec = Jvm.exec) (hb : c.code = cc) {a off : Int} {tgt : Nat} (a1 : -2147483648 ≤ a) (a2 : a < 2147483648) (hdg : decode cc pc = .ok (.ifCond .le off, 3)) (ht : (pc : Int) + off = (tgt : Int)) (kt : a ≤ 0 → W p l e R s m args below meth c H locs cells slots Q (F0 m (tgt) ls (rest))) (kf : 0 < a → W p l e R s m args below meth c H locs cells slots Q (F0 m (pc + 3) ls (rest))) : W p l e R s m args below meth c H locs cells slots Q (F0 m (pc) ls (.int (zI a) :: rest)) := by
  have b1 : (-2147483648 : Int) ≤ 0 := by omega
  have b2 : (0 : Int) < 2147483648 := by omega
  exact lv_if_le hexec hb hdg ht (fun h => kt ((zI_le (a := a) (b := 0) a1 a2 b1 b2).mp h)) (fun h => kf (by have := (not_congr (zI_le (a := a) (b := 0) a1 a2 b1 b2)).mp h; omega))
theorem z_ifeqB (hexec : p.tables.exec = Jvm.exec) (hb : c.code = cc) {b : Bool} {off : Int} {tgt : Nat} (hdg : decode cc pc = .ok (.ifCond .eq off, 3)) (ht : (pc : Int) + off = (tgt : Int)) (kt : b = false → W p l e R s m args below meth c H locs cells slots Q (F0 m (tgt) ls (rest))) (kf : b = true → W p l e R s m args below meth c H locs cells slots Q (F0 m (pc + 3) ls (rest))) : W p l e R s m args below meth c H locs cells slots Q (F0 m (pc) ls (.int (zI (b2 b)) :: rest)) := z_if_eq hexec hb (by have := b2_r b; omega) (by have := b2_r b; omega) hdg ht (fun h => kt (b2_0 h)) (fun h => kf (b2_1 h))
theorem z_ifneB (hexec : p.tables.exec = Jvm.exec) (hb : c.code = cc) {b : Bool} {off : Int} {tgt : Nat} (hdg : decode cc pc = .ok (.ifCond .ne off, 3)) (ht : (pc : Int) + off = (tgt : Int)) (kt : b = true → W p l e R s m args below meth c H locs cells slots Q (F0 m (tgt) ls (rest))) (kf : b = false → W p l e R s m args below meth c H locs cells slots Q (F0 m (pc + 3) ls (rest))) : W p l e R s m args below meth c H locs cells slots Q (F0 m (pc) ls (.int (zI (b2 b)) :: rest)) := z_if_ne hexec hb (by have := b2_r b; omega) (by have := b2_r b; omega) hdg ht (fun h => kt (b2_1 h)) (fun h => kf (b2_0 h))
end ZW
/-! registers: S k j, the number at place j of register k (a field that is no array: at place 0) -/
abbrev St : Type := Nat → Nat → Int
def sA (S : St) (r : Nat) (f : Nat → Int) : St := fun k => if k = r then f else S k
def uZ (f : Nat → Int) (k : Nat) (v : Int) : Nat → Int := fun j => if j = k then v else f j
theorem sA_s (S : St) (r : Nat) (f : Nat → Int) : sA S r f r = f := by simp [sA]
theorem sA_n {S : St} {r k : Nat} {f : Nat → Int} (h : k ≠ r) : sA S r f k = S k := by simp [sA, h]
theorem uZ_s (f : Nat → Int) (k : Nat) (v : Int) : uZ f k v k = v := by simp [uZ]
theorem uZ_n {f : Nat → Int} {k j : Nat} {v : Int} (h : j ≠ k) : uZ f k v j = f j := by simp [uZ, h]
theorem upd_zI (f : Nat → Int) (k : Nat) (v : Int) : upd (fun j => zI (f j)) k (zI v) = fun j => zI (uZ f k v j) := by
  funext j
  unfold upd uZ
  by_cases h : j = k <;> simp [h]
/-- all registers hold ints -/
def RS (S : St) : Prop := ∀ k j, k ≠ 99 → -2147483648 ≤ S k j ∧ S k j < 2147483648
theorem RS.set {S : St} (h : RS S) {r : Nat} {f : Nat → Int} (hf : r ≠ 99 → ∀ j, -2147483648 ≤ f j ∧ f j < 2147483648) : RS (sA S r f) := by
  intro k j hk
  unfold sA
  by_cases e : k = r
  · rw [if_pos e]; exact hf (e ▸ hk) j
  · rw [if_neg e]; exact h k j hk
theorem RS.put {S : St} (h : RS S) {r i : Nat} {v : Int} (h1 : -2147483648 ≤ v) (h2 : v < 2147483648) : RS (sA S r (uZ (S r) i v)) := by
  refine h.set (fun hr j => ?_)
  unfold uZ
  by_cases e : j = i
  · rw [if_pos e]; exact ⟨h1, h2⟩
  · rw [if_neg e]; exact h r j hr
theorem RS.one {S : St} (h : RS S) {r : Nat} {v : Int} (h1 : -2147483648 ≤ v) (h2 : v < 2147483648) : RS (sA S r (fun _ => v)) := h.set (fun _ _ => ⟨h1, h2⟩)

/-- the reference's cells -/
def mW (cI : ClassId) (ad : Nat → Nat) (S : St) : va_W :=
  [(ad 26, .inr (7, [.ref (ad 0), .int (zI (S 1 0)), .int (zI (S 2 0)), .int (zI (S 3 0)), .int (zI (S 4 0)), .ref (ad 5), .ref (ad 6), .ref (ad 7), .int (zI (S 8 0)), .ref (ad 9), .ref (ad 10), .ref (ad 11), .ref (ad 12), .ref (ad 13), .int (zI (S 14 0)), .int (zI (S 15 0)), .ref (ad 16), .int (zI (S 17 0)), .ref (ad 18), .int (zI (S 19 0)), .int (zI (S 20 0)), .int (zI (S 21 0)), .ref (ad 22), .ref (ad 23), .ref (ad 24), .long (zL (S 99 0))])),
   (ad 0, .inl (cI, 9, .inl (fun j => zI (S 0 j)))),
   (ad 5, .inl (cI, 7, .inl (fun j => zI (S 5 j)))),
   (ad 6, .inl (cI, 7, .inl (fun j => zI (S 6 j)))),
   (ad 7, .inl (cI, 462, .inl (fun j => zI (S 7 j)))),
   (ad 9, .inl (cI, 7, .inl (fun j => zI (S 9 j)))),
   (ad 10, .inl (cI, 7, .inl (fun j => zI (S 10 j)))),
   (ad 11, .inl (cI, 7, .inl (fun j => zI (S 11 j)))),
   (ad 12, .inl (cI, 462, .inl (fun j => zI (S 12 j)))),
   (ad 13, .inl (cI, 462, .inl (fun j => zI (S 13 j)))),
   (ad 16, .inl (cI, 18, .inl (fun j => zI (S 16 j)))),
   (ad 18, .inl (cI, 7, .inl (fun j => zI (S 18 j)))),
   (ad 22, .inl (cI, 7, .inl (fun j => zI (S 22 j)))),
   (ad 23, .inl (cI, 7, .inl (fun j => zI (S 23 j)))),
   (ad 24, .inl (cI, 18, .inl (fun j => zI (S 24 j))))]
/-- the class's cells -/
def cW (cI cZ : ClassId) (ad : Nat → Nat) (S : St) : va_W :=
  [(ad 40, .inr (6, [.ref (ad 41), .ref (ad 42), .ref (ad 43), .ref (ad 44), .ref (ad 45), .ref (ad 46), .ref (ad 47), .int (zI (S 32 0)), .int (zI (S 33 0))])),
   (ad 41, .inr (2, [.ref (ad 0), .int (zI (S 1 0))])),
   (ad 42, .inr (0, [.int (zI (S 2 0)), .int (zI (S 3 0)), .ref (ad 4), .ref (ad 5), .ref (ad 6)])),
   (ad 43, .inr (4, [.ref (ad 7), .int (zI (S 8 0)), .int (zI (S 9 0)), .int (zI (S 10 0)), .ref (ad 11), .ref (ad 12), .ref (ad 13)])),
   (ad 44, .inr (4, [.ref (ad 14), .int (zI (S 15 0)), .int (zI (S 16 0)), .int (zI (S 17 0)), .ref (ad 18), .ref (ad 19), .ref (ad 20)])),
   (ad 45, .inr (5, [.int (zI (S 21 0)), .ref (ad 42), .ref (ad 7), .ref (ad 22), .ref (ad 23)])),
   (ad 46, .inr (3, [.ref (ad 42), .int (zI (S 24 0)), .int (zI (S 25 0)), .int (zI (S 26 0)), .ref (ad 27), .ref (ad 28), .ref (ad 29), .ref (ad 30)])),
   (ad 47, .inr (1, [.ref (ad 42), .ref (ad 43), .ref (ad 31)])),
   (ad 0, .inl (cI, 9, .inl (fun j => zI (S 0 j)))),
   (ad 4, .inl (cI, 462, .inl (fun j => zI (S 4 j)))),
   (ad 5, .inl (cI, 462, .inl (fun j => zI (S 5 j)))),
   (ad 6, .inl (cI, 7, .inl (fun j => zI (S 6 j)))),
   (ad 7, .inl (cI, 7, .inl (fun j => zI (S 7 j)))),
   (ad 11, .inl (cI, 6, .inl (fun j => zI (S 11 j)))),
   (ad 12, .inl (cI, 6, .inl (fun j => zI (S 12 j)))),
   (ad 13, .inl (cZ, 6, .inl (fun j => zI (S 13 j)))),
   (ad 14, .inl (cI, 7, .inl (fun j => zI (S 14 j)))),
   (ad 18, .inl (cI, 6, .inl (fun j => zI (S 18 j)))),
   (ad 19, .inl (cI, 6, .inl (fun j => zI (S 19 j)))),
   (ad 20, .inl (cZ, 6, .inl (fun j => zI (S 20 j)))),
   (ad 22, .inl (cZ, 462, .inl (fun j => zI (S 22 j)))),
   (ad 23, .inl (cI, 462, .inl (fun j => zI (S 23 j)))),
   (ad 27, .inl (cI, 463, .inl (fun j => zI (S 27 j)))),
   (ad 28, .inl (cI, 3964, .inl (fun j => zI (S 28 j)))),
   (ad 29, .inl (cI, 462, .inl (fun j => zI (S 29 j)))),
   (ad 30, .inl (cI, 462, .inl (fun j => zI (S 30 j)))),
   (ad 31, .inl (cI, 49, .inl (fun j => zI (S 31 j))))]
def mpos : Nat → Nat := fun k => match k with
  | 26 => 0
  | 0 => 1
  | 5 => 2
  | 6 => 3
  | 7 => 4
  | 9 => 5
  | 10 => 6
  | 11 => 7
  | 12 => 8
  | 13 => 9
  | 16 => 10
  | 18 => 11
  | 22 => 12
  | 23 => 13
  | 24 => 14
  | _ => 0
def mlen : Nat → Nat := fun k => match k with
  | 0 => 9
  | 5 => 7
  | 6 => 7
  | 7 => 462
  | 9 => 7
  | 10 => 7
  | 11 => 7
  | 12 => 462
  | 13 => 462
  | 16 => 18
  | 18 => 7
  | 22 => 7
  | 23 => 7
  | 24 => 18
  | _ => 0
def mArr (r : Nat) : Bool := [0, 5, 6, 7, 9, 10, 11, 12, 13, 16, 18, 22, 23, 24].contains r
def mAd (r : Nat) : Bool := [26, 0, 5, 6, 7, 9, 10, 11, 12, 13, 16, 18, 22, 23, 24].contains r
def cAd (r : Nat) : Bool := [40, 41, 42, 43, 44, 45, 46, 47, 0, 4, 5, 6, 7, 11, 12, 13, 14, 18, 19, 20, 22, 23, 27, 28, 29, 30, 31].contains r
/-- which cells are its own; they are apart -/
def mA (ad : Nat → Nat) : Nat → Prop := fun q => ∃ r, mAd r = true ∧ q = ad r
def mInj (ad : Nat → Nat) : Prop := ∀ i j, mAd i = true → mAd j = true → ad i = ad j → i = j
def mRegs : List Nat := [26, 0, 5, 6, 7, 9, 10, 11, 12, 13, 16, 18, 22, 23, 24]
theorem mW_map (cI : ClassId) (ad : Nat → Nat) (S : St) : (mW cI ad S).map (fun q => q.1) = mRegs.map ad := rfl
theorem mW_ad (cI : ClassId) (ad : Nat → Nat) (S : St) {k : Nat} {q : Nat × va_E} (h : (mW cI ad S)[k]? = some q) : ∃ r, mRegs[k]? = some r ∧ q.1 = ad r := by
  have h1 : ((mW cI ad S).map (fun q => q.1))[k]? = some q.1 := by rw [List.getElem?_map, h]; rfl
  rw [mW_map, List.getElem?_map] at h1
  cases hr : mRegs[k]? with
  | none => rw [hr] at h1; cases h1
  | some r => rw [hr] at h1; exact ⟨r, rfl, (Option.some.inj h1).symm⟩
theorem mRegs_ok : ∀ r ∈ mRegs, mAd r = true := by decide
theorem mRegs_nd : ∀ i, i < 15 → ∀ j, j < 15 → mRegs[i]? = mRegs[j]? → i = j := by decide +kernel
theorem mD {ad : Nat → Nat} (hinj : mInj ad) (cI : ClassId) (S : St) : va_D (mA ad) (mW cI ad S) := by
  refine ⟨fun i j p q hp hq e => ?_, fun k q hq => ?_⟩
  · obtain ⟨r, h1, h2⟩ := mW_ad cI ad S hp
    obtain ⟨r', h3, h4⟩ := mW_ad cI ad S hq
    have e2 : r = r' := hinj r r' (mRegs_ok r (List.mem_of_getElem? h1)) (mRegs_ok r' (List.mem_of_getElem? h3)) (by rw [← h2, ← h4]; exact e)
    subst e2
    exact mRegs_nd i (List.getElem?_eq_some_iff.mp h1).1 j (List.getElem?_eq_some_iff.mp h3).1 (h1.trans h3.symm)
  · obtain ⟨r, h1, h2⟩ := mW_ad cI ad S hq
    exact ⟨r, mRegs_ok r (List.mem_of_getElem? h1), h2⟩
/-- which cells are its own; they are apart -/
def cA (ad : Nat → Nat) : Nat → Prop := fun q => ∃ r, cAd r = true ∧ q = ad r
def cInj (ad : Nat → Nat) : Prop := ∀ i j, cAd i = true → cAd j = true → ad i = ad j → i = j
def cRegs : List Nat := [40, 41, 42, 43, 44, 45, 46, 47, 0, 4, 5, 6, 7, 11, 12, 13, 14, 18, 19, 20, 22, 23, 27, 28, 29, 30, 31]
theorem cW_map (cI cZ : ClassId) (ad : Nat → Nat) (S : St) : (cW cI cZ ad S).map (fun q => q.1) = cRegs.map ad := rfl
theorem cW_ad (cI cZ : ClassId) (ad : Nat → Nat) (S : St) {k : Nat} {q : Nat × va_E} (h : (cW cI cZ ad S)[k]? = some q) : ∃ r, cRegs[k]? = some r ∧ q.1 = ad r := by
  have h1 : ((cW cI cZ ad S).map (fun q => q.1))[k]? = some q.1 := by rw [List.getElem?_map, h]; rfl
  rw [cW_map, List.getElem?_map] at h1
  cases hr : cRegs[k]? with
  | none => rw [hr] at h1; cases h1
  | some r => rw [hr] at h1; exact ⟨r, rfl, (Option.some.inj h1).symm⟩
theorem cRegs_ok : ∀ r ∈ cRegs, cAd r = true := by decide
theorem cRegs_nd : ∀ i, i < 27 → ∀ j, j < 27 → cRegs[i]? = cRegs[j]? → i = j := by decide +kernel
theorem cD {ad : Nat → Nat} (hinj : cInj ad) (cI cZ : ClassId) (S : St) : va_D (cA ad) (cW cI cZ ad S) := by
  refine ⟨fun i j p q hp hq e => ?_, fun k q hq => ?_⟩
  · obtain ⟨r, h1, h2⟩ := cW_ad cI cZ ad S hp
    obtain ⟨r', h3, h4⟩ := cW_ad cI cZ ad S hq
    have e2 : r = r' := hinj r r' (cRegs_ok r (List.mem_of_getElem? h1)) (cRegs_ok r' (List.mem_of_getElem? h3)) (by rw [← h2, ← h4]; exact e)
    subst e2
    exact cRegs_nd i (List.getElem?_eq_some_iff.mp h1).1 j (List.getElem?_eq_some_iff.mp h3).1 (h1.trans h3.symm)
  · obtain ⟨r, h1, h2⟩ := cW_ad cI cZ ad S hq
    exact ⟨r, cRegs_ok r (List.mem_of_getElem? h1), h2⟩
theorem mW_at (cI : ClassId) (ad : Nat → Nat) (S : St) {r : Nat} (hr : mArr r = true) : (mW cI ad S)[mpos r]? = some (ad r, .inl (cI, mlen r, .inl (fun j => zI (S r j)))) := by
  have h : r = 0 ∨ r = 5 ∨ r = 6 ∨ r = 7 ∨ r = 9 ∨ r = 10 ∨ r = 11 ∨ r = 12 ∨ r = 13 ∨ r = 16 ∨ r = 18 ∨ r = 22 ∨ r = 23 ∨ r = 24 := by simpa [mArr] using hr
  rcases h with rfl | rfl | rfl | rfl | rfl | rfl | rfl | rfl | rfl | rfl | rfl | rfl | rfl | rfl <;> rfl
theorem mW_set (cI : ClassId) (ad : Nat → Nat) (S : St) {r : Nat} (hr : mArr r = true) (f : Nat → Int) : (mW cI ad S).set (mpos r) (ad r, .inl (cI, mlen r, .inl (fun j => zI (f j)))) = mW cI ad (sA S r f) := by
  have h : r = 0 ∨ r = 5 ∨ r = 6 ∨ r = 7 ∨ r = 9 ∨ r = 10 ∨ r = 11 ∨ r = 12 ∨ r = 13 ∨ r = 16 ∨ r = 18 ∨ r = 22 ∨ r = 23 ∨ r = 24 := by simpa [mArr] using hr
  rcases h with rfl | rfl | rfl | rfl | rfl | rfl | rfl | rfl | rfl | rfl | rfl | rfl | rfl | rfl <;> rfl
end
section
section ZA
variable {p : Program} {l : Launch} {e : Env} {R : Room} {s : State} {m : MethodId} {args : Array Value} {below : List Frame} {meth : Method} {c : Code} {H : Heap} {locs : List Loc} {cells slots : Nat} {Q : State → Prop}
variable {cc : ByteArray} {pc : Nat} {ls : Array Slot} {rest : List Value} {D : va_G} {cl : List vw_C} {A : Nat → Prop} {a : Nat} {tys : List (ClassId × FieldType)} {ws : va_W} {H0 : Heap}
theorem z_ald (hexec : p.tables.exec = Jvm.exec) (hb : c.code = cc) (hK : va_K D cl tys s) (hP : va_P D cl ws H) (q0 t0 : Nat) {cA : ClassId} {n : Nat} {f : Nat → Int} (ha : ws[q0]? = some (a, .inl (cA, n, .inl (fun j => zI (f j))))) (ht : tys[t0]? = some (cA, .int)) {i : Int} (h0 : 0 ≤ i) (h1 : i < n) (hn : n < 2147483648) (hdg : decode cc pc = .ok (.iaload, 1))
    (kk : W p l e R s m args below meth c H locs cells slots Q (F0 m (pc + 1) ls (.int (zI (f i.toNat)) :: rest))) : W p l e R s m args below meth c H locs cells slots Q (F0 m pc ls (.int (zI i) :: .ref a :: rest)) :=
  va_iald hexec hb hK hP q0 t0 ha ht (zI_in h0 h1 hn) hdg (by rw [zI_clamp h0 (by omega)]; exact kk)
theorem z_zald (hexec : p.tables.exec = Jvm.exec) (hb : c.code = cc) (hK : va_K D cl tys s) (hP : va_P D cl ws H) (q0 t0 : Nat) {cA : ClassId} {n : Nat} {f : Nat → Int} (ha : ws[q0]? = some (a, .inl (cA, n, .inl (fun j => zI (f j))))) (ht : tys[t0]? = some (cA, .boolean)) {i : Int} (h0 : 0 ≤ i) (h1 : i < n) (hn : n < 2147483648) (hdg : decode cc pc = .ok (.baload, 1))
    (kk : W p l e R s m args below meth c H locs cells slots Q (F0 m (pc + 1) ls (.int (zI (f i.toNat)) :: rest))) : W p l e R s m args below meth c H locs cells slots Q (F0 m pc ls (.int (zI i) :: .ref a :: rest)) :=
  va_zald hexec hb hK hP q0 t0 ha ht (zI_in h0 h1 hn) hdg (by rw [zI_clamp h0 (by omega)]; exact kk)
theorem z_ast (hexec : p.tables.exec = Jvm.exec) (hb : c.code = cc) (hK : va_K D cl tys s) (hP : va_P D cl ws H) (hD : va_D A ws) (hS : va_S A H0 H locs) (q0 t0 : Nat) {cA : ClassId} {n : Nat} {f : Nat → Int} (ha : ws[q0]? = some (a, .inl (cA, n, .inl (fun j => zI (f j))))) (ht : tys[t0]? = some (cA, .int)) {i v : Int} (h0 : 0 ≤ i) (h1 : i < n) (hn : n < 2147483648) (hdg : decode cc pc = .ok (.iastore, 1))
    (kk : ∀ (H1 : Heap) (locs1 : List Loc), va_P D cl (ws.set q0 (a, .inl (cA, n, .inl (fun j => zI (uZ f i.toNat v j))))) H1 → va_S A H0 H1 locs1 → W p l e R s m args below meth c H1 locs1 cells slots Q (F0 m (pc + 1) ls rest)) : W p l e R s m args below meth c H locs cells slots Q (F0 m pc ls (.int (zI v) :: .int (zI i) :: .ref a :: rest)) :=
  va_iast hexec hb hK hP hD hS q0 t0 ha ht (zI_in h0 h1 hn) hdg (fun H1 locs1 h2 _ h4 => kk H1 locs1 (by rw [zI_clamp h0 (by omega), upd_zI] at h2; exact h2) h4)
theorem vp_nar_b {v : Int} (hv : v = 0 ∨ v = 1) : vp_nar .boolean (zI v) = zI v := by
  rcases hv with rfl | rfl <;> decide
theorem z_zast (hexec : p.tables.exec = Jvm.exec) (hb : c.code = cc) (hK : va_K D cl tys s) (hP : va_P D cl ws H) (hD : va_D A ws) (hS : va_S A H0 H locs) (q0 t0 : Nat) {cA : ClassId} {n : Nat} {f : Nat → Int} (ha : ws[q0]? = some (a, .inl (cA, n, .inl (fun j => zI (f j))))) (ht : tys[t0]? = some (cA, .boolean)) {i v : Int} (hv : v = 0 ∨ v = 1) (h0 : 0 ≤ i) (h1 : i < n) (hn : n < 2147483648) (hdg : decode cc pc = .ok (.bastore, 1))
    (kk : ∀ (H1 : Heap) (locs1 : List Loc), va_P D cl (ws.set q0 (a, .inl (cA, n, .inl (fun j => zI (uZ f i.toNat v j))))) H1 → va_S A H0 H1 locs1 → W p l e R s m args below meth c H1 locs1 cells slots Q (F0 m (pc + 1) ls rest)) : W p l e R s m args below meth c H locs cells slots Q (F0 m pc ls (.int (zI v) :: .int (zI i) :: .ref a :: rest)) :=
  va_zast hexec hb hK hP hD hS q0 t0 ha ht (zI_in h0 h1 hn) hdg (fun H1 locs1 h2 _ h4 => kk H1 locs1 (by rw [zI_clamp h0 (by omega), vp_nar_b hv, upd_zI] at h2; exact h2) h4)
end ZA
/-- a world Wf of registers, and what the tables say besides (E) -/
def gB (D : va_G) (Wf : St → va_W) (S : St) (t : State) : Prop := va_P D vwCl (Wf S) t.heap ∧ RS S
def gPc (D : va_G) (Wf : St → va_W) (E : State → Prop) (S : St) (av : List Value) : Array Value → State → Prop := va_Pc av (fun U => va_P D vwCl (Wf S) U.heap ∧ E U)
/-- E goes over a call's frame -/
def Eb (E : State → Prop) : Prop := ∀ (a : Array Value) (U : State) (g : JFrame) (mk : MethodId), E U → E (U.calling g mk a)
/-- E goes from a method's entry to every later heap that differs in A alone -/
def Ek (E : State → Prop) (A : Nat → Prop) : Prop := ∀ (s U : State) (H : Heap) (locs : List Loc), E s → va_S A s.heap H locs → U.heap = H → s.WarmedH U.vm → E U
theorem gPc_bl {D : va_G} {Wf : St → va_W} {E : State → Prop} {S : St} {av : List Value} (hE : Eb E) : FrameBlind (gPc D Wf E S av) := fun a U g mk q => ⟨q.1, q.2.1, hE a U g mk q.2.2⟩
section ZC
variable {p : Program} {l : Launch} {e : Env} {R : Room} {s : State} {m : MethodId} {args : Array Value} {below : List Frame} {meth : Method} {c : Code} {H : Heap} {locs : List Loc} {cells slots : Nat} {Q : State → Prop}
variable {pc : Nat} {ls : Array Slot} {st0 rest : List Value} {D : va_G} {A : Nat → Prop} {Wf : St → va_W} {E : State → Prop} {S : St}
variable {y : MethodName} {bytes cc : ByteArray} {maxL nL n index : Nat} {ret : Option FieldType} {ws : List Cond} {rm : Room} {Ts : List Cond} {own C host : String} {b : Addr} {As : List Value}
theorem g_callVi {post : Int32 → St → Prop} (X : CallFix p m c cc nL s args Ts own) (hM : Met l y ws rm (gPc D Wf E S (.ref b :: As)) (va_Qi post (gB D Wf) A) 0 0 A) (cw : CallW R s args own C index y bytes maxL ret ws rm 0 0 n) (hEb : Eb E) (hEk : Ek E A) (hE : E s) (hrec : ∃ cellB : Cell, H[b]? = some cellB ∧ cellB.vm.isStatics = false ∧ s.vm.findClass C = some cellB.cls) (hP : va_P D vwCl (Wf S) H) (hS : va_S A s.heap H locs) (hn : As.length = n) (hsize : ls.size = nL) (hst : st0 = As.reverse ++ .ref b :: rest) (hW : (rest.map fun v => v.category).sum ≤ 8) (hdg : decode cc pc = .ok (.invokevirtual index, 3)) (hf : cells ≤ R.cells ∧ slots ≤ R.slots)
    (kk : ∀ (r : Int32) (S1 : St) (H1 : Heap) (locs1 : List Loc), post r S1 → va_P D vwCl (Wf S1) H1 → RS S1 → va_S A s.heap H1 locs1 → (∀ q : Nat, q < H.size → ¬ A q → H1[q]? = H[q]?) → W p l e R s m args below meth c H1 locs1 cells slots Q (F0 m (pc + 3) ls (.int r :: rest))) : W p l e R s m args below meth c H locs cells slots Q (F0 m pc ls st0) :=
  va_calli (va_runV (As := As) (rest := rest) (g := F0 m pc ls st0) X hM cw ⟨gPc_bl hEb, hrec, fun U hU hw => ⟨rfl, by rw [hU]; exact hP, hEk s U H locs hE hS hU hw⟩⟩ rfl hn hsize hst (lv_room hW) hdg ⟨hf.1, hf.2⟩) hS (fun q _ h => h) (fun q h => h) (fun r u t H1 locs1 ht hvm hw hB hz hk hS1 => kk r u H1 locs1 hw (by rw [← ht]; exact hB.1) hB.2 hS1 hk)
theorem g_callSi {post : Int32 → St → Prop} (X : CallFix p m c cc nL s args Ts own) (hM : Met l y ws rm (gPc D Wf E S As) (va_Qi post (gB D Wf) A) 0 0 A) (cw : CallB R s args own index y bytes maxL ret ws rm 0 0 n ∧ (Cond.static y).before args s = true) (hEb : Eb E) (hEk : Ek E A) (hE : E s)  (hP : va_P D vwCl (Wf S) H) (hS : va_S A s.heap H locs) (hn : As.length = n) (hsize : ls.size = nL) (hst : st0 = As.reverse ++ rest) (hW : (rest.map fun v => v.category).sum ≤ 8) (hdg : decode cc pc = .ok (.invokestatic index, 3)) (hf : cells ≤ R.cells ∧ slots ≤ R.slots)
    (kk : ∀ (r : Int32) (S1 : St) (H1 : Heap) (locs1 : List Loc), post r S1 → va_P D vwCl (Wf S1) H1 → RS S1 → va_S A s.heap H1 locs1 → (∀ q : Nat, q < H.size → ¬ A q → H1[q]? = H[q]?) → W p l e R s m args below meth c H1 locs1 cells slots Q (F0 m (pc + 3) ls (.int r :: rest))) : W p l e R s m args below meth c H locs cells slots Q (F0 m pc ls st0) :=
  va_calli (va_runS (As := As) (rest := rest) (g := F0 m pc ls st0) X hM cw ⟨gPc_bl hEb, fun U hU hw => ⟨rfl, by rw [hU]; exact hP, hEk s U H locs hE hS hU hw⟩⟩ rfl hn hsize hst (lv_room hW) hdg ⟨hf.1, hf.2⟩) hS (fun q _ h => h) (fun q h => h) (fun r u t H1 locs1 ht hvm hw hB hz hk hS1 => kk r u H1 locs1 hw (by rw [← ht]; exact hB.1) hB.2 hS1 hk)
theorem g_callNi {post : Int32 → St → Prop} (X : CallFix p m c cc nL s args Ts own) (hM : Met l y ws rm (gPc D Wf E S As) (va_Qi post (gB D Wf) A) 0 0 A) (cw : va_CN R s args own index y host bytes maxL ret ws rm 0 0 n ∧ (Cond.static y).before args s = true ∧ True) (hEb : Eb E) (hEk : Ek E A) (hE : E s)  (hP : va_P D vwCl (Wf S) H) (hS : va_S A s.heap H locs) (hn : As.length = n) (hsize : ls.size = nL) (hst : st0 = As.reverse ++ rest) (hW : (rest.map fun v => v.category).sum ≤ 8) (hdg : decode cc pc = .ok (.invokestatic index, 3)) (hf : cells ≤ R.cells ∧ slots ≤ R.slots)
    (kk : ∀ (r : Int32) (S1 : St) (H1 : Heap) (locs1 : List Loc), post r S1 → va_P D vwCl (Wf S1) H1 → RS S1 → va_S A s.heap H1 locs1 → (∀ q : Nat, q < H.size → ¬ A q → H1[q]? = H[q]?) → W p l e R s m args below meth c H1 locs1 cells slots Q (F0 m (pc + 3) ls (.int r :: rest))) : W p l e R s m args below meth c H locs cells slots Q (F0 m pc ls st0) :=
  va_calli (va_runSN (As := As) (rest := rest) (g := F0 m pc ls st0) X hM cw ⟨gPc_bl hEb, fun U hU hw => ⟨rfl, by rw [hU]; exact hP, hEk s U H locs hE hS hU hw⟩⟩ rfl hn hsize hst (lv_room hW) hdg ⟨hf.1, hf.2⟩) hS (fun q _ h => h) (fun q h => h) (fun r u t H1 locs1 ht hvm hw hB hz hk hS1 => kk r u H1 locs1 hw (by rw [← ht]; exact hB.1) hB.2 hS1 hk)
theorem g_callVl {post : Int64 → St → Prop} (X : CallFix p m c cc nL s args Ts own) (hM : Met l y ws rm (gPc D Wf E S (.ref b :: As)) (va_Ql post (gB D Wf) A) 0 0 A) (cw : CallW R s args own C index y bytes maxL ret ws rm 0 0 n) (hEb : Eb E) (hEk : Ek E A) (hE : E s) (hrec : ∃ cellB : Cell, H[b]? = some cellB ∧ cellB.vm.isStatics = false ∧ s.vm.findClass C = some cellB.cls) (hP : va_P D vwCl (Wf S) H) (hS : va_S A s.heap H locs) (hn : As.length = n) (hsize : ls.size = nL) (hst : st0 = As.reverse ++ .ref b :: rest) (hW : (rest.map fun v => v.category).sum ≤ 8) (hdg : decode cc pc = .ok (.invokevirtual index, 3)) (hf : cells ≤ R.cells ∧ slots ≤ R.slots)
    (kk : ∀ (r : Int64) (S1 : St) (H1 : Heap) (locs1 : List Loc), post r S1 → va_P D vwCl (Wf S1) H1 → RS S1 → va_S A s.heap H1 locs1 → (∀ q : Nat, q < H.size → ¬ A q → H1[q]? = H[q]?) → W p l e R s m args below meth c H1 locs1 cells slots Q (F0 m (pc + 3) ls (.long r :: rest))) : W p l e R s m args below meth c H locs cells slots Q (F0 m pc ls st0) :=
  va_calll (va_runV (As := As) (rest := rest) (g := F0 m pc ls st0) X hM cw ⟨gPc_bl hEb, hrec, fun U hU hw => ⟨rfl, by rw [hU]; exact hP, hEk s U H locs hE hS hU hw⟩⟩ rfl hn hsize hst (lv_room hW) hdg ⟨hf.1, hf.2⟩) hS (fun q _ h => h) (fun q h => h) (fun r u t H1 locs1 ht hvm hw hB hz hk hS1 => kk r u H1 locs1 hw (by rw [← ht]; exact hB.1) hB.2 hS1 hk)
theorem g_callSl {post : Int64 → St → Prop} (X : CallFix p m c cc nL s args Ts own) (hM : Met l y ws rm (gPc D Wf E S As) (va_Ql post (gB D Wf) A) 0 0 A) (cw : CallB R s args own index y bytes maxL ret ws rm 0 0 n ∧ (Cond.static y).before args s = true) (hEb : Eb E) (hEk : Ek E A) (hE : E s)  (hP : va_P D vwCl (Wf S) H) (hS : va_S A s.heap H locs) (hn : As.length = n) (hsize : ls.size = nL) (hst : st0 = As.reverse ++ rest) (hW : (rest.map fun v => v.category).sum ≤ 8) (hdg : decode cc pc = .ok (.invokestatic index, 3)) (hf : cells ≤ R.cells ∧ slots ≤ R.slots)
    (kk : ∀ (r : Int64) (S1 : St) (H1 : Heap) (locs1 : List Loc), post r S1 → va_P D vwCl (Wf S1) H1 → RS S1 → va_S A s.heap H1 locs1 → (∀ q : Nat, q < H.size → ¬ A q → H1[q]? = H[q]?) → W p l e R s m args below meth c H1 locs1 cells slots Q (F0 m (pc + 3) ls (.long r :: rest))) : W p l e R s m args below meth c H locs cells slots Q (F0 m pc ls st0) :=
  va_calll (va_runS (As := As) (rest := rest) (g := F0 m pc ls st0) X hM cw ⟨gPc_bl hEb, fun U hU hw => ⟨rfl, by rw [hU]; exact hP, hEk s U H locs hE hS hU hw⟩⟩ rfl hn hsize hst (lv_room hW) hdg ⟨hf.1, hf.2⟩) hS (fun q _ h => h) (fun q h => h) (fun r u t H1 locs1 ht hvm hw hB hz hk hS1 => kk r u H1 locs1 hw (by rw [← ht]; exact hB.1) hB.2 hS1 hk)
theorem g_callNl {post : Int64 → St → Prop} (X : CallFix p m c cc nL s args Ts own) (hM : Met l y ws rm (gPc D Wf E S As) (va_Ql post (gB D Wf) A) 0 0 A) (cw : va_CN R s args own index y host bytes maxL ret ws rm 0 0 n ∧ (Cond.static y).before args s = true ∧ True) (hEb : Eb E) (hEk : Ek E A) (hE : E s)  (hP : va_P D vwCl (Wf S) H) (hS : va_S A s.heap H locs) (hn : As.length = n) (hsize : ls.size = nL) (hst : st0 = As.reverse ++ rest) (hW : (rest.map fun v => v.category).sum ≤ 8) (hdg : decode cc pc = .ok (.invokestatic index, 3)) (hf : cells ≤ R.cells ∧ slots ≤ R.slots)
    (kk : ∀ (r : Int64) (S1 : St) (H1 : Heap) (locs1 : List Loc), post r S1 → va_P D vwCl (Wf S1) H1 → RS S1 → va_S A s.heap H1 locs1 → (∀ q : Nat, q < H.size → ¬ A q → H1[q]? = H[q]?) → W p l e R s m args below meth c H1 locs1 cells slots Q (F0 m (pc + 3) ls (.long r :: rest))) : W p l e R s m args below meth c H locs cells slots Q (F0 m pc ls st0) :=
  va_calll (va_runSN (As := As) (rest := rest) (g := F0 m pc ls st0) X hM cw ⟨gPc_bl hEb, fun U hU hw => ⟨rfl, by rw [hU]; exact hP, hEk s U H locs hE hS hU hw⟩⟩ rfl hn hsize hst (lv_room hW) hdg ⟨hf.1, hf.2⟩) hS (fun q _ h => h) (fun q h => h) (fun r u t H1 locs1 ht hvm hw hB hz hk hS1 => kk r u H1 locs1 hw (by rw [← ht]; exact hB.1) hB.2 hS1 hk)
theorem g_callVv {post : St → Prop} (X : CallFix p m c cc nL s args Ts own) (hM : Met l y ws rm (gPc D Wf E S (.ref b :: As)) (va_Qv post (gB D Wf) A) 0 0 A) (cw : CallW R s args own C index y bytes maxL ret ws rm 0 0 n) (hEb : Eb E) (hEk : Ek E A) (hE : E s) (hrec : ∃ cellB : Cell, H[b]? = some cellB ∧ cellB.vm.isStatics = false ∧ s.vm.findClass C = some cellB.cls) (hP : va_P D vwCl (Wf S) H) (hS : va_S A s.heap H locs) (hn : As.length = n) (hsize : ls.size = nL) (hst : st0 = As.reverse ++ .ref b :: rest) (hW : (rest.map fun v => v.category).sum ≤ 8) (hdg : decode cc pc = .ok (.invokevirtual index, 3)) (hf : cells ≤ R.cells ∧ slots ≤ R.slots)
    (kk : ∀  (S1 : St) (H1 : Heap) (locs1 : List Loc), post  S1 → va_P D vwCl (Wf S1) H1 → RS S1 → va_S A s.heap H1 locs1 → (∀ q : Nat, q < H.size → ¬ A q → H1[q]? = H[q]?) → W p l e R s m args below meth c H1 locs1 cells slots Q (F0 m (pc + 3) ls (rest))) : W p l e R s m args below meth c H locs cells slots Q (F0 m pc ls st0) :=
  va_callv (va_runV (As := As) (rest := rest) (g := F0 m pc ls st0) X hM cw ⟨gPc_bl hEb, hrec, fun U hU hw => ⟨rfl, by rw [hU]; exact hP, hEk s U H locs hE hS hU hw⟩⟩ rfl hn hsize hst (lv_room hW) hdg ⟨hf.1, hf.2⟩) hS (fun q _ h => h) (fun q h => h) (fun  u t H1 locs1 ht hvm hw hB hz hk hS1 => kk  u H1 locs1 hw (by rw [← ht]; exact hB.1) hB.2 hS1 hk)
theorem g_callSv {post : St → Prop} (X : CallFix p m c cc nL s args Ts own) (hM : Met l y ws rm (gPc D Wf E S As) (va_Qv post (gB D Wf) A) 0 0 A) (cw : CallB R s args own index y bytes maxL ret ws rm 0 0 n ∧ (Cond.static y).before args s = true) (hEb : Eb E) (hEk : Ek E A) (hE : E s)  (hP : va_P D vwCl (Wf S) H) (hS : va_S A s.heap H locs) (hn : As.length = n) (hsize : ls.size = nL) (hst : st0 = As.reverse ++ rest) (hW : (rest.map fun v => v.category).sum ≤ 8) (hdg : decode cc pc = .ok (.invokestatic index, 3)) (hf : cells ≤ R.cells ∧ slots ≤ R.slots)
    (kk : ∀  (S1 : St) (H1 : Heap) (locs1 : List Loc), post  S1 → va_P D vwCl (Wf S1) H1 → RS S1 → va_S A s.heap H1 locs1 → (∀ q : Nat, q < H.size → ¬ A q → H1[q]? = H[q]?) → W p l e R s m args below meth c H1 locs1 cells slots Q (F0 m (pc + 3) ls (rest))) : W p l e R s m args below meth c H locs cells slots Q (F0 m pc ls st0) :=
  va_callv (va_runS (As := As) (rest := rest) (g := F0 m pc ls st0) X hM cw ⟨gPc_bl hEb, fun U hU hw => ⟨rfl, by rw [hU]; exact hP, hEk s U H locs hE hS hU hw⟩⟩ rfl hn hsize hst (lv_room hW) hdg ⟨hf.1, hf.2⟩) hS (fun q _ h => h) (fun q h => h) (fun  u t H1 locs1 ht hvm hw hB hz hk hS1 => kk  u H1 locs1 hw (by rw [← ht]; exact hB.1) hB.2 hS1 hk)
theorem g_callNv {post : St → Prop} (X : CallFix p m c cc nL s args Ts own) (hM : Met l y ws rm (gPc D Wf E S As) (va_Qv post (gB D Wf) A) 0 0 A) (cw : va_CN R s args own index y host bytes maxL ret ws rm 0 0 n ∧ (Cond.static y).before args s = true ∧ True) (hEb : Eb E) (hEk : Ek E A) (hE : E s)  (hP : va_P D vwCl (Wf S) H) (hS : va_S A s.heap H locs) (hn : As.length = n) (hsize : ls.size = nL) (hst : st0 = As.reverse ++ rest) (hW : (rest.map fun v => v.category).sum ≤ 8) (hdg : decode cc pc = .ok (.invokestatic index, 3)) (hf : cells ≤ R.cells ∧ slots ≤ R.slots)
    (kk : ∀  (S1 : St) (H1 : Heap) (locs1 : List Loc), post  S1 → va_P D vwCl (Wf S1) H1 → RS S1 → va_S A s.heap H1 locs1 → (∀ q : Nat, q < H.size → ¬ A q → H1[q]? = H[q]?) → W p l e R s m args below meth c H1 locs1 cells slots Q (F0 m (pc + 3) ls (rest))) : W p l e R s m args below meth c H locs cells slots Q (F0 m pc ls st0) :=
  va_callv (va_runSN (As := As) (rest := rest) (g := F0 m pc ls st0) X hM cw ⟨gPc_bl hEb, fun U hU hw => ⟨rfl, by rw [hU]; exact hP, hEk s U H locs hE hS hU hw⟩⟩ rfl hn hsize hst (lv_room hW) hdg ⟨hf.1, hf.2⟩) hS (fun q _ h => h) (fun q h => h) (fun  u t H1 locs1 ht hvm hw hB hz hk hS1 => kk  u H1 locs1 hw (by rw [← ht]; exact hB.1) hB.2 hS1 hk)
theorem s_callSi {post : Int32 → Prop} (X : CallFix p m c cc nL s args Ts own) (hM : Met l y ws rm (va_Pc As (fun _ => True)) (vp_Si post) 0 0 (fun _ => False)) (cw : CallB R s args own index y bytes maxL ret ws rm 0 0 n ∧ (Cond.static y).before args s = true) (hn : As.length = n) (hsize : ls.size = nL) (hst : st0 = As.reverse ++ rest) (hW : (rest.map fun v => v.category).sum ≤ 8) (hdg : decode cc pc = .ok (.invokestatic index, 3)) (hf : cells ≤ R.cells ∧ slots ≤ R.slots)
    (kk : ∀ r : Int32, post r → W p l e R s m args below meth c H locs cells slots Q (F0 m (pc + 3) ls (.int r :: rest))) : W p l e R s m args below meth c H locs cells slots Q (F0 m pc ls st0) :=
  vp_callSi (va_Run.run (va_runS (As := As) (rest := rest) (g := F0 m pc ls st0) X hM cw ⟨fun a U g mk q => q, fun U hU hw => ⟨rfl, trivial⟩⟩ rfl hn hsize hst (lv_room hW) hdg ⟨hf.1, hf.2⟩)) kk
theorem s_callNi {post : Int32 → Prop} (X : CallFix p m c cc nL s args Ts own) (hM : Met l y ws rm (va_Pc As (fun _ => True)) (vp_Si post) 0 0 (fun _ => False)) (cw : va_CN R s args own index y host bytes maxL ret ws rm 0 0 n ∧ (Cond.static y).before args s = true ∧ True) (hn : As.length = n) (hsize : ls.size = nL) (hst : st0 = As.reverse ++ rest) (hW : (rest.map fun v => v.category).sum ≤ 8) (hdg : decode cc pc = .ok (.invokestatic index, 3)) (hf : cells ≤ R.cells ∧ slots ≤ R.slots)
    (kk : ∀ r : Int32, post r → W p l e R s m args below meth c H locs cells slots Q (F0 m (pc + 3) ls (.int r :: rest))) : W p l e R s m args below meth c H locs cells slots Q (F0 m pc ls st0) :=
  vp_callSi (va_Run.run (va_runSN (As := As) (rest := rest) (g := F0 m pc ls st0) X hM cw ⟨fun a U g mk q => q, fun U hU hw => ⟨rfl, trivial⟩⟩ rfl hn hsize hst (lv_room hW) hdg ⟨hf.1, hf.2⟩)) kk
theorem nar_b (b : Bool) : narrow .boolean (.int (zI (b2 b))) = .int (zI (b2 b)) := by cases b <;> decide
theorem g_iret {post : Int32 → St → Prop} {S1 : St} {v : Int32} (hx : p.tables.exec = Jvm.exec) (hb : c.code = cc) (hr : meth.sig.returnType = some .int) (hlocks : meth.locks = false) (hP : va_P D vwCl (Wf S1) H) (hR : RS S1) (hS : va_S A s.heap H locs) (hp : post v S1) (hdg : decode cc pc = .ok (.ireturn, 1)) : W p l e R s m args below meth c H locs cells slots (MQ below (va_Qi post (gB D Wf) A) args s cells slots A) (F0 m pc ls [.int v]) :=
  W.iret (v := v) hx hb hr (fun t ht hW => ⟨⟨v, S1, rfl, hp, by rw [gB, ht]; exact ⟨hP, hR⟩⟩, hS.F ht⟩) hS.2.2 hdg hlocks
theorem g_zret {post : Int32 → St → Prop} {S1 : St} {bo : Bool} (hx : p.tables.exec = Jvm.exec) (hb : c.code = cc) (hr : meth.sig.returnType = some .boolean) (hlocks : meth.locks = false) (hP : va_P D vwCl (Wf S1) H) (hR : RS S1) (hS : va_S A s.heap H locs) (hp : post (zI (b2 bo)) S1) (hdg : decode cc pc = .ok (.ireturn, 1)) : W p l e R s m args below meth c H locs cells slots (MQ below (va_Qi post (gB D Wf) A) args s cells slots A) (F0 m pc ls [.int (zI (b2 bo))]) :=
  W.zret (v := zI (b2 bo)) hx hb hr (nar_b bo) (fun t ht hW => ⟨⟨zI (b2 bo), S1, rfl, hp, by rw [gB, ht]; exact ⟨hP, hR⟩⟩, hS.F ht⟩) hS.2.2 hdg hlocks
theorem g_lret {post : Int64 → St → Prop} {S1 : St} {v : Int64} (hx : p.tables.exec = Jvm.exec) (hb : c.code = cc) (hr : meth.sig.returnType = some .long) (hlocks : meth.locks = false) (hP : va_P D vwCl (Wf S1) H) (hR : RS S1) (hS : va_S A s.heap H locs) (hp : post v S1) (hdg : decode cc pc = .ok (.lreturn, 1)) : W p l e R s m args below meth c H locs cells slots (MQ below (va_Ql post (gB D Wf) A) args s cells slots A) (F0 m pc ls [.long v]) :=
  W.lret (v := v) hx hb hr (fun t ht hW => ⟨⟨v, S1, rfl, hp, by rw [gB, ht]; exact ⟨hP, hR⟩⟩, hS.F ht⟩) hS.2.2 hdg hlocks
theorem g_vret {post : St → Prop} {S1 : St} (hx : p.tables.exec = Jvm.exec) (hb : c.code = cc) (hr : meth.sig.returnType = none) (hlocks : meth.locks = false) (hP : va_P D vwCl (Wf S1) H) (hR : RS S1) (hS : va_S A s.heap H locs) (hp : post S1) (hdg : decode cc pc = .ok (.return_, 1)) : W p l e R s m args below meth c H locs cells slots (MQ below (va_Qv post (gB D Wf) A) args s cells slots A) (F0 m pc ls []) :=
  W.vret hx hb hr (fun t ht hW => ⟨⟨S1, rfl, hp, by rw [gB, ht]; exact ⟨hP, hR⟩⟩, hS.F ht⟩) hS.2.2 hdg hlocks
theorem s_iret {post : Int32 → Prop} {v : Int32} (hx : p.tables.exec = Jvm.exec) (hb : c.code = cc) (hr : meth.sig.returnType = some .int) (hlocks : meth.locks = false) (hp : post v) (hdg : decode cc pc = .ok (.ireturn, 1)) : W p l e R s m args below meth c s.heap [] cells slots (MQ below (vp_Si post) args s cells slots (fun _ => False)) (F0 m pc ls [.int v]) :=
  W.iret (v := v) hx hb hr (fun t ht hW => ⟨v, rfl, hp, ht⟩) (fun q h => by cases h) hdg hlocks
theorem s_zret {post : Int32 → Prop} {bo : Bool} (hx : p.tables.exec = Jvm.exec) (hb : c.code = cc) (hr : meth.sig.returnType = some .boolean) (hlocks : meth.locks = false) (hp : post (zI (b2 bo))) (hdg : decode cc pc = .ok (.ireturn, 1)) : W p l e R s m args below meth c s.heap [] cells slots (MQ below (vp_Si post) args s cells slots (fun _ => False)) (F0 m pc ls [.int (zI (b2 bo))]) :=
  W.zret (v := zI (b2 bo)) hx hb hr (nar_b bo) (fun t ht hW => ⟨zI (b2 bo), rfl, hp, ht⟩) (fun q h => by cases h) hdg hlocks
end ZC
/-- the reference's side: what the tables say -/
def mE (D : va_G) (cI : ClassId) (U : State) : Prop := va_K D vwCl [(cI, .int)] U
theorem mEb (D : va_G) (cI : ClassId) : Eb (mE D cI) := fun a U g mk q => va_K.moved (u := U) (U := U.calling g mk a) (Vm.Alike.refl U.vm) q
theorem mEk (D : va_G) (cI : ClassId) (A : Nat → Prop) : Ek (mE D cI) A := fun s U H locs h _ _ hW => va_K.moved hW.alike h
end
section
theorem zL_toInt {n : Int} (h1 : -9223372036854775808 ≤ n) (h2 : n < 9223372036854775808) : (zL n).toInt = n := by
  unfold zL
  exact Int64.toInt_ofInt_of_le (by omega) (by omega)
theorem zL_add (a b : Int) : zL a + zL b = zL (a + b) := (Int64.ofInt_add a b).symm
theorem zL_mul (a b : Int) : zL a * zL b = zL (a * b) := (Int64.ofInt_mul a b).symm
theorem zI_toL {a : Int} (a1 : -2147483648 ≤ a) (a2 : a < 2147483648) : (zI a).toInt64 = zL a := by
  have h : Int64.ofInt (zI a).toInt = (zI a).toInt64 := Int64.ofInt_int32ToInt _
  rw [← h, zI_toInt a1 a2]
  rfl
theorem zL_toI (a : Int) : (zL a).toInt32 = zI a := Int64.toInt32_ofInt
theorem zL_lt {a b : Int} (a1 : -9223372036854775808 ≤ a) (a2 : a < 9223372036854775808) (b1 : -9223372036854775808 ≤ b) (b2 : b < 9223372036854775808) : zL a < zL b ↔ a < b := by
  rw [Int64.lt_iff_toInt_lt, zL_toInt a1 a2, zL_toInt b1 b2]
theorem zL_eq {a b : Int} (a1 : -9223372036854775808 ≤ a) (a2 : a < 9223372036854775808) (b1 : -9223372036854775808 ≤ b) (b2 : b < 9223372036854775808) : zL a = zL b ↔ a = b := by
  rw [← Int64.toInt_inj, zL_toInt a1 a2, zL_toInt b1 b2]
section ZM
variable {p : Program} {l : Launch} {e : Env} {R : Room} {s : State} {m : MethodId} {args : Array Value} {below : List Frame} {meth : Method} {c : Code} {H : Heap} {locs : List Loc} {cells slots : Nat} {Q : State → Prop}
variable {cc : ByteArray} {pc : Nat} {ls : Array Slot} {rest : List Value}
theorem z_top {a b : Int} (h : a = b) (k : W p l e R s m args below meth c H locs cells slots Q (F0 m pc ls (.int (zI b) :: rest))) : W p l e R s m args below meth c H locs cells slots Q (F0 m pc ls (.int (zI a) :: rest)) := h ▸ k
theorem z_topL {a b : Int} (h : a = b) (k : W p l e R s m args below meth c H locs cells slots Q (F0 m pc ls (.long (zL b) :: rest))) : W p l e R s m args below meth c H locs cells slots Q (F0 m pc ls (.long (zL a) :: rest)) := h ▸ k
theorem z_i2l (hexec : p.tables.exec = Jvm.exec) (hb : c.code = cc) {a : Int} (a1 : -2147483648 ≤ a) (a2 : a < 2147483648) (hdg : decode cc pc = .ok (.i2l, 1)) (k : W p l e R s m args below meth c H locs cells slots Q (F0 m (pc + 1) ls (.long (zL a) :: rest))) : W p l e R s m args below meth c H locs cells slots Q (F0 m pc ls (.int (zI a) :: rest)) := lv_i2l hexec hb hdg (zI_toL a1 a2) k
theorem z_l2i (hexec : p.tables.exec = Jvm.exec) (hb : c.code = cc) {a : Int} (hdg : decode cc pc = .ok (.l2i, 1)) (k : W p l e R s m args below meth c H locs cells slots Q (F0 m (pc + 1) ls (.int (zI a) :: rest))) : W p l e R s m args below meth c H locs cells slots Q (F0 m pc ls (.long (zL a) :: rest)) := lv_l2i hexec hb hdg (zL_toI a) k
theorem z_ladd (hexec : p.tables.exec = Jvm.exec) (hb : c.code = cc) {a b : Int} (hdg : decode cc pc = .ok (.ladd, 1)) (k : W p l e R s m args below meth c H locs cells slots Q (F0 m (pc + 1) ls (.long (zL (a + b)) :: rest))) : W p l e R s m args below meth c H locs cells slots Q (F0 m pc ls (.long (zL b) :: .long (zL a) :: rest)) := lv_ladd hexec hb hdg (by rw [zL_add]; exact k)
theorem z_lmul (hexec : p.tables.exec = Jvm.exec) (hb : c.code = cc) {a b : Int} (hdg : decode cc pc = .ok (.lmul, 1)) (k : W p l e R s m args below meth c H locs cells slots Q (F0 m (pc + 1) ls (.long (zL (a * b)) :: rest))) : W p l e R s m args below meth c H locs cells slots Q (F0 m pc ls (.long (zL b) :: .long (zL a) :: rest)) := lv_lmul hexec hb hdg (by rw [zL_mul]; exact k)
theorem zg_cmp_lt {x y : Int64} : lg_cmp x y < 0 ↔ x < y := by
  unfold lg_cmp
  by_cases h1 : y < x
  · rw [if_pos h1]
    have h2 : ¬ x < y := by rw [Int64.lt_iff_toInt_lt] at h1 ⊢; omega
    simp [h2]
  · by_cases h2 : x = y
    · subst h2; simp
    · have h3 : x < y := by
        rw [Int64.lt_iff_toInt_lt] at h1 ⊢
        have : x.toInt ≠ y.toInt := fun h => h2 (Int64.toInt_inj.mp h)
        omega
      simp [h1, h2, h3]
theorem zg_cmp_gt {x y : Int64} : 0 < lg_cmp x y ↔ y < x := by
  unfold lg_cmp
  by_cases h1 : y < x
  · simp [h1]
  · by_cases h2 : x = y
    · subst h2; simp
    · simp [h1, h2]
theorem z_lcmp_lt (hexec : p.tables.exec = Jvm.exec) (hb : c.code = cc) {a b off : Int} {tgt : Nat} (a1 : -9223372036854775808 ≤ a) (a2 : a < 9223372036854775808) (b1 : -9223372036854775808 ≤ b) (b2 : b < 9223372036854775808) (hdg : decode cc pc = .ok (.lcmp, 1)) (hdg2 : decode cc (pc + 1) = .ok (.ifCond .lt off, 3)) (ht : ((pc + 1 : Nat) : Int) + off = (tgt : Int)) (kt : a < b → W p l e R s m args below meth c H locs cells slots Q (F0 m tgt ls rest)) (kf : b ≤ a → W p l e R s m args below meth c H locs cells slots Q (F0 m (pc + 1 + 3) ls rest)) : W p l e R s m args below meth c H locs cells slots Q (F0 m pc ls (.long (zL b) :: .long (zL a) :: rest)) :=
  W.lcmp hexec hb hdg (lv_if_lt hexec hb hdg2 ht (fun h => kt ((zL_lt a1 a2 b1 b2).mp (zg_cmp_lt.mp h))) (fun h => kf (by have := (not_congr (zg_cmp_lt.trans (zL_lt a1 a2 b1 b2))).mp h; omega)))
theorem z_lcmp_gt (hexec : p.tables.exec = Jvm.exec) (hb : c.code = cc) {a b off : Int} {tgt : Nat} (a1 : -9223372036854775808 ≤ a) (a2 : a < 9223372036854775808) (b1 : -9223372036854775808 ≤ b) (b2 : b < 9223372036854775808) (hdg : decode cc pc = .ok (.lcmp, 1)) (hdg2 : decode cc (pc + 1) = .ok (.ifCond .gt off, 3)) (ht : ((pc + 1 : Nat) : Int) + off = (tgt : Int)) (kt : b < a → W p l e R s m args below meth c H locs cells slots Q (F0 m tgt ls rest)) (kf : a ≤ b → W p l e R s m args below meth c H locs cells slots Q (F0 m (pc + 1 + 3) ls rest)) : W p l e R s m args below meth c H locs cells slots Q (F0 m pc ls (.long (zL b) :: .long (zL a) :: rest)) :=
  W.lcmp hexec hb hdg (lv_if_gt hexec hb hdg2 ht (fun h => kt ((zL_lt b1 b2 a1 a2).mp (zg_cmp_gt.mp h))) (fun h => kf (by have := (not_congr (zg_cmp_gt.trans (zL_lt b1 b2 a1 a2))).mp h; omega)))
theorem z_tabOut (hexec : p.tables.exec = Jvm.exec) (hb : c.code = cc) {a dflt lo hi : Int} (a1 : -2147483648 ≤ a) (a2 : a < 2147483648) {offs : Array Int} {len tgt : Nat} (hdg : decode cc pc = .ok (.tableswitch dflt lo hi offs, len)) (h : a < lo ∨ hi < a) (ht : (pc : Int) + dflt = (tgt : Int)) (k : W p l e R s m args below meth c H locs cells slots Q (F0 m tgt ls rest)) : W p l e R s m args below meth c H locs cells slots Q (F0 m pc ls (.int (zI a) :: rest)) :=
  lv_tableOut hexec hb hdg (by rw [zI_toInt a1 a2]; exact h) ht k
theorem z_tabIn (hexec : p.tables.exec = Jvm.exec) (hb : c.code = cc) {a v dflt lo hi off : Int} (he : a = v) (a1 : -2147483648 ≤ v) (a2 : v < 2147483648) {offs : Array Int} {len tgt : Nat} (hdg : decode cc pc = .ok (.tableswitch dflt lo hi offs, len)) (h1 : ¬ v < lo) (h2 : ¬ hi < v) (ho : offs[(v - lo).toNat]? = some off) (ht : (pc : Int) + off = (tgt : Int)) (k : W p l e R s m args below meth c H locs cells slots Q (F0 m tgt ls rest)) : W p l e R s m args below meth c H locs cells slots Q (F0 m pc ls (.int (zI a) :: rest)) := by
  subst he
  exact lv_tableIn hexec hb hdg (by rw [zI_toInt a1 a2]; exact h1) (by rw [zI_toInt a1 a2]; exact h2) (by rw [zI_toInt a1 a2]; exact ho) ht k
theorem z_look (hexec : p.tables.exec = Jvm.exec) (hb : c.code = cc) {a dflt off : Int} (a1 : -2147483648 ≤ a) (a2 : a < 2147483648) {ps : Array (Int × Int)} {len tgt : Nat} (hdg : decode cc pc = .ok (.lookupswitch dflt ps, len)) (hp : (ps.toList.zip (ps.toList.drop 1)).all (fun (a, next) => a.1 < next.1) = true) (ho : Op.lookupswitch.offset ps.toList dflt a = off) (ht : (pc : Int) + off = (tgt : Int)) (k : W p l e R s m args below meth c H locs cells slots Q (F0 m tgt ls rest)) : W p l e R s m args below meth c H locs cells slots Q (F0 m pc ls (.int (zI a) :: rest)) :=
  lv_lookup hexec hb hdg hp (by rw [zI_toInt a1 a2]; exact ho) ht k
end ZM
theorem fit_b (b : Bool) : fits .boolean (.int (zI (b2 b))) = true := by cases b <;> decide
/-- the reference's registers that no answer shows by themselves -/
def mScr (k : Nat) : Bool := [9, 10, 11, 12, 13, 14, 17, 18, 99].contains k
def mK (S S' : St) : Prop := ∀ k, mScr k = false → S' k = S k
theorem mK_rf (S : St) : mK S S := fun _ _ => rfl
theorem mK.tr {A B C : St} (h1 : mK A B) (h2 : mK B C) : mK A C := fun k hk => (h2 k hk).trans (h1 k hk)
theorem mK_up {S : St} {r : Nat} {f : Nat → Int} (hr : mScr r = true) : mK S (sA S r f) := fun k hk => sA_n (fun e => by rw [e, hr] at hk; cases hk)
theorem mlen_lt (r : Nat) : mlen r < 2147483648 := by
  unfold mlen
  split <;> decide
def cScr (k : Nat) : Bool := [24, 25, 26, 27, 28, 29, 30, 31].contains k
def cK (S S' : St) : Prop := ∀ k, cScr k = false → S' k = S k
theorem cK_rf (S : St) : cK S S := fun _ _ => rfl
theorem cK.tr {A B C : St} (h1 : cK A B) (h2 : cK B C) : cK A C := fun k hk => (h2 k hk).trans (h1 k hk)
theorem cK_up {S : St} {r : Nat} {f : Nat → Int} (hr : cScr r = true) : cK S (sA S r f) := fun k hk => sA_n (fun e => by rw [e, hr] at hk; cases hk)
end
section
/-! the words in which the reference's contracts speak -/
theorem bT {P : Prop} [Decidable P] (h : P) : zI (b2 true) = zI (b2 (decide P)) := by simp [h]
theorem bF {P : Prop} [Decidable P] (h : ¬ P) : zI (b2 false) = zI (b2 (decide P)) := by simp [h]
/-- whether P holds -/
noncomputable def pB (P : Prop) : Bool := @decide P (Classical.propDecidable P)
theorem pB_t {P : Prop} : pB P = true ↔ P := by unfold pB; exact @decide_eq_true_iff P (Classical.propDecidable P)
theorem pB_f {P : Prop} : pB P = false ↔ ¬ P := by unfold pB; exact @decide_eq_false_iff_not P (Classical.propDecidable P)
theorem pB_c {P Q : Prop} (h : P ↔ Q) : pB P = pB Q := by rw [propext h]
theorem pT {P : Prop} (h : P) : zI (b2 true) = zI (b2 (pB P)) := by rw [pB_t.mpr h]
theorem pF {P : Prop} (h : ¬ P) : zI (b2 false) = zI (b2 (pB P)) := by rw [pB_f.mpr h]
theorem qT {P : Prop} (h : P) : true = pB P := (pB_t.mpr h).symm
theorem qF {P : Prop} (h : ¬ P) : false = pB P := (pB_f.mpr h).symm
/-- how many of the first -/
def cnt (P : Nat → Bool) : Nat → Int
  | 0 => 0
  | k + 1 => cnt P k + b2 (P k)
theorem cnt_t {P : Nat → Bool} {i : Nat} {x : Int} (h : P i = true) (hx : x = cnt P i) : x + 1 = cnt P (i + 1) := by
  rw [cnt, h, hx]; rfl
theorem cnt_f {P : Nat → Bool} {i : Nat} {x : Int} (h : P i = false) (hx : x = cnt P i) : x + 0 = cnt P (i + 1) := by
  rw [cnt, h, hx]; rfl
theorem cnt_r (P : Nat → Bool) (n : Nat) : 0 ≤ cnt P n ∧ cnt P n ≤ n := by
  induction n with
  | zero => exact ⟨Int.le_refl _, Int.le_refl _⟩
  | succ n ih =>
    have h := b2_r (P n)
    rw [cnt]
    omega
theorem cnt_all (P : Nat → Bool) (n : Nat) : cnt P n = n ↔ ∀ p, p < n → P p = true := by
  induction n with
  | zero => exact ⟨fun _ p h => absurd h (Nat.not_lt_zero p), fun _ => rfl⟩
  | succ n ih =>
    have h1 := cnt_r P n
    rw [cnt]
    constructor
    · intro h p hp
      have h2 := b2_r (P n)
      have h3 : cnt P n = n := by omega
      by_cases e : p = n
      · subst e
        exact b2_1 (by omega)
      · exact ih.mp h3 p (by omega)
    · intro h
      rw [ih.mpr (fun p hp => h p (by omega)), h n (by omega)]
      rfl
theorem cnt_c {P Q : Nat → Bool} {n : Nat} (h : ∀ k, k < n → P k = Q k) : cnt P n = cnt Q n := by
  induction n with
  | zero => rfl
  | succ n ih => rw [cnt, cnt, ih (fun k hk => h k (by omega)), h n (by omega)]
/-- a row's code: eights, the first place highest -/
def cdF (f : Nat → Int) : Nat → Int
  | 0 => 0
  | p + 1 => 8 * cdF f p + f p
/-- the row of a code, of n places -/
def dgF (n : Nat) (code : Int) (j : Nat) : Int := code / 8 ^ (n - 1 - j) % 8
/-- a row of n places holds each leaf once -/
def prm (n : Nat) (f : Nat → Int) : Prop := (∀ p, p < n → 0 ≤ f p ∧ f p < n) ∧ ∀ p q, p < n → q < n → f p = f q → p = q
def wth (v a b : Int) : Prop := (a < v ∧ v < b) ∨ (b < v ∧ v < a)
/-- the kind of a letter -/
def kbF (x : Int) : Int := if x = 108 then 0 else if x = 98 then 1 else if x = 119 then 2 else if x = 99 then 3 else if x = 116 then 4 else -1
theorem kbF_r (x : Int) : -1 ≤ kbF x ∧ kbF x ≤ 4 := by unfold kbF; (repeat' split) <;> omega
/-- the first letter that no strip has there -/
def isFlt (pg : Nat → Int) (sz k : Nat) : Prop := k ≤ sz ∧ k ≤ 7 ∧ (∀ j, j < k → kbF (pg j) ≠ -1) ∧ (k = sz ∨ k = 7 ∨ kbF (pg k) = -1)
theorem isFlt_u {pg : Nat → Int} {sz k k' : Nat} (h : isFlt pg sz k) (h' : isFlt pg sz k') : k = k' := by
  obtain ⟨a1, a2, a3, a4⟩ := h
  obtain ⟨b1, b2, b3, b4⟩ := h'
  rcases Nat.lt_trichotomy k k' with g | g | g
  · have := b3 k g; omega
  · exact g
  · have := a3 k' g; omega
def skP (k : Int) : Prop := k = 2 ∨ k = 4
def thk (k : Int) : Int := if k = 1 ∨ k = 3 then 3 else 1
def otP (n p : Nat) : Prop := p = 0 ∨ p + 1 = n
def stP (n : Nat) (kd f : Nat → Int) (p : Nat) : Prop := (0 < p ∧ skP (kd (f (p - 1)).toNat)) ∨ (p + 1 < n ∧ skP (kd (f (p + 1)).toNat))
/-- the leaf at place p of row f lies as its kind wants it -/
def rgP (n : Nat) (kd f : Nat → Int) (p : Nat) : Prop := (kd (f p).toNat = 3 → otP n p) ∧ (kd (f p).toNat = 2 → ¬ stP n kd f p) ∧ (kd (f p).toNat = 4 → ¬ stP n kd f p ∧ ¬ otP n p)
def fitP (n : Nat) (kd f : Nat → Int) : Prop := ∀ p, p < n → rgP n kd f p
theorem sA_self (S : St) (r : Nat) : sA S r (S r) = S := by
  funext k
  unfold sA
  by_cases h : k = r
  · subst h; simp
  · simp [h]
theorem sA_sA (S : St) (r : Nat) (f g : Nat → Int) : sA (sA S r f) r g = sA S r g := by
  funext k
  unfold sA
  by_cases h : k = r <;> simp [h]
theorem RS.put' {S : St} {r i : Nat} {f : Nat → Int} {v : Int} (h : RS (sA S r f)) (h1 : -2147483648 ≤ v) (h2 : v < 2147483648) : RS (sA S r (uZ f i v)) := by
  have h3 := h.put (r := r) (i := i) h1 h2
  rw [sA_sA, sA_s] at h3
  exact h3
theorem RS.one' {S : St} {r : Nat} {f : Nat → Int} {v : Int} (h : RS (sA S r f)) (h1 : -2147483648 ≤ v) (h2 : v < 2147483648) : RS (sA S r (fun _ => v)) := by
  have h3 := h.one (r := r) h1 h2
  rw [sA_sA] at h3
  exact h3
theorem RS.hash {S : St} (h : RS S) (f : Nat → Int) : RS (sA S 99 f) := h.set (fun g => absurd rfl g)
theorem RS.hash' {S : St} {g : Nat → Int} (h : RS (sA S 99 g)) (f : Nat → Int) : RS (sA S 99 f) := by
  have h3 := h.hash f
  rw [sA_sA] at h3
  exact h3
end
section
/-! rows: places, a leaf put in elsewhere, sums -/
def sm (F : Nat → Int) : Nat → Int
  | 0 => 0
  | k + 1 => sm F k + F k
def mxF (F : Nat → Int) : Nat → Int
  | 0 => 0
  | k + 1 => if mxF F k < F k then F k else mxF F k
theorem sm_r {F : Nat → Int} {b : Int} {n : Nat} (h : ∀ k, k < n → 0 ≤ F k ∧ F k ≤ b) : 0 ≤ sm F n ∧ sm F n ≤ b * n := by
  induction n with
  | zero => exact ⟨Int.le_refl _, by simp [sm]⟩
  | succ n ih =>
    have h1 := ih (fun k hk => h k (by omega))
    have h2 := h n (by omega)
    rw [sm]
    have h3 : b * ((n + 1 : Nat) : Int) = b * n + b := by rw [Int.natCast_succ, Int.mul_add, Int.mul_one]
    omega
theorem mxF_r {F : Nat → Int} {b : Int} {n : Nat} (hb : 0 ≤ b) (h : ∀ k, k < n → 0 ≤ F k ∧ F k ≤ b) : 0 ≤ mxF F n ∧ mxF F n ≤ b := by
  induction n with
  | zero => exact ⟨Int.le_refl _, hb⟩
  | succ n ih =>
    have h1 := ih (fun k hk => h k (by omega))
    have h2 := h n (by omega)
    rw [mxF]
    split <;> omega
theorem sm_c {F G : Nat → Int} {n : Nat} (h : ∀ k, k < n → F k = G k) : sm F n = sm G n := by
  induction n with
  | zero => rfl
  | succ n ih => rw [sm, sm, ih (fun k hk => h k (by omega)), h n (by omega)]
theorem mxF_c {F G : Nat → Int} {n : Nat} (h : ∀ k, k < n → F k = G k) : mxF F n = mxF G n := by
  induction n with
  | zero => rfl
  | succ n ih => rw [mxF, mxF, ih (fun k hk => h k (by omega)), h n (by omega)]
/-- no n + 1 things in n places -/
theorem no_inj : ∀ (n : Nat) (f : Nat → Int), (∀ p, p < n + 1 → 0 ≤ f p ∧ f p < n) → (∀ p q, p < n + 1 → q < n + 1 → f p = f q → p = q) → False := by
  intro n
  induction n with
  | zero => intro f h _; have := h 0 (by omega); omega
  | succ n ih =>
    intro f h hi
    refine ih (fun p => if f (n + 1) < f p then f p - 1 else f p) (fun p hp => ?_) (fun p q hp hq e => ?_)
    · have h1 := h p (by omega)
      have h2 := h (n + 1) (by omega)
      have h3 : f p ≠ f (n + 1) := fun e => by have := hi p (n + 1) (by omega) (by omega) e; omega
      split <;> omega
    · have h1 : f p ≠ f (n + 1) := fun e => by have := hi p (n + 1) (by omega) (by omega) e; omega
      have h2 : f q ≠ f (n + 1) := fun e => by have := hi q (n + 1) (by omega) (by omega) e; omega
      refine hi p q (by omega) (by omega) ?_
      split at e <;> split at e <;> omega
/-- the last place below k that holds v (0, if there is none) -/
def plS (f : Nat → Int) (v : Int) : Nat → Nat
  | 0 => 0
  | k + 1 => if f k = v then k else plS f v k
theorem plS_at {f : Nat → Int} {v : Int} {n p : Nat} (hp : p < n) (h : f p = v) : plS f v n < n ∧ f (plS f v n) = v := by
  induction n with
  | zero => omega
  | succ n ih =>
    rw [plS]
    by_cases e : f n = v
    · rw [if_pos e]; exact ⟨by omega, e⟩
    · rw [if_neg e]
      have h1 : p < n := by
        rcases Nat.lt_or_ge p n with g | g
        · exact g
        · exact absurd (by rw [show n = p by omega]; exact h) e
      exact ⟨by have := (ih h1).1; omega, (ih h1).2⟩
def pl (n : Nat) (f : Nat → Int) (v : Nat) : Nat := plS f (v : Int) n
theorem prm_sur {n : Nat} {f : Nat → Int} (hp : prm n f) {v : Nat} (hv : v < n) : ∃ p, p < n ∧ f p = v := by
  match n, hv with
  | n + 1, hv =>
    apply Classical.byContradiction
    intro hno
    refine no_inj n (fun p => if (v : Int) < f p then f p - 1 else f p) (fun p hp1 => ?_) (fun p q hp1 hq1 e => ?_)
    · have h1 := hp.1 p hp1
      have h2 : f p ≠ v := fun e => hno ⟨p, hp1, e⟩
      split <;> omega
    · have h1 : f p ≠ v := fun e => hno ⟨p, hp1, e⟩
      have h2 : f q ≠ v := fun e => hno ⟨q, hq1, e⟩
      refine hp.2 p q hp1 hq1 ?_
      split at e <;> split at e <;> omega
theorem pl_at {n : Nat} {f : Nat → Int} (hp : prm n f) {v : Nat} (hv : v < n) : pl n f v < n ∧ f (pl n f v) = v := by
  obtain ⟨p, h1, h2⟩ := prm_sur hp hv
  exact plS_at h1 h2
theorem pl_lt {n : Nat} {f : Nat → Int} (hp : prm n f) {v : Nat} (hv : v < n) : pl n f v < n := (pl_at hp hv).1
theorem pl_of {n : Nat} {f : Nat → Int} (hp : prm n f) {p : Nat} (h : p < n) : pl n f (f p).toNat = p := by
  have h1 := hp.1 p h
  have h2 := pl_at hp (v := (f p).toNat) (by omega)
  exact hp.2 _ _ h2.1 h (by rw [h2.2]; omega)
/-- places are first places -/
theorem pl_first {n : Nat} {f : Nat → Int} (hp : prm n f) {v : Nat} (hv : v < n) : ∀ j, j < pl n f v → f j ≠ v := by
  intro j hj e
  have h := pl_at hp hv
  have := hp.2 j (pl n f v) (by omega) h.1 (by rw [h.2]; exact e)
  omega
/-- the hinges don't go through one another -/
def crP (n : Nat) (f : Nat → Int) (i j : Nat) : Prop := wth (pl n f j) (pl n f i) (pl n f (i + 1)) ↔ wth (pl n f (j + 1)) (pl n f i) (pl n f (i + 1))
def fdP (n : Nat) (f : Nat → Int) : Prop := ∀ i j, i + 2 ≤ j → j + 1 < n → (j - i) % 2 = 0 → crP n f i j
theorem pB_i {P Q : Prop} : b2 (pB P) = b2 (pB Q) ↔ (P ↔ Q) := by
  constructor
  · intro h
    cases h1 : pB P <;> cases h2 : pB Q
    · exact ⟨fun p => absurd p (pB_f.mp h1), fun q => absurd q (pB_f.mp h2)⟩
    · rw [h1, h2] at h; exact absurd h (by decide)
    · rw [h1, h2] at h; exact absurd h (by decide)
    · exact ⟨fun _ => pB_t.mp h2, fun _ => pB_t.mp h1⟩
  · intro h; rw [pB_c h]
/-- how wide a hinge is -/
noncomputable def wdT (n : Nat) (kd f : Nat → Int) (h p : Nat) : Int := if pB (wth p (pl n f h) (pl n f (h + 1))) = true then thk (kd (f p).toNat) else 0
noncomputable def wdF (n : Nat) (kd f : Nat → Int) (h : Nat) : Int := sm (wdT n kd f h) n
theorem thk_r (k : Int) : 1 ≤ thk k ∧ thk k ≤ 3 := by unfold thk; split <;> omega
theorem wdT_r (n : Nat) (kd f : Nat → Int) (h p : Nat) : 0 ≤ wdT n kd f h p ∧ wdT n kd f h p ≤ 3 := by
  have := thk_r (kd (f p).toNat)
  unfold wdT; split <;> omega
theorem wdF_r (n : Nat) (kd f : Nat → Int) (h : Nat) : 0 ≤ wdF n kd f h ∧ wdF n kd f h ≤ 3 * n := sm_r (fun k _ => wdT_r n kd f h k)
theorem wdT_t {n : Nat} {kd f : Nat → Int} {h p : Nat} (e : pB (wth p (pl n f h) (pl n f (h + 1))) = true) : wdT n kd f h p = thk (kd (f p).toNat) := by unfold wdT; rw [if_pos e]
theorem wdT_f {n : Nat} {kd f : Nat → Int} {h p : Nat} (e : pB (wth p (pl n f h) (pl n f (h + 1))) = false) : wdT n kd f h p = 0 := by unfold wdT; rw [e]; rfl
/-- the leaf at p put in at q -/
def shF (f : Nat → Int) (p q : Nat) : Nat → Int := fun j => if j = q then f p else if p ≤ j ∧ j < q then f (j + 1) else if q < j ∧ j ≤ p then f (j - 1) else f j
theorem shF_prm {n : Nat} {f : Nat → Int} (hp : prm n f) {p q : Nat} (h1 : p < n) (h2 : q < n) : prm n (shF f p q) := by
  have src : ∀ j, j < n → ∃ a, a < n ∧ shF f p q j = f a ∧ ((j = q ∧ a = p) ∨ (j ≠ q ∧ p ≤ j ∧ j < q ∧ a = j + 1) ∨ (j ≠ q ∧ q < j ∧ j ≤ p ∧ a = j - 1) ∨ (j ≠ q ∧ ¬ (p ≤ j ∧ j < q) ∧ ¬ (q < j ∧ j ≤ p) ∧ a = j)) := by
    intro j hj
    unfold shF
    by_cases e1 : j = q
    · exact ⟨p, h1, by rw [if_pos e1], Or.inl ⟨e1, rfl⟩⟩
    · rw [if_neg e1]
      by_cases e2 : p ≤ j ∧ j < q
      · exact ⟨j + 1, by omega, by rw [if_pos e2], Or.inr (Or.inl ⟨e1, e2.1, e2.2, rfl⟩)⟩
      · rw [if_neg e2]
        by_cases e3 : q < j ∧ j ≤ p
        · exact ⟨j - 1, by omega, by rw [if_pos e3], Or.inr (Or.inr (Or.inl ⟨e1, e3.1, e3.2, rfl⟩))⟩
        · exact ⟨j, hj, by rw [if_neg e3], Or.inr (Or.inr (Or.inr ⟨e1, e2, e3, rfl⟩))⟩
  refine ⟨fun j hj => ?_, fun i j hi hj e => ?_⟩
  · obtain ⟨a, g1, g2, -⟩ := src j hj
    rw [g2]; exact hp.1 a g1
  · obtain ⟨a, a1, a2, a3⟩ := src i hi
    obtain ⟨b, b1, b2, b3⟩ := src j hj
    have := hp.2 a b a1 b1 (by rw [← a2, ← b2]; exact e)
    omega
/-- what a row comes to by a move; -1: it is no move -/
noncomputable def cbF (n : Nat) (f : Nat → Int) (v q : Nat) : Int := if pl n f v = q then -1 else if pB (fdP n (shF f (pl n f v) q)) = true then cdF (shF f (pl n f v) q) n else -1
theorem cdF_r {f : Nat → Int} {n : Nat} (h : ∀ p, p < n → 0 ≤ f p ∧ f p < 8) : 0 ≤ cdF f n ∧ cdF f n < 8 ^ n := by
  induction n with
  | zero => exact ⟨Int.le_refl _, by simp [cdF]⟩
  | succ n ih =>
    have h1 := ih (fun p hp => h p (by omega))
    have h2 := h n (by omega)
    rw [cdF, Int.pow_succ]
    omega
end
section
set_option maxHeartbeats 4000000 in
set_option maxRecDepth 100000 in
theorem k_X7_in (l : Launch) (xa xb xc : Int) (hxa1 : -2147483648 ≤ xa) (hxa2 : xa < 2147483648) (hxb1 : -2147483648 ≤ xb) (hxb2 : xb < 2147483648) (hxc1 : -2147483648 ≤ xc) (hxc2 : xc < 2147483648) : Met l yX7_in (Cond.code yX7_in cX7_in 6 (some .boolean) :: lwT) ({ frames := 0, cells := 0, slots := 0, locals := 0 }) (va_Pc [.long (zL (xa)), .long (zL (xb)), .long (zL (xc))] (fun _ => True)) (vp_Si (fun r : Int32 => r = zI (b2 (decide (xb ≤ xa ∧ xa ≤ xc))))) 0 0 (fun _ => False) := by
  refine Met.ofW (cc := cX7_in) (maxL := 6) (ret := (some .boolean)) (by decide) rfl ?_
  intro p e s m args below meth c s₁ B hml hv
  obtain ⟨rfl, -⟩ := hv
  have hx := B.exec
  have hb := B.bytes
  have hr := B.returns
  have hts := atoms_spec (ws := Cond.code yX7_in cX7_in 6 (some .boolean) :: lwT) B.pre
  have hT := fun w (h : w ∈ lwT) => hts w (List.mem_cons_of_mem _ h)
  have hsub : ∀ w ∈ lwT, w ∈ (Cond.code yX7_in cX7_in 6 (some .boolean) :: lwT) := fun w h => List.mem_cons_of_mem _ h
  have hown : s.vm.findClass RX7 = some m.cls := findClass_of_methodNamed B.named
  have hlocks := B.notSynchronized
  have hl := lv_entry ([.long (zL (xa)), .long (zL (xb)), .long (zL (xc))]) (n := 6) (Nat.le_of_ble_eq_true rfl)
  rw [lg_entry_eq]
  generalize (lg_sl ([.long (zL (xa)), .long (zL (xb)), .long (zL (xc))]) ++ List.replicate (6 - (lg_sl ([.long (zL (xa)), .long (zL (xb)), .long (zL (xc))])).length) Slot.unset).toArray = ls at hl ⊢
  have hl : lv_has ls 6 [(0, .long (zL (xa))), (2, .long (zL (xb))), (4, .long (zL (xc)))] := hl
  refine lv_lload_n hx hb dX7_in_0 rfl (lv_at hl 0 rfl) ?_
  refine lv_lload_n hx hb dX7_in_1 rfl (lv_at hl 1 rfl) ?_
  refine z_lcmp_lt (tgt := 17) hx hb (by omega) (by omega) (by omega) (by omega) dX7_in_2 dX7_in_3 (by decide) (fun c_1 => ?_) (fun c_1 => ?_)
  · have h9 : True := trivial
    refine z_iconst hx hb dX7_in_17 ?_
    exact s_zret (bo := false) hx hb hr hlocks (bF (by omega)) dX7_in_18
  · have h9 : True := trivial
    refine lv_lload_n hx hb dX7_in_6 rfl (lv_at hl 0 rfl) ?_
    refine lv_lload hx hb dX7_in_7 (lv_at hl 2 rfl) ?_
    refine z_lcmp_gt (tgt := 17) hx hb (by omega) (by omega) (by omega) (by omega) dX7_in_9 dX7_in_10 (by decide) (fun c_2 => ?_) (fun c_2 => ?_)
    · have h9 : True := trivial
      refine z_iconst hx hb dX7_in_17 ?_
      exact s_zret (bo := false) hx hb hr hlocks (bF (by omega)) dX7_in_18
    · have h9 : True := trivial
      refine z_iconst hx hb dX7_in_13 ?_
      refine lv_goto (tgt := 18) hx hb dX7_in_14 (by decide) ?_
      exact s_zret (bo := true) hx hb hr hlocks (bT (by omega)) dX7_in_18
set_option maxHeartbeats 4000000 in
set_option maxRecDepth 100000 in
theorem k_X7_isWithin (l : Launch) (xv xa xb : Int) (hxv1 : -2147483648 ≤ xv) (hxv2 : xv < 2147483648) (hxa1 : -2147483648 ≤ xa) (hxa2 : xa < 2147483648) (hxb1 : -2147483648 ≤ xb) (hxb2 : xb < 2147483648) : Met l yX7_isWithin (Cond.code yX7_isWithin cX7_isWithin 3 (some .boolean) :: lwT) ({ frames := 0, cells := 0, slots := 0, locals := 0 }) (va_Pc [.int (zI (xv)), .int (zI (xa)), .int (zI (xb))] (fun _ => True)) (vp_Si (fun r : Int32 => r = zI (b2 (pB (wth xv xa xb))))) 0 0 (fun _ => False) := by
  refine Met.ofW (cc := cX7_isWithin) (maxL := 3) (ret := (some .boolean)) (by decide) rfl ?_
  intro p e s m args below meth c s₁ B hml hv
  obtain ⟨rfl, -⟩ := hv
  have hx := B.exec
  have hb := B.bytes
  have hr := B.returns
  have hts := atoms_spec (ws := Cond.code yX7_isWithin cX7_isWithin 3 (some .boolean) :: lwT) B.pre
  have hT := fun w (h : w ∈ lwT) => hts w (List.mem_cons_of_mem _ h)
  have hsub : ∀ w ∈ lwT, w ∈ (Cond.code yX7_isWithin cX7_isWithin 3 (some .boolean) :: lwT) := fun w h => List.mem_cons_of_mem _ h
  have hown : s.vm.findClass RX7 = some m.cls := findClass_of_methodNamed B.named
  have hlocks := B.notSynchronized
  have hl := lv_entry ([.int (zI (xv)), .int (zI (xa)), .int (zI (xb))]) (n := 3) (Nat.le_of_ble_eq_true rfl)
  rw [lg_entry_eq]
  generalize (lg_sl ([.int (zI (xv)), .int (zI (xa)), .int (zI (xb))]) ++ List.replicate (3 - (lg_sl ([.int (zI (xv)), .int (zI (xa)), .int (zI (xb))])).length) Slot.unset).toArray = ls at hl ⊢
  have hl : lv_has ls 3 [(0, .int (zI (xv))), (1, .int (zI (xa))), (2, .int (zI (xb)))] := hl
  refine lv_iload_n hx hb dX7_isWithin_0 rfl (lv_at hl 1 rfl) ?_
  refine lv_iload_n hx hb dX7_isWithin_1 rfl (lv_at hl 2 rfl) ?_
  refine z_icmp_ge (tgt := 23) hx hb (by omega) (by omega) (by omega) (by omega) dX7_isWithin_2 (by decide) (fun c_1 => ?_) (fun c_1 => ?_)
  · have h9 : True := trivial
    refine lv_iload_n hx hb dX7_isWithin_23 rfl (lv_at hl 0 rfl) ?_
    refine lv_iload_n hx hb dX7_isWithin_24 rfl (lv_at hl 2 rfl) ?_
    refine z_icmp_le (tgt := 37) hx hb (by omega) (by omega) (by omega) (by omega) dX7_isWithin_25 (by decide) (fun c_2 => ?_) (fun c_2 => ?_)
    · have h9 : True := trivial
      refine z_iconst hx hb dX7_isWithin_37 ?_
      exact s_zret (bo := false) hx hb hr hlocks (pF (by unfold wth; omega)) dX7_isWithin_38
    · have h9 : True := trivial
      refine lv_iload_n hx hb dX7_isWithin_28 rfl (lv_at hl 0 rfl) ?_
      refine lv_iload_n hx hb dX7_isWithin_29 rfl (lv_at hl 1 rfl) ?_
      refine z_icmp_ge (tgt := 37) hx hb (by omega) (by omega) (by omega) (by omega) dX7_isWithin_30 (by decide) (fun c_3 => ?_) (fun c_3 => ?_)
      · have h9 : True := trivial
        refine z_iconst hx hb dX7_isWithin_37 ?_
        exact s_zret (bo := false) hx hb hr hlocks (pF (by unfold wth; omega)) dX7_isWithin_38
      · have h9 : True := trivial
        refine z_iconst hx hb dX7_isWithin_33 ?_
        refine lv_goto (tgt := 38) hx hb dX7_isWithin_34 (by decide) ?_
        exact s_zret (bo := true) hx hb hr hlocks (pT (by unfold wth; omega)) dX7_isWithin_38
  · have h9 : True := trivial
    refine lv_iload_n hx hb dX7_isWithin_5 rfl (lv_at hl 0 rfl) ?_
    refine lv_iload_n hx hb dX7_isWithin_6 rfl (lv_at hl 1 rfl) ?_
    refine z_icmp_le (tgt := 19) hx hb (by omega) (by omega) (by omega) (by omega) dX7_isWithin_7 (by decide) (fun c_4 => ?_) (fun c_4 => ?_)
    · have h9 : True := trivial
      refine z_iconst hx hb dX7_isWithin_19 ?_
      refine lv_goto (tgt := 38) hx hb dX7_isWithin_20 (by decide) ?_
      exact s_zret (bo := false) hx hb hr hlocks (pF (by unfold wth; omega)) dX7_isWithin_38
    · have h9 : True := trivial
      refine lv_iload_n hx hb dX7_isWithin_10 rfl (lv_at hl 0 rfl) ?_
      refine lv_iload_n hx hb dX7_isWithin_11 rfl (lv_at hl 2 rfl) ?_
      refine z_icmp_ge (tgt := 19) hx hb (by omega) (by omega) (by omega) (by omega) dX7_isWithin_12 (by decide) (fun c_5 => ?_) (fun c_5 => ?_)
      · have h9 : True := trivial
        refine z_iconst hx hb dX7_isWithin_19 ?_
        refine lv_goto (tgt := 38) hx hb dX7_isWithin_20 (by decide) ?_
        exact s_zret (bo := false) hx hb hr hlocks (pF (by unfold wth; omega)) dX7_isWithin_38
      · have h9 : True := trivial
        refine z_iconst hx hb dX7_isWithin_15 ?_
        refine lv_goto (tgt := 38) hx hb dX7_isWithin_16 (by decide) ?_
        exact s_zret (bo := true) hx hb hr hlocks (pT (by unfold wth; omega)) dX7_isWithin_38
set_option maxHeartbeats 4000000 in
set_option maxRecDepth 100000 in
theorem k_X7_codeOf_6 (l : Launch) (D : va_G) (cI : ClassId) (ad : Nat → Nat) (hinj : mInj ad) (S : St) (hR : RS S) (n : Nat) (x : Int) (hxn : x = ↑n) (hn : n ≤ 7) : Met l yX7_codeOf (Cond.code yX7_codeOf cX7_codeOf 4 (some .int) :: lwT) ({ frames := 0, cells := 0, slots := 0, locals := 0 }) (gPc D (mW cI ad) (mE D cI) S [.ref (ad 6), .int (zI (x))]) (va_Qi (fun (r : Int32) (S' : St) => S' = S ∧ r = zI (cdF (S 6) n)) (gB D (mW cI ad)) (mA ad)) 0 0 (mA ad) := by
  refine Met.ofW (cc := cX7_codeOf) (maxL := 4) (ret := (some .int)) (by decide) rfl ?_
  intro p e s m args below meth c s₁ B hml hv
  obtain ⟨rfl, hP, hE⟩ := hv
  have hx := B.exec
  have hb := B.bytes
  have hr := B.returns
  have hts := atoms_spec (ws := Cond.code yX7_codeOf cX7_codeOf 4 (some .int) :: lwT) B.pre
  have hT := fun w (h : w ∈ lwT) => hts w (List.mem_cons_of_mem _ h)
  have hsub : ∀ w ∈ lwT, w ∈ (Cond.code yX7_codeOf cX7_codeOf 4 (some .int) :: lwT) := fun w h => List.mem_cons_of_mem _ h
  have hown : s.vm.findClass RX7 = some m.cls := findClass_of_methodNamed B.named
  have hlocks := B.notSynchronized
  have hK : va_K D vwCl [(cI, .int)] s := hE
  have hS : va_S (mA ad) s.heap s.heap [] := va_S.rf
  have hl := lv_entry ([.ref (ad 6), .int (zI (x))]) (n := 4) (Nat.le_of_ble_eq_true rfl)
  rw [lg_entry_eq]
  generalize (lg_sl ([.ref (ad 6), .int (zI (x))]) ++ List.replicate (4 - (lg_sl ([.ref (ad 6), .int (zI (x))])).length) Slot.unset).toArray = ls at hl ⊢
  have hl : lv_has ls 4 [(0, .ref (ad 6)), (1, .int (zI (x)))] := hl
  refine z_iconst hx hb dX7_codeOf_0 ?_
  refine lv_istore_n (lv' := [(2, .int (zI (0))), (0, .ref (ad 6)), (1, .int (zI (x)))]) hx hb dX7_codeOf_1 rfl hl (by decide) rfl (fun ls hl => ?_)
  refine z_iconst hx hb dX7_codeOf_2 ?_
  refine lv_istore_n (lv' := [(3, .int (zI (0))), (2, .int (zI (0))), (0, .ref (ad 6)), (1, .int (zI (x)))]) hx hb dX7_codeOf_3 rfl hl (by decide) rfl (fun ls hl => ?_)
  have cut_4 : ∀ (k9 : Nat) (i : Nat) (H : Heap) (locs : List Loc) (ls : Array Slot), (i ≤ n) → (n - i) < k9 → va_P D vwCl (mW cI ad S) H → RS S → va_S (mA ad) s.heap H locs → lv_has ls 4 [(0, .ref (ad 6)), (1, .int (zI (x))), (2, .int (zI (cdF (S 6) i))), (3, .int (zI (↑i)))] → W p l e (headSpec (Cond.code yX7_codeOf cX7_codeOf 4 (some .int) :: lwT) ({ frames := 0, cells := 0, slots := 0, locals := 0 })).room s m ([.ref (ad 6), .int (zI (x))] : List Value).toArray below meth c H locs 0 0 (MQ below (va_Qi (fun (r : Int32) (S' : St) => S' = S ∧ r = zI (cdF (S 6) n)) (gB D (mW cI ad)) (mA ad)) ([.ref (ad 6), .int (zI (x))] : List Value).toArray s 0 0 (mA ad)) (F0 m 4 ls []) := by
    intro k9
    induction k9 with
    | zero =>
      intro i H locs ls hi hk9 hP hR hS hl
      exact absurd hk9 (Nat.not_lt_zero _)
    | succ k9 ih_4 =>
      intro i H locs ls hi hk9 hP hR hS hl
      refine lv_iload_n hx hb dX7_codeOf_4 rfl (lv_at hl 3 rfl) ?_
      refine lv_iload_n hx hb dX7_codeOf_5 rfl (lv_at hl 1 rfl) ?_
      refine z_icmp_ge (tgt := 24) hx hb (by omega) (by omega) (by omega) (by omega) dX7_codeOf_6 (by decide) (fun c_1 => ?_) (fun c_1 => ?_)
      · have h9 : True := trivial
        refine lv_iload_n hx hb dX7_codeOf_24 rfl (lv_at hl 2 rfl) ?_
        exact g_iret (S1 := S) (v := zI (cdF (S 6) i)) hx hb hr hlocks hP hR hS (⟨rfl, by rw [show n = i by omega]⟩) dX7_codeOf_25
      · have h9 : True := trivial
        refine z_bipush hx hb dX7_codeOf_9 (by decide) ?_
        refine lv_iload_n hx hb dX7_codeOf_11 rfl (lv_at hl 2 rfl) ?_
        refine z_imul hx hb dX7_codeOf_12 ?_
        refine lv_aload_n hx hb dX7_codeOf_13 rfl (lv_at hl 0 rfl) ?_
        refine lv_iload_n hx hb dX7_codeOf_14 rfl (lv_at hl 3 rfl) ?_
        have g_2 : -2147483648 ≤ S 6 i ∧ S 6 i < 2147483648 := hR 6 i (by decide)
        refine z_ald (f := S 6) hx hb hK hP 3 0 rfl rfl (by omega) (by omega) (by decide) dX7_codeOf_15 ?_
        refine z_iadd hx hb dX7_codeOf_16 ?_
        refine lv_istore_n (lv' := [(2, .int (zI ((8 * (cdF (S 6) i)) + (S 6 i)))), (0, .ref (ad 6)), (1, .int (zI (x))), (3, .int (zI (↑i)))]) hx hb dX7_codeOf_17 rfl hl (by decide) rfl (fun ls hl => ?_)
        refine z_iinc (lv' := [(3, .int (zI (↑i + 1))), (2, .int (zI ((8 * (cdF (S 6) i)) + (S 6 i)))), (0, .ref (ad 6)), (1, .int (zI (x)))]) hx hb dX7_codeOf_18 hl (k := 3) rfl (by decide) rfl (fun ls hl => ?_)
        refine lv_goto (tgt := 4) hx hb dX7_codeOf_21 (by decide) ?_
        exact ih_4 (i + 1) _ _ _ (by omega) (by omega) hP hR hS (lv_sub hl [2, 3, 1, 0] rfl)
  exact cut_4 _ 0 _ _ _ (by omega) (Nat.lt_succ_self _) hP hR hS (lv_sub hl [2, 3, 1, 0] rfl)
set_option maxHeartbeats 4000000 in
set_option maxRecDepth 100000 in
theorem k_X7_codeOf_10 (l : Launch) (D : va_G) (cI : ClassId) (ad : Nat → Nat) (hinj : mInj ad) (S : St) (hR : RS S) (n : Nat) (x : Int) (hxn : x = ↑n) (hn : n ≤ 7) : Met l yX7_codeOf (Cond.code yX7_codeOf cX7_codeOf 4 (some .int) :: lwT) ({ frames := 0, cells := 0, slots := 0, locals := 0 }) (gPc D (mW cI ad) (mE D cI) S [.ref (ad 10), .int (zI (x))]) (va_Qi (fun (r : Int32) (S' : St) => S' = S ∧ r = zI (cdF (S 10) n)) (gB D (mW cI ad)) (mA ad)) 0 0 (mA ad) := by
  refine Met.ofW (cc := cX7_codeOf) (maxL := 4) (ret := (some .int)) (by decide) rfl ?_
  intro p e s m args below meth c s₁ B hml hv
  obtain ⟨rfl, hP, hE⟩ := hv
  have hx := B.exec
  have hb := B.bytes
  have hr := B.returns
  have hts := atoms_spec (ws := Cond.code yX7_codeOf cX7_codeOf 4 (some .int) :: lwT) B.pre
  have hT := fun w (h : w ∈ lwT) => hts w (List.mem_cons_of_mem _ h)
  have hsub : ∀ w ∈ lwT, w ∈ (Cond.code yX7_codeOf cX7_codeOf 4 (some .int) :: lwT) := fun w h => List.mem_cons_of_mem _ h
  have hown : s.vm.findClass RX7 = some m.cls := findClass_of_methodNamed B.named
  have hlocks := B.notSynchronized
  have hK : va_K D vwCl [(cI, .int)] s := hE
  have hS : va_S (mA ad) s.heap s.heap [] := va_S.rf
  have hl := lv_entry ([.ref (ad 10), .int (zI (x))]) (n := 4) (Nat.le_of_ble_eq_true rfl)
  rw [lg_entry_eq]
  generalize (lg_sl ([.ref (ad 10), .int (zI (x))]) ++ List.replicate (4 - (lg_sl ([.ref (ad 10), .int (zI (x))])).length) Slot.unset).toArray = ls at hl ⊢
  have hl : lv_has ls 4 [(0, .ref (ad 10)), (1, .int (zI (x)))] := hl
  refine z_iconst hx hb dX7_codeOf_0 ?_
  refine lv_istore_n (lv' := [(2, .int (zI (0))), (0, .ref (ad 10)), (1, .int (zI (x)))]) hx hb dX7_codeOf_1 rfl hl (by decide) rfl (fun ls hl => ?_)
  refine z_iconst hx hb dX7_codeOf_2 ?_
  refine lv_istore_n (lv' := [(3, .int (zI (0))), (2, .int (zI (0))), (0, .ref (ad 10)), (1, .int (zI (x)))]) hx hb dX7_codeOf_3 rfl hl (by decide) rfl (fun ls hl => ?_)
  have cut_4 : ∀ (k9 : Nat) (i : Nat) (H : Heap) (locs : List Loc) (ls : Array Slot), (i ≤ n) → (n - i) < k9 → va_P D vwCl (mW cI ad S) H → RS S → va_S (mA ad) s.heap H locs → lv_has ls 4 [(0, .ref (ad 10)), (1, .int (zI (x))), (2, .int (zI (cdF (S 10) i))), (3, .int (zI (↑i)))] → W p l e (headSpec (Cond.code yX7_codeOf cX7_codeOf 4 (some .int) :: lwT) ({ frames := 0, cells := 0, slots := 0, locals := 0 })).room s m ([.ref (ad 10), .int (zI (x))] : List Value).toArray below meth c H locs 0 0 (MQ below (va_Qi (fun (r : Int32) (S' : St) => S' = S ∧ r = zI (cdF (S 10) n)) (gB D (mW cI ad)) (mA ad)) ([.ref (ad 10), .int (zI (x))] : List Value).toArray s 0 0 (mA ad)) (F0 m 4 ls []) := by
    intro k9
    induction k9 with
    | zero =>
      intro i H locs ls hi hk9 hP hR hS hl
      exact absurd hk9 (Nat.not_lt_zero _)
    | succ k9 ih_4 =>
      intro i H locs ls hi hk9 hP hR hS hl
      refine lv_iload_n hx hb dX7_codeOf_4 rfl (lv_at hl 3 rfl) ?_
      refine lv_iload_n hx hb dX7_codeOf_5 rfl (lv_at hl 1 rfl) ?_
      refine z_icmp_ge (tgt := 24) hx hb (by omega) (by omega) (by omega) (by omega) dX7_codeOf_6 (by decide) (fun c_1 => ?_) (fun c_1 => ?_)
      · have h9 : True := trivial
        refine lv_iload_n hx hb dX7_codeOf_24 rfl (lv_at hl 2 rfl) ?_
        exact g_iret (S1 := S) (v := zI (cdF (S 10) i)) hx hb hr hlocks hP hR hS (⟨rfl, by rw [show n = i by omega]⟩) dX7_codeOf_25
      · have h9 : True := trivial
        refine z_bipush hx hb dX7_codeOf_9 (by decide) ?_
        refine lv_iload_n hx hb dX7_codeOf_11 rfl (lv_at hl 2 rfl) ?_
        refine z_imul hx hb dX7_codeOf_12 ?_
        refine lv_aload_n hx hb dX7_codeOf_13 rfl (lv_at hl 0 rfl) ?_
        refine lv_iload_n hx hb dX7_codeOf_14 rfl (lv_at hl 3 rfl) ?_
        have g_2 : -2147483648 ≤ S 10 i ∧ S 10 i < 2147483648 := hR 10 i (by decide)
        refine z_ald (f := S 10) hx hb hK hP 6 0 rfl rfl (by omega) (by omega) (by decide) dX7_codeOf_15 ?_
        refine z_iadd hx hb dX7_codeOf_16 ?_
        refine lv_istore_n (lv' := [(2, .int (zI ((8 * (cdF (S 10) i)) + (S 10 i)))), (0, .ref (ad 10)), (1, .int (zI (x))), (3, .int (zI (↑i)))]) hx hb dX7_codeOf_17 rfl hl (by decide) rfl (fun ls hl => ?_)
        refine z_iinc (lv' := [(3, .int (zI (↑i + 1))), (2, .int (zI ((8 * (cdF (S 10) i)) + (S 10 i)))), (0, .ref (ad 10)), (1, .int (zI (x)))]) hx hb dX7_codeOf_18 hl (k := 3) rfl (by decide) rfl (fun ls hl => ?_)
        refine lv_goto (tgt := 4) hx hb dX7_codeOf_21 (by decide) ?_
        exact ih_4 (i + 1) _ _ _ (by omega) (by omega) hP hR hS (lv_sub hl [2, 3, 1, 0] rfl)
  exact cut_4 _ 0 _ _ _ (by omega) (Nat.lt_succ_self _) hP hR hS (lv_sub hl [2, 3, 1, 0] rfl)
set_option maxHeartbeats 4000000 in
set_option maxRecDepth 100000 in
theorem k_X7_codeOf_11 (l : Launch) (D : va_G) (cI : ClassId) (ad : Nat → Nat) (hinj : mInj ad) (S : St) (hR : RS S) (n : Nat) (x : Int) (hxn : x = ↑n) (hn : n ≤ 7) : Met l yX7_codeOf (Cond.code yX7_codeOf cX7_codeOf 4 (some .int) :: lwT) ({ frames := 0, cells := 0, slots := 0, locals := 0 }) (gPc D (mW cI ad) (mE D cI) S [.ref (ad 11), .int (zI (x))]) (va_Qi (fun (r : Int32) (S' : St) => S' = S ∧ r = zI (cdF (S 11) n)) (gB D (mW cI ad)) (mA ad)) 0 0 (mA ad) := by
  refine Met.ofW (cc := cX7_codeOf) (maxL := 4) (ret := (some .int)) (by decide) rfl ?_
  intro p e s m args below meth c s₁ B hml hv
  obtain ⟨rfl, hP, hE⟩ := hv
  have hx := B.exec
  have hb := B.bytes
  have hr := B.returns
  have hts := atoms_spec (ws := Cond.code yX7_codeOf cX7_codeOf 4 (some .int) :: lwT) B.pre
  have hT := fun w (h : w ∈ lwT) => hts w (List.mem_cons_of_mem _ h)
  have hsub : ∀ w ∈ lwT, w ∈ (Cond.code yX7_codeOf cX7_codeOf 4 (some .int) :: lwT) := fun w h => List.mem_cons_of_mem _ h
  have hown : s.vm.findClass RX7 = some m.cls := findClass_of_methodNamed B.named
  have hlocks := B.notSynchronized
  have hK : va_K D vwCl [(cI, .int)] s := hE
  have hS : va_S (mA ad) s.heap s.heap [] := va_S.rf
  have hl := lv_entry ([.ref (ad 11), .int (zI (x))]) (n := 4) (Nat.le_of_ble_eq_true rfl)
  rw [lg_entry_eq]
  generalize (lg_sl ([.ref (ad 11), .int (zI (x))]) ++ List.replicate (4 - (lg_sl ([.ref (ad 11), .int (zI (x))])).length) Slot.unset).toArray = ls at hl ⊢
  have hl : lv_has ls 4 [(0, .ref (ad 11)), (1, .int (zI (x)))] := hl
  refine z_iconst hx hb dX7_codeOf_0 ?_
  refine lv_istore_n (lv' := [(2, .int (zI (0))), (0, .ref (ad 11)), (1, .int (zI (x)))]) hx hb dX7_codeOf_1 rfl hl (by decide) rfl (fun ls hl => ?_)
  refine z_iconst hx hb dX7_codeOf_2 ?_
  refine lv_istore_n (lv' := [(3, .int (zI (0))), (2, .int (zI (0))), (0, .ref (ad 11)), (1, .int (zI (x)))]) hx hb dX7_codeOf_3 rfl hl (by decide) rfl (fun ls hl => ?_)
  have cut_4 : ∀ (k9 : Nat) (i : Nat) (H : Heap) (locs : List Loc) (ls : Array Slot), (i ≤ n) → (n - i) < k9 → va_P D vwCl (mW cI ad S) H → RS S → va_S (mA ad) s.heap H locs → lv_has ls 4 [(0, .ref (ad 11)), (1, .int (zI (x))), (2, .int (zI (cdF (S 11) i))), (3, .int (zI (↑i)))] → W p l e (headSpec (Cond.code yX7_codeOf cX7_codeOf 4 (some .int) :: lwT) ({ frames := 0, cells := 0, slots := 0, locals := 0 })).room s m ([.ref (ad 11), .int (zI (x))] : List Value).toArray below meth c H locs 0 0 (MQ below (va_Qi (fun (r : Int32) (S' : St) => S' = S ∧ r = zI (cdF (S 11) n)) (gB D (mW cI ad)) (mA ad)) ([.ref (ad 11), .int (zI (x))] : List Value).toArray s 0 0 (mA ad)) (F0 m 4 ls []) := by
    intro k9
    induction k9 with
    | zero =>
      intro i H locs ls hi hk9 hP hR hS hl
      exact absurd hk9 (Nat.not_lt_zero _)
    | succ k9 ih_4 =>
      intro i H locs ls hi hk9 hP hR hS hl
      refine lv_iload_n hx hb dX7_codeOf_4 rfl (lv_at hl 3 rfl) ?_
      refine lv_iload_n hx hb dX7_codeOf_5 rfl (lv_at hl 1 rfl) ?_
      refine z_icmp_ge (tgt := 24) hx hb (by omega) (by omega) (by omega) (by omega) dX7_codeOf_6 (by decide) (fun c_1 => ?_) (fun c_1 => ?_)
      · have h9 : True := trivial
        refine lv_iload_n hx hb dX7_codeOf_24 rfl (lv_at hl 2 rfl) ?_
        exact g_iret (S1 := S) (v := zI (cdF (S 11) i)) hx hb hr hlocks hP hR hS (⟨rfl, by rw [show n = i by omega]⟩) dX7_codeOf_25
      · have h9 : True := trivial
        refine z_bipush hx hb dX7_codeOf_9 (by decide) ?_
        refine lv_iload_n hx hb dX7_codeOf_11 rfl (lv_at hl 2 rfl) ?_
        refine z_imul hx hb dX7_codeOf_12 ?_
        refine lv_aload_n hx hb dX7_codeOf_13 rfl (lv_at hl 0 rfl) ?_
        refine lv_iload_n hx hb dX7_codeOf_14 rfl (lv_at hl 3 rfl) ?_
        have g_2 : -2147483648 ≤ S 11 i ∧ S 11 i < 2147483648 := hR 11 i (by decide)
        refine z_ald (f := S 11) hx hb hK hP 7 0 rfl rfl (by omega) (by omega) (by decide) dX7_codeOf_15 ?_
        refine z_iadd hx hb dX7_codeOf_16 ?_
        refine lv_istore_n (lv' := [(2, .int (zI ((8 * (cdF (S 11) i)) + (S 11 i)))), (0, .ref (ad 11)), (1, .int (zI (x))), (3, .int (zI (↑i)))]) hx hb dX7_codeOf_17 rfl hl (by decide) rfl (fun ls hl => ?_)
        refine z_iinc (lv' := [(3, .int (zI (↑i + 1))), (2, .int (zI ((8 * (cdF (S 11) i)) + (S 11 i)))), (0, .ref (ad 11)), (1, .int (zI (x)))]) hx hb dX7_codeOf_18 hl (k := 3) rfl (by decide) rfl (fun ls hl => ?_)
        refine lv_goto (tgt := 4) hx hb dX7_codeOf_21 (by decide) ?_
        exact ih_4 (i + 1) _ _ _ (by omega) (by omega) hP hR hS (lv_sub hl [2, 3, 1, 0] rfl)
  exact cut_4 _ 0 _ _ _ (by omega) (Nat.lt_succ_self _) hP hR hS (lv_sub hl [2, 3, 1, 0] rfl)
set_option maxHeartbeats 4000000 in
set_option maxRecDepth 100000 in
theorem k_X7_codeOf_18 (l : Launch) (D : va_G) (cI : ClassId) (ad : Nat → Nat) (hinj : mInj ad) (S : St) (hR : RS S) (n : Nat) (x : Int) (hxn : x = ↑n) (hn : n ≤ 7) : Met l yX7_codeOf (Cond.code yX7_codeOf cX7_codeOf 4 (some .int) :: lwT) ({ frames := 0, cells := 0, slots := 0, locals := 0 }) (gPc D (mW cI ad) (mE D cI) S [.ref (ad 18), .int (zI (x))]) (va_Qi (fun (r : Int32) (S' : St) => S' = S ∧ r = zI (cdF (S 18) n)) (gB D (mW cI ad)) (mA ad)) 0 0 (mA ad) := by
  refine Met.ofW (cc := cX7_codeOf) (maxL := 4) (ret := (some .int)) (by decide) rfl ?_
  intro p e s m args below meth c s₁ B hml hv
  obtain ⟨rfl, hP, hE⟩ := hv
  have hx := B.exec
  have hb := B.bytes
  have hr := B.returns
  have hts := atoms_spec (ws := Cond.code yX7_codeOf cX7_codeOf 4 (some .int) :: lwT) B.pre
  have hT := fun w (h : w ∈ lwT) => hts w (List.mem_cons_of_mem _ h)
  have hsub : ∀ w ∈ lwT, w ∈ (Cond.code yX7_codeOf cX7_codeOf 4 (some .int) :: lwT) := fun w h => List.mem_cons_of_mem _ h
  have hown : s.vm.findClass RX7 = some m.cls := findClass_of_methodNamed B.named
  have hlocks := B.notSynchronized
  have hK : va_K D vwCl [(cI, .int)] s := hE
  have hS : va_S (mA ad) s.heap s.heap [] := va_S.rf
  have hl := lv_entry ([.ref (ad 18), .int (zI (x))]) (n := 4) (Nat.le_of_ble_eq_true rfl)
  rw [lg_entry_eq]
  generalize (lg_sl ([.ref (ad 18), .int (zI (x))]) ++ List.replicate (4 - (lg_sl ([.ref (ad 18), .int (zI (x))])).length) Slot.unset).toArray = ls at hl ⊢
  have hl : lv_has ls 4 [(0, .ref (ad 18)), (1, .int (zI (x)))] := hl
  refine z_iconst hx hb dX7_codeOf_0 ?_
  refine lv_istore_n (lv' := [(2, .int (zI (0))), (0, .ref (ad 18)), (1, .int (zI (x)))]) hx hb dX7_codeOf_1 rfl hl (by decide) rfl (fun ls hl => ?_)
  refine z_iconst hx hb dX7_codeOf_2 ?_
  refine lv_istore_n (lv' := [(3, .int (zI (0))), (2, .int (zI (0))), (0, .ref (ad 18)), (1, .int (zI (x)))]) hx hb dX7_codeOf_3 rfl hl (by decide) rfl (fun ls hl => ?_)
  have cut_4 : ∀ (k9 : Nat) (i : Nat) (H : Heap) (locs : List Loc) (ls : Array Slot), (i ≤ n) → (n - i) < k9 → va_P D vwCl (mW cI ad S) H → RS S → va_S (mA ad) s.heap H locs → lv_has ls 4 [(0, .ref (ad 18)), (1, .int (zI (x))), (2, .int (zI (cdF (S 18) i))), (3, .int (zI (↑i)))] → W p l e (headSpec (Cond.code yX7_codeOf cX7_codeOf 4 (some .int) :: lwT) ({ frames := 0, cells := 0, slots := 0, locals := 0 })).room s m ([.ref (ad 18), .int (zI (x))] : List Value).toArray below meth c H locs 0 0 (MQ below (va_Qi (fun (r : Int32) (S' : St) => S' = S ∧ r = zI (cdF (S 18) n)) (gB D (mW cI ad)) (mA ad)) ([.ref (ad 18), .int (zI (x))] : List Value).toArray s 0 0 (mA ad)) (F0 m 4 ls []) := by
    intro k9
    induction k9 with
    | zero =>
      intro i H locs ls hi hk9 hP hR hS hl
      exact absurd hk9 (Nat.not_lt_zero _)
    | succ k9 ih_4 =>
      intro i H locs ls hi hk9 hP hR hS hl
      refine lv_iload_n hx hb dX7_codeOf_4 rfl (lv_at hl 3 rfl) ?_
      refine lv_iload_n hx hb dX7_codeOf_5 rfl (lv_at hl 1 rfl) ?_
      refine z_icmp_ge (tgt := 24) hx hb (by omega) (by omega) (by omega) (by omega) dX7_codeOf_6 (by decide) (fun c_1 => ?_) (fun c_1 => ?_)
      · have h9 : True := trivial
        refine lv_iload_n hx hb dX7_codeOf_24 rfl (lv_at hl 2 rfl) ?_
        exact g_iret (S1 := S) (v := zI (cdF (S 18) i)) hx hb hr hlocks hP hR hS (⟨rfl, by rw [show n = i by omega]⟩) dX7_codeOf_25
      · have h9 : True := trivial
        refine z_bipush hx hb dX7_codeOf_9 (by decide) ?_
        refine lv_iload_n hx hb dX7_codeOf_11 rfl (lv_at hl 2 rfl) ?_
        refine z_imul hx hb dX7_codeOf_12 ?_
        refine lv_aload_n hx hb dX7_codeOf_13 rfl (lv_at hl 0 rfl) ?_
        refine lv_iload_n hx hb dX7_codeOf_14 rfl (lv_at hl 3 rfl) ?_
        have g_2 : -2147483648 ≤ S 18 i ∧ S 18 i < 2147483648 := hR 18 i (by decide)
        refine z_ald (f := S 18) hx hb hK hP 11 0 rfl rfl (by omega) (by omega) (by decide) dX7_codeOf_15 ?_
        refine z_iadd hx hb dX7_codeOf_16 ?_
        refine lv_istore_n (lv' := [(2, .int (zI ((8 * (cdF (S 18) i)) + (S 18 i)))), (0, .ref (ad 18)), (1, .int (zI (x))), (3, .int (zI (↑i)))]) hx hb dX7_codeOf_17 rfl hl (by decide) rfl (fun ls hl => ?_)
        refine z_iinc (lv' := [(3, .int (zI (↑i + 1))), (2, .int (zI ((8 * (cdF (S 18) i)) + (S 18 i)))), (0, .ref (ad 18)), (1, .int (zI (x)))]) hx hb dX7_codeOf_18 hl (k := 3) rfl (by decide) rfl (fun ls hl => ?_)
        refine lv_goto (tgt := 4) hx hb dX7_codeOf_21 (by decide) ?_
        exact ih_4 (i + 1) _ _ _ (by omega) (by omega) hP hR hS (lv_sub hl [2, 3, 1, 0] rfl)
  exact cut_4 _ 0 _ _ _ (by omega) (Nat.lt_succ_self _) hP hR hS (lv_sub hl [2, 3, 1, 0] rfl)
set_option maxHeartbeats 4000000 in
set_option maxRecDepth 100000 in
theorem k_X7_lacks (l : Launch) (D : va_G) (cI : ClassId) (ad : Nat → Nat) (hinj : mInj ad) (S : St) (hR : RS S)  : Met l yX7_lacks (Cond.code yX7_lacks cX7_lacks 1 (some .boolean) :: lwT) ({ frames := 0, cells := 0, slots := 0, locals := 0 }) (gPc D (mW cI ad) (mE D cI) S [.ref (ad 26)]) (va_Qi (fun (r : Int32) (S' : St) => S' = S ∧ r = zI (b2 (decide (S 2 0 = 0)))) (gB D (mW cI ad)) (mA ad)) 0 0 (mA ad) := by
  refine Met.ofW (cc := cX7_lacks) (maxL := 1) (ret := (some .boolean)) (by decide) rfl ?_
  intro p e s m args below meth c s₁ B hml hv
  obtain ⟨rfl, hP, hE⟩ := hv
  have hx := B.exec
  have hb := B.bytes
  have hr := B.returns
  have hts := atoms_spec (ws := Cond.code yX7_lacks cX7_lacks 1 (some .boolean) :: lwT) B.pre
  have hT := fun w (h : w ∈ lwT) => hts w (List.mem_cons_of_mem _ h)
  have hsub : ∀ w ∈ lwT, w ∈ (Cond.code yX7_lacks cX7_lacks 1 (some .boolean) :: lwT) := fun w h => List.mem_cons_of_mem _ h
  have hown : s.vm.findClass RX7 = some m.cls := findClass_of_methodNamed B.named
  have hlocks := B.notSynchronized
  have hK : va_K D vwCl [(cI, .int)] s := hE
  have hS : va_S (mA ad) s.heap s.heap [] := va_S.rf
  have hl := lv_entry ([.ref (ad 26)]) (n := 1) (Nat.le_of_ble_eq_true rfl)
  rw [lg_entry_eq]
  generalize (lg_sl ([.ref (ad 26)]) ++ List.replicate (1 - (lg_sl ([.ref (ad 26)])).length) Slot.unset).toArray = ls at hl ⊢
  have hl : lv_has ls 1 [(0, .ref (ad 26))] := hl
  refine lv_aload_n hx hb dX7_lacks_0 rfl (lv_at hl 0 rfl) ?_
  have g_1 : -2147483648 ≤ S 2 0 ∧ S 2 0 < 2147483648 := hR 2 0 (by decide)
  refine va_get (D := D) (ci := 7) (v := .int (zI (S 2 0))) (C := RX7) (T := TX7) (N := 26) hx hb hT inX7 hown hK hP 0 rfl rfl 2 (by decide) (hT _ q_674) (fun _ h9 => h9) rfl dX7_lacks_1 ?_
  refine z_if_ne (tgt := 11) hx hb (by omega) (by omega) dX7_lacks_4 (by decide) (fun c_2 => ?_) (fun c_2 => ?_)
  · have h9 : True := trivial
    refine z_iconst hx hb dX7_lacks_11 ?_
    exact g_zret (S1 := S) (bo := false) hx hb hr hlocks hP hR hS (⟨rfl, bF (by omega)⟩) dX7_lacks_12
  · have h9 : True := trivial
    refine z_iconst hx hb dX7_lacks_7 ?_
    refine lv_goto (tgt := 12) hx hb dX7_lacks_8 (by decide) ?_
    exact g_zret (S1 := S) (bo := true) hx hb hr hlocks hP hR hS (⟨rfl, bT (by omega)⟩) dX7_lacks_12
set_option maxHeartbeats 4000000 in
set_option maxRecDepth 100000 in
theorem k_X7_isLeaf (l : Launch) (D : va_G) (cI : ClassId) (ad : Nat → Nat) (hinj : mInj ad) (S : St) (hR : RS S) (x : Int) (hx1 : -2147483648 ≤ x) (hx2 : x < 2147483648) (hn0 : 0 ≤ S 2 0) : Met l yX7_isLeaf (Cond.code yX7_isLeaf cX7_isLeaf 2 (some .boolean) :: lwT) ({ frames := 1, cells := 0, slots := 0, locals := 25 }) (gPc D (mW cI ad) (mE D cI) S [.ref (ad 26), .int (zI (x))]) (va_Qi (fun (r : Int32) (S' : St) => S' = S ∧ r = zI (b2 (decide (0 ≤ x ∧ x ≤ S 2 0 - 1)))) (gB D (mW cI ad)) (mA ad)) 0 0 (mA ad) := by
  refine Met.ofW (cc := cX7_isLeaf) (maxL := 2) (ret := (some .boolean)) (by decide) rfl ?_
  intro p e s m args below meth c s₁ B hml hv
  obtain ⟨rfl, hP, hE⟩ := hv
  have hx := B.exec
  have hb := B.bytes
  have hr := B.returns
  have hts := atoms_spec (ws := Cond.code yX7_isLeaf cX7_isLeaf 2 (some .boolean) :: lwT) B.pre
  have hT := fun w (h : w ∈ lwT) => hts w (List.mem_cons_of_mem _ h)
  have hsub : ∀ w ∈ lwT, w ∈ (Cond.code yX7_isLeaf cX7_isLeaf 2 (some .boolean) :: lwT) := fun w h => List.mem_cons_of_mem _ h
  have hown : s.vm.findClass RX7 = some m.cls := findClass_of_methodNamed B.named
  have hlocks := B.notSynchronized
  have hK : va_K D vwCl [(cI, .int)] s := hE
  have hS : va_S (mA ad) s.heap s.heap [] := va_S.rf
  have hl := lv_entry ([.ref (ad 26), .int (zI (x))]) (n := 2) (Nat.le_of_ble_eq_true rfl)
  rw [lg_entry_eq]
  generalize (lg_sl ([.ref (ad 26), .int (zI (x))]) ++ List.replicate (2 - (lg_sl ([.ref (ad 26), .int (zI (x))])).length) Slot.unset).toArray = ls at hl ⊢
  have hl : lv_has ls 2 [(0, .ref (ad 26)), (1, .int (zI (x)))] := hl
  refine lv_iload_n hx hb dX7_isLeaf_0 rfl (lv_at hl 1 rfl) ?_
  refine z_i2l hx hb (by omega) (by omega) dX7_isLeaf_1 ?_
  refine lv_lconst (v := zL 0) hx hb dX7_isLeaf_2 (by decide) ?_
  refine lv_aload_n hx hb dX7_isLeaf_3 rfl (lv_at hl 0 rfl) ?_
  have g_1 : -2147483648 ≤ S 2 0 ∧ S 2 0 < 2147483648 := hR 2 0 (by decide)
  refine va_get (D := D) (ci := 7) (v := .int (zI (S 2 0))) (C := RX7) (T := TX7) (N := 26) hx hb hT inX7 hown hK hP 0 rfl rfl 2 (by decide) (hT _ q_674) (fun _ h9 => h9) rfl dX7_isLeaf_4 ?_
  refine z_iconst hx hb dX7_isLeaf_7 ?_
  refine z_isub hx hb dX7_isLeaf_8 ?_
  refine z_i2l hx hb (by omega) (by omega) dX7_isLeaf_9 ?_
  refine s_callSi (As := [.long (zL (x)), .long (zL (0)), .long (zL ((S 2 0) - 1))]) (rest := []) ⟨hx, hb, hml, hown, hts⟩ (k_X7_in l x 0 ((S 2 0) - 1) (by omega) (by omega) (by omega) (by omega) (by omega) (by omega)) (cwS 3 hts (gS hsub q_756 q_757 q_8 q_758) rfl rfl rfl hdX7_in ⟨Nat.le_of_ble_eq_true rfl, Nat.le_of_ble_eq_true rfl⟩) rfl hl.1 rfl (Nat.le_of_ble_eq_true rfl) dX7_isLeaf_10 ⟨Nat.le_of_ble_eq_true rfl, Nat.le_of_ble_eq_true rfl⟩ (fun r_2 hq_4 => ?_)
  rw [hq_4]
  exact g_zret (S1 := S) (bo := (decide (0 ≤ x ∧ x ≤ ((S 2 0) - 1)))) hx hb hr hlocks hP hR hS (⟨rfl, rfl⟩) dX7_isLeaf_13
set_option maxHeartbeats 4000000 in
set_option maxRecDepth 100000 in
theorem k_X7_copy_6_11 (l : Launch) (D : va_G) (cI : ClassId) (ad : Nat → Nat) (hinj : mInj ad) (S : St) (hR : RS S)  : Met l yX7_copy (Cond.code yX7_copy cX7_copy 3 none :: lwT) ({ frames := 0, cells := 0, slots := 0, locals := 0 }) (gPc D (mW cI ad) (mE D cI) S [.ref (ad 6), .ref (ad 11)]) (va_Qv (fun (S' : St) => ∃ f, S' = sA S 11 f ∧ ∀ j, j < 7 → f j = S 6 j) (gB D (mW cI ad)) (mA ad)) 0 0 (mA ad) := by
  refine Met.ofW (cc := cX7_copy) (maxL := 3) (ret := none) (by decide) rfl ?_
  intro p e s m args below meth c s₁ B hml hv
  obtain ⟨rfl, hP, hE⟩ := hv
  have hx := B.exec
  have hb := B.bytes
  have hr := B.returns
  have hts := atoms_spec (ws := Cond.code yX7_copy cX7_copy 3 none :: lwT) B.pre
  have hT := fun w (h : w ∈ lwT) => hts w (List.mem_cons_of_mem _ h)
  have hsub : ∀ w ∈ lwT, w ∈ (Cond.code yX7_copy cX7_copy 3 none :: lwT) := fun w h => List.mem_cons_of_mem _ h
  have hown : s.vm.findClass RX7 = some m.cls := findClass_of_methodNamed B.named
  have hlocks := B.notSynchronized
  have hK : va_K D vwCl [(cI, .int)] s := hE
  have hS : va_S (mA ad) s.heap s.heap [] := va_S.rf
  have hl := lv_entry ([.ref (ad 6), .ref (ad 11)]) (n := 3) (Nat.le_of_ble_eq_true rfl)
  rw [lg_entry_eq]
  generalize (lg_sl ([.ref (ad 6), .ref (ad 11)]) ++ List.replicate (3 - (lg_sl ([.ref (ad 6), .ref (ad 11)])).length) Slot.unset).toArray = ls at hl ⊢
  have hl : lv_has ls 3 [(0, .ref (ad 6)), (1, .ref (ad 11))] := hl
  refine z_iconst hx hb dX7_copy_0 ?_
  refine lv_istore_n (lv' := [(2, .int (zI (0))), (0, .ref (ad 6)), (1, .ref (ad 11))]) hx hb dX7_copy_1 rfl hl (by decide) rfl (fun ls hl => ?_)
  have cut_2 : ∀ (k9 : Nat) (i : Nat) (f : Nat → Int) (H : Heap) (locs : List Loc) (ls : Array Slot), (i ≤ 7) → (∀ j, j < i → f j = S 6 j) → (7 - i) < k9 → va_P D vwCl (mW cI ad (sA S 11 f)) H → RS (sA S 11 f) → va_S (mA ad) s.heap H locs → lv_has ls 3 [(0, .ref (ad 6)), (1, .ref (ad 11)), (2, .int (zI (↑i)))] → W p l e (headSpec (Cond.code yX7_copy cX7_copy 3 none :: lwT) ({ frames := 0, cells := 0, slots := 0, locals := 0 })).room s m ([.ref (ad 6), .ref (ad 11)] : List Value).toArray below meth c H locs 0 0 (MQ below (va_Qv (fun (S' : St) => ∃ f, S' = sA S 11 f ∧ ∀ j, j < 7 → f j = S 6 j) (gB D (mW cI ad)) (mA ad)) ([.ref (ad 6), .ref (ad 11)] : List Value).toArray s 0 0 (mA ad)) (F0 m 2 ls []) := by
    intro k9
    induction k9 with
    | zero =>
      intro i f H locs ls hi hf hk9 hP hR hS hl
      exact absurd hk9 (Nat.not_lt_zero _)
    | succ k9 ih_2 =>
      intro i f H locs ls hi hf hk9 hP hR hS hl
      refine lv_iload_n hx hb dX7_copy_2 rfl (lv_at hl 2 rfl) ?_
      refine lv_aload_n hx hb dX7_copy_3 rfl (lv_at hl 0 rfl) ?_
      refine va_alen hx hb hK hP 3 0 rfl rfl (v := zI 7) rfl dX7_copy_4 ?_
      refine z_icmp_ge (tgt := 20) hx hb (by omega) (by omega) (by omega) (by omega) dX7_copy_5 (by decide) (fun c_1 => ?_) (fun c_1 => ?_)
      · have h9 : True := trivial
        exact g_vret (S1 := sA S 11 f) hx hb hr hlocks hP hR hS (⟨f, rfl, fun j hj => hf j (by omega)⟩) dX7_copy_20
      · have h9 : True := trivial
        refine lv_aload_n hx hb dX7_copy_8 rfl (lv_at hl 1 rfl) ?_
        refine lv_iload_n hx hb dX7_copy_9 rfl (lv_at hl 2 rfl) ?_
        refine lv_aload_n hx hb dX7_copy_10 rfl (lv_at hl 0 rfl) ?_
        refine lv_iload_n hx hb dX7_copy_11 rfl (lv_at hl 2 rfl) ?_
        have g_2 : -2147483648 ≤ S 6 i ∧ S 6 i < 2147483648 := hR 6 i (by decide)
        refine z_ald (f := S 6) hx hb hK hP 3 0 rfl rfl (by omega) (by omega) (by decide) dX7_copy_12 ?_
        refine z_ast (f := (sA S 11 f) 11) (i := ↑i) (v := S 6 i) hx hb hK hP (mD hinj cI _) hS 7 0 rfl rfl (by omega) (by omega) (by decide) dX7_copy_13 (fun H locs hP hS => ?_)
        have hP : va_P D vwCl (mW cI ad (sA S 11 (uZ f i (S 6 i)))) H := hP
        have hR : RS (sA S 11 (uZ f i (S 6 i))) := hR.put' (by omega) (by omega)
        refine z_iinc (lv' := [(2, .int (zI (↑i + 1))), (0, .ref (ad 6)), (1, .ref (ad 11))]) hx hb dX7_copy_14 hl (k := 2) rfl (by decide) rfl (fun ls hl => ?_)
        refine lv_goto (tgt := 2) hx hb dX7_copy_17 (by decide) ?_
        exact ih_2 (i + 1) (uZ f i (S 6 i)) _ _ _ (by omega) (fun j h => by unfold uZ; split <;> first | (rename_i e; rw [e]) | exact hf j (by omega)) (by omega) hP hR hS (lv_sub hl [1, 2, 0] rfl)
  have hSe_3 : S = sA S 11 (S 11) := by
    funext k8
    by_cases e80 : k8 = 11
    · subst e80; first | rfl | (funext j8; rfl)
    simp [sA, e80]
  rw [hSe_3] at hP hR
  exact cut_2 _ 0 (S 11) _ _ _ (by omega) (fun j h => absurd h (Nat.not_lt_zero j)) (Nat.lt_succ_self _) hP hR hS (lv_sub hl [1, 2, 0] rfl)
set_option maxHeartbeats 4000000 in
set_option maxRecDepth 100000 in
theorem k_X7_copy_10_11 (l : Launch) (D : va_G) (cI : ClassId) (ad : Nat → Nat) (hinj : mInj ad) (S : St) (hR : RS S)  : Met l yX7_copy (Cond.code yX7_copy cX7_copy 3 none :: lwT) ({ frames := 0, cells := 0, slots := 0, locals := 0 }) (gPc D (mW cI ad) (mE D cI) S [.ref (ad 10), .ref (ad 11)]) (va_Qv (fun (S' : St) => ∃ f, S' = sA S 11 f ∧ ∀ j, j < 7 → f j = S 10 j) (gB D (mW cI ad)) (mA ad)) 0 0 (mA ad) := by
  refine Met.ofW (cc := cX7_copy) (maxL := 3) (ret := none) (by decide) rfl ?_
  intro p e s m args below meth c s₁ B hml hv
  obtain ⟨rfl, hP, hE⟩ := hv
  have hx := B.exec
  have hb := B.bytes
  have hr := B.returns
  have hts := atoms_spec (ws := Cond.code yX7_copy cX7_copy 3 none :: lwT) B.pre
  have hT := fun w (h : w ∈ lwT) => hts w (List.mem_cons_of_mem _ h)
  have hsub : ∀ w ∈ lwT, w ∈ (Cond.code yX7_copy cX7_copy 3 none :: lwT) := fun w h => List.mem_cons_of_mem _ h
  have hown : s.vm.findClass RX7 = some m.cls := findClass_of_methodNamed B.named
  have hlocks := B.notSynchronized
  have hK : va_K D vwCl [(cI, .int)] s := hE
  have hS : va_S (mA ad) s.heap s.heap [] := va_S.rf
  have hl := lv_entry ([.ref (ad 10), .ref (ad 11)]) (n := 3) (Nat.le_of_ble_eq_true rfl)
  rw [lg_entry_eq]
  generalize (lg_sl ([.ref (ad 10), .ref (ad 11)]) ++ List.replicate (3 - (lg_sl ([.ref (ad 10), .ref (ad 11)])).length) Slot.unset).toArray = ls at hl ⊢
  have hl : lv_has ls 3 [(0, .ref (ad 10)), (1, .ref (ad 11))] := hl
  refine z_iconst hx hb dX7_copy_0 ?_
  refine lv_istore_n (lv' := [(2, .int (zI (0))), (0, .ref (ad 10)), (1, .ref (ad 11))]) hx hb dX7_copy_1 rfl hl (by decide) rfl (fun ls hl => ?_)
  have cut_2 : ∀ (k9 : Nat) (i : Nat) (f : Nat → Int) (H : Heap) (locs : List Loc) (ls : Array Slot), (i ≤ 7) → (∀ j, j < i → f j = S 10 j) → (7 - i) < k9 → va_P D vwCl (mW cI ad (sA S 11 f)) H → RS (sA S 11 f) → va_S (mA ad) s.heap H locs → lv_has ls 3 [(0, .ref (ad 10)), (1, .ref (ad 11)), (2, .int (zI (↑i)))] → W p l e (headSpec (Cond.code yX7_copy cX7_copy 3 none :: lwT) ({ frames := 0, cells := 0, slots := 0, locals := 0 })).room s m ([.ref (ad 10), .ref (ad 11)] : List Value).toArray below meth c H locs 0 0 (MQ below (va_Qv (fun (S' : St) => ∃ f, S' = sA S 11 f ∧ ∀ j, j < 7 → f j = S 10 j) (gB D (mW cI ad)) (mA ad)) ([.ref (ad 10), .ref (ad 11)] : List Value).toArray s 0 0 (mA ad)) (F0 m 2 ls []) := by
    intro k9
    induction k9 with
    | zero =>
      intro i f H locs ls hi hf hk9 hP hR hS hl
      exact absurd hk9 (Nat.not_lt_zero _)
    | succ k9 ih_2 =>
      intro i f H locs ls hi hf hk9 hP hR hS hl
      refine lv_iload_n hx hb dX7_copy_2 rfl (lv_at hl 2 rfl) ?_
      refine lv_aload_n hx hb dX7_copy_3 rfl (lv_at hl 0 rfl) ?_
      refine va_alen hx hb hK hP 6 0 rfl rfl (v := zI 7) rfl dX7_copy_4 ?_
      refine z_icmp_ge (tgt := 20) hx hb (by omega) (by omega) (by omega) (by omega) dX7_copy_5 (by decide) (fun c_1 => ?_) (fun c_1 => ?_)
      · have h9 : True := trivial
        exact g_vret (S1 := sA S 11 f) hx hb hr hlocks hP hR hS (⟨f, rfl, fun j hj => hf j (by omega)⟩) dX7_copy_20
      · have h9 : True := trivial
        refine lv_aload_n hx hb dX7_copy_8 rfl (lv_at hl 1 rfl) ?_
        refine lv_iload_n hx hb dX7_copy_9 rfl (lv_at hl 2 rfl) ?_
        refine lv_aload_n hx hb dX7_copy_10 rfl (lv_at hl 0 rfl) ?_
        refine lv_iload_n hx hb dX7_copy_11 rfl (lv_at hl 2 rfl) ?_
        have g_2 : -2147483648 ≤ S 10 i ∧ S 10 i < 2147483648 := hR 10 i (by decide)
        refine z_ald (f := S 10) hx hb hK hP 6 0 rfl rfl (by omega) (by omega) (by decide) dX7_copy_12 ?_
        refine z_ast (f := (sA S 11 f) 11) (i := ↑i) (v := S 10 i) hx hb hK hP (mD hinj cI _) hS 7 0 rfl rfl (by omega) (by omega) (by decide) dX7_copy_13 (fun H locs hP hS => ?_)
        have hP : va_P D vwCl (mW cI ad (sA S 11 (uZ f i (S 10 i)))) H := hP
        have hR : RS (sA S 11 (uZ f i (S 10 i))) := hR.put' (by omega) (by omega)
        refine z_iinc (lv' := [(2, .int (zI (↑i + 1))), (0, .ref (ad 10)), (1, .ref (ad 11))]) hx hb dX7_copy_14 hl (k := 2) rfl (by decide) rfl (fun ls hl => ?_)
        refine lv_goto (tgt := 2) hx hb dX7_copy_17 (by decide) ?_
        exact ih_2 (i + 1) (uZ f i (S 10 i)) _ _ _ (by omega) (fun j h => by unfold uZ; split <;> first | (rename_i e; rw [e]) | exact hf j (by omega)) (by omega) hP hR hS (lv_sub hl [1, 2, 0] rfl)
  have hSe_3 : S = sA S 11 (S 11) := by
    funext k8
    by_cases e80 : k8 = 11
    · subst e80; first | rfl | (funext j8; rfl)
    simp [sA, e80]
  rw [hSe_3] at hP hR
  exact cut_2 _ 0 (S 11) _ _ _ (by omega) (fun j h => absurd h (Nat.not_lt_zero j)) (Nat.lt_succ_self _) hP hR hS (lv_sub hl [1, 2, 0] rfl)
set_option maxHeartbeats 4000000 in
set_option maxRecDepth 100000 in
theorem k_X7_copy_18_11 (l : Launch) (D : va_G) (cI : ClassId) (ad : Nat → Nat) (hinj : mInj ad) (S : St) (hR : RS S)  : Met l yX7_copy (Cond.code yX7_copy cX7_copy 3 none :: lwT) ({ frames := 0, cells := 0, slots := 0, locals := 0 }) (gPc D (mW cI ad) (mE D cI) S [.ref (ad 18), .ref (ad 11)]) (va_Qv (fun (S' : St) => ∃ f, S' = sA S 11 f ∧ ∀ j, j < 7 → f j = S 18 j) (gB D (mW cI ad)) (mA ad)) 0 0 (mA ad) := by
  refine Met.ofW (cc := cX7_copy) (maxL := 3) (ret := none) (by decide) rfl ?_
  intro p e s m args below meth c s₁ B hml hv
  obtain ⟨rfl, hP, hE⟩ := hv
  have hx := B.exec
  have hb := B.bytes
  have hr := B.returns
  have hts := atoms_spec (ws := Cond.code yX7_copy cX7_copy 3 none :: lwT) B.pre
  have hT := fun w (h : w ∈ lwT) => hts w (List.mem_cons_of_mem _ h)
  have hsub : ∀ w ∈ lwT, w ∈ (Cond.code yX7_copy cX7_copy 3 none :: lwT) := fun w h => List.mem_cons_of_mem _ h
  have hown : s.vm.findClass RX7 = some m.cls := findClass_of_methodNamed B.named
  have hlocks := B.notSynchronized
  have hK : va_K D vwCl [(cI, .int)] s := hE
  have hS : va_S (mA ad) s.heap s.heap [] := va_S.rf
  have hl := lv_entry ([.ref (ad 18), .ref (ad 11)]) (n := 3) (Nat.le_of_ble_eq_true rfl)
  rw [lg_entry_eq]
  generalize (lg_sl ([.ref (ad 18), .ref (ad 11)]) ++ List.replicate (3 - (lg_sl ([.ref (ad 18), .ref (ad 11)])).length) Slot.unset).toArray = ls at hl ⊢
  have hl : lv_has ls 3 [(0, .ref (ad 18)), (1, .ref (ad 11))] := hl
  refine z_iconst hx hb dX7_copy_0 ?_
  refine lv_istore_n (lv' := [(2, .int (zI (0))), (0, .ref (ad 18)), (1, .ref (ad 11))]) hx hb dX7_copy_1 rfl hl (by decide) rfl (fun ls hl => ?_)
  have cut_2 : ∀ (k9 : Nat) (i : Nat) (f : Nat → Int) (H : Heap) (locs : List Loc) (ls : Array Slot), (i ≤ 7) → (∀ j, j < i → f j = S 18 j) → (7 - i) < k9 → va_P D vwCl (mW cI ad (sA S 11 f)) H → RS (sA S 11 f) → va_S (mA ad) s.heap H locs → lv_has ls 3 [(0, .ref (ad 18)), (1, .ref (ad 11)), (2, .int (zI (↑i)))] → W p l e (headSpec (Cond.code yX7_copy cX7_copy 3 none :: lwT) ({ frames := 0, cells := 0, slots := 0, locals := 0 })).room s m ([.ref (ad 18), .ref (ad 11)] : List Value).toArray below meth c H locs 0 0 (MQ below (va_Qv (fun (S' : St) => ∃ f, S' = sA S 11 f ∧ ∀ j, j < 7 → f j = S 18 j) (gB D (mW cI ad)) (mA ad)) ([.ref (ad 18), .ref (ad 11)] : List Value).toArray s 0 0 (mA ad)) (F0 m 2 ls []) := by
    intro k9
    induction k9 with
    | zero =>
      intro i f H locs ls hi hf hk9 hP hR hS hl
      exact absurd hk9 (Nat.not_lt_zero _)
    | succ k9 ih_2 =>
      intro i f H locs ls hi hf hk9 hP hR hS hl
      refine lv_iload_n hx hb dX7_copy_2 rfl (lv_at hl 2 rfl) ?_
      refine lv_aload_n hx hb dX7_copy_3 rfl (lv_at hl 0 rfl) ?_
      refine va_alen hx hb hK hP 11 0 rfl rfl (v := zI 7) rfl dX7_copy_4 ?_
      refine z_icmp_ge (tgt := 20) hx hb (by omega) (by omega) (by omega) (by omega) dX7_copy_5 (by decide) (fun c_1 => ?_) (fun c_1 => ?_)
      · have h9 : True := trivial
        exact g_vret (S1 := sA S 11 f) hx hb hr hlocks hP hR hS (⟨f, rfl, fun j hj => hf j (by omega)⟩) dX7_copy_20
      · have h9 : True := trivial
        refine lv_aload_n hx hb dX7_copy_8 rfl (lv_at hl 1 rfl) ?_
        refine lv_iload_n hx hb dX7_copy_9 rfl (lv_at hl 2 rfl) ?_
        refine lv_aload_n hx hb dX7_copy_10 rfl (lv_at hl 0 rfl) ?_
        refine lv_iload_n hx hb dX7_copy_11 rfl (lv_at hl 2 rfl) ?_
        have g_2 : -2147483648 ≤ S 18 i ∧ S 18 i < 2147483648 := hR 18 i (by decide)
        refine z_ald (f := S 18) hx hb hK hP 11 0 rfl rfl (by omega) (by omega) (by decide) dX7_copy_12 ?_
        refine z_ast (f := (sA S 11 f) 11) (i := ↑i) (v := S 18 i) hx hb hK hP (mD hinj cI _) hS 7 0 rfl rfl (by omega) (by omega) (by decide) dX7_copy_13 (fun H locs hP hS => ?_)
        have hP : va_P D vwCl (mW cI ad (sA S 11 (uZ f i (S 18 i)))) H := hP
        have hR : RS (sA S 11 (uZ f i (S 18 i))) := hR.put' (by omega) (by omega)
        refine z_iinc (lv' := [(2, .int (zI (↑i + 1))), (0, .ref (ad 18)), (1, .ref (ad 11))]) hx hb dX7_copy_14 hl (k := 2) rfl (by decide) rfl (fun ls hl => ?_)
        refine lv_goto (tgt := 2) hx hb dX7_copy_17 (by decide) ?_
        exact ih_2 (i + 1) (uZ f i (S 18 i)) _ _ _ (by omega) (fun j h => by unfold uZ; split <;> first | (rename_i e; rw [e]) | exact hf j (by omega)) (by omega) hP hR hS (lv_sub hl [1, 2, 0] rfl)
  have hSe_3 : S = sA S 11 (S 11) := by
    funext k8
    by_cases e80 : k8 = 11
    · subst e80; first | rfl | (funext j8; rfl)
    simp [sA, e80]
  rw [hSe_3] at hP hR
  exact cut_2 _ 0 (S 11) _ _ _ (by omega) (fun j h => absurd h (Nat.not_lt_zero j)) (Nat.lt_succ_self _) hP hR hS (lv_sub hl [1, 2, 0] rfl)
set_option maxHeartbeats 4000000 in
set_option maxRecDepth 100000 in
theorem k_X7_copy_6_18 (l : Launch) (D : va_G) (cI : ClassId) (ad : Nat → Nat) (hinj : mInj ad) (S : St) (hR : RS S)  : Met l yX7_copy (Cond.code yX7_copy cX7_copy 3 none :: lwT) ({ frames := 0, cells := 0, slots := 0, locals := 0 }) (gPc D (mW cI ad) (mE D cI) S [.ref (ad 6), .ref (ad 18)]) (va_Qv (fun (S' : St) => ∃ f, S' = sA S 18 f ∧ ∀ j, j < 7 → f j = S 6 j) (gB D (mW cI ad)) (mA ad)) 0 0 (mA ad) := by
  refine Met.ofW (cc := cX7_copy) (maxL := 3) (ret := none) (by decide) rfl ?_
  intro p e s m args below meth c s₁ B hml hv
  obtain ⟨rfl, hP, hE⟩ := hv
  have hx := B.exec
  have hb := B.bytes
  have hr := B.returns
  have hts := atoms_spec (ws := Cond.code yX7_copy cX7_copy 3 none :: lwT) B.pre
  have hT := fun w (h : w ∈ lwT) => hts w (List.mem_cons_of_mem _ h)
  have hsub : ∀ w ∈ lwT, w ∈ (Cond.code yX7_copy cX7_copy 3 none :: lwT) := fun w h => List.mem_cons_of_mem _ h
  have hown : s.vm.findClass RX7 = some m.cls := findClass_of_methodNamed B.named
  have hlocks := B.notSynchronized
  have hK : va_K D vwCl [(cI, .int)] s := hE
  have hS : va_S (mA ad) s.heap s.heap [] := va_S.rf
  have hl := lv_entry ([.ref (ad 6), .ref (ad 18)]) (n := 3) (Nat.le_of_ble_eq_true rfl)
  rw [lg_entry_eq]
  generalize (lg_sl ([.ref (ad 6), .ref (ad 18)]) ++ List.replicate (3 - (lg_sl ([.ref (ad 6), .ref (ad 18)])).length) Slot.unset).toArray = ls at hl ⊢
  have hl : lv_has ls 3 [(0, .ref (ad 6)), (1, .ref (ad 18))] := hl
  refine z_iconst hx hb dX7_copy_0 ?_
  refine lv_istore_n (lv' := [(2, .int (zI (0))), (0, .ref (ad 6)), (1, .ref (ad 18))]) hx hb dX7_copy_1 rfl hl (by decide) rfl (fun ls hl => ?_)
  have cut_2 : ∀ (k9 : Nat) (i : Nat) (f : Nat → Int) (H : Heap) (locs : List Loc) (ls : Array Slot), (i ≤ 7) → (∀ j, j < i → f j = S 6 j) → (7 - i) < k9 → va_P D vwCl (mW cI ad (sA S 18 f)) H → RS (sA S 18 f) → va_S (mA ad) s.heap H locs → lv_has ls 3 [(0, .ref (ad 6)), (1, .ref (ad 18)), (2, .int (zI (↑i)))] → W p l e (headSpec (Cond.code yX7_copy cX7_copy 3 none :: lwT) ({ frames := 0, cells := 0, slots := 0, locals := 0 })).room s m ([.ref (ad 6), .ref (ad 18)] : List Value).toArray below meth c H locs 0 0 (MQ below (va_Qv (fun (S' : St) => ∃ f, S' = sA S 18 f ∧ ∀ j, j < 7 → f j = S 6 j) (gB D (mW cI ad)) (mA ad)) ([.ref (ad 6), .ref (ad 18)] : List Value).toArray s 0 0 (mA ad)) (F0 m 2 ls []) := by
    intro k9
    induction k9 with
    | zero =>
      intro i f H locs ls hi hf hk9 hP hR hS hl
      exact absurd hk9 (Nat.not_lt_zero _)
    | succ k9 ih_2 =>
      intro i f H locs ls hi hf hk9 hP hR hS hl
      refine lv_iload_n hx hb dX7_copy_2 rfl (lv_at hl 2 rfl) ?_
      refine lv_aload_n hx hb dX7_copy_3 rfl (lv_at hl 0 rfl) ?_
      refine va_alen hx hb hK hP 3 0 rfl rfl (v := zI 7) rfl dX7_copy_4 ?_
      refine z_icmp_ge (tgt := 20) hx hb (by omega) (by omega) (by omega) (by omega) dX7_copy_5 (by decide) (fun c_1 => ?_) (fun c_1 => ?_)
      · have h9 : True := trivial
        exact g_vret (S1 := sA S 18 f) hx hb hr hlocks hP hR hS (⟨f, rfl, fun j hj => hf j (by omega)⟩) dX7_copy_20
      · have h9 : True := trivial
        refine lv_aload_n hx hb dX7_copy_8 rfl (lv_at hl 1 rfl) ?_
        refine lv_iload_n hx hb dX7_copy_9 rfl (lv_at hl 2 rfl) ?_
        refine lv_aload_n hx hb dX7_copy_10 rfl (lv_at hl 0 rfl) ?_
        refine lv_iload_n hx hb dX7_copy_11 rfl (lv_at hl 2 rfl) ?_
        have g_2 : -2147483648 ≤ S 6 i ∧ S 6 i < 2147483648 := hR 6 i (by decide)
        refine z_ald (f := S 6) hx hb hK hP 3 0 rfl rfl (by omega) (by omega) (by decide) dX7_copy_12 ?_
        refine z_ast (f := (sA S 18 f) 18) (i := ↑i) (v := S 6 i) hx hb hK hP (mD hinj cI _) hS 11 0 rfl rfl (by omega) (by omega) (by decide) dX7_copy_13 (fun H locs hP hS => ?_)
        have hP : va_P D vwCl (mW cI ad (sA S 18 (uZ f i (S 6 i)))) H := hP
        have hR : RS (sA S 18 (uZ f i (S 6 i))) := hR.put' (by omega) (by omega)
        refine z_iinc (lv' := [(2, .int (zI (↑i + 1))), (0, .ref (ad 6)), (1, .ref (ad 18))]) hx hb dX7_copy_14 hl (k := 2) rfl (by decide) rfl (fun ls hl => ?_)
        refine lv_goto (tgt := 2) hx hb dX7_copy_17 (by decide) ?_
        exact ih_2 (i + 1) (uZ f i (S 6 i)) _ _ _ (by omega) (fun j h => by unfold uZ; split <;> first | (rename_i e; rw [e]) | exact hf j (by omega)) (by omega) hP hR hS (lv_sub hl [1, 2, 0] rfl)
  have hSe_3 : S = sA S 18 (S 18) := by
    funext k8
    by_cases e80 : k8 = 18
    · subst e80; first | rfl | (funext j8; rfl)
    simp [sA, e80]
  rw [hSe_3] at hP hR
  exact cut_2 _ 0 (S 18) _ _ _ (by omega) (fun j h => absurd h (Nat.not_lt_zero j)) (Nat.lt_succ_self _) hP hR hS (lv_sub hl [1, 2, 0] rfl)
set_option maxHeartbeats 4000000 in
set_option maxRecDepth 100000 in
theorem k_X7_copy_5_22 (l : Launch) (D : va_G) (cI : ClassId) (ad : Nat → Nat) (hinj : mInj ad) (S : St) (hR : RS S)  : Met l yX7_copy (Cond.code yX7_copy cX7_copy 3 none :: lwT) ({ frames := 0, cells := 0, slots := 0, locals := 0 }) (gPc D (mW cI ad) (mE D cI) S [.ref (ad 5), .ref (ad 22)]) (va_Qv (fun (S' : St) => ∃ f, S' = sA S 22 f ∧ ∀ j, j < 7 → f j = S 5 j) (gB D (mW cI ad)) (mA ad)) 0 0 (mA ad) := by
  refine Met.ofW (cc := cX7_copy) (maxL := 3) (ret := none) (by decide) rfl ?_
  intro p e s m args below meth c s₁ B hml hv
  obtain ⟨rfl, hP, hE⟩ := hv
  have hx := B.exec
  have hb := B.bytes
  have hr := B.returns
  have hts := atoms_spec (ws := Cond.code yX7_copy cX7_copy 3 none :: lwT) B.pre
  have hT := fun w (h : w ∈ lwT) => hts w (List.mem_cons_of_mem _ h)
  have hsub : ∀ w ∈ lwT, w ∈ (Cond.code yX7_copy cX7_copy 3 none :: lwT) := fun w h => List.mem_cons_of_mem _ h
  have hown : s.vm.findClass RX7 = some m.cls := findClass_of_methodNamed B.named
  have hlocks := B.notSynchronized
  have hK : va_K D vwCl [(cI, .int)] s := hE
  have hS : va_S (mA ad) s.heap s.heap [] := va_S.rf
  have hl := lv_entry ([.ref (ad 5), .ref (ad 22)]) (n := 3) (Nat.le_of_ble_eq_true rfl)
  rw [lg_entry_eq]
  generalize (lg_sl ([.ref (ad 5), .ref (ad 22)]) ++ List.replicate (3 - (lg_sl ([.ref (ad 5), .ref (ad 22)])).length) Slot.unset).toArray = ls at hl ⊢
  have hl : lv_has ls 3 [(0, .ref (ad 5)), (1, .ref (ad 22))] := hl
  refine z_iconst hx hb dX7_copy_0 ?_
  refine lv_istore_n (lv' := [(2, .int (zI (0))), (0, .ref (ad 5)), (1, .ref (ad 22))]) hx hb dX7_copy_1 rfl hl (by decide) rfl (fun ls hl => ?_)
  have cut_2 : ∀ (k9 : Nat) (i : Nat) (f : Nat → Int) (H : Heap) (locs : List Loc) (ls : Array Slot), (i ≤ 7) → (∀ j, j < i → f j = S 5 j) → (7 - i) < k9 → va_P D vwCl (mW cI ad (sA S 22 f)) H → RS (sA S 22 f) → va_S (mA ad) s.heap H locs → lv_has ls 3 [(0, .ref (ad 5)), (1, .ref (ad 22)), (2, .int (zI (↑i)))] → W p l e (headSpec (Cond.code yX7_copy cX7_copy 3 none :: lwT) ({ frames := 0, cells := 0, slots := 0, locals := 0 })).room s m ([.ref (ad 5), .ref (ad 22)] : List Value).toArray below meth c H locs 0 0 (MQ below (va_Qv (fun (S' : St) => ∃ f, S' = sA S 22 f ∧ ∀ j, j < 7 → f j = S 5 j) (gB D (mW cI ad)) (mA ad)) ([.ref (ad 5), .ref (ad 22)] : List Value).toArray s 0 0 (mA ad)) (F0 m 2 ls []) := by
    intro k9
    induction k9 with
    | zero =>
      intro i f H locs ls hi hf hk9 hP hR hS hl
      exact absurd hk9 (Nat.not_lt_zero _)
    | succ k9 ih_2 =>
      intro i f H locs ls hi hf hk9 hP hR hS hl
      refine lv_iload_n hx hb dX7_copy_2 rfl (lv_at hl 2 rfl) ?_
      refine lv_aload_n hx hb dX7_copy_3 rfl (lv_at hl 0 rfl) ?_
      refine va_alen hx hb hK hP 2 0 rfl rfl (v := zI 7) rfl dX7_copy_4 ?_
      refine z_icmp_ge (tgt := 20) hx hb (by omega) (by omega) (by omega) (by omega) dX7_copy_5 (by decide) (fun c_1 => ?_) (fun c_1 => ?_)
      · have h9 : True := trivial
        exact g_vret (S1 := sA S 22 f) hx hb hr hlocks hP hR hS (⟨f, rfl, fun j hj => hf j (by omega)⟩) dX7_copy_20
      · have h9 : True := trivial
        refine lv_aload_n hx hb dX7_copy_8 rfl (lv_at hl 1 rfl) ?_
        refine lv_iload_n hx hb dX7_copy_9 rfl (lv_at hl 2 rfl) ?_
        refine lv_aload_n hx hb dX7_copy_10 rfl (lv_at hl 0 rfl) ?_
        refine lv_iload_n hx hb dX7_copy_11 rfl (lv_at hl 2 rfl) ?_
        have g_2 : -2147483648 ≤ S 5 i ∧ S 5 i < 2147483648 := hR 5 i (by decide)
        refine z_ald (f := S 5) hx hb hK hP 2 0 rfl rfl (by omega) (by omega) (by decide) dX7_copy_12 ?_
        refine z_ast (f := (sA S 22 f) 22) (i := ↑i) (v := S 5 i) hx hb hK hP (mD hinj cI _) hS 12 0 rfl rfl (by omega) (by omega) (by decide) dX7_copy_13 (fun H locs hP hS => ?_)
        have hP : va_P D vwCl (mW cI ad (sA S 22 (uZ f i (S 5 i)))) H := hP
        have hR : RS (sA S 22 (uZ f i (S 5 i))) := hR.put' (by omega) (by omega)
        refine z_iinc (lv' := [(2, .int (zI (↑i + 1))), (0, .ref (ad 5)), (1, .ref (ad 22))]) hx hb dX7_copy_14 hl (k := 2) rfl (by decide) rfl (fun ls hl => ?_)
        refine lv_goto (tgt := 2) hx hb dX7_copy_17 (by decide) ?_
        exact ih_2 (i + 1) (uZ f i (S 5 i)) _ _ _ (by omega) (fun j h => by unfold uZ; split <;> first | (rename_i e; rw [e]) | exact hf j (by omega)) (by omega) hP hR hS (lv_sub hl [1, 2, 0] rfl)
  have hSe_3 : S = sA S 22 (S 22) := by
    funext k8
    by_cases e80 : k8 = 22
    · subst e80; first | rfl | (funext j8; rfl)
    simp [sA, e80]
  rw [hSe_3] at hP hR
  exact cut_2 _ 0 (S 22) _ _ _ (by omega) (fun j h => absurd h (Nat.not_lt_zero j)) (Nat.lt_succ_self _) hP hR hS (lv_sub hl [1, 2, 0] rfl)
set_option maxHeartbeats 4000000 in
set_option maxRecDepth 100000 in
theorem k_X7_copy_6_23 (l : Launch) (D : va_G) (cI : ClassId) (ad : Nat → Nat) (hinj : mInj ad) (S : St) (hR : RS S)  : Met l yX7_copy (Cond.code yX7_copy cX7_copy 3 none :: lwT) ({ frames := 0, cells := 0, slots := 0, locals := 0 }) (gPc D (mW cI ad) (mE D cI) S [.ref (ad 6), .ref (ad 23)]) (va_Qv (fun (S' : St) => ∃ f, S' = sA S 23 f ∧ ∀ j, j < 7 → f j = S 6 j) (gB D (mW cI ad)) (mA ad)) 0 0 (mA ad) := by
  refine Met.ofW (cc := cX7_copy) (maxL := 3) (ret := none) (by decide) rfl ?_
  intro p e s m args below meth c s₁ B hml hv
  obtain ⟨rfl, hP, hE⟩ := hv
  have hx := B.exec
  have hb := B.bytes
  have hr := B.returns
  have hts := atoms_spec (ws := Cond.code yX7_copy cX7_copy 3 none :: lwT) B.pre
  have hT := fun w (h : w ∈ lwT) => hts w (List.mem_cons_of_mem _ h)
  have hsub : ∀ w ∈ lwT, w ∈ (Cond.code yX7_copy cX7_copy 3 none :: lwT) := fun w h => List.mem_cons_of_mem _ h
  have hown : s.vm.findClass RX7 = some m.cls := findClass_of_methodNamed B.named
  have hlocks := B.notSynchronized
  have hK : va_K D vwCl [(cI, .int)] s := hE
  have hS : va_S (mA ad) s.heap s.heap [] := va_S.rf
  have hl := lv_entry ([.ref (ad 6), .ref (ad 23)]) (n := 3) (Nat.le_of_ble_eq_true rfl)
  rw [lg_entry_eq]
  generalize (lg_sl ([.ref (ad 6), .ref (ad 23)]) ++ List.replicate (3 - (lg_sl ([.ref (ad 6), .ref (ad 23)])).length) Slot.unset).toArray = ls at hl ⊢
  have hl : lv_has ls 3 [(0, .ref (ad 6)), (1, .ref (ad 23))] := hl
  refine z_iconst hx hb dX7_copy_0 ?_
  refine lv_istore_n (lv' := [(2, .int (zI (0))), (0, .ref (ad 6)), (1, .ref (ad 23))]) hx hb dX7_copy_1 rfl hl (by decide) rfl (fun ls hl => ?_)
  have cut_2 : ∀ (k9 : Nat) (i : Nat) (f : Nat → Int) (H : Heap) (locs : List Loc) (ls : Array Slot), (i ≤ 7) → (∀ j, j < i → f j = S 6 j) → (7 - i) < k9 → va_P D vwCl (mW cI ad (sA S 23 f)) H → RS (sA S 23 f) → va_S (mA ad) s.heap H locs → lv_has ls 3 [(0, .ref (ad 6)), (1, .ref (ad 23)), (2, .int (zI (↑i)))] → W p l e (headSpec (Cond.code yX7_copy cX7_copy 3 none :: lwT) ({ frames := 0, cells := 0, slots := 0, locals := 0 })).room s m ([.ref (ad 6), .ref (ad 23)] : List Value).toArray below meth c H locs 0 0 (MQ below (va_Qv (fun (S' : St) => ∃ f, S' = sA S 23 f ∧ ∀ j, j < 7 → f j = S 6 j) (gB D (mW cI ad)) (mA ad)) ([.ref (ad 6), .ref (ad 23)] : List Value).toArray s 0 0 (mA ad)) (F0 m 2 ls []) := by
    intro k9
    induction k9 with
    | zero =>
      intro i f H locs ls hi hf hk9 hP hR hS hl
      exact absurd hk9 (Nat.not_lt_zero _)
    | succ k9 ih_2 =>
      intro i f H locs ls hi hf hk9 hP hR hS hl
      refine lv_iload_n hx hb dX7_copy_2 rfl (lv_at hl 2 rfl) ?_
      refine lv_aload_n hx hb dX7_copy_3 rfl (lv_at hl 0 rfl) ?_
      refine va_alen hx hb hK hP 3 0 rfl rfl (v := zI 7) rfl dX7_copy_4 ?_
      refine z_icmp_ge (tgt := 20) hx hb (by omega) (by omega) (by omega) (by omega) dX7_copy_5 (by decide) (fun c_1 => ?_) (fun c_1 => ?_)
      · have h9 : True := trivial
        exact g_vret (S1 := sA S 23 f) hx hb hr hlocks hP hR hS (⟨f, rfl, fun j hj => hf j (by omega)⟩) dX7_copy_20
      · have h9 : True := trivial
        refine lv_aload_n hx hb dX7_copy_8 rfl (lv_at hl 1 rfl) ?_
        refine lv_iload_n hx hb dX7_copy_9 rfl (lv_at hl 2 rfl) ?_
        refine lv_aload_n hx hb dX7_copy_10 rfl (lv_at hl 0 rfl) ?_
        refine lv_iload_n hx hb dX7_copy_11 rfl (lv_at hl 2 rfl) ?_
        have g_2 : -2147483648 ≤ S 6 i ∧ S 6 i < 2147483648 := hR 6 i (by decide)
        refine z_ald (f := S 6) hx hb hK hP 3 0 rfl rfl (by omega) (by omega) (by decide) dX7_copy_12 ?_
        refine z_ast (f := (sA S 23 f) 23) (i := ↑i) (v := S 6 i) hx hb hK hP (mD hinj cI _) hS 13 0 rfl rfl (by omega) (by omega) (by decide) dX7_copy_13 (fun H locs hP hS => ?_)
        have hP : va_P D vwCl (mW cI ad (sA S 23 (uZ f i (S 6 i)))) H := hP
        have hR : RS (sA S 23 (uZ f i (S 6 i))) := hR.put' (by omega) (by omega)
        refine z_iinc (lv' := [(2, .int (zI (↑i + 1))), (0, .ref (ad 6)), (1, .ref (ad 23))]) hx hb dX7_copy_14 hl (k := 2) rfl (by decide) rfl (fun ls hl => ?_)
        refine lv_goto (tgt := 2) hx hb dX7_copy_17 (by decide) ?_
        exact ih_2 (i + 1) (uZ f i (S 6 i)) _ _ _ (by omega) (fun j h => by unfold uZ; split <;> first | (rename_i e; rw [e]) | exact hf j (by omega)) (by omega) hP hR hS (lv_sub hl [1, 2, 0] rfl)
  have hSe_3 : S = sA S 23 (S 23) := by
    funext k8
    by_cases e80 : k8 = 23
    · subst e80; first | rfl | (funext j8; rfl)
    simp [sA, e80]
  rw [hSe_3] at hP hR
  exact cut_2 _ 0 (S 23) _ _ _ (by omega) (fun j h => absurd h (Nat.not_lt_zero j)) (Nat.lt_succ_self _) hP hR hS (lv_sub hl [1, 2, 0] rfl)
set_option maxHeartbeats 4000000 in
set_option maxRecDepth 100000 in
theorem k_X7_copy_16_24 (l : Launch) (D : va_G) (cI : ClassId) (ad : Nat → Nat) (hinj : mInj ad) (S : St) (hR : RS S)  : Met l yX7_copy (Cond.code yX7_copy cX7_copy 3 none :: lwT) ({ frames := 0, cells := 0, slots := 0, locals := 0 }) (gPc D (mW cI ad) (mE D cI) S [.ref (ad 16), .ref (ad 24)]) (va_Qv (fun (S' : St) => ∃ f, S' = sA S 24 f ∧ ∀ j, j < 18 → f j = S 16 j) (gB D (mW cI ad)) (mA ad)) 0 0 (mA ad) := by
  refine Met.ofW (cc := cX7_copy) (maxL := 3) (ret := none) (by decide) rfl ?_
  intro p e s m args below meth c s₁ B hml hv
  obtain ⟨rfl, hP, hE⟩ := hv
  have hx := B.exec
  have hb := B.bytes
  have hr := B.returns
  have hts := atoms_spec (ws := Cond.code yX7_copy cX7_copy 3 none :: lwT) B.pre
  have hT := fun w (h : w ∈ lwT) => hts w (List.mem_cons_of_mem _ h)
  have hsub : ∀ w ∈ lwT, w ∈ (Cond.code yX7_copy cX7_copy 3 none :: lwT) := fun w h => List.mem_cons_of_mem _ h
  have hown : s.vm.findClass RX7 = some m.cls := findClass_of_methodNamed B.named
  have hlocks := B.notSynchronized
  have hK : va_K D vwCl [(cI, .int)] s := hE
  have hS : va_S (mA ad) s.heap s.heap [] := va_S.rf
  have hl := lv_entry ([.ref (ad 16), .ref (ad 24)]) (n := 3) (Nat.le_of_ble_eq_true rfl)
  rw [lg_entry_eq]
  generalize (lg_sl ([.ref (ad 16), .ref (ad 24)]) ++ List.replicate (3 - (lg_sl ([.ref (ad 16), .ref (ad 24)])).length) Slot.unset).toArray = ls at hl ⊢
  have hl : lv_has ls 3 [(0, .ref (ad 16)), (1, .ref (ad 24))] := hl
  refine z_iconst hx hb dX7_copy_0 ?_
  refine lv_istore_n (lv' := [(2, .int (zI (0))), (0, .ref (ad 16)), (1, .ref (ad 24))]) hx hb dX7_copy_1 rfl hl (by decide) rfl (fun ls hl => ?_)
  have cut_2 : ∀ (k9 : Nat) (i : Nat) (f : Nat → Int) (H : Heap) (locs : List Loc) (ls : Array Slot), (i ≤ 18) → (∀ j, j < i → f j = S 16 j) → (18 - i) < k9 → va_P D vwCl (mW cI ad (sA S 24 f)) H → RS (sA S 24 f) → va_S (mA ad) s.heap H locs → lv_has ls 3 [(0, .ref (ad 16)), (1, .ref (ad 24)), (2, .int (zI (↑i)))] → W p l e (headSpec (Cond.code yX7_copy cX7_copy 3 none :: lwT) ({ frames := 0, cells := 0, slots := 0, locals := 0 })).room s m ([.ref (ad 16), .ref (ad 24)] : List Value).toArray below meth c H locs 0 0 (MQ below (va_Qv (fun (S' : St) => ∃ f, S' = sA S 24 f ∧ ∀ j, j < 18 → f j = S 16 j) (gB D (mW cI ad)) (mA ad)) ([.ref (ad 16), .ref (ad 24)] : List Value).toArray s 0 0 (mA ad)) (F0 m 2 ls []) := by
    intro k9
    induction k9 with
    | zero =>
      intro i f H locs ls hi hf hk9 hP hR hS hl
      exact absurd hk9 (Nat.not_lt_zero _)
    | succ k9 ih_2 =>
      intro i f H locs ls hi hf hk9 hP hR hS hl
      refine lv_iload_n hx hb dX7_copy_2 rfl (lv_at hl 2 rfl) ?_
      refine lv_aload_n hx hb dX7_copy_3 rfl (lv_at hl 0 rfl) ?_
      refine va_alen hx hb hK hP 10 0 rfl rfl (v := zI 18) rfl dX7_copy_4 ?_
      refine z_icmp_ge (tgt := 20) hx hb (by omega) (by omega) (by omega) (by omega) dX7_copy_5 (by decide) (fun c_1 => ?_) (fun c_1 => ?_)
      · have h9 : True := trivial
        exact g_vret (S1 := sA S 24 f) hx hb hr hlocks hP hR hS (⟨f, rfl, fun j hj => hf j (by omega)⟩) dX7_copy_20
      · have h9 : True := trivial
        refine lv_aload_n hx hb dX7_copy_8 rfl (lv_at hl 1 rfl) ?_
        refine lv_iload_n hx hb dX7_copy_9 rfl (lv_at hl 2 rfl) ?_
        refine lv_aload_n hx hb dX7_copy_10 rfl (lv_at hl 0 rfl) ?_
        refine lv_iload_n hx hb dX7_copy_11 rfl (lv_at hl 2 rfl) ?_
        have g_2 : -2147483648 ≤ S 16 i ∧ S 16 i < 2147483648 := hR 16 i (by decide)
        refine z_ald (f := S 16) hx hb hK hP 10 0 rfl rfl (by omega) (by omega) (by decide) dX7_copy_12 ?_
        refine z_ast (f := (sA S 24 f) 24) (i := ↑i) (v := S 16 i) hx hb hK hP (mD hinj cI _) hS 14 0 rfl rfl (by omega) (by omega) (by decide) dX7_copy_13 (fun H locs hP hS => ?_)
        have hP : va_P D vwCl (mW cI ad (sA S 24 (uZ f i (S 16 i)))) H := hP
        have hR : RS (sA S 24 (uZ f i (S 16 i))) := hR.put' (by omega) (by omega)
        refine z_iinc (lv' := [(2, .int (zI (↑i + 1))), (0, .ref (ad 16)), (1, .ref (ad 24))]) hx hb dX7_copy_14 hl (k := 2) rfl (by decide) rfl (fun ls hl => ?_)
        refine lv_goto (tgt := 2) hx hb dX7_copy_17 (by decide) ?_
        exact ih_2 (i + 1) (uZ f i (S 16 i)) _ _ _ (by omega) (fun j h => by unfold uZ; split <;> first | (rename_i e; rw [e]) | exact hf j (by omega)) (by omega) hP hR hS (lv_sub hl [1, 2, 0] rfl)
  have hSe_3 : S = sA S 24 (S 24) := by
    funext k8
    by_cases e80 : k8 = 24
    · subst e80; first | rfl | (funext j8; rfl)
    simp [sA, e80]
  rw [hSe_3] at hP hR
  exact cut_2 _ 0 (S 24) _ _ _ (by omega) (fun j h => absurd h (Nat.not_lt_zero j)) (Nat.lt_succ_self _) hP hR hS (lv_sub hl [1, 2, 0] rfl)
set_option maxHeartbeats 4000000 in
set_option maxRecDepth 100000 in
theorem k_X7_copy_22_5 (l : Launch) (D : va_G) (cI : ClassId) (ad : Nat → Nat) (hinj : mInj ad) (S : St) (hR : RS S)  : Met l yX7_copy (Cond.code yX7_copy cX7_copy 3 none :: lwT) ({ frames := 0, cells := 0, slots := 0, locals := 0 }) (gPc D (mW cI ad) (mE D cI) S [.ref (ad 22), .ref (ad 5)]) (va_Qv (fun (S' : St) => ∃ f, S' = sA S 5 f ∧ ∀ j, j < 7 → f j = S 22 j) (gB D (mW cI ad)) (mA ad)) 0 0 (mA ad) := by
  refine Met.ofW (cc := cX7_copy) (maxL := 3) (ret := none) (by decide) rfl ?_
  intro p e s m args below meth c s₁ B hml hv
  obtain ⟨rfl, hP, hE⟩ := hv
  have hx := B.exec
  have hb := B.bytes
  have hr := B.returns
  have hts := atoms_spec (ws := Cond.code yX7_copy cX7_copy 3 none :: lwT) B.pre
  have hT := fun w (h : w ∈ lwT) => hts w (List.mem_cons_of_mem _ h)
  have hsub : ∀ w ∈ lwT, w ∈ (Cond.code yX7_copy cX7_copy 3 none :: lwT) := fun w h => List.mem_cons_of_mem _ h
  have hown : s.vm.findClass RX7 = some m.cls := findClass_of_methodNamed B.named
  have hlocks := B.notSynchronized
  have hK : va_K D vwCl [(cI, .int)] s := hE
  have hS : va_S (mA ad) s.heap s.heap [] := va_S.rf
  have hl := lv_entry ([.ref (ad 22), .ref (ad 5)]) (n := 3) (Nat.le_of_ble_eq_true rfl)
  rw [lg_entry_eq]
  generalize (lg_sl ([.ref (ad 22), .ref (ad 5)]) ++ List.replicate (3 - (lg_sl ([.ref (ad 22), .ref (ad 5)])).length) Slot.unset).toArray = ls at hl ⊢
  have hl : lv_has ls 3 [(0, .ref (ad 22)), (1, .ref (ad 5))] := hl
  refine z_iconst hx hb dX7_copy_0 ?_
  refine lv_istore_n (lv' := [(2, .int (zI (0))), (0, .ref (ad 22)), (1, .ref (ad 5))]) hx hb dX7_copy_1 rfl hl (by decide) rfl (fun ls hl => ?_)
  have cut_2 : ∀ (k9 : Nat) (i : Nat) (f : Nat → Int) (H : Heap) (locs : List Loc) (ls : Array Slot), (i ≤ 7) → (∀ j, j < i → f j = S 22 j) → (7 - i) < k9 → va_P D vwCl (mW cI ad (sA S 5 f)) H → RS (sA S 5 f) → va_S (mA ad) s.heap H locs → lv_has ls 3 [(0, .ref (ad 22)), (1, .ref (ad 5)), (2, .int (zI (↑i)))] → W p l e (headSpec (Cond.code yX7_copy cX7_copy 3 none :: lwT) ({ frames := 0, cells := 0, slots := 0, locals := 0 })).room s m ([.ref (ad 22), .ref (ad 5)] : List Value).toArray below meth c H locs 0 0 (MQ below (va_Qv (fun (S' : St) => ∃ f, S' = sA S 5 f ∧ ∀ j, j < 7 → f j = S 22 j) (gB D (mW cI ad)) (mA ad)) ([.ref (ad 22), .ref (ad 5)] : List Value).toArray s 0 0 (mA ad)) (F0 m 2 ls []) := by
    intro k9
    induction k9 with
    | zero =>
      intro i f H locs ls hi hf hk9 hP hR hS hl
      exact absurd hk9 (Nat.not_lt_zero _)
    | succ k9 ih_2 =>
      intro i f H locs ls hi hf hk9 hP hR hS hl
      refine lv_iload_n hx hb dX7_copy_2 rfl (lv_at hl 2 rfl) ?_
      refine lv_aload_n hx hb dX7_copy_3 rfl (lv_at hl 0 rfl) ?_
      refine va_alen hx hb hK hP 12 0 rfl rfl (v := zI 7) rfl dX7_copy_4 ?_
      refine z_icmp_ge (tgt := 20) hx hb (by omega) (by omega) (by omega) (by omega) dX7_copy_5 (by decide) (fun c_1 => ?_) (fun c_1 => ?_)
      · have h9 : True := trivial
        exact g_vret (S1 := sA S 5 f) hx hb hr hlocks hP hR hS (⟨f, rfl, fun j hj => hf j (by omega)⟩) dX7_copy_20
      · have h9 : True := trivial
        refine lv_aload_n hx hb dX7_copy_8 rfl (lv_at hl 1 rfl) ?_
        refine lv_iload_n hx hb dX7_copy_9 rfl (lv_at hl 2 rfl) ?_
        refine lv_aload_n hx hb dX7_copy_10 rfl (lv_at hl 0 rfl) ?_
        refine lv_iload_n hx hb dX7_copy_11 rfl (lv_at hl 2 rfl) ?_
        have g_2 : -2147483648 ≤ S 22 i ∧ S 22 i < 2147483648 := hR 22 i (by decide)
        refine z_ald (f := S 22) hx hb hK hP 12 0 rfl rfl (by omega) (by omega) (by decide) dX7_copy_12 ?_
        refine z_ast (f := (sA S 5 f) 5) (i := ↑i) (v := S 22 i) hx hb hK hP (mD hinj cI _) hS 2 0 rfl rfl (by omega) (by omega) (by decide) dX7_copy_13 (fun H locs hP hS => ?_)
        have hP : va_P D vwCl (mW cI ad (sA S 5 (uZ f i (S 22 i)))) H := hP
        have hR : RS (sA S 5 (uZ f i (S 22 i))) := hR.put' (by omega) (by omega)
        refine z_iinc (lv' := [(2, .int (zI (↑i + 1))), (0, .ref (ad 22)), (1, .ref (ad 5))]) hx hb dX7_copy_14 hl (k := 2) rfl (by decide) rfl (fun ls hl => ?_)
        refine lv_goto (tgt := 2) hx hb dX7_copy_17 (by decide) ?_
        exact ih_2 (i + 1) (uZ f i (S 22 i)) _ _ _ (by omega) (fun j h => by unfold uZ; split <;> first | (rename_i e; rw [e]) | exact hf j (by omega)) (by omega) hP hR hS (lv_sub hl [1, 2, 0] rfl)
  have hSe_3 : S = sA S 5 (S 5) := by
    funext k8
    by_cases e80 : k8 = 5
    · subst e80; first | rfl | (funext j8; rfl)
    simp [sA, e80]
  rw [hSe_3] at hP hR
  exact cut_2 _ 0 (S 5) _ _ _ (by omega) (fun j h => absurd h (Nat.not_lt_zero j)) (Nat.lt_succ_self _) hP hR hS (lv_sub hl [1, 2, 0] rfl)
set_option maxHeartbeats 4000000 in
set_option maxRecDepth 100000 in
theorem k_X7_copy_23_6 (l : Launch) (D : va_G) (cI : ClassId) (ad : Nat → Nat) (hinj : mInj ad) (S : St) (hR : RS S)  : Met l yX7_copy (Cond.code yX7_copy cX7_copy 3 none :: lwT) ({ frames := 0, cells := 0, slots := 0, locals := 0 }) (gPc D (mW cI ad) (mE D cI) S [.ref (ad 23), .ref (ad 6)]) (va_Qv (fun (S' : St) => ∃ f, S' = sA S 6 f ∧ ∀ j, j < 7 → f j = S 23 j) (gB D (mW cI ad)) (mA ad)) 0 0 (mA ad) := by
  refine Met.ofW (cc := cX7_copy) (maxL := 3) (ret := none) (by decide) rfl ?_
  intro p e s m args below meth c s₁ B hml hv
  obtain ⟨rfl, hP, hE⟩ := hv
  have hx := B.exec
  have hb := B.bytes
  have hr := B.returns
  have hts := atoms_spec (ws := Cond.code yX7_copy cX7_copy 3 none :: lwT) B.pre
  have hT := fun w (h : w ∈ lwT) => hts w (List.mem_cons_of_mem _ h)
  have hsub : ∀ w ∈ lwT, w ∈ (Cond.code yX7_copy cX7_copy 3 none :: lwT) := fun w h => List.mem_cons_of_mem _ h
  have hown : s.vm.findClass RX7 = some m.cls := findClass_of_methodNamed B.named
  have hlocks := B.notSynchronized
  have hK : va_K D vwCl [(cI, .int)] s := hE
  have hS : va_S (mA ad) s.heap s.heap [] := va_S.rf
  have hl := lv_entry ([.ref (ad 23), .ref (ad 6)]) (n := 3) (Nat.le_of_ble_eq_true rfl)
  rw [lg_entry_eq]
  generalize (lg_sl ([.ref (ad 23), .ref (ad 6)]) ++ List.replicate (3 - (lg_sl ([.ref (ad 23), .ref (ad 6)])).length) Slot.unset).toArray = ls at hl ⊢
  have hl : lv_has ls 3 [(0, .ref (ad 23)), (1, .ref (ad 6))] := hl
  refine z_iconst hx hb dX7_copy_0 ?_
  refine lv_istore_n (lv' := [(2, .int (zI (0))), (0, .ref (ad 23)), (1, .ref (ad 6))]) hx hb dX7_copy_1 rfl hl (by decide) rfl (fun ls hl => ?_)
  have cut_2 : ∀ (k9 : Nat) (i : Nat) (f : Nat → Int) (H : Heap) (locs : List Loc) (ls : Array Slot), (i ≤ 7) → (∀ j, j < i → f j = S 23 j) → (7 - i) < k9 → va_P D vwCl (mW cI ad (sA S 6 f)) H → RS (sA S 6 f) → va_S (mA ad) s.heap H locs → lv_has ls 3 [(0, .ref (ad 23)), (1, .ref (ad 6)), (2, .int (zI (↑i)))] → W p l e (headSpec (Cond.code yX7_copy cX7_copy 3 none :: lwT) ({ frames := 0, cells := 0, slots := 0, locals := 0 })).room s m ([.ref (ad 23), .ref (ad 6)] : List Value).toArray below meth c H locs 0 0 (MQ below (va_Qv (fun (S' : St) => ∃ f, S' = sA S 6 f ∧ ∀ j, j < 7 → f j = S 23 j) (gB D (mW cI ad)) (mA ad)) ([.ref (ad 23), .ref (ad 6)] : List Value).toArray s 0 0 (mA ad)) (F0 m 2 ls []) := by
    intro k9
    induction k9 with
    | zero =>
      intro i f H locs ls hi hf hk9 hP hR hS hl
      exact absurd hk9 (Nat.not_lt_zero _)
    | succ k9 ih_2 =>
      intro i f H locs ls hi hf hk9 hP hR hS hl
      refine lv_iload_n hx hb dX7_copy_2 rfl (lv_at hl 2 rfl) ?_
      refine lv_aload_n hx hb dX7_copy_3 rfl (lv_at hl 0 rfl) ?_
      refine va_alen hx hb hK hP 13 0 rfl rfl (v := zI 7) rfl dX7_copy_4 ?_
      refine z_icmp_ge (tgt := 20) hx hb (by omega) (by omega) (by omega) (by omega) dX7_copy_5 (by decide) (fun c_1 => ?_) (fun c_1 => ?_)
      · have h9 : True := trivial
        exact g_vret (S1 := sA S 6 f) hx hb hr hlocks hP hR hS (⟨f, rfl, fun j hj => hf j (by omega)⟩) dX7_copy_20
      · have h9 : True := trivial
        refine lv_aload_n hx hb dX7_copy_8 rfl (lv_at hl 1 rfl) ?_
        refine lv_iload_n hx hb dX7_copy_9 rfl (lv_at hl 2 rfl) ?_
        refine lv_aload_n hx hb dX7_copy_10 rfl (lv_at hl 0 rfl) ?_
        refine lv_iload_n hx hb dX7_copy_11 rfl (lv_at hl 2 rfl) ?_
        have g_2 : -2147483648 ≤ S 23 i ∧ S 23 i < 2147483648 := hR 23 i (by decide)
        refine z_ald (f := S 23) hx hb hK hP 13 0 rfl rfl (by omega) (by omega) (by decide) dX7_copy_12 ?_
        refine z_ast (f := (sA S 6 f) 6) (i := ↑i) (v := S 23 i) hx hb hK hP (mD hinj cI _) hS 3 0 rfl rfl (by omega) (by omega) (by decide) dX7_copy_13 (fun H locs hP hS => ?_)
        have hP : va_P D vwCl (mW cI ad (sA S 6 (uZ f i (S 23 i)))) H := hP
        have hR : RS (sA S 6 (uZ f i (S 23 i))) := hR.put' (by omega) (by omega)
        refine z_iinc (lv' := [(2, .int (zI (↑i + 1))), (0, .ref (ad 23)), (1, .ref (ad 6))]) hx hb dX7_copy_14 hl (k := 2) rfl (by decide) rfl (fun ls hl => ?_)
        refine lv_goto (tgt := 2) hx hb dX7_copy_17 (by decide) ?_
        exact ih_2 (i + 1) (uZ f i (S 23 i)) _ _ _ (by omega) (fun j h => by unfold uZ; split <;> first | (rename_i e; rw [e]) | exact hf j (by omega)) (by omega) hP hR hS (lv_sub hl [1, 2, 0] rfl)
  have hSe_3 : S = sA S 6 (S 6) := by
    funext k8
    by_cases e80 : k8 = 6
    · subst e80; first | rfl | (funext j8; rfl)
    simp [sA, e80]
  rw [hSe_3] at hP hR
  exact cut_2 _ 0 (S 6) _ _ _ (by omega) (fun j h => absurd h (Nat.not_lt_zero j)) (Nat.lt_succ_self _) hP hR hS (lv_sub hl [1, 2, 0] rfl)
set_option maxHeartbeats 4000000 in
set_option maxRecDepth 100000 in
theorem k_X7_copy_24_16 (l : Launch) (D : va_G) (cI : ClassId) (ad : Nat → Nat) (hinj : mInj ad) (S : St) (hR : RS S)  : Met l yX7_copy (Cond.code yX7_copy cX7_copy 3 none :: lwT) ({ frames := 0, cells := 0, slots := 0, locals := 0 }) (gPc D (mW cI ad) (mE D cI) S [.ref (ad 24), .ref (ad 16)]) (va_Qv (fun (S' : St) => ∃ f, S' = sA S 16 f ∧ ∀ j, j < 18 → f j = S 24 j) (gB D (mW cI ad)) (mA ad)) 0 0 (mA ad) := by
  refine Met.ofW (cc := cX7_copy) (maxL := 3) (ret := none) (by decide) rfl ?_
  intro p e s m args below meth c s₁ B hml hv
  obtain ⟨rfl, hP, hE⟩ := hv
  have hx := B.exec
  have hb := B.bytes
  have hr := B.returns
  have hts := atoms_spec (ws := Cond.code yX7_copy cX7_copy 3 none :: lwT) B.pre
  have hT := fun w (h : w ∈ lwT) => hts w (List.mem_cons_of_mem _ h)
  have hsub : ∀ w ∈ lwT, w ∈ (Cond.code yX7_copy cX7_copy 3 none :: lwT) := fun w h => List.mem_cons_of_mem _ h
  have hown : s.vm.findClass RX7 = some m.cls := findClass_of_methodNamed B.named
  have hlocks := B.notSynchronized
  have hK : va_K D vwCl [(cI, .int)] s := hE
  have hS : va_S (mA ad) s.heap s.heap [] := va_S.rf
  have hl := lv_entry ([.ref (ad 24), .ref (ad 16)]) (n := 3) (Nat.le_of_ble_eq_true rfl)
  rw [lg_entry_eq]
  generalize (lg_sl ([.ref (ad 24), .ref (ad 16)]) ++ List.replicate (3 - (lg_sl ([.ref (ad 24), .ref (ad 16)])).length) Slot.unset).toArray = ls at hl ⊢
  have hl : lv_has ls 3 [(0, .ref (ad 24)), (1, .ref (ad 16))] := hl
  refine z_iconst hx hb dX7_copy_0 ?_
  refine lv_istore_n (lv' := [(2, .int (zI (0))), (0, .ref (ad 24)), (1, .ref (ad 16))]) hx hb dX7_copy_1 rfl hl (by decide) rfl (fun ls hl => ?_)
  have cut_2 : ∀ (k9 : Nat) (i : Nat) (f : Nat → Int) (H : Heap) (locs : List Loc) (ls : Array Slot), (i ≤ 18) → (∀ j, j < i → f j = S 24 j) → (18 - i) < k9 → va_P D vwCl (mW cI ad (sA S 16 f)) H → RS (sA S 16 f) → va_S (mA ad) s.heap H locs → lv_has ls 3 [(0, .ref (ad 24)), (1, .ref (ad 16)), (2, .int (zI (↑i)))] → W p l e (headSpec (Cond.code yX7_copy cX7_copy 3 none :: lwT) ({ frames := 0, cells := 0, slots := 0, locals := 0 })).room s m ([.ref (ad 24), .ref (ad 16)] : List Value).toArray below meth c H locs 0 0 (MQ below (va_Qv (fun (S' : St) => ∃ f, S' = sA S 16 f ∧ ∀ j, j < 18 → f j = S 24 j) (gB D (mW cI ad)) (mA ad)) ([.ref (ad 24), .ref (ad 16)] : List Value).toArray s 0 0 (mA ad)) (F0 m 2 ls []) := by
    intro k9
    induction k9 with
    | zero =>
      intro i f H locs ls hi hf hk9 hP hR hS hl
      exact absurd hk9 (Nat.not_lt_zero _)
    | succ k9 ih_2 =>
      intro i f H locs ls hi hf hk9 hP hR hS hl
      refine lv_iload_n hx hb dX7_copy_2 rfl (lv_at hl 2 rfl) ?_
      refine lv_aload_n hx hb dX7_copy_3 rfl (lv_at hl 0 rfl) ?_
      refine va_alen hx hb hK hP 14 0 rfl rfl (v := zI 18) rfl dX7_copy_4 ?_
      refine z_icmp_ge (tgt := 20) hx hb (by omega) (by omega) (by omega) (by omega) dX7_copy_5 (by decide) (fun c_1 => ?_) (fun c_1 => ?_)
      · have h9 : True := trivial
        exact g_vret (S1 := sA S 16 f) hx hb hr hlocks hP hR hS (⟨f, rfl, fun j hj => hf j (by omega)⟩) dX7_copy_20
      · have h9 : True := trivial
        refine lv_aload_n hx hb dX7_copy_8 rfl (lv_at hl 1 rfl) ?_
        refine lv_iload_n hx hb dX7_copy_9 rfl (lv_at hl 2 rfl) ?_
        refine lv_aload_n hx hb dX7_copy_10 rfl (lv_at hl 0 rfl) ?_
        refine lv_iload_n hx hb dX7_copy_11 rfl (lv_at hl 2 rfl) ?_
        have g_2 : -2147483648 ≤ S 24 i ∧ S 24 i < 2147483648 := hR 24 i (by decide)
        refine z_ald (f := S 24) hx hb hK hP 14 0 rfl rfl (by omega) (by omega) (by decide) dX7_copy_12 ?_
        refine z_ast (f := (sA S 16 f) 16) (i := ↑i) (v := S 24 i) hx hb hK hP (mD hinj cI _) hS 10 0 rfl rfl (by omega) (by omega) (by decide) dX7_copy_13 (fun H locs hP hS => ?_)
        have hP : va_P D vwCl (mW cI ad (sA S 16 (uZ f i (S 24 i)))) H := hP
        have hR : RS (sA S 16 (uZ f i (S 24 i))) := hR.put' (by omega) (by omega)
        refine z_iinc (lv' := [(2, .int (zI (↑i + 1))), (0, .ref (ad 24)), (1, .ref (ad 16))]) hx hb dX7_copy_14 hl (k := 2) rfl (by decide) rfl (fun ls hl => ?_)
        refine lv_goto (tgt := 2) hx hb dX7_copy_17 (by decide) ?_
        exact ih_2 (i + 1) (uZ f i (S 24 i)) _ _ _ (by omega) (fun j h => by unfold uZ; split <;> first | (rename_i e; rw [e]) | exact hf j (by omega)) (by omega) hP hR hS (lv_sub hl [1, 2, 0] rfl)
  have hSe_3 : S = sA S 16 (S 16) := by
    funext k8
    by_cases e80 : k8 = 16
    · subst e80; first | rfl | (funext j8; rfl)
    simp [sA, e80]
  rw [hSe_3] at hP hR
  exact cut_2 _ 0 (S 16) _ _ _ (by omega) (fun j h => absurd h (Nat.not_lt_zero j)) (Nat.lt_succ_self _) hP hR hS (lv_sub hl [1, 2, 0] rfl)
end
section
set_option maxHeartbeats 4000000 in
set_option maxRecDepth 100000 in
theorem k_X7_letter (l : Launch) (D : va_G) (cI : ClassId) (ad : Nat → Nat) (hinj : mInj ad) (S : St) (hR : RS S) (x : Int) (hx1 : -2147483648 ≤ x) (hx2 : x < 2147483648) (sz : Nat) (hsz : S 1 0 = ↑sz) (hsz9 : sz ≤ 9) : Met l yX7_letter (Cond.code yX7_letter cX7_letter 2 (some .int) :: lwT) ({ frames := 1, cells := 0, slots := 0, locals := 25 }) (gPc D (mW cI ad) (mE D cI) S [.ref (ad 26), .int (zI (x))]) (va_Qi (fun (r : Int32) (S' : St) => (¬ (1 ≤ x ∧ x ≤ 126) ∧ S' = S ∧ r = zI (-102)) ∨ ((1 ≤ x ∧ x ≤ 126) ∧ sz = 9 ∧ S' = S ∧ r = zI (-104)) ∨ ((1 ≤ x ∧ x ≤ 126) ∧ sz < 9 ∧ S' = sA (sA S 0 (uZ (S 0) sz x)) 1 (fun _ => ↑sz + 1) ∧ r = zI (↑sz + 1))) (gB D (mW cI ad)) (mA ad)) 0 0 (mA ad) := by
  refine Met.ofW (cc := cX7_letter) (maxL := 2) (ret := (some .int)) (by decide) rfl ?_
  intro p e s m args below meth c s₁ B hml hv
  obtain ⟨rfl, hP, hE⟩ := hv
  have hx := B.exec
  have hb := B.bytes
  have hr := B.returns
  have hts := atoms_spec (ws := Cond.code yX7_letter cX7_letter 2 (some .int) :: lwT) B.pre
  have hT := fun w (h : w ∈ lwT) => hts w (List.mem_cons_of_mem _ h)
  have hsub : ∀ w ∈ lwT, w ∈ (Cond.code yX7_letter cX7_letter 2 (some .int) :: lwT) := fun w h => List.mem_cons_of_mem _ h
  have hown : s.vm.findClass RX7 = some m.cls := findClass_of_methodNamed B.named
  have hlocks := B.notSynchronized
  have hK : va_K D vwCl [(cI, .int)] s := hE
  have hS : va_S (mA ad) s.heap s.heap [] := va_S.rf
  have hl := lv_entry ([.ref (ad 26), .int (zI (x))]) (n := 2) (Nat.le_of_ble_eq_true rfl)
  rw [lg_entry_eq]
  generalize (lg_sl ([.ref (ad 26), .int (zI (x))]) ++ List.replicate (2 - (lg_sl ([.ref (ad 26), .int (zI (x))])).length) Slot.unset).toArray = ls at hl ⊢
  have hl : lv_has ls 2 [(0, .ref (ad 26)), (1, .int (zI (x)))] := hl
  refine lv_iload_n hx hb dX7_letter_0 rfl (lv_at hl 1 rfl) ?_
  refine z_i2l hx hb (by omega) (by omega) dX7_letter_1 ?_
  refine lv_lconst (v := zL 1) hx hb dX7_letter_2 (by decide) ?_
  refine lv_ldc2 (v := zL 126) hx hb hown (hT _ q_755) dX7_letter_3 ?_
  refine s_callSi (As := [.long (zL (x)), .long (zL (1)), .long (zL (126))]) (rest := []) ⟨hx, hb, hml, hown, hts⟩ (k_X7_in l x 1 126 (by omega) (by omega) (by omega) (by omega) (by omega) (by omega)) (cwS 3 hts (gS hsub q_756 q_757 q_8 q_758) rfl rfl rfl hdX7_in ⟨Nat.le_of_ble_eq_true rfl, Nat.le_of_ble_eq_true rfl⟩) rfl hl.1 rfl (Nat.le_of_ble_eq_true rfl) dX7_letter_6 ⟨Nat.le_of_ble_eq_true rfl, Nat.le_of_ble_eq_true rfl⟩ (fun r_1 hq_3 => ?_)
  rw [hq_3]
  refine z_ifneB (tgt := 15) hx hb dX7_letter_9 (by decide) (fun c_4 => ?_) (fun c_4 => ?_)
  · have h9 : True := trivial
    refine lv_aload_n hx hb dX7_letter_15 rfl (lv_at hl 0 rfl) ?_
    have g_5 : -2147483648 ≤ S 1 0 ∧ S 1 0 < 2147483648 := hR 1 0 (by decide)
    refine va_get (D := D) (ci := 7) (v := .int (zI (S 1 0))) (C := RX7) (T := TX7) (N := 26) hx hb hT inX7 hown hK hP 0 rfl rfl 1 (by decide) (hT _ q_673) (fun _ h9 => h9) rfl dX7_letter_16 ?_
    refine z_bipush hx hb dX7_letter_19 (by decide) ?_
    refine z_icmp_ne (tgt := 27) hx hb (by omega) (by omega) (by omega) (by omega) dX7_letter_21 (by decide) (fun c_6 => ?_) (fun c_6 => ?_)
    · have h9 : True := trivial
      refine lv_aload_n hx hb dX7_letter_27 rfl (lv_at hl 0 rfl) ?_
      refine va_get (D := D) (ci := 7) (v := .ref (ad 0)) (C := RX7) (T := TX7) (N := 26) hx hb hT inX7 hown hK hP 0 rfl rfl 0 (by decide) (hT _ q_672) (fun _ h9 => h9) rfl dX7_letter_28 ?_
      refine lv_aload_n hx hb dX7_letter_31 rfl (lv_at hl 0 rfl) ?_
      refine va_get (D := D) (ci := 7) (v := .int (zI (S 1 0))) (C := RX7) (T := TX7) (N := 26) hx hb hT inX7 hown hK hP 0 rfl rfl 1 (by decide) (hT _ q_673) (fun _ h9 => h9) rfl dX7_letter_32 ?_
      refine lv_iload_n hx hb dX7_letter_35 rfl (lv_at hl 1 rfl) ?_
      refine z_ast (f := S 0) (i := S 1 0) (v := x) hx hb hK hP (mD hinj cI _) hS 1 0 rfl rfl (by omega) (by omega) (by decide) dX7_letter_36 (fun H locs hP hS => ?_)
      have hP : va_P D vwCl (mW cI ad (sA S 0 (uZ (S 0) (S 1 0).toNat x))) H := hP
      have hR : RS (sA S 0 (uZ (S 0) (S 1 0).toNat x)) := hR.put (by omega) (by omega)
      refine lv_aload_n hx hb dX7_letter_37 rfl (lv_at hl 0 rfl) ?_
      refine lv_dup hx hb dX7_letter_38 rfl ?_
      refine va_get (D := D) (ci := 7) (v := .int (zI (S 1 0))) (C := RX7) (T := TX7) (N := 26) hx hb hT inX7 hown hK hP 0 rfl rfl 1 (by decide) (hT _ q_673) (fun _ h9 => h9) rfl dX7_letter_39 ?_
      refine z_iconst hx hb dX7_letter_42 ?_
      refine z_iadd hx hb dX7_letter_43 ?_
      refine va_put (D := D) (ci := 7) (v := .int (zI ((S 1 0) + 1))) (ty := .int) (C := RX7) (T := TX7) (N := 26) hx hb hT inX7 tyX7 tyX7_ok nmX7 hown hK hP (mD hinj cI _) hS 0 rfl rfl 1 (by decide) (hT _ q_673) (fun _ h9 => h9) rfl (by decide +kernel) rfl rfl (Nat.le_of_ble_eq_true rfl) dX7_letter_44 (fun H locs hP _ hS => ?_)
      have hP : va_P D vwCl (mW cI ad (sA (sA S 0 (uZ (S 0) (S 1 0).toNat x)) 1 (fun _ => (S 1 0) + 1))) H := hP
      have hR : RS (sA (sA S 0 (uZ (S 0) (S 1 0).toNat x)) 1 (fun _ => (S 1 0) + 1)) := hR.one (by omega) (by omega)
      refine lv_aload_n hx hb dX7_letter_47 rfl (lv_at hl 0 rfl) ?_
      refine va_get (D := D) (ci := 7) (v := .int (zI ((S 1 0) + 1))) (C := RX7) (T := TX7) (N := 26) hx hb hT inX7 hown hK hP 0 rfl rfl 1 (by decide) (hT _ q_673) (fun _ h9 => h9) rfl dX7_letter_48 ?_
      exact g_iret (S1 := sA (sA S 0 (uZ (S 0) (S 1 0).toNat x)) 1 (fun _ => (S 1 0) + 1)) (v := zI ((S 1 0) + 1)) hx hb hr hlocks hP hR hS (Or.inr (Or.inr ⟨by simpa using c_4, by omega, by rw [show (S 1 0).toNat = sz by omega, hsz], by rw [hsz]⟩)) dX7_letter_51
    · have h9 : True := trivial
      refine z_bipush hx hb dX7_letter_24 (by decide) ?_
      exact g_iret (S1 := S) (v := zI (-104)) hx hb hr hlocks hP hR hS (Or.inr (Or.inl ⟨by simpa using c_4, by omega, rfl, rfl⟩)) dX7_letter_26
  · have h9 : True := trivial
    refine z_bipush hx hb dX7_letter_12 (by decide) ?_
    exact g_iret (S1 := S) (v := zI (-102)) hx hb hr hlocks hP hR hS (Or.inl ⟨by simpa using c_4, rfl, rfl⟩) dX7_letter_14
set_option maxHeartbeats 4000000 in
set_option maxRecDepth 100000 in
theorem k_X7_blank (l : Launch) (D : va_G) (cI : ClassId) (ad : Nat → Nat) (hinj : mInj ad) (S : St) (hR : RS S)  : Met l yX7_blank (Cond.code yX7_blank cX7_blank 2 (some .int) :: lwT) ({ frames := 0, cells := 0, slots := 0, locals := 0 }) (gPc D (mW cI ad) (mE D cI) S [.ref (ad 26)]) (va_Qi (fun (r : Int32) (S' : St) => S' = sA S 1 (fun _ => 0) ∧ r = zI (S 1 0)) (gB D (mW cI ad)) (mA ad)) 0 0 (mA ad) := by
  refine Met.ofW (cc := cX7_blank) (maxL := 2) (ret := (some .int)) (by decide) rfl ?_
  intro p e s m args below meth c s₁ B hml hv
  obtain ⟨rfl, hP, hE⟩ := hv
  have hx := B.exec
  have hb := B.bytes
  have hr := B.returns
  have hts := atoms_spec (ws := Cond.code yX7_blank cX7_blank 2 (some .int) :: lwT) B.pre
  have hT := fun w (h : w ∈ lwT) => hts w (List.mem_cons_of_mem _ h)
  have hsub : ∀ w ∈ lwT, w ∈ (Cond.code yX7_blank cX7_blank 2 (some .int) :: lwT) := fun w h => List.mem_cons_of_mem _ h
  have hown : s.vm.findClass RX7 = some m.cls := findClass_of_methodNamed B.named
  have hlocks := B.notSynchronized
  have hK : va_K D vwCl [(cI, .int)] s := hE
  have hS : va_S (mA ad) s.heap s.heap [] := va_S.rf
  have hl := lv_entry ([.ref (ad 26)]) (n := 2) (Nat.le_of_ble_eq_true rfl)
  rw [lg_entry_eq]
  generalize (lg_sl ([.ref (ad 26)]) ++ List.replicate (2 - (lg_sl ([.ref (ad 26)])).length) Slot.unset).toArray = ls at hl ⊢
  have hl : lv_has ls 2 [(0, .ref (ad 26))] := hl
  refine lv_aload_n hx hb dX7_blank_0 rfl (lv_at hl 0 rfl) ?_
  have g_1 : -2147483648 ≤ S 1 0 ∧ S 1 0 < 2147483648 := hR 1 0 (by decide)
  refine va_get (D := D) (ci := 7) (v := .int (zI (S 1 0))) (C := RX7) (T := TX7) (N := 26) hx hb hT inX7 hown hK hP 0 rfl rfl 1 (by decide) (hT _ q_673) (fun _ h9 => h9) rfl dX7_blank_1 ?_
  refine lv_istore_n (lv' := [(1, .int (zI (S 1 0))), (0, .ref (ad 26))]) hx hb dX7_blank_4 rfl hl (by decide) rfl (fun ls hl => ?_)
  refine lv_aload_n hx hb dX7_blank_5 rfl (lv_at hl 1 rfl) ?_
  refine z_iconst hx hb dX7_blank_6 ?_
  refine va_put (D := D) (ci := 7) (v := .int (zI (0))) (ty := .int) (C := RX7) (T := TX7) (N := 26) hx hb hT inX7 tyX7 tyX7_ok nmX7 hown hK hP (mD hinj cI _) hS 0 rfl rfl 1 (by decide) (hT _ q_673) (fun _ h9 => h9) rfl (by decide +kernel) rfl rfl (Nat.le_of_ble_eq_true rfl) dX7_blank_7 (fun H locs hP _ hS => ?_)
  have hP : va_P D vwCl (mW cI ad (sA S 1 (fun _ => 0))) H := hP
  have hR : RS (sA S 1 (fun _ => 0)) := hR.one (by omega) (by omega)
  refine lv_iload_n hx hb dX7_blank_10 rfl (lv_at hl 0 rfl) ?_
  exact g_iret (S1 := sA S 1 (fun _ => 0)) (v := zI (S 1 0)) hx hb hr hlocks hP hR hS (⟨rfl, rfl⟩) dX7_blank_11
set_option maxHeartbeats 4000000 in
set_option maxRecDepth 100000 in
theorem k_X7_kindBy (l : Launch) (x : Int) (hx1 : -2147483648 ≤ x) (hx2 : x < 2147483648) : Met l yX7_kindBy (Cond.code yX7_kindBy cX7_kindBy 1 (some .int) :: lwT) ({ frames := 0, cells := 0, slots := 0, locals := 0 }) (va_Pc [.int (zI (x))] (fun _ => True)) (vp_Si (fun r : Int32 => r = zI (kbF x))) 0 0 (fun _ => False) := by
  refine Met.ofW (cc := cX7_kindBy) (maxL := 1) (ret := (some .int)) (by decide) rfl ?_
  intro p e s m args below meth c s₁ B hml hv
  obtain ⟨rfl, -⟩ := hv
  have hx := B.exec
  have hb := B.bytes
  have hr := B.returns
  have hts := atoms_spec (ws := Cond.code yX7_kindBy cX7_kindBy 1 (some .int) :: lwT) B.pre
  have hT := fun w (h : w ∈ lwT) => hts w (List.mem_cons_of_mem _ h)
  have hsub : ∀ w ∈ lwT, w ∈ (Cond.code yX7_kindBy cX7_kindBy 1 (some .int) :: lwT) := fun w h => List.mem_cons_of_mem _ h
  have hown : s.vm.findClass RX7 = some m.cls := findClass_of_methodNamed B.named
  have hlocks := B.notSynchronized
  have hl := lv_entry ([.int (zI (x))]) (n := 1) (Nat.le_of_ble_eq_true rfl)
  rw [lg_entry_eq]
  generalize (lg_sl ([.int (zI (x))]) ++ List.replicate (1 - (lg_sl ([.int (zI (x))])).length) Slot.unset).toArray = ls at hl ⊢
  have hl : lv_has ls 1 [(0, .int (zI (x)))] := hl
  refine lv_iload_n hx hb dX7_kindBy_0 rfl (lv_at hl 0 rfl) ?_
  rcases (show (¬ x = 98 ∧ ¬ x = 99 ∧ ¬ x = 108 ∧ ¬ x = 116 ∧ ¬ x = 119) ∨ x = 98 ∨ x = 99 ∨ x = 108 ∨ x = 116 ∨ x = 119 by omega) with c_1 | c_1 | c_1 | c_1 | c_1 | c_1
  · refine z_look hx hb (by omega) (by omega) dX7_kindBy_1 (by decide) (off := 61) (by show Op.lookupswitch.offset [(98, 53), (99, 57), (108, 51), (116, 59), (119, 55)] 61 _ = _; rw [Op.lookupswitch.offset_cons, if_neg (by omega), Op.lookupswitch.offset_cons, if_neg (by omega), Op.lookupswitch.offset_cons, if_neg (by omega), Op.lookupswitch.offset_cons, if_neg (by omega), Op.lookupswitch.offset_cons, if_neg (by omega)]; rfl) (tgt := 62) (by decide) ?_
    refine z_iconst hx hb dX7_kindBy_62 ?_
    exact s_iret (v := zI (-1)) hx hb hr hlocks (by unfold kbF; congr 1; (repeat' split) <;> omega) dX7_kindBy_63
  · refine z_look hx hb (by omega) (by omega) dX7_kindBy_1 (by decide) (off := 53) (by rw [c_1]; rfl) (tgt := 54) (by decide) ?_
    refine z_iconst hx hb dX7_kindBy_54 ?_
    exact s_iret (v := zI (1)) hx hb hr hlocks (by unfold kbF; congr 1; (repeat' split) <;> omega) dX7_kindBy_55
  · refine z_look hx hb (by omega) (by omega) dX7_kindBy_1 (by decide) (off := 57) (by rw [c_1]; rfl) (tgt := 58) (by decide) ?_
    refine z_iconst hx hb dX7_kindBy_58 ?_
    exact s_iret (v := zI (3)) hx hb hr hlocks (by unfold kbF; congr 1; (repeat' split) <;> omega) dX7_kindBy_59
  · refine z_look hx hb (by omega) (by omega) dX7_kindBy_1 (by decide) (off := 51) (by rw [c_1]; rfl) (tgt := 52) (by decide) ?_
    refine z_iconst hx hb dX7_kindBy_52 ?_
    exact s_iret (v := zI (0)) hx hb hr hlocks (by unfold kbF; congr 1; (repeat' split) <;> omega) dX7_kindBy_53
  · refine z_look hx hb (by omega) (by omega) dX7_kindBy_1 (by decide) (off := 59) (by rw [c_1]; rfl) (tgt := 60) (by decide) ?_
    refine z_iconst hx hb dX7_kindBy_60 ?_
    exact s_iret (v := zI (4)) hx hb hr hlocks (by unfold kbF; congr 1; (repeat' split) <;> omega) dX7_kindBy_61
  · refine z_look hx hb (by omega) (by omega) dX7_kindBy_1 (by decide) (off := 55) (by rw [c_1]; rfl) (tgt := 56) (by decide) ?_
    refine z_iconst hx hb dX7_kindBy_56 ?_
    exact s_iret (v := zI (2)) hx hb hr hlocks (by unfold kbF; congr 1; (repeat' split) <;> omega) dX7_kindBy_57
set_option maxHeartbeats 4000000 in
set_option maxRecDepth 100000 in
theorem k_X7_faultOf (l : Launch) (D : va_G) (cI : ClassId) (ad : Nat → Nat) (hinj : mInj ad) (S : St) (hR : RS S) (sz : Nat) (hsz : S 1 0 = ↑sz) (hsz9 : sz ≤ 9) : Met l yX7_faultOf (Cond.code yX7_faultOf cX7_faultOf 2 (some .int) :: lwT) ({ frames := 1, cells := 0, slots := 0, locals := 20 }) (gPc D (mW cI ad) (mE D cI) S [.ref (ad 26)]) (va_Qi (fun (r : Int32) (S' : St) => ∃ k : Nat, S' = S ∧ r = zI ↑k ∧ isFlt (S 0) sz k) (gB D (mW cI ad)) (mA ad)) 0 0 (mA ad) := by
  refine Met.ofW (cc := cX7_faultOf) (maxL := 2) (ret := (some .int)) (by decide) rfl ?_
  intro p e s m args below meth c s₁ B hml hv
  obtain ⟨rfl, hP, hE⟩ := hv
  have hx := B.exec
  have hb := B.bytes
  have hr := B.returns
  have hts := atoms_spec (ws := Cond.code yX7_faultOf cX7_faultOf 2 (some .int) :: lwT) B.pre
  have hT := fun w (h : w ∈ lwT) => hts w (List.mem_cons_of_mem _ h)
  have hsub : ∀ w ∈ lwT, w ∈ (Cond.code yX7_faultOf cX7_faultOf 2 (some .int) :: lwT) := fun w h => List.mem_cons_of_mem _ h
  have hown : s.vm.findClass RX7 = some m.cls := findClass_of_methodNamed B.named
  have hlocks := B.notSynchronized
  have hK : va_K D vwCl [(cI, .int)] s := hE
  have hS : va_S (mA ad) s.heap s.heap [] := va_S.rf
  have hl := lv_entry ([.ref (ad 26)]) (n := 2) (Nat.le_of_ble_eq_true rfl)
  rw [lg_entry_eq]
  generalize (lg_sl ([.ref (ad 26)]) ++ List.replicate (2 - (lg_sl ([.ref (ad 26)])).length) Slot.unset).toArray = ls at hl ⊢
  have hl : lv_has ls 2 [(0, .ref (ad 26))] := hl
  refine z_iconst hx hb dX7_faultOf_0 ?_
  refine lv_istore_n (lv' := [(1, .int (zI (0))), (0, .ref (ad 26))]) hx hb dX7_faultOf_1 rfl hl (by decide) rfl (fun ls hl => ?_)
  have cut_2 : ∀ (k9 : Nat) (i : Nat) (H : Heap) (locs : List Loc) (ls : Array Slot), (i ≤ sz ∧ i ≤ 7) → (∀ j, j < i → kbF (S 0 j) ≠ -1) → (sz - i) < k9 → va_P D vwCl (mW cI ad S) H → RS S → va_S (mA ad) s.heap H locs → lv_has ls 2 [(0, .ref (ad 26)), (1, .int (zI (↑i)))] → W p l e (headSpec (Cond.code yX7_faultOf cX7_faultOf 2 (some .int) :: lwT) ({ frames := 1, cells := 0, slots := 0, locals := 20 })).room s m ([.ref (ad 26)] : List Value).toArray below meth c H locs 0 0 (MQ below (va_Qi (fun (r : Int32) (S' : St) => ∃ k : Nat, S' = S ∧ r = zI ↑k ∧ isFlt (S 0) sz k) (gB D (mW cI ad)) (mA ad)) ([.ref (ad 26)] : List Value).toArray s 0 0 (mA ad)) (F0 m 2 ls []) := by
    intro k9
    induction k9 with
    | zero =>
      intro i H locs ls hi hf hk9 hP hR hS hl
      exact absurd hk9 (Nat.not_lt_zero _)
    | succ k9 ih_2 =>
      intro i H locs ls hi hf hk9 hP hR hS hl
      refine lv_iload_n hx hb dX7_faultOf_2 rfl (lv_at hl 1 rfl) ?_
      refine lv_aload_n hx hb dX7_faultOf_3 rfl (lv_at hl 0 rfl) ?_
      have g_1 : -2147483648 ≤ S 1 0 ∧ S 1 0 < 2147483648 := hR 1 0 (by decide)
      refine va_get (D := D) (ci := 7) (v := .int (zI (S 1 0))) (C := RX7) (T := TX7) (N := 26) hx hb hT inX7 hown hK hP 0 rfl rfl 1 (by decide) (hT _ q_673) (fun _ h9 => h9) rfl dX7_faultOf_4 ?_
      refine z_icmp_ge (tgt := 35) hx hb (by omega) (by omega) (by omega) (by omega) dX7_faultOf_7 (by decide) (fun c_2 => ?_) (fun c_2 => ?_)
      · have h9 : True := trivial
        refine lv_iload_n hx hb dX7_faultOf_35 rfl (lv_at hl 1 rfl) ?_
        exact g_iret (S1 := S) (v := zI (↑i)) hx hb hr hlocks hP hR hS (⟨i, rfl, rfl, by omega, by omega, hf, by omega⟩) dX7_faultOf_36
      · have h9 : True := trivial
        refine lv_iload_n hx hb dX7_faultOf_10 rfl (lv_at hl 1 rfl) ?_
        refine z_bipush hx hb dX7_faultOf_11 (by decide) ?_
        refine z_icmp_ge (tgt := 35) hx hb (by omega) (by omega) (by omega) (by omega) dX7_faultOf_13 (by decide) (fun c_3 => ?_) (fun c_3 => ?_)
        · have h9 : True := trivial
          refine lv_iload_n hx hb dX7_faultOf_35 rfl (lv_at hl 1 rfl) ?_
          exact g_iret (S1 := S) (v := zI (↑i)) hx hb hr hlocks hP hR hS (⟨i, rfl, rfl, by omega, by omega, hf, by omega⟩) dX7_faultOf_36
        · have h9 : True := trivial
          refine lv_aload_n hx hb dX7_faultOf_16 rfl (lv_at hl 0 rfl) ?_
          refine va_get (D := D) (ci := 7) (v := .ref (ad 0)) (C := RX7) (T := TX7) (N := 26) hx hb hT inX7 hown hK hP 0 rfl rfl 0 (by decide) (hT _ q_672) (fun _ h9 => h9) rfl dX7_faultOf_17 ?_
          refine lv_iload_n hx hb dX7_faultOf_20 rfl (lv_at hl 1 rfl) ?_
          have g_4 : -2147483648 ≤ S 0 i ∧ S 0 i < 2147483648 := hR 0 i (by decide)
          refine z_ald (f := S 0) hx hb hK hP 1 0 rfl rfl (by omega) (by omega) (by decide) dX7_faultOf_21 ?_
          refine s_callSi (As := [.int (zI (S 0 i))]) (rest := []) ⟨hx, hb, hml, hown, hts⟩ (k_X7_kindBy l (S 0 i) (by omega) (by omega)) (cwS 1 hts (gS hsub q_771 q_772 q_8 q_773) rfl rfl rfl hdX7_kindBy ⟨Nat.le_of_ble_eq_true rfl, Nat.le_of_ble_eq_true rfl⟩) rfl hl.1 rfl (Nat.le_of_ble_eq_true rfl) dX7_faultOf_22 ⟨Nat.le_of_ble_eq_true rfl, Nat.le_of_ble_eq_true rfl⟩ (fun r_5 hq_7 => ?_)
          rw [hq_7]
          have g_8 := kbF_r (S 0 i)
          refine z_iconst hx hb dX7_faultOf_25 ?_
          refine z_icmp_eq (tgt := 35) hx hb (by omega) (by omega) (by omega) (by omega) dX7_faultOf_26 (by decide) (fun c_9 => ?_) (fun c_9 => ?_)
          · have h9 : True := trivial
            refine lv_iload_n hx hb dX7_faultOf_35 rfl (lv_at hl 1 rfl) ?_
            exact g_iret (S1 := S) (v := zI (↑i)) hx hb hr hlocks hP hR hS (⟨i, rfl, rfl, by omega, by omega, hf, by omega⟩) dX7_faultOf_36
          · have h9 : True := trivial
            refine z_iinc (lv' := [(1, .int (zI (↑i + 1))), (0, .ref (ad 26))]) hx hb dX7_faultOf_29 hl (k := 1) rfl (by decide) rfl (fun ls hl => ?_)
            refine lv_goto (tgt := 2) hx hb dX7_faultOf_32 (by decide) ?_
            exact ih_2 (i + 1) _ _ _ (by omega) (lt_s hf (by omega)) (by omega) hP hR hS (lv_sub hl [1, 0] rfl)
  exact cut_2 _ 0 _ _ _ (by omega) (fun j h => absurd h (Nat.not_lt_zero j)) (Nat.lt_succ_self _) hP hR hS (lv_sub hl [1, 0] rfl)
set_option maxHeartbeats 4000000 in
set_option maxRecDepth 100000 in
theorem k_X7_fault (l : Launch) (D : va_G) (cI : ClassId) (ad : Nat → Nat) (hinj : mInj ad) (S : St) (hR : RS S) (sz : Nat) (hsz : S 1 0 = ↑sz) (hsz9 : sz ≤ 9) : Met l yX7_fault (Cond.code yX7_fault cX7_fault 1 (some .int) :: lwT) ({ frames := 2, cells := 0, slots := 0, locals := 41 }) (gPc D (mW cI ad) (mE D cI) S [.ref (ad 26)]) (va_Qi (fun (r : Int32) (S' : St) => ∃ k : Nat, S' = S ∧ r = zI ↑k ∧ isFlt (S 0) sz k) (gB D (mW cI ad)) (mA ad)) 0 0 (mA ad) := by
  refine Met.ofW (cc := cX7_fault) (maxL := 1) (ret := (some .int)) (by decide) rfl ?_
  intro p e s m args below meth c s₁ B hml hv
  obtain ⟨rfl, hP, hE⟩ := hv
  have hx := B.exec
  have hb := B.bytes
  have hr := B.returns
  have hts := atoms_spec (ws := Cond.code yX7_fault cX7_fault 1 (some .int) :: lwT) B.pre
  have hT := fun w (h : w ∈ lwT) => hts w (List.mem_cons_of_mem _ h)
  have hsub : ∀ w ∈ lwT, w ∈ (Cond.code yX7_fault cX7_fault 1 (some .int) :: lwT) := fun w h => List.mem_cons_of_mem _ h
  have hown : s.vm.findClass RX7 = some m.cls := findClass_of_methodNamed B.named
  have hlocks := B.notSynchronized
  have hK : va_K D vwCl [(cI, .int)] s := hE
  have hS : va_S (mA ad) s.heap s.heap [] := va_S.rf
  have hl := lv_entry ([.ref (ad 26)]) (n := 1) (Nat.le_of_ble_eq_true rfl)
  rw [lg_entry_eq]
  generalize (lg_sl ([.ref (ad 26)]) ++ List.replicate (1 - (lg_sl ([.ref (ad 26)])).length) Slot.unset).toArray = ls at hl ⊢
  have hl : lv_has ls 1 [(0, .ref (ad 26))] := hl
  refine lv_aload_n hx hb dX7_fault_0 rfl (lv_at hl 0 rfl) ?_
  refine g_callVi (As := []) (rest := []) ⟨hx, hb, hml, hown, hts⟩ (k_X7_faultOf l D cI ad hinj S hR sz hsz hsz9) (cwV 0 hts (gV hsub q_767 q_769 q_sX7_faultOf q_8 q_770) rfl rfl rfl hdX7_faultOf ⟨Nat.le_of_ble_eq_true rfl, Nat.le_of_ble_eq_true rfl⟩) (mEb D cI) (mEk D cI (mA ad)) hE (va_recv (ci := 7) (q0 := 0) hK hP rfl rfl) hP hS rfl hl.1 rfl (Nat.le_of_ble_eq_true rfl) dX7_fault_1 ⟨Nat.le_of_ble_eq_true rfl, Nat.le_of_ble_eq_true rfl⟩ (fun r_1 S_2 H locs hq_3 hP hR hS _ => ?_)
  obtain ⟨kf, hs9, rfl, hkf⟩ := hq_3
  obtain rfl := hs9.symm
  exact g_iret (S1 := S) (v := zI (↑kf)) hx hb hr hlocks hP hR hS (⟨kf, rfl, rfl, hkf⟩) dX7_fault_4
set_option maxHeartbeats 4000000 in
set_option maxRecDepth 100000 in
theorem k_X7_layRow_10 (l : Launch) (D : va_G) (cI : ClassId) (ad : Nat → Nat) (hinj : mInj ad) (S : St) (hR : RS S) (n : Nat) (hn : S 2 0 = ↑n) (hn7 : n ≤ 7) (xc : Int) (hc0 : 0 ≤ xc) (hc2 : xc < 2147483648) : Met l yX7_layRow (Cond.code yX7_layRow cX7_layRow 5 none :: lwT) ({ frames := 0, cells := 0, slots := 0, locals := 0 }) (gPc D (mW cI ad) (mE D cI) S [.ref (ad 26), .int (zI (xc)), .ref (ad 10)]) (va_Qv (fun (S' : St) => ∃ f, S' = sA S 10 f ∧ ∀ j, j < n → f j = dgF n xc j) (gB D (mW cI ad)) (mA ad)) 0 0 (mA ad) := by
  refine Met.ofW (cc := cX7_layRow) (maxL := 5) (ret := none) (by decide) rfl ?_
  intro p e s m args below meth c s₁ B hml hv
  obtain ⟨rfl, hP, hE⟩ := hv
  have hx := B.exec
  have hb := B.bytes
  have hr := B.returns
  have hts := atoms_spec (ws := Cond.code yX7_layRow cX7_layRow 5 none :: lwT) B.pre
  have hT := fun w (h : w ∈ lwT) => hts w (List.mem_cons_of_mem _ h)
  have hsub : ∀ w ∈ lwT, w ∈ (Cond.code yX7_layRow cX7_layRow 5 none :: lwT) := fun w h => List.mem_cons_of_mem _ h
  have hown : s.vm.findClass RX7 = some m.cls := findClass_of_methodNamed B.named
  have hlocks := B.notSynchronized
  have hK : va_K D vwCl [(cI, .int)] s := hE
  have hS : va_S (mA ad) s.heap s.heap [] := va_S.rf
  have hl := lv_entry ([.ref (ad 26), .int (zI (xc)), .ref (ad 10)]) (n := 5) (Nat.le_of_ble_eq_true rfl)
  rw [lg_entry_eq]
  generalize (lg_sl ([.ref (ad 26), .int (zI (xc)), .ref (ad 10)]) ++ List.replicate (5 - (lg_sl ([.ref (ad 26), .int (zI (xc)), .ref (ad 10)])).length) Slot.unset).toArray = ls at hl ⊢
  have hl : lv_has ls 5 [(0, .ref (ad 26)), (1, .int (zI (xc))), (2, .ref (ad 10))] := hl
  refine lv_iload_n hx hb dX7_layRow_0 rfl (lv_at hl 1 rfl) ?_
  refine lv_istore_n (lv' := [(3, .int (zI (xc))), (0, .ref (ad 26)), (1, .int (zI (xc))), (2, .ref (ad 10))]) hx hb dX7_layRow_1 rfl hl (by decide) rfl (fun ls hl => ?_)
  refine lv_aload_n hx hb dX7_layRow_2 rfl (lv_at hl 1 rfl) ?_
  have g_1 : -2147483648 ≤ S 2 0 ∧ S 2 0 < 2147483648 := hR 2 0 (by decide)
  refine va_get (D := D) (ci := 7) (v := .int (zI (S 2 0))) (C := RX7) (T := TX7) (N := 26) hx hb hT inX7 hown hK hP 0 rfl rfl 2 (by decide) (hT _ q_674) (fun _ h9 => h9) rfl dX7_layRow_3 ?_
  refine z_iconst hx hb dX7_layRow_6 ?_
  refine z_isub hx hb dX7_layRow_7 ?_
  refine lv_istore (lv' := [(4, .int (zI ((S 2 0) - 1))), (3, .int (zI (xc))), (0, .ref (ad 26)), (1, .int (zI (xc))), (2, .ref (ad 10))]) hx hb dX7_layRow_8 hl (by decide) rfl (fun ls hl => ?_)
  have cut_10 : ∀ (k9 : Nat) (z : Int) (x : Int) (f : Nat → Int) (H : Heap) (locs : List Loc) (ls : Array Slot), (-1 ≤ z) → (z < ↑n) → (0 ≤ x ∧ x < 2147483648) → (x = xc / 8 ^ ((n : Int) - 1 - z).toNat) → (∀ j : Nat, z < ↑j → j < n → f j = dgF n xc j) → ((z + 1).toNat) < k9 → va_P D vwCl (mW cI ad (sA S 10 f)) H → RS (sA S 10 f) → va_S (mA ad) s.heap H locs → lv_has ls 5 [(0, .ref (ad 26)), (2, .ref (ad 10)), (3, .int (zI (x))), (4, .int (zI (z)))] → W p l e (headSpec (Cond.code yX7_layRow cX7_layRow 5 none :: lwT) ({ frames := 0, cells := 0, slots := 0, locals := 0 })).room s m ([.ref (ad 26), .int (zI (xc)), .ref (ad 10)] : List Value).toArray below meth c H locs 0 0 (MQ below (va_Qv (fun (S' : St) => ∃ f, S' = sA S 10 f ∧ ∀ j, j < n → f j = dgF n xc j) (gB D (mW cI ad)) (mA ad)) ([.ref (ad 26), .int (zI (xc)), .ref (ad 10)] : List Value).toArray s 0 0 (mA ad)) (F0 m 10 ls []) := by
    intro k9
    induction k9 with
    | zero =>
      intro z x f H locs ls hz1 hz2 hx0 hxx hf hk9 hP hR hS hl
      exact absurd hk9 (Nat.not_lt_zero _)
    | succ k9 ih_10 =>
      intro z x f H locs ls hz1 hz2 hx0 hxx hf hk9 hP hR hS hl
      refine lv_iload hx hb dX7_layRow_10 (lv_at hl 3 rfl) ?_
      refine z_if_lt (tgt := 34) hx hb (by omega) (by omega) dX7_layRow_12 (by decide) (fun c_2 => ?_) (fun c_2 => ?_)
      · have h9 : True := trivial
        exact g_vret (S1 := sA S 10 f) hx hb hr hlocks hP hR hS (⟨f, rfl, fun j hj => hf j (by omega) hj⟩) dX7_layRow_34
      · have h9 : True := trivial
        refine lv_aload_n hx hb dX7_layRow_15 rfl (lv_at hl 1 rfl) ?_
        refine lv_iload hx hb dX7_layRow_16 (lv_at hl 3 rfl) ?_
        refine lv_iload_n hx hb dX7_layRow_18 rfl (lv_at hl 2 rfl) ?_
        refine z_bipush hx hb dX7_layRow_19 (by decide) ?_
        refine z_irem hx hb (by omega) (by omega) (by omega) (by omega) dX7_layRow_21 ?_
        refine z_ast (f := (sA S 10 f) 10) (i := z) (v := x % 8) hx hb hK hP (mD hinj cI _) hS 6 0 rfl rfl (by omega) (by omega) (by decide) dX7_layRow_22 (fun H locs hP hS => ?_)
        have hP : va_P D vwCl (mW cI ad (sA S 10 (uZ f (z).toNat (x % 8)))) H := hP
        have hR : RS (sA S 10 (uZ f (z).toNat (x % 8))) := hR.put' (by omega) (by omega)
        refine lv_iload_n hx hb dX7_layRow_23 rfl (lv_at hl 2 rfl) ?_
        refine z_bipush hx hb dX7_layRow_24 (by decide) ?_
        refine z_idiv hx hb (by omega) (by omega) (by omega) (by omega) dX7_layRow_26 ?_
        refine lv_istore_n (lv' := [(3, .int (zI (x / 8))), (0, .ref (ad 26)), (2, .ref (ad 10)), (4, .int (zI (z)))]) hx hb dX7_layRow_27 rfl hl (by decide) rfl (fun ls hl => ?_)
        refine z_iinc (lv' := [(4, .int (zI (z + (-1)))), (3, .int (zI (x / 8))), (0, .ref (ad 26)), (2, .ref (ad 10))]) hx hb dX7_layRow_28 hl (k := 3) rfl (by decide) rfl (fun ls hl => ?_)
        refine lv_goto (tgt := 10) hx hb dX7_layRow_31 (by decide) ?_
        exact ih_10 (z + (-1)) (x / 8) (uZ f (z).toNat (x % 8)) _ _ _ (by omega) (by omega) (by omega) (by rw [show ((n : Int) - 1 - (z + (-1))).toNat = ((n : Int) - 1 - z).toNat + 1 by omega, Int.pow_succ, hxx, Int.ediv_ediv_of_nonneg (Int.pow_nonneg (by omega))]) (fun j h1 h2 => by unfold uZ; split <;> first | (rename_i e9; unfold dgF; rw [hxx, show n - 1 - j = ((n : Int) - 1 - z).toNat by omega]) | exact hf j (by omega) h2) (by omega) hP hR hS (lv_sub hl [2, 3, 1, 0] rfl)
  have hSe_3 : S = sA S 10 (S 10) := by
    funext k8
    by_cases e80 : k8 = 10
    · subst e80; first | rfl | (funext j8; rfl)
    simp [sA, e80]
  rw [hSe_3] at hP hR
  exact cut_10 _ ((S 2 0) - 1) xc (S 10) _ _ _ (by omega) (by omega) (by omega) (by rw [show ((n : Int) - 1 - (S 2 0 - 1)).toNat = 0 by omega]; simp) (fun j h1 h2 => absurd h2 (by omega)) (Nat.lt_succ_self _) hP hR hS (lv_sub hl [2, 4, 1, 0] rfl)
set_option maxHeartbeats 4000000 in
set_option maxRecDepth 100000 in
theorem k_X7_layRow_6 (l : Launch) (D : va_G) (cI : ClassId) (ad : Nat → Nat) (hinj : mInj ad) (S : St) (hR : RS S) (n : Nat) (hn : S 2 0 = ↑n) (hn7 : n ≤ 7) (xc : Int) (hc0 : 0 ≤ xc) (hc2 : xc < 2147483648) : Met l yX7_layRow (Cond.code yX7_layRow cX7_layRow 5 none :: lwT) ({ frames := 0, cells := 0, slots := 0, locals := 0 }) (gPc D (mW cI ad) (mE D cI) S [.ref (ad 26), .int (zI (xc)), .ref (ad 6)]) (va_Qv (fun (S' : St) => ∃ f, S' = sA S 6 f ∧ ∀ j, j < n → f j = dgF n xc j) (gB D (mW cI ad)) (mA ad)) 0 0 (mA ad) := by
  refine Met.ofW (cc := cX7_layRow) (maxL := 5) (ret := none) (by decide) rfl ?_
  intro p e s m args below meth c s₁ B hml hv
  obtain ⟨rfl, hP, hE⟩ := hv
  have hx := B.exec
  have hb := B.bytes
  have hr := B.returns
  have hts := atoms_spec (ws := Cond.code yX7_layRow cX7_layRow 5 none :: lwT) B.pre
  have hT := fun w (h : w ∈ lwT) => hts w (List.mem_cons_of_mem _ h)
  have hsub : ∀ w ∈ lwT, w ∈ (Cond.code yX7_layRow cX7_layRow 5 none :: lwT) := fun w h => List.mem_cons_of_mem _ h
  have hown : s.vm.findClass RX7 = some m.cls := findClass_of_methodNamed B.named
  have hlocks := B.notSynchronized
  have hK : va_K D vwCl [(cI, .int)] s := hE
  have hS : va_S (mA ad) s.heap s.heap [] := va_S.rf
  have hl := lv_entry ([.ref (ad 26), .int (zI (xc)), .ref (ad 6)]) (n := 5) (Nat.le_of_ble_eq_true rfl)
  rw [lg_entry_eq]
  generalize (lg_sl ([.ref (ad 26), .int (zI (xc)), .ref (ad 6)]) ++ List.replicate (5 - (lg_sl ([.ref (ad 26), .int (zI (xc)), .ref (ad 6)])).length) Slot.unset).toArray = ls at hl ⊢
  have hl : lv_has ls 5 [(0, .ref (ad 26)), (1, .int (zI (xc))), (2, .ref (ad 6))] := hl
  refine lv_iload_n hx hb dX7_layRow_0 rfl (lv_at hl 1 rfl) ?_
  refine lv_istore_n (lv' := [(3, .int (zI (xc))), (0, .ref (ad 26)), (1, .int (zI (xc))), (2, .ref (ad 6))]) hx hb dX7_layRow_1 rfl hl (by decide) rfl (fun ls hl => ?_)
  refine lv_aload_n hx hb dX7_layRow_2 rfl (lv_at hl 1 rfl) ?_
  have g_1 : -2147483648 ≤ S 2 0 ∧ S 2 0 < 2147483648 := hR 2 0 (by decide)
  refine va_get (D := D) (ci := 7) (v := .int (zI (S 2 0))) (C := RX7) (T := TX7) (N := 26) hx hb hT inX7 hown hK hP 0 rfl rfl 2 (by decide) (hT _ q_674) (fun _ h9 => h9) rfl dX7_layRow_3 ?_
  refine z_iconst hx hb dX7_layRow_6 ?_
  refine z_isub hx hb dX7_layRow_7 ?_
  refine lv_istore (lv' := [(4, .int (zI ((S 2 0) - 1))), (3, .int (zI (xc))), (0, .ref (ad 26)), (1, .int (zI (xc))), (2, .ref (ad 6))]) hx hb dX7_layRow_8 hl (by decide) rfl (fun ls hl => ?_)
  have cut_10 : ∀ (k9 : Nat) (z : Int) (x : Int) (f : Nat → Int) (H : Heap) (locs : List Loc) (ls : Array Slot), (-1 ≤ z) → (z < ↑n) → (0 ≤ x ∧ x < 2147483648) → (x = xc / 8 ^ ((n : Int) - 1 - z).toNat) → (∀ j : Nat, z < ↑j → j < n → f j = dgF n xc j) → ((z + 1).toNat) < k9 → va_P D vwCl (mW cI ad (sA S 6 f)) H → RS (sA S 6 f) → va_S (mA ad) s.heap H locs → lv_has ls 5 [(0, .ref (ad 26)), (2, .ref (ad 6)), (3, .int (zI (x))), (4, .int (zI (z)))] → W p l e (headSpec (Cond.code yX7_layRow cX7_layRow 5 none :: lwT) ({ frames := 0, cells := 0, slots := 0, locals := 0 })).room s m ([.ref (ad 26), .int (zI (xc)), .ref (ad 6)] : List Value).toArray below meth c H locs 0 0 (MQ below (va_Qv (fun (S' : St) => ∃ f, S' = sA S 6 f ∧ ∀ j, j < n → f j = dgF n xc j) (gB D (mW cI ad)) (mA ad)) ([.ref (ad 26), .int (zI (xc)), .ref (ad 6)] : List Value).toArray s 0 0 (mA ad)) (F0 m 10 ls []) := by
    intro k9
    induction k9 with
    | zero =>
      intro z x f H locs ls hz1 hz2 hx0 hxx hf hk9 hP hR hS hl
      exact absurd hk9 (Nat.not_lt_zero _)
    | succ k9 ih_10 =>
      intro z x f H locs ls hz1 hz2 hx0 hxx hf hk9 hP hR hS hl
      refine lv_iload hx hb dX7_layRow_10 (lv_at hl 3 rfl) ?_
      refine z_if_lt (tgt := 34) hx hb (by omega) (by omega) dX7_layRow_12 (by decide) (fun c_2 => ?_) (fun c_2 => ?_)
      · have h9 : True := trivial
        exact g_vret (S1 := sA S 6 f) hx hb hr hlocks hP hR hS (⟨f, rfl, fun j hj => hf j (by omega) hj⟩) dX7_layRow_34
      · have h9 : True := trivial
        refine lv_aload_n hx hb dX7_layRow_15 rfl (lv_at hl 1 rfl) ?_
        refine lv_iload hx hb dX7_layRow_16 (lv_at hl 3 rfl) ?_
        refine lv_iload_n hx hb dX7_layRow_18 rfl (lv_at hl 2 rfl) ?_
        refine z_bipush hx hb dX7_layRow_19 (by decide) ?_
        refine z_irem hx hb (by omega) (by omega) (by omega) (by omega) dX7_layRow_21 ?_
        refine z_ast (f := (sA S 6 f) 6) (i := z) (v := x % 8) hx hb hK hP (mD hinj cI _) hS 3 0 rfl rfl (by omega) (by omega) (by decide) dX7_layRow_22 (fun H locs hP hS => ?_)
        have hP : va_P D vwCl (mW cI ad (sA S 6 (uZ f (z).toNat (x % 8)))) H := hP
        have hR : RS (sA S 6 (uZ f (z).toNat (x % 8))) := hR.put' (by omega) (by omega)
        refine lv_iload_n hx hb dX7_layRow_23 rfl (lv_at hl 2 rfl) ?_
        refine z_bipush hx hb dX7_layRow_24 (by decide) ?_
        refine z_idiv hx hb (by omega) (by omega) (by omega) (by omega) dX7_layRow_26 ?_
        refine lv_istore_n (lv' := [(3, .int (zI (x / 8))), (0, .ref (ad 26)), (2, .ref (ad 6)), (4, .int (zI (z)))]) hx hb dX7_layRow_27 rfl hl (by decide) rfl (fun ls hl => ?_)
        refine z_iinc (lv' := [(4, .int (zI (z + (-1)))), (3, .int (zI (x / 8))), (0, .ref (ad 26)), (2, .ref (ad 6))]) hx hb dX7_layRow_28 hl (k := 3) rfl (by decide) rfl (fun ls hl => ?_)
        refine lv_goto (tgt := 10) hx hb dX7_layRow_31 (by decide) ?_
        exact ih_10 (z + (-1)) (x / 8) (uZ f (z).toNat (x % 8)) _ _ _ (by omega) (by omega) (by omega) (by rw [show ((n : Int) - 1 - (z + (-1))).toNat = ((n : Int) - 1 - z).toNat + 1 by omega, Int.pow_succ, hxx, Int.ediv_ediv_of_nonneg (Int.pow_nonneg (by omega))]) (fun j h1 h2 => by unfold uZ; split <;> first | (rename_i e9; unfold dgF; rw [hxx, show n - 1 - j = ((n : Int) - 1 - z).toNat by omega]) | exact hf j (by omega) h2) (by omega) hP hR hS (lv_sub hl [2, 3, 1, 0] rfl)
  have hSe_3 : S = sA S 6 (S 6) := by
    funext k8
    by_cases e80 : k8 = 6
    · subst e80; first | rfl | (funext j8; rfl)
    simp [sA, e80]
  rw [hSe_3] at hP hR
  exact cut_10 _ ((S 2 0) - 1) xc (S 6) _ _ _ (by omega) (by omega) (by omega) (by rw [show ((n : Int) - 1 - (S 2 0 - 1)).toNat = 0 by omega]; simp) (fun j h1 h2 => absurd h2 (by omega)) (Nat.lt_succ_self _) hP hR hS (lv_sub hl [2, 4, 1, 0] rfl)
set_option maxHeartbeats 4000000 in
set_option maxRecDepth 100000 in
theorem k_X7_layPlaces_6 (l : Launch) (D : va_G) (cI : ClassId) (ad : Nat → Nat) (hinj : mInj ad) (S : St) (hR : RS S) (n : Nat) (hn : S 2 0 = ↑n) (hn7 : n ≤ 7) (hp : prm n (S 6)) : Met l yX7_layPlaces (Cond.code yX7_layPlaces cX7_layPlaces 3 none :: lwT) ({ frames := 0, cells := 0, slots := 0, locals := 0 }) (gPc D (mW cI ad) (mE D cI) S [.ref (ad 26), .ref (ad 6)]) (va_Qv (fun (S' : St) => ∃ f, S' = sA S 9 f ∧ ∀ v, v < n → f v = ↑(pl n (S 6) v)) (gB D (mW cI ad)) (mA ad)) 0 0 (mA ad) := by
  refine Met.ofW (cc := cX7_layPlaces) (maxL := 3) (ret := none) (by decide) rfl ?_
  intro p e s m args below meth c s₁ B hml hv
  obtain ⟨rfl, hP, hE⟩ := hv
  have hx := B.exec
  have hb := B.bytes
  have hr := B.returns
  have hts := atoms_spec (ws := Cond.code yX7_layPlaces cX7_layPlaces 3 none :: lwT) B.pre
  have hT := fun w (h : w ∈ lwT) => hts w (List.mem_cons_of_mem _ h)
  have hsub : ∀ w ∈ lwT, w ∈ (Cond.code yX7_layPlaces cX7_layPlaces 3 none :: lwT) := fun w h => List.mem_cons_of_mem _ h
  have hown : s.vm.findClass RX7 = some m.cls := findClass_of_methodNamed B.named
  have hlocks := B.notSynchronized
  have hK : va_K D vwCl [(cI, .int)] s := hE
  have hS : va_S (mA ad) s.heap s.heap [] := va_S.rf
  have hl := lv_entry ([.ref (ad 26), .ref (ad 6)]) (n := 3) (Nat.le_of_ble_eq_true rfl)
  rw [lg_entry_eq]
  generalize (lg_sl ([.ref (ad 26), .ref (ad 6)]) ++ List.replicate (3 - (lg_sl ([.ref (ad 26), .ref (ad 6)])).length) Slot.unset).toArray = ls at hl ⊢
  have hl : lv_has ls 3 [(0, .ref (ad 26)), (1, .ref (ad 6))] := hl
  refine z_iconst hx hb dX7_layPlaces_0 ?_
  refine lv_istore_n (lv' := [(2, .int (zI (0))), (0, .ref (ad 26)), (1, .ref (ad 6))]) hx hb dX7_layPlaces_1 rfl hl (by decide) rfl (fun ls hl => ?_)
  have cut_2 : ∀ (k9 : Nat) (i : Nat) (f : Nat → Int) (H : Heap) (locs : List Loc) (ls : Array Slot), (i ≤ n) → (∀ q, q < i → f (S 6 q).toNat = ↑q) → (n - i) < k9 → va_P D vwCl (mW cI ad (sA S 9 f)) H → RS (sA S 9 f) → va_S (mA ad) s.heap H locs → lv_has ls 3 [(0, .ref (ad 26)), (1, .ref (ad 6)), (2, .int (zI (↑i)))] → W p l e (headSpec (Cond.code yX7_layPlaces cX7_layPlaces 3 none :: lwT) ({ frames := 0, cells := 0, slots := 0, locals := 0 })).room s m ([.ref (ad 26), .ref (ad 6)] : List Value).toArray below meth c H locs 0 0 (MQ below (va_Qv (fun (S' : St) => ∃ f, S' = sA S 9 f ∧ ∀ v, v < n → f v = ↑(pl n (S 6) v)) (gB D (mW cI ad)) (mA ad)) ([.ref (ad 26), .ref (ad 6)] : List Value).toArray s 0 0 (mA ad)) (F0 m 2 ls []) := by
    intro k9
    induction k9 with
    | zero =>
      intro i f H locs ls hi hf hk9 hP hR hS hl
      exact absurd hk9 (Nat.not_lt_zero _)
    | succ k9 ih_2 =>
      intro i f H locs ls hi hf hk9 hP hR hS hl
      refine lv_iload_n hx hb dX7_layPlaces_2 rfl (lv_at hl 2 rfl) ?_
      refine lv_aload_n hx hb dX7_layPlaces_3 rfl (lv_at hl 0 rfl) ?_
      have g_1 : -2147483648 ≤ S 2 0 ∧ S 2 0 < 2147483648 := hR 2 0 (by decide)
      refine va_get (D := D) (ci := 7) (v := .int (zI (S 2 0))) (C := RX7) (T := TX7) (N := 26) hx hb hT inX7 hown hK hP 0 rfl rfl 2 (by decide) (hT _ q_674) (fun _ h9 => h9) rfl dX7_layPlaces_4 ?_
      refine z_icmp_ge (tgt := 25) hx hb (by omega) (by omega) (by omega) (by omega) dX7_layPlaces_7 (by decide) (fun c_2 => ?_) (fun c_2 => ?_)
      · have h9 : True := trivial
        exact g_vret (S1 := sA S 9 f) hx hb hr hlocks hP hR hS (⟨f, rfl, fun v hv => by have h7 := pl_at hp hv; have h8 := hf _ (show pl n (S 6) v < i by omega); rw [h7.2] at h8; simpa using h8⟩) dX7_layPlaces_25
      · have h9 : True := trivial
        refine lv_aload_n hx hb dX7_layPlaces_10 rfl (lv_at hl 0 rfl) ?_
        refine va_get (D := D) (ci := 7) (v := .ref (ad 9)) (C := RX7) (T := TX7) (N := 26) hx hb hT inX7 hown hK hP 0 rfl rfl 9 (by decide) (hT _ q_681) (fun _ h9 => h9) rfl dX7_layPlaces_11 ?_
        refine lv_aload_n hx hb dX7_layPlaces_14 rfl (lv_at hl 1 rfl) ?_
        refine lv_iload_n hx hb dX7_layPlaces_15 rfl (lv_at hl 2 rfl) ?_
        have h8 := hp.1 i (by omega)
        have g_3 : -2147483648 ≤ S 6 i ∧ S 6 i < 2147483648 := hR 6 i (by decide)
        refine z_ald (f := S 6) hx hb hK hP 3 0 rfl rfl (by omega) (by omega) (by decide) dX7_layPlaces_16 ?_
        refine lv_iload_n hx hb dX7_layPlaces_17 rfl (lv_at hl 2 rfl) ?_
        refine z_ast (f := (sA S 9 f) 9) (i := S 6 i) (v := ↑i) hx hb hK hP (mD hinj cI _) hS 5 0 rfl rfl (by omega) (by omega) (by decide) dX7_layPlaces_18 (fun H locs hP hS => ?_)
        have hP : va_P D vwCl (mW cI ad (sA S 9 (uZ f (S 6 i).toNat (↑i)))) H := hP
        have hR : RS (sA S 9 (uZ f (S 6 i).toNat (↑i))) := hR.put' (by omega) (by omega)
        refine z_iinc (lv' := [(2, .int (zI (↑i + 1))), (0, .ref (ad 26)), (1, .ref (ad 6))]) hx hb dX7_layPlaces_19 hl (k := 2) rfl (by decide) rfl (fun ls hl => ?_)
        refine lv_goto (tgt := 2) hx hb dX7_layPlaces_22 (by decide) ?_
        exact ih_2 (i + 1) (uZ f (S 6 i).toNat (↑i)) _ _ _ (by omega) (fun q hq => by
          unfold uZ
          have h7 := hp.1 q (by omega)
          split
          · rename_i e9
            have := hp.2 q i (by omega) (by omega) (by omega)
            omega
          · rename_i e9
            exact hf q (Nat.lt_of_le_of_ne (by omega) (fun e => e9 (by rw [e])))) (by omega) hP hR hS (lv_sub hl [1, 2, 0] rfl)
  have hSe_4 : S = sA S 9 (S 9) := by
    funext k8
    by_cases e80 : k8 = 9
    · subst e80; first | rfl | (funext j8; rfl)
    simp [sA, e80]
  rw [hSe_4] at hP hR
  exact cut_2 _ 0 (S 9) _ _ _ (by omega) (fun j h => absurd h (Nat.not_lt_zero j)) (Nat.lt_succ_self _) hP hR hS (lv_sub hl [1, 2, 0] rfl)
set_option maxHeartbeats 4000000 in
set_option maxRecDepth 100000 in
theorem k_X7_layPlaces_10 (l : Launch) (D : va_G) (cI : ClassId) (ad : Nat → Nat) (hinj : mInj ad) (S : St) (hR : RS S) (n : Nat) (hn : S 2 0 = ↑n) (hn7 : n ≤ 7) (hp : prm n (S 10)) : Met l yX7_layPlaces (Cond.code yX7_layPlaces cX7_layPlaces 3 none :: lwT) ({ frames := 0, cells := 0, slots := 0, locals := 0 }) (gPc D (mW cI ad) (mE D cI) S [.ref (ad 26), .ref (ad 10)]) (va_Qv (fun (S' : St) => ∃ f, S' = sA S 9 f ∧ ∀ v, v < n → f v = ↑(pl n (S 10) v)) (gB D (mW cI ad)) (mA ad)) 0 0 (mA ad) := by
  refine Met.ofW (cc := cX7_layPlaces) (maxL := 3) (ret := none) (by decide) rfl ?_
  intro p e s m args below meth c s₁ B hml hv
  obtain ⟨rfl, hP, hE⟩ := hv
  have hx := B.exec
  have hb := B.bytes
  have hr := B.returns
  have hts := atoms_spec (ws := Cond.code yX7_layPlaces cX7_layPlaces 3 none :: lwT) B.pre
  have hT := fun w (h : w ∈ lwT) => hts w (List.mem_cons_of_mem _ h)
  have hsub : ∀ w ∈ lwT, w ∈ (Cond.code yX7_layPlaces cX7_layPlaces 3 none :: lwT) := fun w h => List.mem_cons_of_mem _ h
  have hown : s.vm.findClass RX7 = some m.cls := findClass_of_methodNamed B.named
  have hlocks := B.notSynchronized
  have hK : va_K D vwCl [(cI, .int)] s := hE
  have hS : va_S (mA ad) s.heap s.heap [] := va_S.rf
  have hl := lv_entry ([.ref (ad 26), .ref (ad 10)]) (n := 3) (Nat.le_of_ble_eq_true rfl)
  rw [lg_entry_eq]
  generalize (lg_sl ([.ref (ad 26), .ref (ad 10)]) ++ List.replicate (3 - (lg_sl ([.ref (ad 26), .ref (ad 10)])).length) Slot.unset).toArray = ls at hl ⊢
  have hl : lv_has ls 3 [(0, .ref (ad 26)), (1, .ref (ad 10))] := hl
  refine z_iconst hx hb dX7_layPlaces_0 ?_
  refine lv_istore_n (lv' := [(2, .int (zI (0))), (0, .ref (ad 26)), (1, .ref (ad 10))]) hx hb dX7_layPlaces_1 rfl hl (by decide) rfl (fun ls hl => ?_)
  have cut_2 : ∀ (k9 : Nat) (i : Nat) (f : Nat → Int) (H : Heap) (locs : List Loc) (ls : Array Slot), (i ≤ n) → (∀ q, q < i → f (S 10 q).toNat = ↑q) → (n - i) < k9 → va_P D vwCl (mW cI ad (sA S 9 f)) H → RS (sA S 9 f) → va_S (mA ad) s.heap H locs → lv_has ls 3 [(0, .ref (ad 26)), (1, .ref (ad 10)), (2, .int (zI (↑i)))] → W p l e (headSpec (Cond.code yX7_layPlaces cX7_layPlaces 3 none :: lwT) ({ frames := 0, cells := 0, slots := 0, locals := 0 })).room s m ([.ref (ad 26), .ref (ad 10)] : List Value).toArray below meth c H locs 0 0 (MQ below (va_Qv (fun (S' : St) => ∃ f, S' = sA S 9 f ∧ ∀ v, v < n → f v = ↑(pl n (S 10) v)) (gB D (mW cI ad)) (mA ad)) ([.ref (ad 26), .ref (ad 10)] : List Value).toArray s 0 0 (mA ad)) (F0 m 2 ls []) := by
    intro k9
    induction k9 with
    | zero =>
      intro i f H locs ls hi hf hk9 hP hR hS hl
      exact absurd hk9 (Nat.not_lt_zero _)
    | succ k9 ih_2 =>
      intro i f H locs ls hi hf hk9 hP hR hS hl
      refine lv_iload_n hx hb dX7_layPlaces_2 rfl (lv_at hl 2 rfl) ?_
      refine lv_aload_n hx hb dX7_layPlaces_3 rfl (lv_at hl 0 rfl) ?_
      have g_1 : -2147483648 ≤ S 2 0 ∧ S 2 0 < 2147483648 := hR 2 0 (by decide)
      refine va_get (D := D) (ci := 7) (v := .int (zI (S 2 0))) (C := RX7) (T := TX7) (N := 26) hx hb hT inX7 hown hK hP 0 rfl rfl 2 (by decide) (hT _ q_674) (fun _ h9 => h9) rfl dX7_layPlaces_4 ?_
      refine z_icmp_ge (tgt := 25) hx hb (by omega) (by omega) (by omega) (by omega) dX7_layPlaces_7 (by decide) (fun c_2 => ?_) (fun c_2 => ?_)
      · have h9 : True := trivial
        exact g_vret (S1 := sA S 9 f) hx hb hr hlocks hP hR hS (⟨f, rfl, fun v hv => by have h7 := pl_at hp hv; have h8 := hf _ (show pl n (S 10) v < i by omega); rw [h7.2] at h8; simpa using h8⟩) dX7_layPlaces_25
      · have h9 : True := trivial
        refine lv_aload_n hx hb dX7_layPlaces_10 rfl (lv_at hl 0 rfl) ?_
        refine va_get (D := D) (ci := 7) (v := .ref (ad 9)) (C := RX7) (T := TX7) (N := 26) hx hb hT inX7 hown hK hP 0 rfl rfl 9 (by decide) (hT _ q_681) (fun _ h9 => h9) rfl dX7_layPlaces_11 ?_
        refine lv_aload_n hx hb dX7_layPlaces_14 rfl (lv_at hl 1 rfl) ?_
        refine lv_iload_n hx hb dX7_layPlaces_15 rfl (lv_at hl 2 rfl) ?_
        have h8 := hp.1 i (by omega)
        have g_3 : -2147483648 ≤ S 10 i ∧ S 10 i < 2147483648 := hR 10 i (by decide)
        refine z_ald (f := S 10) hx hb hK hP 6 0 rfl rfl (by omega) (by omega) (by decide) dX7_layPlaces_16 ?_
        refine lv_iload_n hx hb dX7_layPlaces_17 rfl (lv_at hl 2 rfl) ?_
        refine z_ast (f := (sA S 9 f) 9) (i := S 10 i) (v := ↑i) hx hb hK hP (mD hinj cI _) hS 5 0 rfl rfl (by omega) (by omega) (by decide) dX7_layPlaces_18 (fun H locs hP hS => ?_)
        have hP : va_P D vwCl (mW cI ad (sA S 9 (uZ f (S 10 i).toNat (↑i)))) H := hP
        have hR : RS (sA S 9 (uZ f (S 10 i).toNat (↑i))) := hR.put' (by omega) (by omega)
        refine z_iinc (lv' := [(2, .int (zI (↑i + 1))), (0, .ref (ad 26)), (1, .ref (ad 10))]) hx hb dX7_layPlaces_19 hl (k := 2) rfl (by decide) rfl (fun ls hl => ?_)
        refine lv_goto (tgt := 2) hx hb dX7_layPlaces_22 (by decide) ?_
        exact ih_2 (i + 1) (uZ f (S 10 i).toNat (↑i)) _ _ _ (by omega) (fun q hq => by
          unfold uZ
          have h7 := hp.1 q (by omega)
          split
          · rename_i e9
            have := hp.2 q i (by omega) (by omega) (by omega)
            omega
          · rename_i e9
            exact hf q (Nat.lt_of_le_of_ne (by omega) (fun e => e9 (by rw [e])))) (by omega) hP hR hS (lv_sub hl [1, 2, 0] rfl)
  have hSe_4 : S = sA S 9 (S 9) := by
    funext k8
    by_cases e80 : k8 = 9
    · subst e80; first | rfl | (funext j8; rfl)
    simp [sA, e80]
  rw [hSe_4] at hP hR
  exact cut_2 _ 0 (S 9) _ _ _ (by omega) (fun j h => absurd h (Nat.not_lt_zero j)) (Nat.lt_succ_self _) hP hR hS (lv_sub hl [1, 2, 0] rfl)
set_option maxHeartbeats 4000000 in
set_option maxRecDepth 100000 in
theorem k_X7_layPlaces_11 (l : Launch) (D : va_G) (cI : ClassId) (ad : Nat → Nat) (hinj : mInj ad) (S : St) (hR : RS S) (n : Nat) (hn : S 2 0 = ↑n) (hn7 : n ≤ 7) (hp : prm n (S 11)) : Met l yX7_layPlaces (Cond.code yX7_layPlaces cX7_layPlaces 3 none :: lwT) ({ frames := 0, cells := 0, slots := 0, locals := 0 }) (gPc D (mW cI ad) (mE D cI) S [.ref (ad 26), .ref (ad 11)]) (va_Qv (fun (S' : St) => ∃ f, S' = sA S 9 f ∧ ∀ v, v < n → f v = ↑(pl n (S 11) v)) (gB D (mW cI ad)) (mA ad)) 0 0 (mA ad) := by
  refine Met.ofW (cc := cX7_layPlaces) (maxL := 3) (ret := none) (by decide) rfl ?_
  intro p e s m args below meth c s₁ B hml hv
  obtain ⟨rfl, hP, hE⟩ := hv
  have hx := B.exec
  have hb := B.bytes
  have hr := B.returns
  have hts := atoms_spec (ws := Cond.code yX7_layPlaces cX7_layPlaces 3 none :: lwT) B.pre
  have hT := fun w (h : w ∈ lwT) => hts w (List.mem_cons_of_mem _ h)
  have hsub : ∀ w ∈ lwT, w ∈ (Cond.code yX7_layPlaces cX7_layPlaces 3 none :: lwT) := fun w h => List.mem_cons_of_mem _ h
  have hown : s.vm.findClass RX7 = some m.cls := findClass_of_methodNamed B.named
  have hlocks := B.notSynchronized
  have hK : va_K D vwCl [(cI, .int)] s := hE
  have hS : va_S (mA ad) s.heap s.heap [] := va_S.rf
  have hl := lv_entry ([.ref (ad 26), .ref (ad 11)]) (n := 3) (Nat.le_of_ble_eq_true rfl)
  rw [lg_entry_eq]
  generalize (lg_sl ([.ref (ad 26), .ref (ad 11)]) ++ List.replicate (3 - (lg_sl ([.ref (ad 26), .ref (ad 11)])).length) Slot.unset).toArray = ls at hl ⊢
  have hl : lv_has ls 3 [(0, .ref (ad 26)), (1, .ref (ad 11))] := hl
  refine z_iconst hx hb dX7_layPlaces_0 ?_
  refine lv_istore_n (lv' := [(2, .int (zI (0))), (0, .ref (ad 26)), (1, .ref (ad 11))]) hx hb dX7_layPlaces_1 rfl hl (by decide) rfl (fun ls hl => ?_)
  have cut_2 : ∀ (k9 : Nat) (i : Nat) (f : Nat → Int) (H : Heap) (locs : List Loc) (ls : Array Slot), (i ≤ n) → (∀ q, q < i → f (S 11 q).toNat = ↑q) → (n - i) < k9 → va_P D vwCl (mW cI ad (sA S 9 f)) H → RS (sA S 9 f) → va_S (mA ad) s.heap H locs → lv_has ls 3 [(0, .ref (ad 26)), (1, .ref (ad 11)), (2, .int (zI (↑i)))] → W p l e (headSpec (Cond.code yX7_layPlaces cX7_layPlaces 3 none :: lwT) ({ frames := 0, cells := 0, slots := 0, locals := 0 })).room s m ([.ref (ad 26), .ref (ad 11)] : List Value).toArray below meth c H locs 0 0 (MQ below (va_Qv (fun (S' : St) => ∃ f, S' = sA S 9 f ∧ ∀ v, v < n → f v = ↑(pl n (S 11) v)) (gB D (mW cI ad)) (mA ad)) ([.ref (ad 26), .ref (ad 11)] : List Value).toArray s 0 0 (mA ad)) (F0 m 2 ls []) := by
    intro k9
    induction k9 with
    | zero =>
      intro i f H locs ls hi hf hk9 hP hR hS hl
      exact absurd hk9 (Nat.not_lt_zero _)
    | succ k9 ih_2 =>
      intro i f H locs ls hi hf hk9 hP hR hS hl
      refine lv_iload_n hx hb dX7_layPlaces_2 rfl (lv_at hl 2 rfl) ?_
      refine lv_aload_n hx hb dX7_layPlaces_3 rfl (lv_at hl 0 rfl) ?_
      have g_1 : -2147483648 ≤ S 2 0 ∧ S 2 0 < 2147483648 := hR 2 0 (by decide)
      refine va_get (D := D) (ci := 7) (v := .int (zI (S 2 0))) (C := RX7) (T := TX7) (N := 26) hx hb hT inX7 hown hK hP 0 rfl rfl 2 (by decide) (hT _ q_674) (fun _ h9 => h9) rfl dX7_layPlaces_4 ?_
      refine z_icmp_ge (tgt := 25) hx hb (by omega) (by omega) (by omega) (by omega) dX7_layPlaces_7 (by decide) (fun c_2 => ?_) (fun c_2 => ?_)
      · have h9 : True := trivial
        exact g_vret (S1 := sA S 9 f) hx hb hr hlocks hP hR hS (⟨f, rfl, fun v hv => by have h7 := pl_at hp hv; have h8 := hf _ (show pl n (S 11) v < i by omega); rw [h7.2] at h8; simpa using h8⟩) dX7_layPlaces_25
      · have h9 : True := trivial
        refine lv_aload_n hx hb dX7_layPlaces_10 rfl (lv_at hl 0 rfl) ?_
        refine va_get (D := D) (ci := 7) (v := .ref (ad 9)) (C := RX7) (T := TX7) (N := 26) hx hb hT inX7 hown hK hP 0 rfl rfl 9 (by decide) (hT _ q_681) (fun _ h9 => h9) rfl dX7_layPlaces_11 ?_
        refine lv_aload_n hx hb dX7_layPlaces_14 rfl (lv_at hl 1 rfl) ?_
        refine lv_iload_n hx hb dX7_layPlaces_15 rfl (lv_at hl 2 rfl) ?_
        have h8 := hp.1 i (by omega)
        have g_3 : -2147483648 ≤ S 11 i ∧ S 11 i < 2147483648 := hR 11 i (by decide)
        refine z_ald (f := S 11) hx hb hK hP 7 0 rfl rfl (by omega) (by omega) (by decide) dX7_layPlaces_16 ?_
        refine lv_iload_n hx hb dX7_layPlaces_17 rfl (lv_at hl 2 rfl) ?_
        refine z_ast (f := (sA S 9 f) 9) (i := S 11 i) (v := ↑i) hx hb hK hP (mD hinj cI _) hS 5 0 rfl rfl (by omega) (by omega) (by decide) dX7_layPlaces_18 (fun H locs hP hS => ?_)
        have hP : va_P D vwCl (mW cI ad (sA S 9 (uZ f (S 11 i).toNat (↑i)))) H := hP
        have hR : RS (sA S 9 (uZ f (S 11 i).toNat (↑i))) := hR.put' (by omega) (by omega)
        refine z_iinc (lv' := [(2, .int (zI (↑i + 1))), (0, .ref (ad 26)), (1, .ref (ad 11))]) hx hb dX7_layPlaces_19 hl (k := 2) rfl (by decide) rfl (fun ls hl => ?_)
        refine lv_goto (tgt := 2) hx hb dX7_layPlaces_22 (by decide) ?_
        exact ih_2 (i + 1) (uZ f (S 11 i).toNat (↑i)) _ _ _ (by omega) (fun q hq => by
          unfold uZ
          have h7 := hp.1 q (by omega)
          split
          · rename_i e9
            have := hp.2 q i (by omega) (by omega) (by omega)
            omega
          · rename_i e9
            exact hf q (Nat.lt_of_le_of_ne (by omega) (fun e => e9 (by rw [e])))) (by omega) hP hR hS (lv_sub hl [1, 2, 0] rfl)
  have hSe_4 : S = sA S 9 (S 9) := by
    funext k8
    by_cases e80 : k8 = 9
    · subst e80; first | rfl | (funext j8; rfl)
    simp [sA, e80]
  rw [hSe_4] at hP hR
  exact cut_2 _ 0 (S 9) _ _ _ (by omega) (fun j h => absurd h (Nat.not_lt_zero j)) (Nat.lt_succ_self _) hP hR hS (lv_sub hl [1, 2, 0] rfl)
end
section
theorem zz_end : True := trivial
end
