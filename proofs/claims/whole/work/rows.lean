section
-- ===== PART A: goes FIRST, ahead of the names: the tables' words, and 'selects' of the private methods out of them =====
/-- a private method of a class that the tables say can be made, by its rows of tables_1 -/
def lw_okq (q : MethodName × Nat) : Prop := (q.1.cls ≠ "java/lang/invoke/MethodHandle" ∧ q.1.cls ≠ "java/lang/invoke/VarHandle") ∧ Cond.instantiable q.1.cls q.2 ∈ tables_1 ∧ Cond.privateMethod q.1 ∈ tables_1 ∧ Cond.instanceMethod q.1 ∈ tables_1
theorem lw_p0 : lw_okq (⟨"HireScopes$Script", "faultOf", "(III)I"⟩, 10) := ⟨⟨by decide +kernel, by decide +kernel⟩, List.mem_of_getElem? (i := 155) (by decide +kernel), List.mem_of_getElem? (i := 484) (by decide +kernel), List.mem_of_getElem? (i := 485) (by decide +kernel)⟩
theorem lw_p1 : lw_okq (⟨"HireScopes$Script", "takesWays", "()Z"⟩, 10) := ⟨⟨by decide +kernel, by decide +kernel⟩, List.mem_of_getElem? (i := 155) (by decide +kernel), List.mem_of_getElem? (i := 495) (by decide +kernel), List.mem_of_getElem? (i := 496) (by decide +kernel)⟩
theorem lw_p2 : lw_okq (⟨"HireScopes$Script", "isInLoop", "()Z"⟩, 10) := ⟨⟨by decide +kernel, by decide +kernel⟩, List.mem_of_getElem? (i := 155) (by decide +kernel), List.mem_of_getElem? (i := 503) (by decide +kernel), List.mem_of_getElem? (i := 504) (by decide +kernel)⟩
theorem lw_p3 : lw_okq (⟨"HireScopes$Script", "place", "(II)V"⟩, 10) := ⟨⟨by decide +kernel, by decide +kernel⟩, List.mem_of_getElem? (i := 155) (by decide +kernel), List.mem_of_getElem? (i := 507) (by decide +kernel), List.mem_of_getElem? (i := 508) (by decide +kernel)⟩
theorem lw_p4 : lw_okq (⟨"HireScopes$Script", "linkMark", "(II)V"⟩, 10) := ⟨⟨by decide +kernel, by decide +kernel⟩, List.mem_of_getElem? (i := 155) (by decide +kernel), List.mem_of_getElem? (i := 511) (by decide +kernel), List.mem_of_getElem? (i := 512) (by decide +kernel)⟩
theorem lw_p5 : lw_okq (⟨"HireScopes$Play", "reset", "(I)V"⟩, 18) := ⟨⟨by decide +kernel, by decide +kernel⟩, List.mem_of_getElem? (i := 111) (by decide +kernel), List.mem_of_getElem? (i := 543) (by decide +kernel), List.mem_of_getElem? (i := 544) (by decide +kernel)⟩
theorem lw_p6 : lw_okq (⟨"HireScopes$Play", "enter", "(LHireScopes$Script;ILHireScopes$Loan;)V"⟩, 18) := ⟨⟨by decide +kernel, by decide +kernel⟩, List.mem_of_getElem? (i := 111) (by decide +kernel), List.mem_of_getElem? (i := 548) (by decide +kernel), List.mem_of_getElem? (i := 549) (by decide +kernel)⟩
theorem lw_p7 : lw_okq (⟨"HireScopes$Play", "push", "(III)V"⟩, 18) := ⟨⟨by decide +kernel, by decide +kernel⟩, List.mem_of_getElem? (i := 111) (by decide +kernel), List.mem_of_getElem? (i := 556) (by decide +kernel), List.mem_of_getElem? (i := 557) (by decide +kernel)⟩
theorem lw_p8 : lw_okq (⟨"HireScopes$Play", "openScope", "(II)V"⟩, 18) := ⟨⟨by decide +kernel, by decide +kernel⟩, List.mem_of_getElem? (i := 111) (by decide +kernel), List.mem_of_getElem? (i := 564) (by decide +kernel), List.mem_of_getElem? (i := 565) (by decide +kernel)⟩
theorem lw_p9 : lw_okq (⟨"HireScopes$Play", "leave", "(LHireScopes$Cast;)V"⟩, 18) := ⟨⟨by decide +kernel, by decide +kernel⟩, List.mem_of_getElem? (i := 111) (by decide +kernel), List.mem_of_getElem? (i := 574) (by decide +kernel), List.mem_of_getElem? (i := 575) (by decide +kernel)⟩
theorem lw_p10 : lw_okq (⟨"HireScopes$Play", "endScopeBlock", "(LHireScopes$Cast;)V"⟩, 18) := ⟨⟨by decide +kernel, by decide +kernel⟩, List.mem_of_getElem? (i := 111) (by decide +kernel), List.mem_of_getElem? (i := 578) (by decide +kernel), List.mem_of_getElem? (i := 579) (by decide +kernel)⟩
theorem lw_p11 : lw_okq (⟨"HireScopes$Play", "endInnermost", "()V"⟩, 18) := ⟨⟨by decide +kernel, by decide +kernel⟩, List.mem_of_getElem? (i := 111) (by decide +kernel), List.mem_of_getElem? (i := 582) (by decide +kernel), List.mem_of_getElem? (i := 583) (by decide +kernel)⟩
theorem lw_p12 : lw_okq (⟨"HireScopes$Play", "giveUp", "(LHireScopes$Loan;I)Z"⟩, 18) := ⟨⟨by decide +kernel, by decide +kernel⟩, List.mem_of_getElem? (i := 111) (by decide +kernel), List.mem_of_getElem? (i := 586) (by decide +kernel), List.mem_of_getElem? (i := 587) (by decide +kernel)⟩
theorem lw_p13 : lw_okq (⟨"HireScopes$Loan", "leaveScope", "()V"⟩, 8) := ⟨⟨by decide +kernel, by decide +kernel⟩, List.mem_of_getElem? (i := 266) (by decide +kernel), List.mem_of_getElem? (i := 594) (by decide +kernel), List.mem_of_getElem? (i := 595) (by decide +kernel)⟩
theorem lw_p14 : lw_okq (⟨"HireScopes$House", "holdNoMore", "(LHireScopes$Part;)V"⟩, 9) := ⟨⟨by decide +kernel, by decide +kernel⟩, List.mem_of_getElem? (i := 24) (by decide +kernel), List.mem_of_getElem? (i := 606) (by decide +kernel), List.mem_of_getElem? (i := 607) (by decide +kernel)⟩
theorem lw_p15 : lw_okq (⟨"HireScopes$House", "charge", "(LHireScopes$Part;)V"⟩, 9) := ⟨⟨by decide +kernel, by decide +kernel⟩, List.mem_of_getElem? (i := 24) (by decide +kernel), List.mem_of_getElem? (i := 610) (by decide +kernel), List.mem_of_getElem? (i := 611) (by decide +kernel)⟩
def lw_privs_1 : List (MethodName × Nat) := [(⟨"HireScopes$Script", "faultOf", "(III)I"⟩, 10), (⟨"HireScopes$Script", "takesWays", "()Z"⟩, 10), (⟨"HireScopes$Script", "isInLoop", "()Z"⟩, 10), (⟨"HireScopes$Script", "place", "(II)V"⟩, 10), (⟨"HireScopes$Script", "linkMark", "(II)V"⟩, 10), (⟨"HireScopes$Play", "reset", "(I)V"⟩, 18), (⟨"HireScopes$Play", "enter", "(LHireScopes$Script;ILHireScopes$Loan;)V"⟩, 18), (⟨"HireScopes$Play", "push", "(III)V"⟩, 18), (⟨"HireScopes$Play", "openScope", "(II)V"⟩, 18), (⟨"HireScopes$Play", "leave", "(LHireScopes$Cast;)V"⟩, 18), (⟨"HireScopes$Play", "endScopeBlock", "(LHireScopes$Cast;)V"⟩, 18), (⟨"HireScopes$Play", "endInnermost", "()V"⟩, 18), (⟨"HireScopes$Play", "giveUp", "(LHireScopes$Loan;I)Z"⟩, 18), (⟨"HireScopes$Loan", "leaveScope", "()V"⟩, 8), (⟨"HireScopes$House", "holdNoMore", "(LHireScopes$Part;)V"⟩, 9), (⟨"HireScopes$House", "charge", "(LHireScopes$Part;)V"⟩, 9)]
theorem lw_r1 : ∀ q ∈ lw_privs_1, lw_okq q := List.forall_mem_cons.mpr ⟨lw_p0, List.forall_mem_cons.mpr ⟨lw_p1, List.forall_mem_cons.mpr ⟨lw_p2, List.forall_mem_cons.mpr ⟨lw_p3, List.forall_mem_cons.mpr ⟨lw_p4, List.forall_mem_cons.mpr ⟨lw_p5, List.forall_mem_cons.mpr ⟨lw_p6, List.forall_mem_cons.mpr ⟨lw_p7, List.forall_mem_cons.mpr ⟨lw_p8, List.forall_mem_cons.mpr ⟨lw_p9, List.forall_mem_cons.mpr ⟨lw_p10, List.forall_mem_cons.mpr ⟨lw_p11, List.forall_mem_cons.mpr ⟨lw_p12, List.forall_mem_cons.mpr ⟨lw_p13, List.forall_mem_cons.mpr ⟨lw_p14, List.forall_mem_cons.mpr ⟨lw_p15, fun _ h => absurd h List.not_mem_nil⟩⟩⟩⟩⟩⟩⟩⟩⟩⟩⟩⟩⟩⟩⟩⟩
theorem lw_p16 : lw_okq (⟨"HireScopes$House", "toCleaning", "(LHireScopes$Part;)V"⟩, 9) := ⟨⟨by decide +kernel, by decide +kernel⟩, List.mem_of_getElem? (i := 24) (by decide +kernel), List.mem_of_getElem? (i := 614) (by decide +kernel), List.mem_of_getElem? (i := 615) (by decide +kernel)⟩
theorem lw_p17 : lw_okq (⟨"HireScopes$Play", "failAtEnd", "(LHireScopes$Scope;I)V"⟩, 18) := ⟨⟨by decide +kernel, by decide +kernel⟩, List.mem_of_getElem? (i := 111) (by decide +kernel), List.mem_of_getElem? (i := 625) (by decide +kernel), List.mem_of_getElem? (i := 626) (by decide +kernel)⟩
theorem lw_p18 : lw_okq (⟨"HireScopes$Play", "pop", "()V"⟩, 18) := ⟨⟨by decide +kernel, by decide +kernel⟩, List.mem_of_getElem? (i := 111) (by decide +kernel), List.mem_of_getElem? (i := 638) (by decide +kernel), List.mem_of_getElem? (i := 639) (by decide +kernel)⟩
theorem lw_p19 : lw_okq (⟨"HireScopes$Play", "leaveLoop", "(LHireScopes$Cast;LHireScopes$Block;)V"⟩, 18) := ⟨⟨by decide +kernel, by decide +kernel⟩, List.mem_of_getElem? (i := 111) (by decide +kernel), List.mem_of_getElem? (i := 642) (by decide +kernel), List.mem_of_getElem? (i := 643) (by decide +kernel)⟩
theorem lw_p20 : lw_okq (⟨"HireScopes$Play", "leaveTry", "(LHireScopes$Cast;LHireScopes$Block;)V"⟩, 18) := ⟨⟨by decide +kernel, by decide +kernel⟩, List.mem_of_getElem? (i := 111) (by decide +kernel), List.mem_of_getElem? (i := 650) (by decide +kernel), List.mem_of_getElem? (i := 651) (by decide +kernel)⟩
theorem lw_p21 : lw_okq (⟨"HireScopes$Play", "leaveLastWay", "(LHireScopes$Block;)V"⟩, 18) := ⟨⟨by decide +kernel, by decide +kernel⟩, List.mem_of_getElem? (i := 111) (by decide +kernel), List.mem_of_getElem? (i := 654) (by decide +kernel), List.mem_of_getElem? (i := 655) (by decide +kernel)⟩
theorem lw_p22 : lw_okq (⟨"HireScopes$Play", "beginWay", "(LHireScopes$Cast;LHireScopes$Block;I)V"⟩, 18) := ⟨⟨by decide +kernel, by decide +kernel⟩, List.mem_of_getElem? (i := 111) (by decide +kernel), List.mem_of_getElem? (i := 676) (by decide +kernel), List.mem_of_getElem? (i := 677) (by decide +kernel)⟩
theorem lw_p23 : lw_okq (⟨"HireScopes$Play", "step", "()Z"⟩, 18) := ⟨⟨by decide +kernel, by decide +kernel⟩, List.mem_of_getElem? (i := 111) (by decide +kernel), List.mem_of_getElem? (i := 680) (by decide +kernel), List.mem_of_getElem? (i := 681) (by decide +kernel)⟩
theorem lw_p24 : lw_okq (⟨"HireScopes$Play", "leaveWay", "(LHireScopes$Cast;LHireScopes$Block;)V"⟩, 18) := ⟨⟨by decide +kernel, by decide +kernel⟩, List.mem_of_getElem? (i := 111) (by decide +kernel), List.mem_of_getElem? (i := 688) (by decide +kernel), List.mem_of_getElem? (i := 689) (by decide +kernel)⟩
theorem lw_p25 : lw_okq (⟨"HireScopes$Play", "leaveAct", "()V"⟩, 18) := ⟨⟨by decide +kernel, by decide +kernel⟩, List.mem_of_getElem? (i := 111) (by decide +kernel), List.mem_of_getElem? (i := 696) (by decide +kernel), List.mem_of_getElem? (i := 697) (by decide +kernel)⟩
theorem lw_p26 : lw_okq (⟨"HireScopes$Play", "reachMark", "(LHireScopes$Cast;)V"⟩, 18) := ⟨⟨by decide +kernel, by decide +kernel⟩, List.mem_of_getElem? (i := 111) (by decide +kernel), List.mem_of_getElem? (i := 700) (by decide +kernel), List.mem_of_getElem? (i := 701) (by decide +kernel)⟩
theorem lw_p27 : lw_okq (⟨"HireScopes$Play", "endTurn", "(LHireScopes$Cast;LHireScopes$Block;)V"⟩, 18) := ⟨⟨by decide +kernel, by decide +kernel⟩, List.mem_of_getElem? (i := 111) (by decide +kernel), List.mem_of_getElem? (i := 704) (by decide +kernel), List.mem_of_getElem? (i := 705) (by decide +kernel)⟩
theorem lw_p28 : lw_okq (⟨"HireScopes$Play", "endLastWay", "(LHireScopes$Cast;LHireScopes$Block;)V"⟩, 18) := ⟨⟨by decide +kernel, by decide +kernel⟩, List.mem_of_getElem? (i := 111) (by decide +kernel), List.mem_of_getElem? (i := 708) (by decide +kernel), List.mem_of_getElem? (i := 709) (by decide +kernel)⟩
theorem lw_p29 : lw_okq (⟨"HireScopes$Play", "doLine", "(LHireScopes$Cast;I)V"⟩, 18) := ⟨⟨by decide +kernel, by decide +kernel⟩, List.mem_of_getElem? (i := 111) (by decide +kernel), List.mem_of_getElem? (i := 712) (by decide +kernel), List.mem_of_getElem? (i := 713) (by decide +kernel)⟩
theorem lw_p30 : lw_okq (⟨"HireScopes$Play", "borrow", "(LHireScopes$Cast;III)V"⟩, 18) := ⟨⟨by decide +kernel, by decide +kernel⟩, List.mem_of_getElem? (i := 111) (by decide +kernel), List.mem_of_getElem? (i := 721) (by decide +kernel), List.mem_of_getElem? (i := 722) (by decide +kernel)⟩
theorem lw_p31 : lw_okq (⟨"HireScopes$Play", "fail", "(LHireScopes$Cast;II)V"⟩, 18) := ⟨⟨by decide +kernel, by decide +kernel⟩, List.mem_of_getElem? (i := 111) (by decide +kernel), List.mem_of_getElem? (i := 726) (by decide +kernel), List.mem_of_getElem? (i := 727) (by decide +kernel)⟩
def lw_privs_2 : List (MethodName × Nat) := [(⟨"HireScopes$House", "toCleaning", "(LHireScopes$Part;)V"⟩, 9), (⟨"HireScopes$Play", "failAtEnd", "(LHireScopes$Scope;I)V"⟩, 18), (⟨"HireScopes$Play", "pop", "()V"⟩, 18), (⟨"HireScopes$Play", "leaveLoop", "(LHireScopes$Cast;LHireScopes$Block;)V"⟩, 18), (⟨"HireScopes$Play", "leaveTry", "(LHireScopes$Cast;LHireScopes$Block;)V"⟩, 18), (⟨"HireScopes$Play", "leaveLastWay", "(LHireScopes$Block;)V"⟩, 18), (⟨"HireScopes$Play", "beginWay", "(LHireScopes$Cast;LHireScopes$Block;I)V"⟩, 18), (⟨"HireScopes$Play", "step", "()Z"⟩, 18), (⟨"HireScopes$Play", "leaveWay", "(LHireScopes$Cast;LHireScopes$Block;)V"⟩, 18), (⟨"HireScopes$Play", "leaveAct", "()V"⟩, 18), (⟨"HireScopes$Play", "reachMark", "(LHireScopes$Cast;)V"⟩, 18), (⟨"HireScopes$Play", "endTurn", "(LHireScopes$Cast;LHireScopes$Block;)V"⟩, 18), (⟨"HireScopes$Play", "endLastWay", "(LHireScopes$Cast;LHireScopes$Block;)V"⟩, 18), (⟨"HireScopes$Play", "doLine", "(LHireScopes$Cast;I)V"⟩, 18), (⟨"HireScopes$Play", "borrow", "(LHireScopes$Cast;III)V"⟩, 18), (⟨"HireScopes$Play", "fail", "(LHireScopes$Cast;II)V"⟩, 18)]
theorem lw_r2 : ∀ q ∈ lw_privs_2, lw_okq q := List.forall_mem_cons.mpr ⟨lw_p16, List.forall_mem_cons.mpr ⟨lw_p17, List.forall_mem_cons.mpr ⟨lw_p18, List.forall_mem_cons.mpr ⟨lw_p19, List.forall_mem_cons.mpr ⟨lw_p20, List.forall_mem_cons.mpr ⟨lw_p21, List.forall_mem_cons.mpr ⟨lw_p22, List.forall_mem_cons.mpr ⟨lw_p23, List.forall_mem_cons.mpr ⟨lw_p24, List.forall_mem_cons.mpr ⟨lw_p25, List.forall_mem_cons.mpr ⟨lw_p26, List.forall_mem_cons.mpr ⟨lw_p27, List.forall_mem_cons.mpr ⟨lw_p28, List.forall_mem_cons.mpr ⟨lw_p29, List.forall_mem_cons.mpr ⟨lw_p30, List.forall_mem_cons.mpr ⟨lw_p31, fun _ h => absurd h List.not_mem_nil⟩⟩⟩⟩⟩⟩⟩⟩⟩⟩⟩⟩⟩⟩⟩⟩
theorem lw_p32 : lw_okq (⟨"HireScopes$Play", "hire", "(LHireScopes$Cast;ILHireScopes$Part;I)V"⟩, 18) := ⟨⟨by decide +kernel, by decide +kernel⟩, List.mem_of_getElem? (i := 111) (by decide +kernel), List.mem_of_getElem? (i := 730) (by decide +kernel), List.mem_of_getElem? (i := 731) (by decide +kernel)⟩
theorem lw_p33 : lw_okq (⟨"HireScopes$Play", "makeLoan", "(LHireScopes$Cast;ILHireScopes$Part;ILHireScopes$Loan;)V"⟩, 18) := ⟨⟨by decide +kernel, by decide +kernel⟩, List.mem_of_getElem? (i := 111) (by decide +kernel), List.mem_of_getElem? (i := 738) (by decide +kernel), List.mem_of_getElem? (i := 739) (by decide +kernel)⟩
theorem lw_p34 : lw_okq (⟨"HireScopes$Play", "take", "(LHireScopes$Cast;II)V"⟩, 18) := ⟨⟨by decide +kernel, by decide +kernel⟩, List.mem_of_getElem? (i := 111) (by decide +kernel), List.mem_of_getElem? (i := 761) (by decide +kernel), List.mem_of_getElem? (i := 762) (by decide +kernel)⟩
theorem lw_p35 : lw_okq (⟨"HireScopes$Play", "use", "(LHireScopes$Cast;LHireScopes$Loan;)V"⟩, 18) := ⟨⟨by decide +kernel, by decide +kernel⟩, List.mem_of_getElem? (i := 111) (by decide +kernel), List.mem_of_getElem? (i := 773) (by decide +kernel), List.mem_of_getElem? (i := 774) (by decide +kernel)⟩
theorem lw_p36 : lw_okq (⟨"HireScopes$Play", "bringBack", "(LHireScopes$Cast;LHireScopes$Loan;)V"⟩, 18) := ⟨⟨by decide +kernel, by decide +kernel⟩, List.mem_of_getElem? (i := 111) (by decide +kernel), List.mem_of_getElem? (i := 781) (by decide +kernel), List.mem_of_getElem? (i := 782) (by decide +kernel)⟩
theorem lw_p37 : lw_okq (⟨"HireScopes$Play", "lendOn", "(LHireScopes$Cast;LHireScopes$Loan;I)V"⟩, 18) := ⟨⟨by decide +kernel, by decide +kernel⟩, List.mem_of_getElem? (i := 111) (by decide +kernel), List.mem_of_getElem? (i := 785) (by decide +kernel), List.mem_of_getElem? (i := 786) (by decide +kernel)⟩
theorem lw_p38 : lw_okq (⟨"HireScopes$Play", "passOn", "(LHireScopes$Cast;LHireScopes$Loan;I)V"⟩, 18) := ⟨⟨by decide +kernel, by decide +kernel⟩, List.mem_of_getElem? (i := 111) (by decide +kernel), List.mem_of_getElem? (i := 789) (by decide +kernel), List.mem_of_getElem? (i := 790) (by decide +kernel)⟩
theorem lw_p39 : lw_okq (⟨"HireScopes$Play", "callAct", "(LHireScopes$Cast;ILHireScopes$Loan;)V"⟩, 18) := ⟨⟨by decide +kernel, by decide +kernel⟩, List.mem_of_getElem? (i := 111) (by decide +kernel), List.mem_of_getElem? (i := 793) (by decide +kernel), List.mem_of_getElem? (i := 794) (by decide +kernel)⟩
theorem lw_p40 : lw_okq (⟨"HireScopes$Play", "beginBlock", "(LHireScopes$Cast;II)V"⟩, 18) := ⟨⟨by decide +kernel, by decide +kernel⟩, List.mem_of_getElem? (i := 111) (by decide +kernel), List.mem_of_getElem? (i := 798) (by decide +kernel), List.mem_of_getElem? (i := 799) (by decide +kernel)⟩
theorem lw_p41 : lw_okq (⟨"HireScopes$Play", "spend", "()V"⟩, 18) := ⟨⟨by decide +kernel, by decide +kernel⟩, List.mem_of_getElem? (i := 111) (by decide +kernel), List.mem_of_getElem? (i := 802) (by decide +kernel), List.mem_of_getElem? (i := 803) (by decide +kernel)⟩
theorem lw_p42 : lw_okq (⟨"HireScopesModel", "noPart", "(I)Z"⟩, 68) := ⟨⟨by decide +kernel, by decide +kernel⟩, List.mem_of_getElem? (i := 862) (by decide +kernel), List.mem_of_getElem? (i := 1087) (by decide +kernel), List.mem_of_getElem? (i := 1088) (by decide +kernel)⟩
theorem lw_p43 : lw_okq (⟨"HireScopesModel", "noAct", "(I)Z"⟩, 68) := ⟨⟨by decide +kernel, by decide +kernel⟩, List.mem_of_getElem? (i := 862) (by decide +kernel), List.mem_of_getElem? (i := 1117) (by decide +kernel), List.mem_of_getElem? (i := 1118) (by decide +kernel)⟩
theorem lw_p44 : lw_okq (⟨"HireScopesModel", "judge", "(I)V"⟩, 68) := ⟨⟨by decide +kernel, by decide +kernel⟩, List.mem_of_getElem? (i := 862) (by decide +kernel), List.mem_of_getElem? (i := 1129) (by decide +kernel), List.mem_of_getElem? (i := 1130) (by decide +kernel)⟩
theorem lw_p45 : lw_okq (⟨"HireScopesModel", "beginAct", "(II)V"⟩, 68) := ⟨⟨by decide +kernel, by decide +kernel⟩, List.mem_of_getElem? (i := 862) (by decide +kernel), List.mem_of_getElem? (i := 1151) (by decide +kernel), List.mem_of_getElem? (i := 1152) (by decide +kernel)⟩
theorem lw_p46 : lw_okq (⟨"HireScopesModel", "begin", "(III)V"⟩, 68) := ⟨⟨by decide +kernel, by decide +kernel⟩, List.mem_of_getElem? (i := 862) (by decide +kernel), List.mem_of_getElem? (i := 1155) (by decide +kernel), List.mem_of_getElem? (i := 1156) (by decide +kernel)⟩
theorem lw_p47 : lw_okq (⟨"HireScopesModel", "goTo", "(I)V"⟩, 68) := ⟨⟨by decide +kernel, by decide +kernel⟩, List.mem_of_getElem? (i := 862) (by decide +kernel), List.mem_of_getElem? (i := 1159) (by decide +kernel), List.mem_of_getElem? (i := 1160) (by decide +kernel)⟩
def lw_privs_3 : List (MethodName × Nat) := [(⟨"HireScopes$Play", "hire", "(LHireScopes$Cast;ILHireScopes$Part;I)V"⟩, 18), (⟨"HireScopes$Play", "makeLoan", "(LHireScopes$Cast;ILHireScopes$Part;ILHireScopes$Loan;)V"⟩, 18), (⟨"HireScopes$Play", "take", "(LHireScopes$Cast;II)V"⟩, 18), (⟨"HireScopes$Play", "use", "(LHireScopes$Cast;LHireScopes$Loan;)V"⟩, 18), (⟨"HireScopes$Play", "bringBack", "(LHireScopes$Cast;LHireScopes$Loan;)V"⟩, 18), (⟨"HireScopes$Play", "lendOn", "(LHireScopes$Cast;LHireScopes$Loan;I)V"⟩, 18), (⟨"HireScopes$Play", "passOn", "(LHireScopes$Cast;LHireScopes$Loan;I)V"⟩, 18), (⟨"HireScopes$Play", "callAct", "(LHireScopes$Cast;ILHireScopes$Loan;)V"⟩, 18), (⟨"HireScopes$Play", "beginBlock", "(LHireScopes$Cast;II)V"⟩, 18), (⟨"HireScopes$Play", "spend", "()V"⟩, 18), (⟨"HireScopesModel", "noPart", "(I)Z"⟩, 68), (⟨"HireScopesModel", "noAct", "(I)Z"⟩, 68), (⟨"HireScopesModel", "judge", "(I)V"⟩, 68), (⟨"HireScopesModel", "beginAct", "(II)V"⟩, 68), (⟨"HireScopesModel", "begin", "(III)V"⟩, 68), (⟨"HireScopesModel", "goTo", "(I)V"⟩, 68)]
theorem lw_r3 : ∀ q ∈ lw_privs_3, lw_okq q := List.forall_mem_cons.mpr ⟨lw_p32, List.forall_mem_cons.mpr ⟨lw_p33, List.forall_mem_cons.mpr ⟨lw_p34, List.forall_mem_cons.mpr ⟨lw_p35, List.forall_mem_cons.mpr ⟨lw_p36, List.forall_mem_cons.mpr ⟨lw_p37, List.forall_mem_cons.mpr ⟨lw_p38, List.forall_mem_cons.mpr ⟨lw_p39, List.forall_mem_cons.mpr ⟨lw_p40, List.forall_mem_cons.mpr ⟨lw_p41, List.forall_mem_cons.mpr ⟨lw_p42, List.forall_mem_cons.mpr ⟨lw_p43, List.forall_mem_cons.mpr ⟨lw_p44, List.forall_mem_cons.mpr ⟨lw_p45, List.forall_mem_cons.mpr ⟨lw_p46, List.forall_mem_cons.mpr ⟨lw_p47, fun _ h => absurd h List.not_mem_nil⟩⟩⟩⟩⟩⟩⟩⟩⟩⟩⟩⟩⟩⟩⟩⟩
theorem lw_p48 : lw_okq (⟨"HireScopesModel", "beginScope", "(I)V"⟩, 68) := ⟨⟨by decide +kernel, by decide +kernel⟩, List.mem_of_getElem? (i := 862) (by decide +kernel), List.mem_of_getElem? (i := 1163) (by decide +kernel), List.mem_of_getElem? (i := 1164) (by decide +kernel)⟩
theorem lw_p49 : lw_okq (⟨"HireScopesModel", "goOn", "()V"⟩, 68) := ⟨⟨by decide +kernel, by decide +kernel⟩, List.mem_of_getElem? (i := 862) (by decide +kernel), List.mem_of_getElem? (i := 1167) (by decide +kernel), List.mem_of_getElem? (i := 1168) (by decide +kernel)⟩
theorem lw_p50 : lw_okq (⟨"HireScopesModel", "endBlock", "(I)V"⟩, 68) := ⟨⟨by decide +kernel, by decide +kernel⟩, List.mem_of_getElem? (i := 862) (by decide +kernel), List.mem_of_getElem? (i := 1171) (by decide +kernel), List.mem_of_getElem? (i := 1172) (by decide +kernel)⟩
theorem lw_p51 : lw_okq (⟨"HireScopesModel", "endScope", "()V"⟩, 68) := ⟨⟨by decide +kernel, by decide +kernel⟩, List.mem_of_getElem? (i := 862) (by decide +kernel), List.mem_of_getElem? (i := 1175) (by decide +kernel), List.mem_of_getElem? (i := 1176) (by decide +kernel)⟩
theorem lw_p52 : lw_okq (⟨"HireScopesModel", "lastOf", "(I)I"⟩, 68) := ⟨⟨by decide +kernel, by decide +kernel⟩, List.mem_of_getElem? (i := 862) (by decide +kernel), List.mem_of_getElem? (i := 1179) (by decide +kernel), List.mem_of_getElem? (i := 1180) (by decide +kernel)⟩
theorem lw_p53 : lw_okq (⟨"HireScopesModel", "giveBack", "(II)Z"⟩, 68) := ⟨⟨by decide +kernel, by decide +kernel⟩, List.mem_of_getElem? (i := 862) (by decide +kernel), List.mem_of_getElem? (i := 1183) (by decide +kernel), List.mem_of_getElem? (i := 1184) (by decide +kernel)⟩
theorem lw_p54 : lw_okq (⟨"HireScopesModel", "comesBack", "(III)Z"⟩, 68) := ⟨⟨by decide +kernel, by decide +kernel⟩, List.mem_of_getElem? (i := 862) (by decide +kernel), List.mem_of_getElem? (i := 1187) (by decide +kernel), List.mem_of_getElem? (i := 1188) (by decide +kernel)⟩
theorem lw_p55 : lw_okq (⟨"HireScopesModel", "meets", "(II)Z"⟩, 68) := ⟨⟨by decide +kernel, by decide +kernel⟩, List.mem_of_getElem? (i := 862) (by decide +kernel), List.mem_of_getElem? (i := 1191) (by decide +kernel), List.mem_of_getElem? (i := 1192) (by decide +kernel)⟩
theorem lw_p56 : lw_okq (⟨"HireScopesModel", "spend", "()V"⟩, 68) := ⟨⟨by decide +kernel, by decide +kernel⟩, List.mem_of_getElem? (i := 862) (by decide +kernel), List.mem_of_getElem? (i := 1195) (by decide +kernel), List.mem_of_getElem? (i := 1196) (by decide +kernel)⟩
theorem lw_p57 : lw_okq (⟨"HireScopesModel", "newFailure", "(III)I"⟩, 68) := ⟨⟨by decide +kernel, by decide +kernel⟩, List.mem_of_getElem? (i := 862) (by decide +kernel), List.mem_of_getElem? (i := 1199) (by decide +kernel), List.mem_of_getElem? (i := 1200) (by decide +kernel)⟩
theorem lw_p58 : lw_okq (⟨"HireScopesModel", "step", "()Z"⟩, 68) := ⟨⟨by decide +kernel, by decide +kernel⟩, List.mem_of_getElem? (i := 862) (by decide +kernel), List.mem_of_getElem? (i := 1203) (by decide +kernel), List.mem_of_getElem? (i := 1204) (by decide +kernel)⟩
theorem lw_p59 : lw_okq (⟨"HireScopesModel", "leaveTry", "()V"⟩, 68) := ⟨⟨by decide +kernel, by decide +kernel⟩, List.mem_of_getElem? (i := 862) (by decide +kernel), List.mem_of_getElem? (i := 1207) (by decide +kernel), List.mem_of_getElem? (i := 1208) (by decide +kernel)⟩
theorem lw_p60 : lw_okq (⟨"HireScopesModel", "finishOf", "(II)I"⟩, 68) := ⟨⟨by decide +kernel, by decide +kernel⟩, List.mem_of_getElem? (i := 862) (by decide +kernel), List.mem_of_getElem? (i := 1211) (by decide +kernel), List.mem_of_getElem? (i := 1212) (by decide +kernel)⟩
theorem lw_p61 : lw_okq (⟨"HireScopesModel", "behind", "(II)I"⟩, 68) := ⟨⟨by decide +kernel, by decide +kernel⟩, List.mem_of_getElem? (i := 862) (by decide +kernel), List.mem_of_getElem? (i := 1215) (by decide +kernel), List.mem_of_getElem? (i := 1216) (by decide +kernel)⟩
theorem lw_p62 : lw_okq (⟨"HireScopesModel", "endOf", "(II)I"⟩, 68) := ⟨⟨by decide +kernel, by decide +kernel⟩, List.mem_of_getElem? (i := 862) (by decide +kernel), List.mem_of_getElem? (i := 1219) (by decide +kernel), List.mem_of_getElem? (i := 1220) (by decide +kernel)⟩
theorem lw_p63 : lw_okq (⟨"HireScopesModel", "doLine", "(II)V"⟩, 68) := ⟨⟨by decide +kernel, by decide +kernel⟩, List.mem_of_getElem? (i := 862) (by decide +kernel), List.mem_of_getElem? (i := 1223) (by decide +kernel), List.mem_of_getElem? (i := 1224) (by decide +kernel)⟩
def lw_privs_4 : List (MethodName × Nat) := [(⟨"HireScopesModel", "beginScope", "(I)V"⟩, 68), (⟨"HireScopesModel", "goOn", "()V"⟩, 68), (⟨"HireScopesModel", "endBlock", "(I)V"⟩, 68), (⟨"HireScopesModel", "endScope", "()V"⟩, 68), (⟨"HireScopesModel", "lastOf", "(I)I"⟩, 68), (⟨"HireScopesModel", "giveBack", "(II)Z"⟩, 68), (⟨"HireScopesModel", "comesBack", "(III)Z"⟩, 68), (⟨"HireScopesModel", "meets", "(II)Z"⟩, 68), (⟨"HireScopesModel", "spend", "()V"⟩, 68), (⟨"HireScopesModel", "newFailure", "(III)I"⟩, 68), (⟨"HireScopesModel", "step", "()Z"⟩, 68), (⟨"HireScopesModel", "leaveTry", "()V"⟩, 68), (⟨"HireScopesModel", "finishOf", "(II)I"⟩, 68), (⟨"HireScopesModel", "behind", "(II)I"⟩, 68), (⟨"HireScopesModel", "endOf", "(II)I"⟩, 68), (⟨"HireScopesModel", "doLine", "(II)V"⟩, 68)]
theorem lw_r4 : ∀ q ∈ lw_privs_4, lw_okq q := List.forall_mem_cons.mpr ⟨lw_p48, List.forall_mem_cons.mpr ⟨lw_p49, List.forall_mem_cons.mpr ⟨lw_p50, List.forall_mem_cons.mpr ⟨lw_p51, List.forall_mem_cons.mpr ⟨lw_p52, List.forall_mem_cons.mpr ⟨lw_p53, List.forall_mem_cons.mpr ⟨lw_p54, List.forall_mem_cons.mpr ⟨lw_p55, List.forall_mem_cons.mpr ⟨lw_p56, List.forall_mem_cons.mpr ⟨lw_p57, List.forall_mem_cons.mpr ⟨lw_p58, List.forall_mem_cons.mpr ⟨lw_p59, List.forall_mem_cons.mpr ⟨lw_p60, List.forall_mem_cons.mpr ⟨lw_p61, List.forall_mem_cons.mpr ⟨lw_p62, List.forall_mem_cons.mpr ⟨lw_p63, fun _ h => absurd h List.not_mem_nil⟩⟩⟩⟩⟩⟩⟩⟩⟩⟩⟩⟩⟩⟩⟩⟩
theorem lw_p64 : lw_okq (⟨"HireScopesModel", "fail", "(III)V"⟩, 68) := ⟨⟨by decide +kernel, by decide +kernel⟩, List.mem_of_getElem? (i := 862) (by decide +kernel), List.mem_of_getElem? (i := 1227) (by decide +kernel), List.mem_of_getElem? (i := 1228) (by decide +kernel)⟩
theorem lw_p65 : lw_okq (⟨"HireScopesModel", "newLoan", "(III)I"⟩, 68) := ⟨⟨by decide +kernel, by decide +kernel⟩, List.mem_of_getElem? (i := 862) (by decide +kernel), List.mem_of_getElem? (i := 1231) (by decide +kernel), List.mem_of_getElem? (i := 1232) (by decide +kernel)⟩
theorem lw_p66 : lw_okq (⟨"HireScopesModel", "innermost", "(I)I"⟩, 68) := ⟨⟨by decide +kernel, by decide +kernel⟩, List.mem_of_getElem? (i := 862) (by decide +kernel), List.mem_of_getElem? (i := 1235) (by decide +kernel), List.mem_of_getElem? (i := 1236) (by decide +kernel)⟩
theorem lw_p67 : lw_okq (⟨"HireScopesModel", "trace", "(I)V"⟩, 68) := ⟨⟨by decide +kernel, by decide +kernel⟩, List.mem_of_getElem? (i := 862) (by decide +kernel), List.mem_of_getElem? (i := 1239) (by decide +kernel), List.mem_of_getElem? (i := 1240) (by decide +kernel)⟩
theorem lw_p68 : lw_okq (⟨"HireScopesModel", "doSlot", "(IIIII)V"⟩, 68) := ⟨⟨by decide +kernel, by decide +kernel⟩, List.mem_of_getElem? (i := 862) (by decide +kernel), List.mem_of_getElem? (i := 1243) (by decide +kernel), List.mem_of_getElem? (i := 1244) (by decide +kernel)⟩
theorem lw_p69 : lw_okq (⟨"HireScopesModel", "hasOpen", "(I)Z"⟩, 68) := ⟨⟨by decide +kernel, by decide +kernel⟩, List.mem_of_getElem? (i := 862) (by decide +kernel), List.mem_of_getElem? (i := 1247) (by decide +kernel), List.mem_of_getElem? (i := 1248) (by decide +kernel)⟩
theorem lw_p70 : lw_okq (⟨"HireScopesModel", "unwind", "()V"⟩, 68) := ⟨⟨by decide +kernel, by decide +kernel⟩, List.mem_of_getElem? (i := 862) (by decide +kernel), List.mem_of_getElem? (i := 1251) (by decide +kernel), List.mem_of_getElem? (i := 1252) (by decide +kernel)⟩
theorem lw_p71 : lw_okq (⟨"HireScopesModel", "outOfTry", "()V"⟩, 68) := ⟨⟨by decide +kernel, by decide +kernel⟩, List.mem_of_getElem? (i := 862) (by decide +kernel), List.mem_of_getElem? (i := 1255) (by decide +kernel), List.mem_of_getElem? (i := 1256) (by decide +kernel)⟩
theorem lw_p72 : lw_okq (⟨"HireScopesModel", "guardOf", "(II)I"⟩, 68) := ⟨⟨by decide +kernel, by decide +kernel⟩, List.mem_of_getElem? (i := 862) (by decide +kernel), List.mem_of_getElem? (i := 1259) (by decide +kernel), List.mem_of_getElem? (i := 1260) (by decide +kernel)⟩
theorem lw_p73 : lw_okq (⟨"HireScopesModel", "endAct", "()V"⟩, 68) := ⟨⟨by decide +kernel, by decide +kernel⟩, List.mem_of_getElem? (i := 862) (by decide +kernel), List.mem_of_getElem? (i := 1269) (by decide +kernel), List.mem_of_getElem? (i := 1270) (by decide +kernel)⟩
theorem lw_p74 : lw_okq (⟨"HireScopesModel", "findAct", "()V"⟩, 68) := ⟨⟨by decide +kernel, by decide +kernel⟩, List.mem_of_getElem? (i := 862) (by decide +kernel), List.mem_of_getElem? (i := 1273) (by decide +kernel), List.mem_of_getElem? (i := 1274) (by decide +kernel)⟩
def lw_privs_5 : List (MethodName × Nat) := [(⟨"HireScopesModel", "fail", "(III)V"⟩, 68), (⟨"HireScopesModel", "newLoan", "(III)I"⟩, 68), (⟨"HireScopesModel", "innermost", "(I)I"⟩, 68), (⟨"HireScopesModel", "trace", "(I)V"⟩, 68), (⟨"HireScopesModel", "doSlot", "(IIIII)V"⟩, 68), (⟨"HireScopesModel", "hasOpen", "(I)Z"⟩, 68), (⟨"HireScopesModel", "unwind", "()V"⟩, 68), (⟨"HireScopesModel", "outOfTry", "()V"⟩, 68), (⟨"HireScopesModel", "guardOf", "(II)I"⟩, 68), (⟨"HireScopesModel", "endAct", "()V"⟩, 68), (⟨"HireScopesModel", "findAct", "()V"⟩, 68)]
theorem lw_r5 : ∀ q ∈ lw_privs_5, lw_okq q := List.forall_mem_cons.mpr ⟨lw_p64, List.forall_mem_cons.mpr ⟨lw_p65, List.forall_mem_cons.mpr ⟨lw_p66, List.forall_mem_cons.mpr ⟨lw_p67, List.forall_mem_cons.mpr ⟨lw_p68, List.forall_mem_cons.mpr ⟨lw_p69, List.forall_mem_cons.mpr ⟨lw_p70, List.forall_mem_cons.mpr ⟨lw_p71, List.forall_mem_cons.mpr ⟨lw_p72, List.forall_mem_cons.mpr ⟨lw_p73, List.forall_mem_cons.mpr ⟨lw_p74, fun _ h => absurd h List.not_mem_nil⟩⟩⟩⟩⟩⟩⟩⟩⟩⟩⟩
def lw_privs : List (MethodName × Nat) := lw_privs_1 ++ (lw_privs_2 ++ (lw_privs_3 ++ (lw_privs_4 ++ (lw_privs_5))))
def lw_tbl : List Cond := k2_sels lw_privs ++ tables_1
theorem lw_privs_ok : ∀ q ∈ lw_privs, lw_okq q := by
  show ∀ q ∈ lw_privs_1 ++ (lw_privs_2 ++ (lw_privs_3 ++ (lw_privs_4 ++ (lw_privs_5)))), lw_okq q
  exact List.forall_mem_append.mpr ⟨lw_r1, List.forall_mem_append.mpr ⟨lw_r2, List.forall_mem_append.mpr ⟨lw_r3, List.forall_mem_append.mpr ⟨lw_r4, lw_r5⟩⟩⟩⟩
end
section
def RX0 : String := "HireScopes$Block"
def TX0 : u_T := fun k => match k with
  | 0 => ("HireScopes$Block", "op", "I", false)
  | 1 => ("HireScopes$Block", "line", "I", false)
  | 2 => ("HireScopes$Block", "turnsLeft", "I", false)
  | 3 => ("HireScopes$Block", "phase", "I", false)
  | 4 => ("HireScopes$Block", "guarded", "I", false)
  | 5 => ("HireScopes$Block", "kept", "I", false)
  | _ => ("HireScopes$Block", "keptFailure", "I", false)
def tyX0 : Nat → FieldType := fun k => match k with
  | 0 => .int
  | 1 => .int
  | 2 => .int
  | 3 => .int
  | 4 => .int
  | 5 => .int
  | _ => .int
abbrev wsX00 : List Cond := u_ws RX0 TX0 7
theorem nmX0 : ∀ a, a < 7 → ∀ b, b < 7 → a ≠ b → (TX0 a).2.1 ≠ (TX0 b).2.1 := by decide +kernel
theorem tyX0_ok : ∀ k, k < 7 → parseFieldDescriptor (TX0 k).2.2.1 = some (tyX0 k) := by decide +kernel
abbrev cX0_init : ByteArray := prog_2_method_1_code
def yX0_init : MethodName := ⟨RX0, "<init>", "()V"⟩
abbrev cX0_begin : ByteArray := prog_2_method_2_code
def yX0_begin : MethodName := ⟨RX0, "begin", "(III)V"⟩
def RX1 : String := "HireScopes$Cast"
def TX1 : u_T := fun k => match k with
  | 0 => ("HireScopes$Cast", "script", "LHireScopes$Script;", false)
  | 1 => ("HireScopes$Cast", "number", "I", false)
  | 2 => ("HireScopes$Cast", "at", "I", false)
  | _ => ("HireScopes$Cast", "slots", "[LHireScopes$Loan;", true)
def tyX1 : Nat → FieldType := fun k => match k with
  | 0 => .object "HireScopes$Script"
  | 1 => .int
  | 2 => .int
  | _ => .array (.object "HireScopes$Loan")
abbrev wsX10 : List Cond := u_ws RX1 TX1 4
theorem nmX1 : ∀ a, a < 4 → ∀ b, b < 4 → a ≠ b → (TX1 a).2.1 ≠ (TX1 b).2.1 := by decide +kernel
theorem tyX1_ok : ∀ k, k < 4 → parseFieldDescriptor (TX1 k).2.2.1 = some (tyX1 k) := by decide +kernel
abbrev cX1_init : ByteArray := prog_3_method_1_code
def yX1_init : MethodName := ⟨RX1, "<init>", "(LHireScopes$Script;)V"⟩
abbrev cX1_begin : ByteArray := prog_3_method_2_code
def yX1_begin : MethodName := ⟨RX1, "begin", "(LHireScopes$Script;ILHireScopes$Loan;)V"⟩
abbrev cX1_in : ByteArray := prog_3_method_3_code
def yX1_in : MethodName := ⟨RX1, "in", "(I)LHireScopes$Loan;"⟩
abbrev cX1_put : ByteArray := prog_3_method_4_code
def yX1_put : MethodName := ⟨RX1, "put", "(ILHireScopes$Loan;)V"⟩
def RX2 : String := "HireScopes$Failures"
def TX2 : u_T := fun k => match k with
  | 0 => ("HireScopes$Failures", "kinds", "[I", true)
  | 1 => ("HireScopes$Failures", "acts", "[I", true)
  | 2 => ("HireScopes$Failures", "lines", "[I", true)
  | 3 => ("HireScopes$Failures", "parts", "[I", true)
  | 4 => ("HireScopes$Failures", "causes", "[I", true)
  | 5 => ("HireScopes$Failures", "unders", "[I", true)
  | _ => ("HireScopes$Failures", "count", "I", false)
def tyX2 : Nat → FieldType := fun k => match k with
  | 0 => .array .int
  | 1 => .array .int
  | 2 => .array .int
  | 3 => .array .int
  | 4 => .array .int
  | 5 => .array .int
  | _ => .int
abbrev wsX20 : List Cond := u_ws RX2 TX2 7
theorem nmX2 : ∀ a, a < 7 → ∀ b, b < 7 → a ≠ b → (TX2 a).2.1 ≠ (TX2 b).2.1 := by decide +kernel
theorem tyX2_ok : ∀ k, k < 7 → parseFieldDescriptor (TX2 k).2.2.1 = some (tyX2 k) := by decide +kernel
abbrev cX2_init : ByteArray := prog_4_method_1_code
def yX2_init : MethodName := ⟨RX2, "<init>", "()V"⟩
abbrev cX2_add : ByteArray := prog_4_method_2_code
def yX2_add : MethodName := ⟨RX2, "add", "(IIII)I"⟩
abbrev cX2_kindOf : ByteArray := prog_4_method_3_code
def yX2_kindOf : MethodName := ⟨RX2, "kindOf", "(I)I"⟩
abbrev cX2_giveCause : ByteArray := prog_4_method_4_code
def yX2_giveCause : MethodName := ⟨RX2, "giveCause", "(II)V"⟩
abbrev cX2_suppress : ByteArray := prog_4_method_5_code
def yX2_suppress : MethodName := ⟨RX2, "suppress", "(II)V"⟩
abbrev cX2_told : ByteArray := prog_4_method_6_code
def yX2_told : MethodName := ⟨RX2, "told", "(II)I"⟩
def RX3 : String := "HireScopes$House"
def TX3 : u_T := fun k => match k with
  | 0 => ("HireScopes$House", "parts", "[LHireScopes$Part;", true)
  | 1 => ("HireScopes$House", "partCount", "I", false)
  | 2 => ("HireScopes$House", "cleaning", "[I", true)
  | 3 => ("HireScopes$House", "cleaningCount", "I", false)
  | 4 => ("HireScopes$House", "held", "[I", true)
  | 5 => ("HireScopes$House", "heldCount", "I", false)
  | 6 => ("HireScopes$House", "charged", "[J", true)
  | 7 => ("HireScopes$House", "plans", "LHireScopes$Plans;", true)
  | _ => ("HireScopes$House", "log", "LHireScopes$Log;", true)
def tyX3 : Nat → FieldType := fun k => match k with
  | 0 => .array (.object "HireScopes$Part")
  | 1 => .int
  | 2 => .array .int
  | 3 => .int
  | 4 => .array .int
  | 5 => .int
  | 6 => .array .long
  | 7 => .object "HireScopes$Plans"
  | _ => .object "HireScopes$Log"
abbrev wsX30 : List Cond := u_ws RX3 TX3 9
theorem nmX3 : ∀ a, a < 9 → ∀ b, b < 9 → a ≠ b → (TX3 a).2.1 ≠ (TX3 b).2.1 := by decide +kernel
theorem tyX3_ok : ∀ k, k < 9 → parseFieldDescriptor (TX3 k).2.2.1 = some (tyX3 k) := by decide +kernel
abbrev cX3_init : ByteArray := prog_5_method_1_code
def yX3_init : MethodName := ⟨RX3, "<init>", "()V"⟩
abbrev cX3_find : ByteArray := prog_5_method_2_code
def yX3_find : MethodName := ⟨RX3, "find", "(I)LHireScopes$Part;"⟩
abbrev cX3_findHeld : ByteArray := prog_5_method_3_code
def yX3_findHeld : MethodName := ⟨RX3, "findHeld", "(I)LHireScopes$Part;"⟩
abbrev cX3_inCleaning : ByteArray := prog_5_method_4_code
def yX3_inCleaning : MethodName := ⟨RX3, "inCleaning", "(I)I"⟩
abbrev cX3_takeIn : ByteArray := prog_5_method_5_code
def yX3_takeIn : MethodName := ⟨RX3, "takeIn", "(II)I"⟩
abbrev cX3_firstOnRack : ByteArray := prog_5_method_6_code
def yX3_firstOnRack : MethodName := ⟨RX3, "firstOnRack", "(I)LHireScopes$Part;"⟩
abbrev cX3_cleanFirst : ByteArray := prog_5_method_7_code
def yX3_cleanFirst : MethodName := ⟨RX3, "cleanFirst", "(I)I"⟩
abbrev cX3_giveOut : ByteArray := prog_5_method_8_code
def yX3_giveOut : MethodName := ⟨RX3, "giveOut", "(LHireScopes$Part;IZ)V"⟩
abbrev cX3_takeBack : ByteArray := prog_5_method_9_code
def yX3_takeBack : MethodName := ⟨RX3, "takeBack", "(LHireScopes$Part;I)Z"⟩
abbrev cX3_charge : ByteArray := prog_5_method_10_code
def yX3_charge : MethodName := ⟨RX3, "charge", "(LHireScopes$Part;)V"⟩
abbrev cX3_toCleaning : ByteArray := prog_5_method_11_code
def yX3_toCleaning : MethodName := ⟨RX3, "toCleaning", "(LHireScopes$Part;)V"⟩
abbrev cX3_holdNoMore : ByteArray := prog_5_method_12_code
def yX3_holdNoMore : MethodName := ⟨RX3, "holdNoMore", "(LHireScopes$Part;)V"⟩
abbrev cX3_deposit : ByteArray := prog_5_method_13_code
def yX3_deposit : MethodName := ⟨RX3, "deposit", "(I)J"⟩
def RX4 : String := "HireScopes$Loan"
def TX4 : u_T := fun k => match k with
  | 0 => ("HireScopes$Loan", "part", "LHireScopes$Part;", false)
  | 1 => ("HireScopes$Loan", "sort", "I", false)
  | 2 => ("HireScopes$Loan", "open", "Z", false)
  | 3 => ("HireScopes$Loan", "parent", "LHireScopes$Loan;", false)
  | 4 => ("HireScopes$Loan", "sub", "LHireScopes$Loan;", false)
  | 5 => ("HireScopes$Loan", "scope", "LHireScopes$Scope;", false)
  | 6 => ("HireScopes$Loan", "before", "LHireScopes$Loan;", false)
  | _ => ("HireScopes$Loan", "behind", "LHireScopes$Loan;", false)
def tyX4 : Nat → FieldType := fun k => match k with
  | 0 => .object "HireScopes$Part"
  | 1 => .int
  | 2 => .boolean
  | 3 => .object "HireScopes$Loan"
  | 4 => .object "HireScopes$Loan"
  | 5 => .object "HireScopes$Scope"
  | 6 => .object "HireScopes$Loan"
  | _ => .object "HireScopes$Loan"
abbrev wsX40 : List Cond := u_ws RX4 TX4 8
theorem nmX4 : ∀ a, a < 8 → ∀ b, b < 8 → a ≠ b → (TX4 a).2.1 ≠ (TX4 b).2.1 := by decide +kernel
theorem tyX4_ok : ∀ k, k < 8 → parseFieldDescriptor (TX4 k).2.2.1 = some (tyX4 k) := by decide +kernel
abbrev cX4_init : ByteArray := prog_6_method_1_code
def yX4_init : MethodName := ⟨RX4, "<init>", "()V"⟩
abbrev cX4_begin : ByteArray := prog_6_method_2_code
def yX4_begin : MethodName := ⟨RX4, "begin", "(LHireScopes$Part;ILHireScopes$Loan;)V"⟩
abbrev cX4_moveTo : ByteArray := prog_6_method_3_code
def yX4_moveTo : MethodName := ⟨RX4, "moveTo", "(LHireScopes$Scope;)V"⟩
abbrev cX4_close : ByteArray := prog_6_method_4_code
def yX4_close : MethodName := ⟨RX4, "close", "()V"⟩
abbrev cX4_leaveScope : ByteArray := prog_6_method_5_code
def yX4_leaveScope : MethodName := ⟨RX4, "leaveScope", "()V"⟩
def RX5 : String := "HireScopes$Log"
def TX5 : u_T := fun k => match k with
  | 0 => ("HireScopes$Log", "parts", "[I", true)
  | 1 => ("HireScopes$Log", "hows", "[I", true)
  | 2 => ("HireScopes$Log", "losses", "[I", true)
  | 3 => ("HireScopes$Log", "count", "I", false)
  | _ => ("HireScopes$Log", "latest", "I", false)
def tyX5 : Nat → FieldType := fun k => match k with
  | 0 => .array .int
  | 1 => .array .int
  | 2 => .array .int
  | 3 => .int
  | _ => .int
abbrev wsX50 : List Cond := u_ws RX5 TX5 5
theorem nmX5 : ∀ a, a < 5 → ∀ b, b < 5 → a ≠ b → (TX5 a).2.1 ≠ (TX5 b).2.1 := by decide +kernel
theorem tyX5_ok : ∀ k, k < 5 → parseFieldDescriptor (TX5 k).2.2.1 = some (tyX5 k) := by decide +kernel
abbrev cX5_init : ByteArray := prog_7_method_1_code
def yX5_init : MethodName := ⟨RX5, "<init>", "()V"⟩
abbrev cX5_add : ByteArray := prog_7_method_2_code
def yX5_add : MethodName := ⟨RX5, "add", "(IIZ)V"⟩
abbrev cX5_told : ByteArray := prog_7_method_3_code
def yX5_told : MethodName := ⟨RX5, "told", "(II)I"⟩
def RX6 : String := "HireScopes$Part"
def TX6 : u_T := fun k => match k with
  | 0 => ("HireScopes$Part", "number", "I", true)
  | 1 => ("HireScopes$Part", "sort", "I", true)
  | 2 => ("HireScopes$Part", "cents", "I", true)
  | 3 => ("HireScopes$Part", "state", "I", false)
  | 4 => ("HireScopes$Part", "customer", "I", false)
  | 5 => ("HireScopes$Part", "traceActs", "[I", true)
  | 6 => ("HireScopes$Part", "traceLines", "[I", true)
  | _ => ("HireScopes$Part", "traceLength", "I", false)
def tyX6 : Nat → FieldType := fun k => match k with
  | 0 => .int
  | 1 => .int
  | 2 => .int
  | 3 => .int
  | 4 => .int
  | 5 => .array .int
  | 6 => .array .int
  | _ => .int
abbrev wsX60 : List Cond := u_ws RX6 TX6 8
theorem nmX6 : ∀ a, a < 8 → ∀ b, b < 8 → a ≠ b → (TX6 a).2.1 ≠ (TX6 b).2.1 := by decide +kernel
theorem tyX6_ok : ∀ k, k < 8 → parseFieldDescriptor (TX6 k).2.2.1 = some (tyX6 k) := by decide +kernel
abbrev cX6_init : ByteArray := prog_8_method_1_code
def yX6_init : MethodName := ⟨RX6, "<init>", "(III)V"⟩
abbrev cX6_addToTrace : ByteArray := prog_8_method_2_code
def yX6_addToTrace : MethodName := ⟨RX6, "addToTrace", "(II)V"⟩
def RX7 : String := "HireScopes$Plans"
def TX7 : u_T := fun k => match k with
  | 0 => ("HireScopes$Plans", "parts", "[I", true)
  | 1 => ("HireScopes$Plans", "left", "[I", true)
  | 2 => ("HireScopes$Plans", "whats", "[I", true)
  | _ => ("HireScopes$Plans", "count", "I", false)
def tyX7 : Nat → FieldType := fun k => match k with
  | 0 => .array .int
  | 1 => .array .int
  | 2 => .array .int
  | _ => .int
abbrev wsX70 : List Cond := u_ws RX7 TX7 4
theorem nmX7 : ∀ a, a < 4 → ∀ b, b < 4 → a ≠ b → (TX7 a).2.1 ≠ (TX7 b).2.1 := by decide +kernel
theorem tyX7_ok : ∀ k, k < 4 → parseFieldDescriptor (TX7 k).2.2.1 = some (tyX7 k) := by decide +kernel
abbrev cX7_init : ByteArray := prog_9_method_1_code
def yX7_init : MethodName := ⟨RX7, "<init>", "()V"⟩
abbrev cX7_add : ByteArray := prog_9_method_2_code
def yX7_add : MethodName := ⟨RX7, "add", "(III)I"⟩
abbrev cX7_meets : ByteArray := prog_9_method_3_code
def yX7_meets : MethodName := ⟨RX7, "meets", "(II)Z"⟩
def RX8 : String := "HireScopes$Play"
def TX8 : u_T := fun k => match k with
  | 0 => ("HireScopes$Play", "house", "LHireScopes$House;", true)
  | 1 => ("HireScopes$Play", "scripts", "[LHireScopes$Script;", true)
  | 2 => ("HireScopes$Play", "casts", "[LHireScopes$Cast;", true)
  | 3 => ("HireScopes$Play", "castCount", "I", false)
  | 4 => ("HireScopes$Play", "blocks", "[LHireScopes$Block;", true)
  | 5 => ("HireScopes$Play", "blockCount", "I", false)
  | 6 => ("HireScopes$Play", "scopes", "[LHireScopes$Scope;", true)
  | 7 => ("HireScopes$Play", "scopeCount", "I", false)
  | 8 => ("HireScopes$Play", "loans", "[LHireScopes$Loan;", true)
  | 9 => ("HireScopes$Play", "loanCount", "I", false)
  | 10 => ("HireScopes$Play", "failures", "LHireScopes$Failures;", true)
  | 11 => ("HireScopes$Play", "customer", "I", false)
  | 12 => ("HireScopes$Play", "way", "I", false)
  | 13 => ("HireScopes$Play", "wayFailure", "I", false)
  | 14 => ("HireScopes$Play", "steps", "I", false)
  | 15 => ("HireScopes$Play", "scopesEnded", "I", false)
  | 16 => ("HireScopes$Play", "letGo", "I", false)
  | _ => ("HireScopes$Play", "endedBy", "I", false)
def tyX8 : Nat → FieldType := fun k => match k with
  | 0 => .object "HireScopes$House"
  | 1 => .array (.object "HireScopes$Script")
  | 2 => .array (.object "HireScopes$Cast")
  | 3 => .int
  | 4 => .array (.object "HireScopes$Block")
  | 5 => .int
  | 6 => .array (.object "HireScopes$Scope")
  | 7 => .int
  | 8 => .array (.object "HireScopes$Loan")
  | 9 => .int
  | 10 => .object "HireScopes$Failures"
  | 11 => .int
  | 12 => .int
  | 13 => .int
  | 14 => .int
  | 15 => .int
  | 16 => .int
  | _ => .int
abbrev wsX80 : List Cond := u_ws RX8 TX8 18
theorem nmX8 : ∀ a, a < 18 → ∀ b, b < 18 → a ≠ b → (TX8 a).2.1 ≠ (TX8 b).2.1 := by decide +kernel
theorem tyX8_ok : ∀ k, k < 18 → parseFieldDescriptor (TX8 k).2.2.1 = some (tyX8 k) := by decide +kernel
abbrev cX8_init : ByteArray := prog_10_method_1_code
def yX8_init : MethodName := ⟨RX8, "<init>", "(LHireScopes$House;[LHireScopes$Script;)V"⟩
abbrev cX8_told : ByteArray := prog_10_method_2_code
def yX8_told : MethodName := ⟨RX8, "told", "(I)I"⟩
abbrev cX8_perform : ByteArray := prog_10_method_3_code
def yX8_perform : MethodName := ⟨RX8, "perform", "(II)I"⟩
abbrev cX8_reset : ByteArray := prog_10_method_4_code
def yX8_reset : MethodName := ⟨RX8, "reset", "(I)V"⟩
abbrev cX8_step : ByteArray := prog_10_method_5_code
def yX8_step : MethodName := ⟨RX8, "step", "()Z"⟩
abbrev cX8_enter : ByteArray := prog_10_method_6_code
def yX8_enter : MethodName := ⟨RX8, "enter", "(LHireScopes$Script;ILHireScopes$Loan;)V"⟩
abbrev cX8_push : ByteArray := prog_10_method_7_code
def yX8_push : MethodName := ⟨RX8, "push", "(III)V"⟩
abbrev cX8_pop : ByteArray := prog_10_method_8_code
def yX8_pop : MethodName := ⟨RX8, "pop", "()V"⟩
abbrev cX8_openScope : ByteArray := prog_10_method_9_code
def yX8_openScope : MethodName := ⟨RX8, "openScope", "(II)V"⟩
abbrev cX8_doLine : ByteArray := prog_10_method_10_code
def yX8_doLine : MethodName := ⟨RX8, "doLine", "(LHireScopes$Cast;I)V"⟩
abbrev cX8_borrow : ByteArray := prog_10_method_11_code
def yX8_borrow : MethodName := ⟨RX8, "borrow", "(LHireScopes$Cast;III)V"⟩
abbrev cX8_take : ByteArray := prog_10_method_12_code
def yX8_take : MethodName := ⟨RX8, "take", "(LHireScopes$Cast;II)V"⟩
abbrev cX8_hire : ByteArray := prog_10_method_13_code
def yX8_hire : MethodName := ⟨RX8, "hire", "(LHireScopes$Cast;ILHireScopes$Part;I)V"⟩
abbrev cX8_makeLoan : ByteArray := prog_10_method_14_code
def yX8_makeLoan : MethodName := ⟨RX8, "makeLoan", "(LHireScopes$Cast;ILHireScopes$Part;ILHireScopes$Loan;)V"⟩
abbrev cX8_use : ByteArray := prog_10_method_15_code
def yX8_use : MethodName := ⟨RX8, "use", "(LHireScopes$Cast;LHireScopes$Loan;)V"⟩
abbrev cX8_bringBack : ByteArray := prog_10_method_16_code
def yX8_bringBack : MethodName := ⟨RX8, "bringBack", "(LHireScopes$Cast;LHireScopes$Loan;)V"⟩
abbrev cX8_lendOn : ByteArray := prog_10_method_17_code
def yX8_lendOn : MethodName := ⟨RX8, "lendOn", "(LHireScopes$Cast;LHireScopes$Loan;I)V"⟩
abbrev cX8_passOn : ByteArray := prog_10_method_18_code
def yX8_passOn : MethodName := ⟨RX8, "passOn", "(LHireScopes$Cast;LHireScopes$Loan;I)V"⟩
abbrev cX8_callAct : ByteArray := prog_10_method_19_code
def yX8_callAct : MethodName := ⟨RX8, "callAct", "(LHireScopes$Cast;ILHireScopes$Loan;)V"⟩
abbrev cX8_misuseOf : ByteArray := prog_10_method_20_code
def yX8_misuseOf : MethodName := ⟨RX8, "misuseOf", "(LHireScopes$Loan;Z)I"⟩
abbrev cX8_partOf : ByteArray := prog_10_method_21_code
def yX8_partOf : MethodName := ⟨RX8, "partOf", "(LHireScopes$Loan;)I"⟩
abbrev cX8_fail : ByteArray := prog_10_method_22_code
def yX8_fail : MethodName := ⟨RX8, "fail", "(LHireScopes$Cast;II)V"⟩
abbrev cX8_giveUp : ByteArray := prog_10_method_23_code
def yX8_giveUp : MethodName := ⟨RX8, "giveUp", "(LHireScopes$Loan;I)Z"⟩
abbrev cX8_beginBlock : ByteArray := prog_10_method_24_code
def yX8_beginBlock : MethodName := ⟨RX8, "beginBlock", "(LHireScopes$Cast;II)V"⟩
abbrev cX8_reachMark : ByteArray := prog_10_method_25_code
def yX8_reachMark : MethodName := ⟨RX8, "reachMark", "(LHireScopes$Cast;)V"⟩
abbrev cX8_endScopeBlock : ByteArray := prog_10_method_26_code
def yX8_endScopeBlock : MethodName := ⟨RX8, "endScopeBlock", "(LHireScopes$Cast;)V"⟩
abbrev cX8_endTurn : ByteArray := prog_10_method_27_code
def yX8_endTurn : MethodName := ⟨RX8, "endTurn", "(LHireScopes$Cast;LHireScopes$Block;)V"⟩
abbrev cX8_endLastWay : ByteArray := prog_10_method_28_code
def yX8_endLastWay : MethodName := ⟨RX8, "endLastWay", "(LHireScopes$Cast;LHireScopes$Block;)V"⟩
abbrev cX8_leaveWay : ByteArray := prog_10_method_29_code
def yX8_leaveWay : MethodName := ⟨RX8, "leaveWay", "(LHireScopes$Cast;LHireScopes$Block;)V"⟩
abbrev cX8_leave : ByteArray := prog_10_method_30_code
def yX8_leave : MethodName := ⟨RX8, "leave", "(LHireScopes$Cast;)V"⟩
abbrev cX8_leaveLoop : ByteArray := prog_10_method_31_code
def yX8_leaveLoop : MethodName := ⟨RX8, "leaveLoop", "(LHireScopes$Cast;LHireScopes$Block;)V"⟩
abbrev cX8_leaveTry : ByteArray := prog_10_method_32_code
def yX8_leaveTry : MethodName := ⟨RX8, "leaveTry", "(LHireScopes$Cast;LHireScopes$Block;)V"⟩
abbrev cX8_beginWay : ByteArray := prog_10_method_33_code
def yX8_beginWay : MethodName := ⟨RX8, "beginWay", "(LHireScopes$Cast;LHireScopes$Block;I)V"⟩
abbrev cX8_leaveLastWay : ByteArray := prog_10_method_34_code
def yX8_leaveLastWay : MethodName := ⟨RX8, "leaveLastWay", "(LHireScopes$Block;)V"⟩
abbrev cX8_leaveAct : ByteArray := prog_10_method_35_code
def yX8_leaveAct : MethodName := ⟨RX8, "leaveAct", "()V"⟩
abbrev cX8_endInnermost : ByteArray := prog_10_method_36_code
def yX8_endInnermost : MethodName := ⟨RX8, "endInnermost", "()V"⟩
abbrev cX8_failAtEnd : ByteArray := prog_10_method_37_code
def yX8_failAtEnd : MethodName := ⟨RX8, "failAtEnd", "(LHireScopes$Scope;I)V"⟩
abbrev cX8_spend : ByteArray := prog_10_method_38_code
def yX8_spend : MethodName := ⟨RX8, "spend", "()V"⟩
def RX9 : String := "HireScopes$Scope"
def TX9 : u_T := fun k => match k with
  | 0 => ("HireScopes$Scope", "act", "I", false)
  | 1 => ("HireScopes$Scope", "line", "I", false)
  | _ => ("HireScopes$Scope", "last", "LHireScopes$Loan;", false)
def tyX9 : Nat → FieldType := fun k => match k with
  | 0 => .int
  | 1 => .int
  | _ => .object "HireScopes$Loan"
abbrev wsX90 : List Cond := u_ws RX9 TX9 3
theorem nmX9 : ∀ a, a < 3 → ∀ b, b < 3 → a ≠ b → (TX9 a).2.1 ≠ (TX9 b).2.1 := by decide +kernel
theorem tyX9_ok : ∀ k, k < 3 → parseFieldDescriptor (TX9 k).2.2.1 = some (tyX9 k) := by decide +kernel
abbrev cX9_init : ByteArray := prog_11_method_1_code
def yX9_init : MethodName := ⟨RX9, "<init>", "()V"⟩
abbrev cX9_begin : ByteArray := prog_11_method_2_code
def yX9_begin : MethodName := ⟨RX9, "begin", "(II)V"⟩
def RX10 : String := "HireScopes$Script"
def TX10 : u_T := fun k => match k with
  | 0 => ("HireScopes$Script", "ops", "[I", true)
  | 1 => ("HireScopes$Script", "as", "[I", true)
  | 2 => ("HireScopes$Script", "bs", "[I", true)
  | 3 => ("HireScopes$Script", "nexts", "[I", true)
  | 4 => ("HireScopes$Script", "length", "I", false)
  | 5 => ("HireScopes$Script", "firstFault", "I", false)
  | 6 => ("HireScopes$Script", "firstFaultLine", "I", false)
  | 7 => ("HireScopes$Script", "begins", "[I", true)
  | 8 => ("HireScopes$Script", "marks", "[I", true)
  | _ => ("HireScopes$Script", "nested", "I", false)
def tyX10 : Nat → FieldType := fun k => match k with
  | 0 => .array .int
  | 1 => .array .int
  | 2 => .array .int
  | 3 => .array .int
  | 4 => .int
  | 5 => .int
  | 6 => .int
  | 7 => .array .int
  | 8 => .array .int
  | _ => .int
abbrev wsX100 : List Cond := u_ws RX10 TX10 10
theorem nmX10 : ∀ a, a < 10 → ∀ b, b < 10 → a ≠ b → (TX10 a).2.1 ≠ (TX10 b).2.1 := by decide +kernel
theorem tyX10_ok : ∀ k, k < 10 → parseFieldDescriptor (TX10 k).2.2.1 = some (tyX10 k) := by decide +kernel
abbrev cX10_init : ByteArray := prog_12_method_1_code
def yX10_init : MethodName := ⟨RX10, "<init>", "()V"⟩
abbrev cX10_add : ByteArray := prog_12_method_2_code
def yX10_add : MethodName := ⟨RX10, "add", "(III)I"⟩
abbrev cX10_clear : ByteArray := prog_12_method_3_code
def yX10_clear : MethodName := ⟨RX10, "clear", "()I"⟩
abbrev cX10_faultNumber : ByteArray := prog_12_method_4_code
def yX10_faultNumber : MethodName := ⟨RX10, "faultNumber", "()I"⟩
abbrev cX10_faultLine : ByteArray := prog_12_method_5_code
def yX10_faultLine : MethodName := ⟨RX10, "faultLine", "()I"⟩
abbrev cX10_faultOf : ByteArray := prog_12_method_6_code
def yX10_faultOf : MethodName := ⟨RX10, "faultOf", "(III)I"⟩
abbrev cX10_fits : ByteArray := prog_12_method_7_code
def yX10_fits : MethodName := ⟨RX10, "fits", "(II)Z"⟩
abbrev cX10_takesWays : ByteArray := prog_12_method_8_code
def yX10_takesWays : MethodName := ⟨RX10, "takesWays", "()Z"⟩
abbrev cX10_isInLoop : ByteArray := prog_12_method_9_code
def yX10_isInLoop : MethodName := ⟨RX10, "isInLoop", "()Z"⟩
abbrev cX10_place : ByteArray := prog_12_method_10_code
def yX10_place : MethodName := ⟨RX10, "place", "(II)V"⟩
abbrev cX10_linkMark : ByteArray := prog_12_method_11_code
def yX10_linkMark : MethodName := ⟨RX10, "linkMark", "(II)V"⟩
abbrev cX10_opAt : ByteArray := prog_12_method_12_code
def yX10_opAt : MethodName := ⟨RX10, "opAt", "(I)I"⟩
abbrev cX10_aAt : ByteArray := prog_12_method_13_code
def yX10_aAt : MethodName := ⟨RX10, "aAt", "(I)I"⟩
abbrev cX10_bAt : ByteArray := prog_12_method_14_code
def yX10_bAt : MethodName := ⟨RX10, "bAt", "(I)I"⟩
abbrev cX10_nextOf : ByteArray := prog_12_method_15_code
def yX10_nextOf : MethodName := ⟨RX10, "nextOf", "(I)I"⟩
abbrev cX10_guardFor : ByteArray := prog_12_method_16_code
def yX10_guardFor : MethodName := ⟨RX10, "guardFor", "(II)I"⟩
abbrev cX10_wayOut : ByteArray := prog_12_method_17_code
def yX10_wayOut : MethodName := ⟨RX10, "wayOut", "(I)I"⟩
def RX11 : String := "HireScopes"
def TX11 : u_T := fun k => match k with
  | 0 => ("HireScopes", "house", "LHireScopes$House;", true)
  | 1 => ("HireScopes", "scripts", "[LHireScopes$Script;", true)
  | 2 => ("HireScopes", "scriptCount", "I", false)
  | _ => ("HireScopes", "play", "LHireScopes$Play;", true)
def tyX11 : Nat → FieldType := fun k => match k with
  | 0 => .object "HireScopes$House"
  | 1 => .array (.object "HireScopes$Script")
  | 2 => .int
  | _ => .object "HireScopes$Play"
abbrev wsX110 : List Cond := u_ws RX11 TX11 4
theorem nmX11 : ∀ a, a < 4 → ∀ b, b < 4 → a ≠ b → (TX11 a).2.1 ≠ (TX11 b).2.1 := by decide +kernel
theorem tyX11_ok : ∀ k, k < 4 → parseFieldDescriptor (TX11 k).2.2.1 = some (tyX11 k) := by decide +kernel
abbrev cX11_init : ByteArray := prog_1_method_1_code
def yX11_init : MethodName := ⟨RX11, "<init>", "()V"⟩
abbrev cX11_part : ByteArray := prog_1_method_2_code
def yX11_part : MethodName := ⟨RX11, "part", "(II)I"⟩
abbrev cX11_state : ByteArray := prog_1_method_3_code
def yX11_state : MethodName := ⟨RX11, "state", "(I)I"⟩
abbrev cX11_clean : ByteArray := prog_1_method_4_code
def yX11_clean : MethodName := ⟨RX11, "clean", "(I)I"⟩
abbrev cX11_cleaning : ByteArray := prog_1_method_5_code
def yX11_cleaning : MethodName := ⟨RX11, "cleaning", "(I)I"⟩
abbrev cX11_plan : ByteArray := prog_1_method_6_code
def yX11_plan : MethodName := ⟨RX11, "plan", "(III)I"⟩
abbrev cX11_plans : ByteArray := prog_1_method_7_code
def yX11_plans : MethodName := ⟨RX11, "plans", "(Z)I"⟩
abbrev cX11_act : ByteArray := prog_1_method_8_code
def yX11_act : MethodName := ⟨RX11, "act", "()I"⟩
abbrev cX11_line : ByteArray := prog_1_method_9_code
def yX11_line : MethodName := ⟨RX11, "line", "(IIII)I"⟩
abbrev cX11_wipe : ByteArray := prog_1_method_10_code
def yX11_wipe : MethodName := ⟨RX11, "wipe", "(I)I"⟩
abbrev cX11_fault : ByteArray := prog_1_method_11_code
def yX11_fault : MethodName := ⟨RX11, "fault", "(II)I"⟩
abbrev cX11_run : ByteArray := prog_1_method_12_code
def yX11_run : MethodName := ⟨RX11, "run", "(II)I"⟩
abbrev cX11_ran : ByteArray := prog_1_method_13_code
def yX11_ran : MethodName := ⟨RX11, "ran", "(I)I"⟩
abbrev cX11_failure : ByteArray := prog_1_method_14_code
def yX11_failure : MethodName := ⟨RX11, "failure", "(II)I"⟩
abbrev cX11_leaks : ByteArray := prog_1_method_15_code
def yX11_leaks : MethodName := ⟨RX11, "leaks", "()I"⟩
abbrev cX11_leak : ByteArray := prog_1_method_16_code
def yX11_leak : MethodName := ⟨RX11, "leak", "(II)I"⟩
abbrev cX11_trace : ByteArray := prog_1_method_17_code
def yX11_trace : MethodName := ⟨RX11, "trace", "(III)I"⟩
abbrev cX11_giveBack : ByteArray := prog_1_method_18_code
def yX11_giveBack : MethodName := ⟨RX11, "giveBack", "(I)I"⟩
abbrev cX11_cents : ByteArray := prog_1_method_19_code
def yX11_cents : MethodName := ⟨RX11, "cents", "(II)J"⟩
abbrev cX11_log : ByteArray := prog_1_method_20_code
def yX11_log : MethodName := ⟨RX11, "log", "(II)I"⟩
abbrev cX11_within : ByteArray := prog_1_method_21_code
def yX11_within : MethodName := ⟨RX11, "within", "(II)Z"⟩
abbrev cX11_findScript : ByteArray := prog_1_method_22_code
def yX11_findScript : MethodName := ⟨RX11, "findScript", "([LHireScopes$Script;I)LHireScopes$Script;"⟩
abbrev cX11_isUnder : ByteArray := prog_1_method_23_code
def yX11_isUnder : MethodName := ⟨RX11, "isUnder", "(II)Z"⟩
def RX12 : String := "HireScopesModel"
def TX12 : u_T := fun k => match k with
  | 0 => ("HireScopesModel", "parts", "I", false)
  | 1 => ("HireScopesModel", "sortOf", "[I", true)
  | 2 => ("HireScopesModel", "price", "[I", true)
  | 3 => ("HireScopesModel", "stateOf", "[I", true)
  | 4 => ("HireScopesModel", "cleanings", "I", false)
  | 5 => ("HireScopesModel", "line", "[I", true)
  | 6 => ("HireScopesModel", "planMany", "I", false)
  | 7 => ("HireScopesModel", "planPart", "[I", true)
  | 8 => ("HireScopesModel", "planAt", "[I", true)
  | 9 => ("HireScopesModel", "planWhat", "[I", true)
  | 10 => ("HireScopesModel", "planMet", "[I", true)
  | 11 => ("HireScopesModel", "charged", "[J", true)
  | 12 => ("HireScopesModel", "logged", "I", false)
  | 13 => ("HireScopesModel", "logPart", "[I", true)
  | 14 => ("HireScopesModel", "logHow", "[I", true)
  | 15 => ("HireScopesModel", "logLost", "[I", true)
  | 16 => ("HireScopesModel", "acts", "I", false)
  | 17 => ("HireScopesModel", "lineMany", "[I", true)
  | 18 => ("HireScopesModel", "ops", "[I", true)
  | 19 => ("HireScopesModel", "as", "[I", true)
  | 20 => ("HireScopesModel", "bs", "[I", true)
  | 21 => ("HireScopesModel", "faultWhat", "I", false)
  | 22 => ("HireScopesModel", "faultLine", "I", false)
  | 23 => ("HireScopesModel", "opens", "[I", true)
  | 24 => ("HireScopesModel", "hasFinish", "[Z", true)
  | 25 => ("HireScopesModel", "piled", "I", false)
  | 26 => ("HireScopesModel", "pile", "[I", true)
  | 27 => ("HireScopesModel", "pileLine", "[I", true)
  | 28 => ("HireScopesModel", "pileWith", "[I", true)
  | 29 => ("HireScopesModel", "pileWay", "[I", true)
  | 30 => ("HireScopesModel", "pileFailure", "[I", true)
  | 31 => ("HireScopesModel", "pileGuarded", "[I", true)
  | 32 => ("HireScopesModel", "slots", "[I", true)
  | 33 => ("HireScopesModel", "depth", "I", false)
  | 34 => ("HireScopesModel", "loans", "I", false)
  | 35 => ("HireScopesModel", "loanPart", "[I", true)
  | 36 => ("HireScopesModel", "loanSort", "[I", true)
  | 37 => ("HireScopesModel", "loanOf", "[I", true)
  | 38 => ("HireScopesModel", "loanScope", "[I", true)
  | 39 => ("HireScopesModel", "loanOrder", "[I", true)
  | 40 => ("HireScopesModel", "loanOpen", "[Z", true)
  | 41 => ("HireScopesModel", "loanTraces", "[I", true)
  | 42 => ("HireScopesModel", "loanTrace", "[I", true)
  | 43 => ("HireScopesModel", "orders", "I", false)
  | 44 => ("HireScopesModel", "scopeMany", "I", false)
  | 45 => ("HireScopesModel", "failures", "I", false)
  | 46 => ("HireScopesModel", "failureKind", "[I", true)
  | 47 => ("HireScopesModel", "failureAct", "[I", true)
  | 48 => ("HireScopesModel", "failureLine", "[I", true)
  | 49 => ("HireScopesModel", "failurePart", "[I", true)
  | 50 => ("HireScopesModel", "failureCause", "[I", true)
  | 51 => ("HireScopesModel", "failureUnder", "[I", true)
  | 52 => ("HireScopesModel", "way", "I", false)
  | 53 => ("HireScopesModel", "failing", "I", false)
  | 54 => ("HireScopesModel", "verdict", "I", false)
  | 55 => ("HireScopesModel", "steps", "I", false)
  | 56 => ("HireScopesModel", "made", "I", false)
  | 57 => ("HireScopesModel", "endedScopes", "I", false)
  | 58 => ("HireScopesModel", "letGo", "I", false)
  | 59 => ("HireScopesModel", "endedBy", "I", false)
  | 60 => ("HireScopesModel", "isOver", "Z", false)
  | 61 => ("HireScopesModel", "customer", "I", false)
  | 62 => ("HireScopesModel", "leakMany", "I", false)
  | 63 => ("HireScopesModel", "leakPart", "[I", true)
  | 64 => ("HireScopesModel", "leakCustomer", "[I", true)
  | 65 => ("HireScopesModel", "leakTraces", "[I", true)
  | 66 => ("HireScopesModel", "leakTrace", "[I", true)
  | _ => ("HireScopesModel", "actAt", "I", false)
def tyX12 : Nat → FieldType := fun k => match k with
  | 0 => .int
  | 1 => .array .int
  | 2 => .array .int
  | 3 => .array .int
  | 4 => .int
  | 5 => .array .int
  | 6 => .int
  | 7 => .array .int
  | 8 => .array .int
  | 9 => .array .int
  | 10 => .array .int
  | 11 => .array .long
  | 12 => .int
  | 13 => .array .int
  | 14 => .array .int
  | 15 => .array .int
  | 16 => .int
  | 17 => .array .int
  | 18 => .array .int
  | 19 => .array .int
  | 20 => .array .int
  | 21 => .int
  | 22 => .int
  | 23 => .array .int
  | 24 => .array .boolean
  | 25 => .int
  | 26 => .array .int
  | 27 => .array .int
  | 28 => .array .int
  | 29 => .array .int
  | 30 => .array .int
  | 31 => .array .int
  | 32 => .array .int
  | 33 => .int
  | 34 => .int
  | 35 => .array .int
  | 36 => .array .int
  | 37 => .array .int
  | 38 => .array .int
  | 39 => .array .int
  | 40 => .array .boolean
  | 41 => .array .int
  | 42 => .array .int
  | 43 => .int
  | 44 => .int
  | 45 => .int
  | 46 => .array .int
  | 47 => .array .int
  | 48 => .array .int
  | 49 => .array .int
  | 50 => .array .int
  | 51 => .array .int
  | 52 => .int
  | 53 => .int
  | 54 => .int
  | 55 => .int
  | 56 => .int
  | 57 => .int
  | 58 => .int
  | 59 => .int
  | 60 => .boolean
  | 61 => .int
  | 62 => .int
  | 63 => .array .int
  | 64 => .array .int
  | 65 => .array .int
  | 66 => .array .int
  | _ => .int
abbrev wsX120 : List Cond := u_ws RX12 TX12 68
theorem nmX12 : ∀ a, a < 68 → ∀ b, b < 68 → a ≠ b → (TX12 a).2.1 ≠ (TX12 b).2.1 := by decide +kernel
theorem tyX12_ok : ∀ k, k < 68 → parseFieldDescriptor (TX12 k).2.2.1 = some (tyX12 k) := by decide +kernel
abbrev cX12_init : ByteArray := prog_14_method_1_code
def yX12_init : MethodName := ⟨RX12, "<init>", "()V"⟩
abbrev cX12_in : ByteArray := prog_14_method_3_code
def yX12_in : MethodName := ⟨RX12, "in", "(JJJ)Z"⟩
abbrev cX12_part : ByteArray := prog_14_method_4_code
def yX12_part : MethodName := ⟨RX12, "part", "(II)I"⟩
abbrev cX12_noPart : ByteArray := prog_14_method_5_code
def yX12_noPart : MethodName := ⟨RX12, "noPart", "(I)Z"⟩
abbrev cX12_state : ByteArray := prog_14_method_6_code
def yX12_state : MethodName := ⟨RX12, "state", "(I)I"⟩
abbrev cX12_clean : ByteArray := prog_14_method_7_code
def yX12_clean : MethodName := ⟨RX12, "clean", "(I)I"⟩
abbrev cX12_cleaning : ByteArray := prog_14_method_8_code
def yX12_cleaning : MethodName := ⟨RX12, "cleaning", "(I)I"⟩
abbrev cX12_plan : ByteArray := prog_14_method_9_code
def yX12_plan : MethodName := ⟨RX12, "plan", "(III)I"⟩
abbrev cX12_plans : ByteArray := prog_14_method_10_code
def yX12_plans : MethodName := ⟨RX12, "plans", "(Z)I"⟩
abbrev cX12_meets : ByteArray := prog_14_method_11_code
def yX12_meets : MethodName := ⟨RX12, "meets", "(II)Z"⟩
abbrev cX12_comesBack : ByteArray := prog_14_method_12_code
def yX12_comesBack : MethodName := ⟨RX12, "comesBack", "(III)Z"⟩
abbrev cX12_noAct : ByteArray := prog_14_method_13_code
def yX12_noAct : MethodName := ⟨RX12, "noAct", "(I)Z"⟩
abbrev cX12_act : ByteArray := prog_14_method_14_code
def yX12_act : MethodName := ⟨RX12, "act", "()I"⟩
abbrev cX12_line : ByteArray := prog_14_method_15_code
def yX12_line : MethodName := ⟨RX12, "line", "(IIII)I"⟩
abbrev cX12_wipe : ByteArray := prog_14_method_16_code
def yX12_wipe : MethodName := ⟨RX12, "wipe", "(I)I"⟩
abbrev cX12_isSlot : ByteArray := prog_14_method_17_code
def yX12_isSlot : MethodName := ⟨RX12, "isSlot", "(I)Z"⟩
abbrev cX12_isWrong : ByteArray := prog_14_method_18_code
def yX12_isWrong : MethodName := ⟨RX12, "isWrong", "(III)Z"⟩
abbrev cX12_begins : ByteArray := prog_14_method_19_code
def yX12_begins : MethodName := ⟨RX12, "begins", "(I)Z"⟩
abbrev cX12_judge : ByteArray := prog_14_method_20_code
def yX12_judge : MethodName := ⟨RX12, "judge", "(I)V"⟩
abbrev cX12_fault : ByteArray := prog_14_method_21_code
def yX12_fault : MethodName := ⟨RX12, "fault", "(II)I"⟩
abbrev cX12_behind : ByteArray := prog_14_method_22_code
def yX12_behind : MethodName := ⟨RX12, "behind", "(II)I"⟩
abbrev cX12_endOf : ByteArray := prog_14_method_23_code
def yX12_endOf : MethodName := ⟨RX12, "endOf", "(II)I"⟩
abbrev cX12_finishOf : ByteArray := prog_14_method_24_code
def yX12_finishOf : MethodName := ⟨RX12, "finishOf", "(II)I"⟩
abbrev cX12_begin : ByteArray := prog_14_method_25_code
def yX12_begin : MethodName := ⟨RX12, "begin", "(III)V"⟩
abbrev cX12_findAct : ByteArray := prog_14_method_26_code
def yX12_findAct : MethodName := ⟨RX12, "findAct", "()V"⟩
abbrev cX12_beginAct : ByteArray := prog_14_method_27_code
def yX12_beginAct : MethodName := ⟨RX12, "beginAct", "(II)V"⟩
abbrev cX12_beginScope : ByteArray := prog_14_method_28_code
def yX12_beginScope : MethodName := ⟨RX12, "beginScope", "(I)V"⟩
abbrev cX12_step : ByteArray := prog_14_method_29_code
def yX12_step : MethodName := ⟨RX12, "step", "()Z"⟩
abbrev cX12_newFailure : ByteArray := prog_14_method_30_code
def yX12_newFailure : MethodName := ⟨RX12, "newFailure", "(III)I"⟩
abbrev cX12_fail : ByteArray := prog_14_method_31_code
def yX12_fail : MethodName := ⟨RX12, "fail", "(III)V"⟩
abbrev cX12_hasOpen : ByteArray := prog_14_method_32_code
def yX12_hasOpen : MethodName := ⟨RX12, "hasOpen", "(I)Z"⟩
abbrev cX12_giveBack : ByteArray := prog_14_method_33_code
def yX12_giveBack : MethodName := ⟨RX12, "giveBack", "(II)Z"⟩
abbrev cX12_lastOf : ByteArray := prog_14_method_34_code
def yX12_lastOf : MethodName := ⟨RX12, "lastOf", "(I)I"⟩
abbrev cX12_spend : ByteArray := prog_14_method_35_code
def yX12_spend : MethodName := ⟨RX12, "spend", "()V"⟩
abbrev cX12_endScope : ByteArray := prog_14_method_36_code
def yX12_endScope : MethodName := ⟨RX12, "endScope", "()V"⟩
abbrev cX12_above : ByteArray := prog_14_method_37_code
def yX12_above : MethodName := ⟨RX12, "above", "(I)I"⟩
abbrev cX12_isUnder : ByteArray := prog_14_method_38_code
def yX12_isUnder : MethodName := ⟨RX12, "isUnder", "(II)Z"⟩
abbrev cX12_guardOf : ByteArray := prog_14_method_39_code
def yX12_guardOf : MethodName := ⟨RX12, "guardOf", "(II)I"⟩
abbrev cX12_goTo : ByteArray := prog_14_method_40_code
def yX12_goTo : MethodName := ⟨RX12, "goTo", "(I)V"⟩
abbrev cX12_leaveTry : ByteArray := prog_14_method_41_code
def yX12_leaveTry : MethodName := ⟨RX12, "leaveTry", "()V"⟩
abbrev cX12_outOfTry : ByteArray := prog_14_method_42_code
def yX12_outOfTry : MethodName := ⟨RX12, "outOfTry", "()V"⟩
abbrev cX12_unwind : ByteArray := prog_14_method_43_code
def yX12_unwind : MethodName := ⟨RX12, "unwind", "()V"⟩
abbrev cX12_endAct : ByteArray := prog_14_method_44_code
def yX12_endAct : MethodName := ⟨RX12, "endAct", "()V"⟩
abbrev cX12_newLoan : ByteArray := prog_14_method_45_code
def yX12_newLoan : MethodName := ⟨RX12, "newLoan", "(III)I"⟩
abbrev cX12_innermost : ByteArray := prog_14_method_46_code
def yX12_innermost : MethodName := ⟨RX12, "innermost", "(I)I"⟩
abbrev cX12_trace : ByteArray := prog_14_method_47_code
def yX12_trace : MethodName := ⟨RX12, "trace", "(I)V"⟩
abbrev cX12_doLine : ByteArray := prog_14_method_48_code
def yX12_doLine : MethodName := ⟨RX12, "doLine", "(II)V"⟩
abbrev cX12_doSlot : ByteArray := prog_14_method_49_code
def yX12_doSlot : MethodName := ⟨RX12, "doSlot", "(IIIII)V"⟩
abbrev cX12_goOn : ByteArray := prog_14_method_50_code
def yX12_goOn : MethodName := ⟨RX12, "goOn", "()V"⟩
abbrev cX12_endBlock : ByteArray := prog_14_method_51_code
def yX12_endBlock : MethodName := ⟨RX12, "endBlock", "(I)V"⟩
abbrev cX12_run : ByteArray := prog_14_method_52_code
def yX12_run : MethodName := ⟨RX12, "run", "(II)I"⟩
abbrev cX12_ran : ByteArray := prog_14_method_53_code
def yX12_ran : MethodName := ⟨RX12, "ran", "(I)I"⟩
abbrev cX12_failure : ByteArray := prog_14_method_54_code
def yX12_failure : MethodName := ⟨RX12, "failure", "(II)I"⟩
abbrev cX12_leaks : ByteArray := prog_14_method_55_code
def yX12_leaks : MethodName := ⟨RX12, "leaks", "()I"⟩
abbrev cX12_leak : ByteArray := prog_14_method_56_code
def yX12_leak : MethodName := ⟨RX12, "leak", "(II)I"⟩
abbrev cX12_trace_ : ByteArray := prog_14_method_57_code
def yX12_trace_ : MethodName := ⟨RX12, "trace", "(III)I"⟩
abbrev cX12_giveBack_ : ByteArray := prog_14_method_58_code
def yX12_giveBack_ : MethodName := ⟨RX12, "giveBack", "(I)I"⟩
abbrev cX12_cents : ByteArray := prog_14_method_59_code
def yX12_cents : MethodName := ⟨RX12, "cents", "(II)J"⟩
abbrev cX12_log : ByteArray := prog_14_method_60_code
def yX12_log : MethodName := ⟨RX12, "log", "(II)I"⟩
def RJ9 : String := "java/lang/Math"
abbrev cJ9_min_7cf53 : ByteArray := prog_15_method_69_code
def yJ9_min_7cf53 : MethodName := ⟨RJ9, "min", "(II)I"⟩
def RL : String := "HireScopesLaw"
abbrev cL_law : ByteArray := code
def yL_law : MethodName := ⟨RL, "law", "([I)Z"⟩
abbrev vwCl : List vw_C := [(RX0, TX0, 7), (RX1, TX1, 4), (RX2, TX2, 7), (RX3, TX3, 9), (RX4, TX4, 8), (RX5, TX5, 5), (RX6, TX6, 8), (RX7, TX7, 4), (RX8, TX8, 18), (RX9, TX9, 3), (RX10, TX10, 10), (RX11, TX11, 4), (RX12, TX12, 68)]
end
section
theorem dX0_init_0 : decode cX0_init 0 = .ok (.aload_n 0, 1) := by decide +kernel
theorem dX0_init_1 : decode cX0_init 1 = .ok (.invokespecial 3, 3) := by decide +kernel
theorem dX0_init_4 : decode cX0_init 4 = .ok (.return_, 1) := by decide +kernel
theorem dX0_begin_0 : decode cX0_begin 0 = .ok (.aload_n 0, 1) := by decide +kernel
theorem dX0_begin_1 : decode cX0_begin 1 = .ok (.iload_n 1, 1) := by decide +kernel
theorem dX0_begin_2 : decode cX0_begin 2 = .ok (.putfield 9, 3) := by decide +kernel
theorem dX0_begin_5 : decode cX0_begin 5 = .ok (.aload_n 0, 1) := by decide +kernel
theorem dX0_begin_6 : decode cX0_begin 6 = .ok (.iload_n 2, 1) := by decide +kernel
theorem dX0_begin_7 : decode cX0_begin 7 = .ok (.putfield 15, 3) := by decide +kernel
theorem dX0_begin_10 : decode cX0_begin 10 = .ok (.aload_n 0, 1) := by decide +kernel
theorem dX0_begin_11 : decode cX0_begin 11 = .ok (.iload_n 3, 1) := by decide +kernel
theorem dX0_begin_12 : decode cX0_begin 12 = .ok (.putfield 18, 3) := by decide +kernel
theorem dX0_begin_15 : decode cX0_begin 15 = .ok (.aload_n 0, 1) := by decide +kernel
theorem dX0_begin_16 : decode cX0_begin 16 = .ok (.iconst 0, 1) := by decide +kernel
theorem dX0_begin_17 : decode cX0_begin 17 = .ok (.putfield 21, 3) := by decide +kernel
theorem dX0_begin_20 : decode cX0_begin 20 = .ok (.aload_n 0, 1) := by decide +kernel
theorem dX0_begin_21 : decode cX0_begin 21 = .ok (.iconst (-1), 1) := by decide +kernel
theorem dX0_begin_22 : decode cX0_begin 22 = .ok (.putfield 24, 3) := by decide +kernel
theorem dX0_begin_25 : decode cX0_begin 25 = .ok (.aload_n 0, 1) := by decide +kernel
theorem dX0_begin_26 : decode cX0_begin 26 = .ok (.iconst 0, 1) := by decide +kernel
theorem dX0_begin_27 : decode cX0_begin 27 = .ok (.putfield 29, 3) := by decide +kernel
theorem dX0_begin_30 : decode cX0_begin 30 = .ok (.aload_n 0, 1) := by decide +kernel
theorem dX0_begin_31 : decode cX0_begin 31 = .ok (.iconst (-1), 1) := by decide +kernel
theorem dX0_begin_32 : decode cX0_begin 32 = .ok (.putfield 32, 3) := by decide +kernel
theorem dX0_begin_35 : decode cX0_begin 35 = .ok (.return_, 1) := by decide +kernel
theorem dX1_init_0 : decode cX1_init 0 = .ok (.aload_n 0, 1) := by decide +kernel
theorem dX1_init_1 : decode cX1_init 1 = .ok (.invokespecial 3, 3) := by decide +kernel
theorem dX1_init_4 : decode cX1_init 4 = .ok (.aload_n 0, 1) := by decide +kernel
theorem dX1_init_5 : decode cX1_init 5 = .ok (.bipush 8, 2) := by decide +kernel
theorem dX1_init_7 : decode cX1_init 7 = .ok (.anewarray 9, 3) := by decide +kernel
theorem dX1_init_10 : decode cX1_init 10 = .ok (.putfield 11, 3) := by decide +kernel
theorem dX1_init_13 : decode cX1_init 13 = .ok (.aload_n 0, 1) := by decide +kernel
theorem dX1_init_14 : decode cX1_init 14 = .ok (.aload_n 1, 1) := by decide +kernel
theorem dX1_init_15 : decode cX1_init 15 = .ok (.putfield 17, 3) := by decide +kernel
theorem dX1_init_18 : decode cX1_init 18 = .ok (.return_, 1) := by decide +kernel
theorem dX1_begin_0 : decode cX1_begin 0 = .ok (.aload_n 0, 1) := by decide +kernel
theorem dX1_begin_1 : decode cX1_begin 1 = .ok (.aload_n 1, 1) := by decide +kernel
theorem dX1_begin_2 : decode cX1_begin 2 = .ok (.putfield 17, 3) := by decide +kernel
theorem dX1_begin_5 : decode cX1_begin 5 = .ok (.aload_n 0, 1) := by decide +kernel
theorem dX1_begin_6 : decode cX1_begin 6 = .ok (.iload_n 2, 1) := by decide +kernel
theorem dX1_begin_7 : decode cX1_begin 7 = .ok (.putfield 21, 3) := by decide +kernel
theorem dX1_begin_10 : decode cX1_begin 10 = .ok (.aload_n 0, 1) := by decide +kernel
theorem dX1_begin_11 : decode cX1_begin 11 = .ok (.iconst 0, 1) := by decide +kernel
theorem dX1_begin_12 : decode cX1_begin 12 = .ok (.putfield 25, 3) := by decide +kernel
theorem dX1_begin_15 : decode cX1_begin 15 = .ok (.iconst 0, 1) := by decide +kernel
theorem dX1_begin_16 : decode cX1_begin 16 = .ok (.istore 4, 2) := by decide +kernel
theorem dX1_begin_18 : decode cX1_begin 18 = .ok (.iload 4, 2) := by decide +kernel
theorem dX1_begin_20 : decode cX1_begin 20 = .ok (.bipush 8, 2) := by decide +kernel
theorem dX1_begin_22 : decode cX1_begin 22 = .ok (.if_icmp .ge 17, 3) := by decide +kernel
theorem dX1_begin_25 : decode cX1_begin 25 = .ok (.aload_n 0, 1) := by decide +kernel
theorem dX1_begin_26 : decode cX1_begin 26 = .ok (.getfield 11, 3) := by decide +kernel
theorem dX1_begin_29 : decode cX1_begin 29 = .ok (.iload 4, 2) := by decide +kernel
theorem dX1_begin_31 : decode cX1_begin 31 = .ok (.aconst_null, 1) := by decide +kernel
theorem dX1_begin_32 : decode cX1_begin 32 = .ok (.aastore, 1) := by decide +kernel
theorem dX1_begin_33 : decode cX1_begin 33 = .ok (.iinc 4 1, 3) := by decide +kernel
theorem dX1_begin_36 : decode cX1_begin 36 = .ok (.goto (-18), 3) := by decide +kernel
theorem dX1_begin_39 : decode cX1_begin 39 = .ok (.aload_n 0, 1) := by decide +kernel
theorem dX1_begin_40 : decode cX1_begin 40 = .ok (.getfield 11, 3) := by decide +kernel
theorem dX1_begin_43 : decode cX1_begin 43 = .ok (.iconst 0, 1) := by decide +kernel
theorem dX1_begin_44 : decode cX1_begin 44 = .ok (.aload_n 3, 1) := by decide +kernel
theorem dX1_begin_45 : decode cX1_begin 45 = .ok (.aastore, 1) := by decide +kernel
theorem dX1_begin_46 : decode cX1_begin 46 = .ok (.return_, 1) := by decide +kernel
theorem dX1_in_0 : decode cX1_in 0 = .ok (.iload_n 1, 1) := by decide +kernel
theorem dX1_in_1 : decode cX1_in 1 = .ok (.bipush 8, 2) := by decide +kernel
theorem dX1_in_3 : decode cX1_in 3 = .ok (.invokestatic 28, 3) := by decide +kernel
theorem dX1_in_6 : decode cX1_in 6 = .ok (.ifCond .eq 12, 3) := by decide +kernel
theorem dX1_in_9 : decode cX1_in 9 = .ok (.aload_n 0, 1) := by decide +kernel
theorem dX1_in_10 : decode cX1_in 10 = .ok (.getfield 11, 3) := by decide +kernel
theorem dX1_in_13 : decode cX1_in 13 = .ok (.iload_n 1, 1) := by decide +kernel
theorem dX1_in_14 : decode cX1_in 14 = .ok (.aaload, 1) := by decide +kernel
theorem dX1_in_15 : decode cX1_in 15 = .ok (.goto 4, 3) := by decide +kernel
theorem dX1_in_18 : decode cX1_in 18 = .ok (.aconst_null, 1) := by decide +kernel
theorem dX1_in_19 : decode cX1_in 19 = .ok (.areturn, 1) := by decide +kernel
theorem dX1_put_0 : decode cX1_put 0 = .ok (.iload_n 1, 1) := by decide +kernel
theorem dX1_put_1 : decode cX1_put 1 = .ok (.bipush 8, 2) := by decide +kernel
theorem dX1_put_3 : decode cX1_put 3 = .ok (.invokestatic 28, 3) := by decide +kernel
theorem dX1_put_6 : decode cX1_put 6 = .ok (.ifCond .eq 10, 3) := by decide +kernel
theorem dX1_put_9 : decode cX1_put 9 = .ok (.aload_n 0, 1) := by decide +kernel
theorem dX1_put_10 : decode cX1_put 10 = .ok (.getfield 11, 3) := by decide +kernel
theorem dX1_put_13 : decode cX1_put 13 = .ok (.iload_n 1, 1) := by decide +kernel
theorem dX1_put_14 : decode cX1_put 14 = .ok (.aload_n 2, 1) := by decide +kernel
theorem dX1_put_15 : decode cX1_put 15 = .ok (.aastore, 1) := by decide +kernel
theorem dX1_put_16 : decode cX1_put 16 = .ok (.return_, 1) := by decide +kernel
theorem dX2_init_0 : decode cX2_init 0 = .ok (.aload_n 0, 1) := by decide +kernel
theorem dX2_init_1 : decode cX2_init 1 = .ok (.invokespecial 3, 3) := by decide +kernel
theorem dX2_init_4 : decode cX2_init 4 = .ok (.aload_n 0, 1) := by decide +kernel
theorem dX2_init_5 : decode cX2_init 5 = .ok (.bipush 16, 2) := by decide +kernel
theorem dX2_init_7 : decode cX2_init 7 = .ok (.newarray .int, 2) := by decide +kernel
theorem dX2_init_9 : decode cX2_init 9 = .ok (.putfield 9, 3) := by decide +kernel
theorem dX2_init_12 : decode cX2_init 12 = .ok (.aload_n 0, 1) := by decide +kernel
theorem dX2_init_13 : decode cX2_init 13 = .ok (.bipush 16, 2) := by decide +kernel
theorem dX2_init_15 : decode cX2_init 15 = .ok (.newarray .int, 2) := by decide +kernel
theorem dX2_init_17 : decode cX2_init 17 = .ok (.putfield 15, 3) := by decide +kernel
theorem dX2_init_20 : decode cX2_init 20 = .ok (.aload_n 0, 1) := by decide +kernel
theorem dX2_init_21 : decode cX2_init 21 = .ok (.bipush 16, 2) := by decide +kernel
theorem dX2_init_23 : decode cX2_init 23 = .ok (.newarray .int, 2) := by decide +kernel
theorem dX2_init_25 : decode cX2_init 25 = .ok (.putfield 18, 3) := by decide +kernel
theorem dX2_init_28 : decode cX2_init 28 = .ok (.aload_n 0, 1) := by decide +kernel
theorem dX2_init_29 : decode cX2_init 29 = .ok (.bipush 16, 2) := by decide +kernel
theorem dX2_init_31 : decode cX2_init 31 = .ok (.newarray .int, 2) := by decide +kernel
theorem dX2_init_33 : decode cX2_init 33 = .ok (.putfield 21, 3) := by decide +kernel
theorem dX2_init_36 : decode cX2_init 36 = .ok (.aload_n 0, 1) := by decide +kernel
theorem dX2_init_37 : decode cX2_init 37 = .ok (.bipush 16, 2) := by decide +kernel
theorem dX2_init_39 : decode cX2_init 39 = .ok (.newarray .int, 2) := by decide +kernel
theorem dX2_init_41 : decode cX2_init 41 = .ok (.putfield 24, 3) := by decide +kernel
theorem dX2_init_44 : decode cX2_init 44 = .ok (.aload_n 0, 1) := by decide +kernel
theorem dX2_init_45 : decode cX2_init 45 = .ok (.bipush 16, 2) := by decide +kernel
theorem dX2_init_47 : decode cX2_init 47 = .ok (.newarray .int, 2) := by decide +kernel
theorem dX2_init_49 : decode cX2_init 49 = .ok (.putfield 27, 3) := by decide +kernel
theorem dX2_init_52 : decode cX2_init 52 = .ok (.return_, 1) := by decide +kernel
theorem dX2_add_0 : decode cX2_add 0 = .ok (.aload_n 0, 1) := by decide +kernel
theorem dX2_add_1 : decode cX2_add 1 = .ok (.getfield 30, 3) := by decide +kernel
theorem dX2_add_4 : decode cX2_add 4 = .ok (.bipush 16, 2) := by decide +kernel
theorem dX2_add_6 : decode cX2_add 6 = .ok (.invokestatic 34, 3) := by decide +kernel
theorem dX2_add_9 : decode cX2_add 9 = .ok (.ifCond .ne 5, 3) := by decide +kernel
theorem dX2_add_12 : decode cX2_add 12 = .ok (.iconst (-1), 1) := by decide +kernel
theorem dX2_add_13 : decode cX2_add 13 = .ok (.ireturn, 1) := by decide +kernel
theorem dX2_add_14 : decode cX2_add 14 = .ok (.aload_n 0, 1) := by decide +kernel
theorem dX2_add_15 : decode cX2_add 15 = .ok (.getfield 9, 3) := by decide +kernel
theorem dX2_add_18 : decode cX2_add 18 = .ok (.aload_n 0, 1) := by decide +kernel
theorem dX2_add_19 : decode cX2_add 19 = .ok (.getfield 30, 3) := by decide +kernel
theorem dX2_add_22 : decode cX2_add 22 = .ok (.iload_n 1, 1) := by decide +kernel
theorem dX2_add_23 : decode cX2_add 23 = .ok (.iastore, 1) := by decide +kernel
theorem dX2_add_24 : decode cX2_add 24 = .ok (.aload_n 0, 1) := by decide +kernel
theorem dX2_add_25 : decode cX2_add 25 = .ok (.getfield 15, 3) := by decide +kernel
theorem dX2_add_28 : decode cX2_add 28 = .ok (.aload_n 0, 1) := by decide +kernel
theorem dX2_add_29 : decode cX2_add 29 = .ok (.getfield 30, 3) := by decide +kernel
theorem dX2_add_32 : decode cX2_add 32 = .ok (.iload_n 2, 1) := by decide +kernel
theorem dX2_add_33 : decode cX2_add 33 = .ok (.iastore, 1) := by decide +kernel
theorem dX2_add_34 : decode cX2_add 34 = .ok (.aload_n 0, 1) := by decide +kernel
theorem dX2_add_35 : decode cX2_add 35 = .ok (.getfield 18, 3) := by decide +kernel
theorem dX2_add_38 : decode cX2_add 38 = .ok (.aload_n 0, 1) := by decide +kernel
theorem dX2_add_39 : decode cX2_add 39 = .ok (.getfield 30, 3) := by decide +kernel
theorem dX2_add_42 : decode cX2_add 42 = .ok (.iload_n 3, 1) := by decide +kernel
theorem dX2_add_43 : decode cX2_add 43 = .ok (.iastore, 1) := by decide +kernel
theorem dX2_add_44 : decode cX2_add 44 = .ok (.aload_n 0, 1) := by decide +kernel
theorem dX2_add_45 : decode cX2_add 45 = .ok (.getfield 21, 3) := by decide +kernel
theorem dX2_add_48 : decode cX2_add 48 = .ok (.aload_n 0, 1) := by decide +kernel
theorem dX2_add_49 : decode cX2_add 49 = .ok (.getfield 30, 3) := by decide +kernel
theorem dX2_add_52 : decode cX2_add 52 = .ok (.iload 4, 2) := by decide +kernel
theorem dX2_add_54 : decode cX2_add 54 = .ok (.iastore, 1) := by decide +kernel
theorem dX2_add_55 : decode cX2_add 55 = .ok (.aload_n 0, 1) := by decide +kernel
theorem dX2_add_56 : decode cX2_add 56 = .ok (.getfield 24, 3) := by decide +kernel
theorem dX2_add_59 : decode cX2_add 59 = .ok (.aload_n 0, 1) := by decide +kernel
theorem dX2_add_60 : decode cX2_add 60 = .ok (.getfield 30, 3) := by decide +kernel
theorem dX2_add_63 : decode cX2_add 63 = .ok (.iconst (-1), 1) := by decide +kernel
theorem dX2_add_64 : decode cX2_add 64 = .ok (.iastore, 1) := by decide +kernel
theorem dX2_add_65 : decode cX2_add 65 = .ok (.aload_n 0, 1) := by decide +kernel
theorem dX2_add_66 : decode cX2_add 66 = .ok (.getfield 27, 3) := by decide +kernel
theorem dX2_add_69 : decode cX2_add 69 = .ok (.aload_n 0, 1) := by decide +kernel
theorem dX2_add_70 : decode cX2_add 70 = .ok (.getfield 30, 3) := by decide +kernel
theorem dX2_add_73 : decode cX2_add 73 = .ok (.iconst (-1), 1) := by decide +kernel
theorem dX2_add_74 : decode cX2_add 74 = .ok (.iastore, 1) := by decide +kernel
theorem dX2_add_75 : decode cX2_add 75 = .ok (.aload_n 0, 1) := by decide +kernel
theorem dX2_add_76 : decode cX2_add 76 = .ok (.dup, 1) := by decide +kernel
theorem dX2_add_77 : decode cX2_add 77 = .ok (.getfield 30, 3) := by decide +kernel
theorem dX2_add_80 : decode cX2_add 80 = .ok (.iconst 1, 1) := by decide +kernel
theorem dX2_add_81 : decode cX2_add 81 = .ok (.iadd, 1) := by decide +kernel
theorem dX2_add_82 : decode cX2_add 82 = .ok (.putfield 30, 3) := by decide +kernel
theorem dX2_add_85 : decode cX2_add 85 = .ok (.aload_n 0, 1) := by decide +kernel
theorem dX2_add_86 : decode cX2_add 86 = .ok (.getfield 30, 3) := by decide +kernel
theorem dX2_add_89 : decode cX2_add 89 = .ok (.iconst 1, 1) := by decide +kernel
theorem dX2_add_90 : decode cX2_add 90 = .ok (.isub, 1) := by decide +kernel
theorem dX2_add_91 : decode cX2_add 91 = .ok (.ireturn, 1) := by decide +kernel
theorem dX2_kindOf_0 : decode cX2_kindOf 0 = .ok (.iload_n 1, 1) := by decide +kernel
theorem dX2_kindOf_1 : decode cX2_kindOf 1 = .ok (.aload_n 0, 1) := by decide +kernel
theorem dX2_kindOf_2 : decode cX2_kindOf 2 = .ok (.getfield 30, 3) := by decide +kernel
theorem dX2_kindOf_5 : decode cX2_kindOf 5 = .ok (.invokestatic 34, 3) := by decide +kernel
theorem dX2_kindOf_8 : decode cX2_kindOf 8 = .ok (.ifCond .eq 12, 3) := by decide +kernel
theorem dX2_kindOf_11 : decode cX2_kindOf 11 = .ok (.aload_n 0, 1) := by decide +kernel
theorem dX2_kindOf_12 : decode cX2_kindOf 12 = .ok (.getfield 9, 3) := by decide +kernel
theorem dX2_kindOf_15 : decode cX2_kindOf 15 = .ok (.iload_n 1, 1) := by decide +kernel
theorem dX2_kindOf_16 : decode cX2_kindOf 16 = .ok (.iaload, 1) := by decide +kernel
theorem dX2_kindOf_17 : decode cX2_kindOf 17 = .ok (.goto 4, 3) := by decide +kernel
theorem dX2_kindOf_20 : decode cX2_kindOf 20 = .ok (.iconst (-1), 1) := by decide +kernel
theorem dX2_kindOf_21 : decode cX2_kindOf 21 = .ok (.ireturn, 1) := by decide +kernel
theorem dX2_giveCause_0 : decode cX2_giveCause 0 = .ok (.iload_n 1, 1) := by decide +kernel
theorem dX2_giveCause_1 : decode cX2_giveCause 1 = .ok (.aload_n 0, 1) := by decide +kernel
theorem dX2_giveCause_2 : decode cX2_giveCause 2 = .ok (.getfield 30, 3) := by decide +kernel
theorem dX2_giveCause_5 : decode cX2_giveCause 5 = .ok (.invokestatic 34, 3) := by decide +kernel
theorem dX2_giveCause_8 : decode cX2_giveCause 8 = .ok (.ifCond .eq 20, 3) := by decide +kernel
theorem dX2_giveCause_11 : decode cX2_giveCause 11 = .ok (.aload_n 0, 1) := by decide +kernel
theorem dX2_giveCause_12 : decode cX2_giveCause 12 = .ok (.getfield 24, 3) := by decide +kernel
theorem dX2_giveCause_15 : decode cX2_giveCause 15 = .ok (.iload_n 1, 1) := by decide +kernel
theorem dX2_giveCause_16 : decode cX2_giveCause 16 = .ok (.iaload, 1) := by decide +kernel
theorem dX2_giveCause_17 : decode cX2_giveCause 17 = .ok (.iconst (-1), 1) := by decide +kernel
theorem dX2_giveCause_18 : decode cX2_giveCause 18 = .ok (.if_icmp .ne 10, 3) := by decide +kernel
theorem dX2_giveCause_21 : decode cX2_giveCause 21 = .ok (.aload_n 0, 1) := by decide +kernel
theorem dX2_giveCause_22 : decode cX2_giveCause 22 = .ok (.getfield 24, 3) := by decide +kernel
theorem dX2_giveCause_25 : decode cX2_giveCause 25 = .ok (.iload_n 1, 1) := by decide +kernel
theorem dX2_giveCause_26 : decode cX2_giveCause 26 = .ok (.iload_n 2, 1) := by decide +kernel
theorem dX2_giveCause_27 : decode cX2_giveCause 27 = .ok (.iastore, 1) := by decide +kernel
theorem dX2_giveCause_28 : decode cX2_giveCause 28 = .ok (.return_, 1) := by decide +kernel
theorem dX2_suppress_0 : decode cX2_suppress 0 = .ok (.iload_n 1, 1) := by decide +kernel
theorem dX2_suppress_1 : decode cX2_suppress 1 = .ok (.aload_n 0, 1) := by decide +kernel
theorem dX2_suppress_2 : decode cX2_suppress 2 = .ok (.getfield 30, 3) := by decide +kernel
theorem dX2_suppress_5 : decode cX2_suppress 5 = .ok (.invokestatic 34, 3) := by decide +kernel
theorem dX2_suppress_8 : decode cX2_suppress 8 = .ok (.ifCond .eq 10, 3) := by decide +kernel
theorem dX2_suppress_11 : decode cX2_suppress 11 = .ok (.aload_n 0, 1) := by decide +kernel
theorem dX2_suppress_12 : decode cX2_suppress 12 = .ok (.getfield 27, 3) := by decide +kernel
theorem dX2_suppress_15 : decode cX2_suppress 15 = .ok (.iload_n 1, 1) := by decide +kernel
theorem dX2_suppress_16 : decode cX2_suppress 16 = .ok (.iload_n 2, 1) := by decide +kernel
theorem dX2_suppress_17 : decode cX2_suppress 17 = .ok (.iastore, 1) := by decide +kernel
theorem dX2_suppress_18 : decode cX2_suppress 18 = .ok (.return_, 1) := by decide +kernel
theorem dX2_told_0 : decode cX2_told 0 = .ok (.iload_n 1, 1) := by decide +kernel
theorem dX2_told_1 : decode cX2_told 1 = .ok (.aload_n 0, 1) := by decide +kernel
theorem dX2_told_2 : decode cX2_told 2 = .ok (.getfield 30, 3) := by decide +kernel
theorem dX2_told_5 : decode cX2_told 5 = .ok (.invokestatic 34, 3) := by decide +kernel
theorem dX2_told_8 : decode cX2_told 8 = .ok (.ifCond .ne 5, 3) := by decide +kernel
theorem dX2_told_11 : decode cX2_told 11 = .ok (.iconst (-1), 1) := by decide +kernel
theorem dX2_told_12 : decode cX2_told 12 = .ok (.ireturn, 1) := by decide +kernel
theorem dX2_told_13 : decode cX2_told 13 = .ok (.iload_n 2, 1) := by decide +kernel
theorem dX2_told_14 : decode cX2_told 14 = .ok (.tableswitch 69 0 4 #[34, 41, 48, 55, 62], 34) := by decide +kernel
theorem dX2_told_48 : decode cX2_told 48 = .ok (.aload_n 0, 1) := by decide +kernel
theorem dX2_told_49 : decode cX2_told 49 = .ok (.getfield 9, 3) := by decide +kernel
theorem dX2_told_52 : decode cX2_told 52 = .ok (.iload_n 1, 1) := by decide +kernel
theorem dX2_told_53 : decode cX2_told 53 = .ok (.iaload, 1) := by decide +kernel
theorem dX2_told_54 : decode cX2_told 54 = .ok (.ireturn, 1) := by decide +kernel
theorem dX2_told_55 : decode cX2_told 55 = .ok (.aload_n 0, 1) := by decide +kernel
theorem dX2_told_56 : decode cX2_told 56 = .ok (.getfield 15, 3) := by decide +kernel
theorem dX2_told_59 : decode cX2_told 59 = .ok (.iload_n 1, 1) := by decide +kernel
theorem dX2_told_60 : decode cX2_told 60 = .ok (.iaload, 1) := by decide +kernel
theorem dX2_told_61 : decode cX2_told 61 = .ok (.ireturn, 1) := by decide +kernel
theorem dX2_told_62 : decode cX2_told 62 = .ok (.aload_n 0, 1) := by decide +kernel
theorem dX2_told_63 : decode cX2_told 63 = .ok (.getfield 18, 3) := by decide +kernel
theorem dX2_told_66 : decode cX2_told 66 = .ok (.iload_n 1, 1) := by decide +kernel
theorem dX2_told_67 : decode cX2_told 67 = .ok (.iaload, 1) := by decide +kernel
theorem dX2_told_68 : decode cX2_told 68 = .ok (.ireturn, 1) := by decide +kernel
theorem dX2_told_69 : decode cX2_told 69 = .ok (.aload_n 0, 1) := by decide +kernel
theorem dX2_told_70 : decode cX2_told 70 = .ok (.getfield 21, 3) := by decide +kernel
theorem dX2_told_73 : decode cX2_told 73 = .ok (.iload_n 1, 1) := by decide +kernel
theorem dX2_told_74 : decode cX2_told 74 = .ok (.iaload, 1) := by decide +kernel
theorem dX2_told_75 : decode cX2_told 75 = .ok (.ireturn, 1) := by decide +kernel
theorem dX2_told_76 : decode cX2_told 76 = .ok (.aload_n 0, 1) := by decide +kernel
theorem dX2_told_77 : decode cX2_told 77 = .ok (.getfield 24, 3) := by decide +kernel
theorem dX2_told_80 : decode cX2_told 80 = .ok (.iload_n 1, 1) := by decide +kernel
theorem dX2_told_81 : decode cX2_told 81 = .ok (.iaload, 1) := by decide +kernel
theorem dX2_told_82 : decode cX2_told 82 = .ok (.ireturn, 1) := by decide +kernel
theorem dX2_told_83 : decode cX2_told 83 = .ok (.aload_n 0, 1) := by decide +kernel
theorem dX2_told_84 : decode cX2_told 84 = .ok (.getfield 27, 3) := by decide +kernel
theorem dX2_told_87 : decode cX2_told 87 = .ok (.iload_n 1, 1) := by decide +kernel
theorem dX2_told_88 : decode cX2_told 88 = .ok (.iaload, 1) := by decide +kernel
theorem dX2_told_89 : decode cX2_told 89 = .ok (.ireturn, 1) := by decide +kernel
theorem dX3_init_0 : decode cX3_init 0 = .ok (.aload_n 0, 1) := by decide +kernel
theorem dX3_init_1 : decode cX3_init 1 = .ok (.invokespecial 3, 3) := by decide +kernel
theorem dX3_init_4 : decode cX3_init 4 = .ok (.aload_n 0, 1) := by decide +kernel
theorem dX3_init_5 : decode cX3_init 5 = .ok (.bipush 60, 2) := by decide +kernel
theorem dX3_init_7 : decode cX3_init 7 = .ok (.anewarray 9, 3) := by decide +kernel
theorem dX3_init_10 : decode cX3_init 10 = .ok (.putfield 11, 3) := by decide +kernel
theorem dX3_init_13 : decode cX3_init 13 = .ok (.aload_n 0, 1) := by decide +kernel
theorem dX3_init_14 : decode cX3_init 14 = .ok (.bipush 60, 2) := by decide +kernel
theorem dX3_init_16 : decode cX3_init 16 = .ok (.newarray .int, 2) := by decide +kernel
theorem dX3_init_18 : decode cX3_init 18 = .ok (.putfield 17, 3) := by decide +kernel
theorem dX3_init_21 : decode cX3_init 21 = .ok (.aload_n 0, 1) := by decide +kernel
theorem dX3_init_22 : decode cX3_init 22 = .ok (.bipush 60, 2) := by decide +kernel
theorem dX3_init_24 : decode cX3_init 24 = .ok (.newarray .int, 2) := by decide +kernel
theorem dX3_init_26 : decode cX3_init 26 = .ok (.putfield 21, 3) := by decide +kernel
theorem dX3_init_29 : decode cX3_init 29 = .ok (.aload_n 0, 1) := by decide +kernel
theorem dX3_init_30 : decode cX3_init 30 = .ok (.bipush 8, 2) := by decide +kernel
theorem dX3_init_32 : decode cX3_init 32 = .ok (.newarray .long, 2) := by decide +kernel
theorem dX3_init_34 : decode cX3_init 34 = .ok (.putfield 24, 3) := by decide +kernel
theorem dX3_init_37 : decode cX3_init 37 = .ok (.aload_n 0, 1) := by decide +kernel
theorem dX3_init_38 : decode cX3_init 38 = .ok (.new 28, 3) := by decide +kernel
theorem dX3_init_41 : decode cX3_init 41 = .ok (.dup, 1) := by decide +kernel
theorem dX3_init_42 : decode cX3_init 42 = .ok (.invokespecial 30, 3) := by decide +kernel
theorem dX3_init_45 : decode cX3_init 45 = .ok (.putfield 31, 3) := by decide +kernel
theorem dX3_init_48 : decode cX3_init 48 = .ok (.aload_n 0, 1) := by decide +kernel
theorem dX3_init_49 : decode cX3_init 49 = .ok (.new 35, 3) := by decide +kernel
theorem dX3_init_52 : decode cX3_init 52 = .ok (.dup, 1) := by decide +kernel
theorem dX3_init_53 : decode cX3_init 53 = .ok (.invokespecial 37, 3) := by decide +kernel
theorem dX3_init_56 : decode cX3_init 56 = .ok (.putfield 38, 3) := by decide +kernel
theorem dX3_init_59 : decode cX3_init 59 = .ok (.return_, 1) := by decide +kernel
theorem dX3_find_0 : decode cX3_find 0 = .ok (.iload_n 1, 1) := by decide +kernel
theorem dX3_find_1 : decode cX3_find 1 = .ok (.aload_n 0, 1) := by decide +kernel
theorem dX3_find_2 : decode cX3_find 2 = .ok (.getfield 42, 3) := by decide +kernel
theorem dX3_find_5 : decode cX3_find 5 = .ok (.invokestatic 46, 3) := by decide +kernel
theorem dX3_find_8 : decode cX3_find 8 = .ok (.ifCond .eq 12, 3) := by decide +kernel
theorem dX3_find_11 : decode cX3_find 11 = .ok (.aload_n 0, 1) := by decide +kernel
theorem dX3_find_12 : decode cX3_find 12 = .ok (.getfield 11, 3) := by decide +kernel
theorem dX3_find_15 : decode cX3_find 15 = .ok (.iload_n 1, 1) := by decide +kernel
theorem dX3_find_16 : decode cX3_find 16 = .ok (.aaload, 1) := by decide +kernel
theorem dX3_find_17 : decode cX3_find 17 = .ok (.goto 4, 3) := by decide +kernel
theorem dX3_find_20 : decode cX3_find 20 = .ok (.aconst_null, 1) := by decide +kernel
theorem dX3_find_21 : decode cX3_find 21 = .ok (.areturn, 1) := by decide +kernel
theorem dX3_findHeld_0 : decode cX3_findHeld 0 = .ok (.iload_n 1, 1) := by decide +kernel
theorem dX3_findHeld_1 : decode cX3_findHeld 1 = .ok (.aload_n 0, 1) := by decide +kernel
theorem dX3_findHeld_2 : decode cX3_findHeld 2 = .ok (.getfield 50, 3) := by decide +kernel
theorem dX3_findHeld_5 : decode cX3_findHeld 5 = .ok (.invokestatic 46, 3) := by decide +kernel
theorem dX3_findHeld_8 : decode cX3_findHeld 8 = .ok (.ifCond .eq 16, 3) := by decide +kernel
theorem dX3_findHeld_11 : decode cX3_findHeld 11 = .ok (.aload_n 0, 1) := by decide +kernel
theorem dX3_findHeld_12 : decode cX3_findHeld 12 = .ok (.aload_n 0, 1) := by decide +kernel
theorem dX3_findHeld_13 : decode cX3_findHeld 13 = .ok (.getfield 21, 3) := by decide +kernel
theorem dX3_findHeld_16 : decode cX3_findHeld 16 = .ok (.iload_n 1, 1) := by decide +kernel
theorem dX3_findHeld_17 : decode cX3_findHeld 17 = .ok (.iaload, 1) := by decide +kernel
theorem dX3_findHeld_18 : decode cX3_findHeld 18 = .ok (.invokevirtual 53, 3) := by decide +kernel
theorem dX3_findHeld_21 : decode cX3_findHeld 21 = .ok (.goto 4, 3) := by decide +kernel
theorem dX3_findHeld_24 : decode cX3_findHeld 24 = .ok (.aconst_null, 1) := by decide +kernel
theorem dX3_findHeld_25 : decode cX3_findHeld 25 = .ok (.areturn, 1) := by decide +kernel
theorem dX3_inCleaning_0 : decode cX3_inCleaning 0 = .ok (.iload_n 1, 1) := by decide +kernel
theorem dX3_inCleaning_1 : decode cX3_inCleaning 1 = .ok (.aload_n 0, 1) := by decide +kernel
theorem dX3_inCleaning_2 : decode cX3_inCleaning 2 = .ok (.getfield 57, 3) := by decide +kernel
theorem dX3_inCleaning_5 : decode cX3_inCleaning 5 = .ok (.invokestatic 46, 3) := by decide +kernel
theorem dX3_inCleaning_8 : decode cX3_inCleaning 8 = .ok (.ifCond .eq 12, 3) := by decide +kernel
theorem dX3_inCleaning_11 : decode cX3_inCleaning 11 = .ok (.aload_n 0, 1) := by decide +kernel
theorem dX3_inCleaning_12 : decode cX3_inCleaning 12 = .ok (.getfield 17, 3) := by decide +kernel
theorem dX3_inCleaning_15 : decode cX3_inCleaning 15 = .ok (.iload_n 1, 1) := by decide +kernel
theorem dX3_inCleaning_16 : decode cX3_inCleaning 16 = .ok (.iaload, 1) := by decide +kernel
theorem dX3_inCleaning_17 : decode cX3_inCleaning 17 = .ok (.goto 4, 3) := by decide +kernel
theorem dX3_inCleaning_20 : decode cX3_inCleaning 20 = .ok (.iconst (-1), 1) := by decide +kernel
theorem dX3_inCleaning_21 : decode cX3_inCleaning 21 = .ok (.ireturn, 1) := by decide +kernel
theorem dX3_takeIn_0 : decode cX3_takeIn 0 = .ok (.aload_n 0, 1) := by decide +kernel
theorem dX3_takeIn_1 : decode cX3_takeIn 1 = .ok (.getfield 42, 3) := by decide +kernel
theorem dX3_takeIn_4 : decode cX3_takeIn 4 = .ok (.bipush 60, 2) := by decide +kernel
theorem dX3_takeIn_6 : decode cX3_takeIn 6 = .ok (.invokestatic 46, 3) := by decide +kernel
theorem dX3_takeIn_9 : decode cX3_takeIn 9 = .ok (.ifCond .ne 6, 3) := by decide +kernel
theorem dX3_takeIn_12 : decode cX3_takeIn 12 = .ok (.bipush (-104), 2) := by decide +kernel
theorem dX3_takeIn_14 : decode cX3_takeIn 14 = .ok (.ireturn, 1) := by decide +kernel
theorem dX3_takeIn_15 : decode cX3_takeIn 15 = .ok (.aload_n 0, 1) := by decide +kernel
theorem dX3_takeIn_16 : decode cX3_takeIn 16 = .ok (.getfield 11, 3) := by decide +kernel
theorem dX3_takeIn_19 : decode cX3_takeIn 19 = .ok (.aload_n 0, 1) := by decide +kernel
theorem dX3_takeIn_20 : decode cX3_takeIn 20 = .ok (.getfield 42, 3) := by decide +kernel
theorem dX3_takeIn_23 : decode cX3_takeIn 23 = .ok (.new 9, 3) := by decide +kernel
theorem dX3_takeIn_26 : decode cX3_takeIn 26 = .ok (.dup, 1) := by decide +kernel
theorem dX3_takeIn_27 : decode cX3_takeIn 27 = .ok (.aload_n 0, 1) := by decide +kernel
theorem dX3_takeIn_28 : decode cX3_takeIn 28 = .ok (.getfield 42, 3) := by decide +kernel
theorem dX3_takeIn_31 : decode cX3_takeIn 31 = .ok (.iload_n 1, 1) := by decide +kernel
theorem dX3_takeIn_32 : decode cX3_takeIn 32 = .ok (.iload_n 2, 1) := by decide +kernel
theorem dX3_takeIn_33 : decode cX3_takeIn 33 = .ok (.invokespecial 60, 3) := by decide +kernel
theorem dX3_takeIn_36 : decode cX3_takeIn 36 = .ok (.aastore, 1) := by decide +kernel
theorem dX3_takeIn_37 : decode cX3_takeIn 37 = .ok (.aload_n 0, 1) := by decide +kernel
theorem dX3_takeIn_38 : decode cX3_takeIn 38 = .ok (.dup, 1) := by decide +kernel
theorem dX3_takeIn_39 : decode cX3_takeIn 39 = .ok (.getfield 42, 3) := by decide +kernel
theorem dX3_takeIn_42 : decode cX3_takeIn 42 = .ok (.iconst 1, 1) := by decide +kernel
theorem dX3_takeIn_43 : decode cX3_takeIn 43 = .ok (.iadd, 1) := by decide +kernel
theorem dX3_takeIn_44 : decode cX3_takeIn 44 = .ok (.putfield 42, 3) := by decide +kernel
theorem dX3_takeIn_47 : decode cX3_takeIn 47 = .ok (.aload_n 0, 1) := by decide +kernel
theorem dX3_takeIn_48 : decode cX3_takeIn 48 = .ok (.getfield 42, 3) := by decide +kernel
theorem dX3_takeIn_51 : decode cX3_takeIn 51 = .ok (.iconst 1, 1) := by decide +kernel
theorem dX3_takeIn_52 : decode cX3_takeIn 52 = .ok (.isub, 1) := by decide +kernel
theorem dX3_takeIn_53 : decode cX3_takeIn 53 = .ok (.ireturn, 1) := by decide +kernel
theorem dX3_firstOnRack_0 : decode cX3_firstOnRack 0 = .ok (.iconst 0, 1) := by decide +kernel
theorem dX3_firstOnRack_1 : decode cX3_firstOnRack 1 = .ok (.istore_n 2, 1) := by decide +kernel
theorem dX3_firstOnRack_2 : decode cX3_firstOnRack 2 = .ok (.iload_n 2, 1) := by decide +kernel
theorem dX3_firstOnRack_3 : decode cX3_firstOnRack 3 = .ok (.aload_n 0, 1) := by decide +kernel
theorem dX3_firstOnRack_4 : decode cX3_firstOnRack 4 = .ok (.getfield 42, 3) := by decide +kernel
theorem dX3_firstOnRack_7 : decode cX3_firstOnRack 7 = .ok (.if_icmp .ge 37, 3) := by decide +kernel
theorem dX3_firstOnRack_10 : decode cX3_firstOnRack 10 = .ok (.aload_n 0, 1) := by decide +kernel
theorem dX3_firstOnRack_11 : decode cX3_firstOnRack 11 = .ok (.getfield 11, 3) := by decide +kernel
theorem dX3_firstOnRack_14 : decode cX3_firstOnRack 14 = .ok (.iload_n 2, 1) := by decide +kernel
theorem dX3_firstOnRack_15 : decode cX3_firstOnRack 15 = .ok (.aaload, 1) := by decide +kernel
theorem dX3_firstOnRack_16 : decode cX3_firstOnRack 16 = .ok (.astore_n 3, 1) := by decide +kernel
theorem dX3_firstOnRack_17 : decode cX3_firstOnRack 17 = .ok (.aload_n 3, 1) := by decide +kernel
theorem dX3_firstOnRack_18 : decode cX3_firstOnRack 18 = .ok (.ifnull 20, 3) := by decide +kernel
theorem dX3_firstOnRack_21 : decode cX3_firstOnRack 21 = .ok (.aload_n 3, 1) := by decide +kernel
theorem dX3_firstOnRack_22 : decode cX3_firstOnRack 22 = .ok (.getfield 63, 3) := by decide +kernel
theorem dX3_firstOnRack_25 : decode cX3_firstOnRack 25 = .ok (.iload_n 1, 1) := by decide +kernel
theorem dX3_firstOnRack_26 : decode cX3_firstOnRack 26 = .ok (.if_icmp .ne 12, 3) := by decide +kernel
theorem dX3_firstOnRack_29 : decode cX3_firstOnRack 29 = .ok (.aload_n 3, 1) := by decide +kernel
theorem dX3_firstOnRack_30 : decode cX3_firstOnRack 30 = .ok (.getfield 66, 3) := by decide +kernel
theorem dX3_firstOnRack_33 : decode cX3_firstOnRack 33 = .ok (.ifCond .ne 5, 3) := by decide +kernel
theorem dX3_firstOnRack_36 : decode cX3_firstOnRack 36 = .ok (.aload_n 3, 1) := by decide +kernel
theorem dX3_firstOnRack_37 : decode cX3_firstOnRack 37 = .ok (.areturn, 1) := by decide +kernel
theorem dX3_firstOnRack_38 : decode cX3_firstOnRack 38 = .ok (.iinc 2 1, 3) := by decide +kernel
theorem dX3_firstOnRack_41 : decode cX3_firstOnRack 41 = .ok (.goto (-39), 3) := by decide +kernel
theorem dX3_firstOnRack_44 : decode cX3_firstOnRack 44 = .ok (.aconst_null, 1) := by decide +kernel
theorem dX3_firstOnRack_45 : decode cX3_firstOnRack 45 = .ok (.areturn, 1) := by decide +kernel
theorem dX3_cleanFirst_0 : decode cX3_cleanFirst 0 = .ok (.iload_n 1, 1) := by decide +kernel
theorem dX3_cleanFirst_1 : decode cX3_cleanFirst 1 = .ok (.aload_n 0, 1) := by decide +kernel
theorem dX3_cleanFirst_2 : decode cX3_cleanFirst 2 = .ok (.getfield 57, 3) := by decide +kernel
theorem dX3_cleanFirst_5 : decode cX3_cleanFirst 5 = .ok (.invokestatic 69, 3) := by decide +kernel
theorem dX3_cleanFirst_8 : decode cX3_cleanFirst 8 = .ok (.istore_n 2, 1) := by decide +kernel
theorem dX3_cleanFirst_9 : decode cX3_cleanFirst 9 = .ok (.iconst 0, 1) := by decide +kernel
theorem dX3_cleanFirst_10 : decode cX3_cleanFirst 10 = .ok (.istore_n 3, 1) := by decide +kernel
theorem dX3_cleanFirst_11 : decode cX3_cleanFirst 11 = .ok (.iload_n 3, 1) := by decide +kernel
theorem dX3_cleanFirst_12 : decode cX3_cleanFirst 12 = .ok (.iload_n 2, 1) := by decide +kernel
theorem dX3_cleanFirst_13 : decode cX3_cleanFirst 13 = .ok (.if_icmp .ge 31, 3) := by decide +kernel
theorem dX3_cleanFirst_16 : decode cX3_cleanFirst 16 = .ok (.aload_n 0, 1) := by decide +kernel
theorem dX3_cleanFirst_17 : decode cX3_cleanFirst 17 = .ok (.aload_n 0, 1) := by decide +kernel
theorem dX3_cleanFirst_18 : decode cX3_cleanFirst 18 = .ok (.iload_n 3, 1) := by decide +kernel
theorem dX3_cleanFirst_19 : decode cX3_cleanFirst 19 = .ok (.invokevirtual 75, 3) := by decide +kernel
theorem dX3_cleanFirst_22 : decode cX3_cleanFirst 22 = .ok (.invokevirtual 53, 3) := by decide +kernel
theorem dX3_cleanFirst_25 : decode cX3_cleanFirst 25 = .ok (.astore 4, 2) := by decide +kernel
theorem dX3_cleanFirst_27 : decode cX3_cleanFirst 27 = .ok (.aload 4, 2) := by decide +kernel
theorem dX3_cleanFirst_29 : decode cX3_cleanFirst 29 = .ok (.ifnull 9, 3) := by decide +kernel
theorem dX3_cleanFirst_32 : decode cX3_cleanFirst 32 = .ok (.aload 4, 2) := by decide +kernel
theorem dX3_cleanFirst_34 : decode cX3_cleanFirst 34 = .ok (.iconst 0, 1) := by decide +kernel
theorem dX3_cleanFirst_35 : decode cX3_cleanFirst 35 = .ok (.putfield 66, 3) := by decide +kernel
theorem dX3_cleanFirst_38 : decode cX3_cleanFirst 38 = .ok (.iinc 3 1, 3) := by decide +kernel
theorem dX3_cleanFirst_41 : decode cX3_cleanFirst 41 = .ok (.goto (-30), 3) := by decide +kernel
theorem dX3_cleanFirst_44 : decode cX3_cleanFirst 44 = .ok (.iload_n 2, 1) := by decide +kernel
theorem dX3_cleanFirst_45 : decode cX3_cleanFirst 45 = .ok (.istore_n 3, 1) := by decide +kernel
theorem dX3_cleanFirst_46 : decode cX3_cleanFirst 46 = .ok (.iload_n 3, 1) := by decide +kernel
theorem dX3_cleanFirst_47 : decode cX3_cleanFirst 47 = .ok (.aload_n 0, 1) := by decide +kernel
theorem dX3_cleanFirst_48 : decode cX3_cleanFirst 48 = .ok (.getfield 57, 3) := by decide +kernel
theorem dX3_cleanFirst_51 : decode cX3_cleanFirst 51 = .ok (.if_icmp .ge 23, 3) := by decide +kernel
theorem dX3_cleanFirst_54 : decode cX3_cleanFirst 54 = .ok (.aload_n 0, 1) := by decide +kernel
theorem dX3_cleanFirst_55 : decode cX3_cleanFirst 55 = .ok (.getfield 17, 3) := by decide +kernel
theorem dX3_cleanFirst_58 : decode cX3_cleanFirst 58 = .ok (.iload_n 3, 1) := by decide +kernel
theorem dX3_cleanFirst_59 : decode cX3_cleanFirst 59 = .ok (.iload_n 2, 1) := by decide +kernel
theorem dX3_cleanFirst_60 : decode cX3_cleanFirst 60 = .ok (.isub, 1) := by decide +kernel
theorem dX3_cleanFirst_61 : decode cX3_cleanFirst 61 = .ok (.aload_n 0, 1) := by decide +kernel
theorem dX3_cleanFirst_62 : decode cX3_cleanFirst 62 = .ok (.getfield 17, 3) := by decide +kernel
theorem dX3_cleanFirst_65 : decode cX3_cleanFirst 65 = .ok (.iload_n 3, 1) := by decide +kernel
theorem dX3_cleanFirst_66 : decode cX3_cleanFirst 66 = .ok (.iaload, 1) := by decide +kernel
theorem dX3_cleanFirst_67 : decode cX3_cleanFirst 67 = .ok (.iastore, 1) := by decide +kernel
theorem dX3_cleanFirst_68 : decode cX3_cleanFirst 68 = .ok (.iinc 3 1, 3) := by decide +kernel
theorem dX3_cleanFirst_71 : decode cX3_cleanFirst 71 = .ok (.goto (-25), 3) := by decide +kernel
theorem dX3_cleanFirst_74 : decode cX3_cleanFirst 74 = .ok (.aload_n 0, 1) := by decide +kernel
theorem dX3_cleanFirst_75 : decode cX3_cleanFirst 75 = .ok (.dup, 1) := by decide +kernel
theorem dX3_cleanFirst_76 : decode cX3_cleanFirst 76 = .ok (.getfield 57, 3) := by decide +kernel
theorem dX3_cleanFirst_79 : decode cX3_cleanFirst 79 = .ok (.iload_n 2, 1) := by decide +kernel
theorem dX3_cleanFirst_80 : decode cX3_cleanFirst 80 = .ok (.isub, 1) := by decide +kernel
theorem dX3_cleanFirst_81 : decode cX3_cleanFirst 81 = .ok (.putfield 57, 3) := by decide +kernel
theorem dX3_cleanFirst_84 : decode cX3_cleanFirst 84 = .ok (.iload_n 2, 1) := by decide +kernel
theorem dX3_cleanFirst_85 : decode cX3_cleanFirst 85 = .ok (.ireturn, 1) := by decide +kernel
theorem dX3_giveOut_0 : decode cX3_giveOut 0 = .ok (.aload_n 1, 1) := by decide +kernel
theorem dX3_giveOut_1 : decode cX3_giveOut 1 = .ok (.iconst 1, 1) := by decide +kernel
theorem dX3_giveOut_2 : decode cX3_giveOut 2 = .ok (.putfield 66, 3) := by decide +kernel
theorem dX3_giveOut_5 : decode cX3_giveOut 5 = .ok (.aload_n 1, 1) := by decide +kernel
theorem dX3_giveOut_6 : decode cX3_giveOut 6 = .ok (.iload_n 2, 1) := by decide +kernel
theorem dX3_giveOut_7 : decode cX3_giveOut 7 = .ok (.putfield 79, 3) := by decide +kernel
theorem dX3_giveOut_10 : decode cX3_giveOut 10 = .ok (.aload_n 1, 1) := by decide +kernel
theorem dX3_giveOut_11 : decode cX3_giveOut 11 = .ok (.iconst 0, 1) := by decide +kernel
theorem dX3_giveOut_12 : decode cX3_giveOut 12 = .ok (.putfield 82, 3) := by decide +kernel
theorem dX3_giveOut_15 : decode cX3_giveOut 15 = .ok (.iload_n 3, 1) := by decide +kernel
theorem dX3_giveOut_16 : decode cX3_giveOut 16 = .ok (.ifCond .eq 38, 3) := by decide +kernel
theorem dX3_giveOut_19 : decode cX3_giveOut 19 = .ok (.aload_n 0, 1) := by decide +kernel
theorem dX3_giveOut_20 : decode cX3_giveOut 20 = .ok (.getfield 50, 3) := by decide +kernel
theorem dX3_giveOut_23 : decode cX3_giveOut 23 = .ok (.bipush 60, 2) := by decide +kernel
theorem dX3_giveOut_25 : decode cX3_giveOut 25 = .ok (.invokestatic 46, 3) := by decide +kernel
theorem dX3_giveOut_28 : decode cX3_giveOut 28 = .ok (.ifCond .eq 26, 3) := by decide +kernel
theorem dX3_giveOut_31 : decode cX3_giveOut 31 = .ok (.aload_n 0, 1) := by decide +kernel
theorem dX3_giveOut_32 : decode cX3_giveOut 32 = .ok (.getfield 21, 3) := by decide +kernel
theorem dX3_giveOut_35 : decode cX3_giveOut 35 = .ok (.aload_n 0, 1) := by decide +kernel
theorem dX3_giveOut_36 : decode cX3_giveOut 36 = .ok (.getfield 50, 3) := by decide +kernel
theorem dX3_giveOut_39 : decode cX3_giveOut 39 = .ok (.aload_n 1, 1) := by decide +kernel
theorem dX3_giveOut_40 : decode cX3_giveOut 40 = .ok (.getfield 85, 3) := by decide +kernel
theorem dX3_giveOut_43 : decode cX3_giveOut 43 = .ok (.iastore, 1) := by decide +kernel
theorem dX3_giveOut_44 : decode cX3_giveOut 44 = .ok (.aload_n 0, 1) := by decide +kernel
theorem dX3_giveOut_45 : decode cX3_giveOut 45 = .ok (.dup, 1) := by decide +kernel
theorem dX3_giveOut_46 : decode cX3_giveOut 46 = .ok (.getfield 50, 3) := by decide +kernel
theorem dX3_giveOut_49 : decode cX3_giveOut 49 = .ok (.iconst 1, 1) := by decide +kernel
theorem dX3_giveOut_50 : decode cX3_giveOut 50 = .ok (.iadd, 1) := by decide +kernel
theorem dX3_giveOut_51 : decode cX3_giveOut 51 = .ok (.putfield 50, 3) := by decide +kernel
theorem dX3_giveOut_54 : decode cX3_giveOut 54 = .ok (.return_, 1) := by decide +kernel
theorem dX3_takeBack_0 : decode cX3_takeBack 0 = .ok (.aload_n 0, 1) := by decide +kernel
theorem dX3_takeBack_1 : decode cX3_takeBack 1 = .ok (.getfield 31, 3) := by decide +kernel
theorem dX3_takeBack_4 : decode cX3_takeBack 4 = .ok (.aload_n 1, 1) := by decide +kernel
theorem dX3_takeBack_5 : decode cX3_takeBack 5 = .ok (.getfield 85, 3) := by decide +kernel
theorem dX3_takeBack_8 : decode cX3_takeBack 8 = .ok (.iconst 1, 1) := by decide +kernel
theorem dX3_takeBack_9 : decode cX3_takeBack 9 = .ok (.invokevirtual 88, 3) := by decide +kernel
theorem dX3_takeBack_12 : decode cX3_takeBack 12 = .ok (.istore_n 3, 1) := by decide +kernel
theorem dX3_takeBack_13 : decode cX3_takeBack 13 = .ok (.aload_n 0, 1) := by decide +kernel
theorem dX3_takeBack_14 : decode cX3_takeBack 14 = .ok (.aload_n 1, 1) := by decide +kernel
theorem dX3_takeBack_15 : decode cX3_takeBack 15 = .ok (.invokevirtual 91, 3) := by decide +kernel
theorem dX3_takeBack_18 : decode cX3_takeBack 18 = .ok (.iload_n 3, 1) := by decide +kernel
theorem dX3_takeBack_19 : decode cX3_takeBack 19 = .ok (.ifCond .eq 16, 3) := by decide +kernel
theorem dX3_takeBack_22 : decode cX3_takeBack 22 = .ok (.aload_n 1, 1) := by decide +kernel
theorem dX3_takeBack_23 : decode cX3_takeBack 23 = .ok (.iconst 3, 1) := by decide +kernel
theorem dX3_takeBack_24 : decode cX3_takeBack 24 = .ok (.putfield 66, 3) := by decide +kernel
theorem dX3_takeBack_27 : decode cX3_takeBack 27 = .ok (.aload_n 0, 1) := by decide +kernel
theorem dX3_takeBack_28 : decode cX3_takeBack 28 = .ok (.aload_n 1, 1) := by decide +kernel
theorem dX3_takeBack_29 : decode cX3_takeBack 29 = .ok (.invokevirtual 95, 3) := by decide +kernel
theorem dX3_takeBack_32 : decode cX3_takeBack 32 = .ok (.goto 13, 3) := by decide +kernel
theorem dX3_takeBack_35 : decode cX3_takeBack 35 = .ok (.aload_n 1, 1) := by decide +kernel
theorem dX3_takeBack_36 : decode cX3_takeBack 36 = .ok (.iconst 2, 1) := by decide +kernel
theorem dX3_takeBack_37 : decode cX3_takeBack 37 = .ok (.putfield 66, 3) := by decide +kernel
theorem dX3_takeBack_40 : decode cX3_takeBack 40 = .ok (.aload_n 0, 1) := by decide +kernel
theorem dX3_takeBack_41 : decode cX3_takeBack 41 = .ok (.aload_n 1, 1) := by decide +kernel
theorem dX3_takeBack_42 : decode cX3_takeBack 42 = .ok (.invokevirtual 98, 3) := by decide +kernel
theorem dX3_takeBack_45 : decode cX3_takeBack 45 = .ok (.aload_n 0, 1) := by decide +kernel
theorem dX3_takeBack_46 : decode cX3_takeBack 46 = .ok (.getfield 38, 3) := by decide +kernel
theorem dX3_takeBack_49 : decode cX3_takeBack 49 = .ok (.aload_n 1, 1) := by decide +kernel
theorem dX3_takeBack_50 : decode cX3_takeBack 50 = .ok (.getfield 85, 3) := by decide +kernel
theorem dX3_takeBack_53 : decode cX3_takeBack 53 = .ok (.iload_n 2, 1) := by decide +kernel
theorem dX3_takeBack_54 : decode cX3_takeBack 54 = .ok (.iload_n 3, 1) := by decide +kernel
theorem dX3_takeBack_55 : decode cX3_takeBack 55 = .ok (.invokevirtual 101, 3) := by decide +kernel
theorem dX3_takeBack_58 : decode cX3_takeBack 58 = .ok (.iload_n 3, 1) := by decide +kernel
theorem dX3_takeBack_59 : decode cX3_takeBack 59 = .ok (.ireturn, 1) := by decide +kernel
theorem dX3_charge_0 : decode cX3_charge 0 = .ok (.aload_n 1, 1) := by decide +kernel
theorem dX3_charge_1 : decode cX3_charge 1 = .ok (.getfield 79, 3) := by decide +kernel
theorem dX3_charge_4 : decode cX3_charge 4 = .ok (.ifCond .lt 29, 3) := by decide +kernel
theorem dX3_charge_7 : decode cX3_charge 7 = .ok (.aload_n 1, 1) := by decide +kernel
theorem dX3_charge_8 : decode cX3_charge 8 = .ok (.getfield 79, 3) := by decide +kernel
theorem dX3_charge_11 : decode cX3_charge 11 = .ok (.bipush 8, 2) := by decide +kernel
theorem dX3_charge_13 : decode cX3_charge 13 = .ok (.if_icmp .ge 20, 3) := by decide +kernel
theorem dX3_charge_16 : decode cX3_charge 16 = .ok (.aload_n 0, 1) := by decide +kernel
theorem dX3_charge_17 : decode cX3_charge 17 = .ok (.getfield 24, 3) := by decide +kernel
theorem dX3_charge_20 : decode cX3_charge 20 = .ok (.aload_n 1, 1) := by decide +kernel
theorem dX3_charge_21 : decode cX3_charge 21 = .ok (.getfield 79, 3) := by decide +kernel
theorem dX3_charge_24 : decode cX3_charge 24 = .ok (.dup2, 1) := by decide +kernel
theorem dX3_charge_25 : decode cX3_charge 25 = .ok (.laload, 1) := by decide +kernel
theorem dX3_charge_26 : decode cX3_charge 26 = .ok (.aload_n 1, 1) := by decide +kernel
theorem dX3_charge_27 : decode cX3_charge 27 = .ok (.getfield 105, 3) := by decide +kernel
theorem dX3_charge_30 : decode cX3_charge 30 = .ok (.i2l, 1) := by decide +kernel
theorem dX3_charge_31 : decode cX3_charge 31 = .ok (.ladd, 1) := by decide +kernel
theorem dX3_charge_32 : decode cX3_charge 32 = .ok (.lastore, 1) := by decide +kernel
theorem dX3_charge_33 : decode cX3_charge 33 = .ok (.return_, 1) := by decide +kernel
theorem dX3_toCleaning_0 : decode cX3_toCleaning 0 = .ok (.aload_n 0, 1) := by decide +kernel
theorem dX3_toCleaning_1 : decode cX3_toCleaning 1 = .ok (.getfield 57, 3) := by decide +kernel
theorem dX3_toCleaning_4 : decode cX3_toCleaning 4 = .ok (.bipush 60, 2) := by decide +kernel
theorem dX3_toCleaning_6 : decode cX3_toCleaning 6 = .ok (.if_icmp .ge 26, 3) := by decide +kernel
theorem dX3_toCleaning_9 : decode cX3_toCleaning 9 = .ok (.aload_n 0, 1) := by decide +kernel
theorem dX3_toCleaning_10 : decode cX3_toCleaning 10 = .ok (.getfield 17, 3) := by decide +kernel
theorem dX3_toCleaning_13 : decode cX3_toCleaning 13 = .ok (.aload_n 0, 1) := by decide +kernel
theorem dX3_toCleaning_14 : decode cX3_toCleaning 14 = .ok (.getfield 57, 3) := by decide +kernel
theorem dX3_toCleaning_17 : decode cX3_toCleaning 17 = .ok (.aload_n 1, 1) := by decide +kernel
theorem dX3_toCleaning_18 : decode cX3_toCleaning 18 = .ok (.getfield 85, 3) := by decide +kernel
theorem dX3_toCleaning_21 : decode cX3_toCleaning 21 = .ok (.iastore, 1) := by decide +kernel
theorem dX3_toCleaning_22 : decode cX3_toCleaning 22 = .ok (.aload_n 0, 1) := by decide +kernel
theorem dX3_toCleaning_23 : decode cX3_toCleaning 23 = .ok (.dup, 1) := by decide +kernel
theorem dX3_toCleaning_24 : decode cX3_toCleaning 24 = .ok (.getfield 57, 3) := by decide +kernel
theorem dX3_toCleaning_27 : decode cX3_toCleaning 27 = .ok (.iconst 1, 1) := by decide +kernel
theorem dX3_toCleaning_28 : decode cX3_toCleaning 28 = .ok (.iadd, 1) := by decide +kernel
theorem dX3_toCleaning_29 : decode cX3_toCleaning 29 = .ok (.putfield 57, 3) := by decide +kernel
theorem dX3_toCleaning_32 : decode cX3_toCleaning 32 = .ok (.return_, 1) := by decide +kernel
theorem dX3_holdNoMore_0 : decode cX3_holdNoMore 0 = .ok (.iconst 0, 1) := by decide +kernel
theorem dX3_holdNoMore_1 : decode cX3_holdNoMore 1 = .ok (.istore_n 2, 1) := by decide +kernel
theorem dX3_holdNoMore_2 : decode cX3_holdNoMore 2 = .ok (.iconst 0, 1) := by decide +kernel
theorem dX3_holdNoMore_3 : decode cX3_holdNoMore 3 = .ok (.istore_n 3, 1) := by decide +kernel
theorem dX3_holdNoMore_4 : decode cX3_holdNoMore 4 = .ok (.iload_n 3, 1) := by decide +kernel
theorem dX3_holdNoMore_5 : decode cX3_holdNoMore 5 = .ok (.aload_n 0, 1) := by decide +kernel
theorem dX3_holdNoMore_6 : decode cX3_holdNoMore 6 = .ok (.getfield 50, 3) := by decide +kernel
theorem dX3_holdNoMore_9 : decode cX3_holdNoMore 9 = .ok (.if_icmp .ge 37, 3) := by decide +kernel
theorem dX3_holdNoMore_12 : decode cX3_holdNoMore 12 = .ok (.aload_n 0, 1) := by decide +kernel
theorem dX3_holdNoMore_13 : decode cX3_holdNoMore 13 = .ok (.getfield 21, 3) := by decide +kernel
theorem dX3_holdNoMore_16 : decode cX3_holdNoMore 16 = .ok (.iload_n 3, 1) := by decide +kernel
theorem dX3_holdNoMore_17 : decode cX3_holdNoMore 17 = .ok (.iaload, 1) := by decide +kernel
theorem dX3_holdNoMore_18 : decode cX3_holdNoMore 18 = .ok (.aload_n 1, 1) := by decide +kernel
theorem dX3_holdNoMore_19 : decode cX3_holdNoMore 19 = .ok (.getfield 85, 3) := by decide +kernel
theorem dX3_holdNoMore_22 : decode cX3_holdNoMore 22 = .ok (.if_icmp .eq 18, 3) := by decide +kernel
theorem dX3_holdNoMore_25 : decode cX3_holdNoMore 25 = .ok (.aload_n 0, 1) := by decide +kernel
theorem dX3_holdNoMore_26 : decode cX3_holdNoMore 26 = .ok (.getfield 21, 3) := by decide +kernel
theorem dX3_holdNoMore_29 : decode cX3_holdNoMore 29 = .ok (.iload_n 2, 1) := by decide +kernel
theorem dX3_holdNoMore_30 : decode cX3_holdNoMore 30 = .ok (.aload_n 0, 1) := by decide +kernel
theorem dX3_holdNoMore_31 : decode cX3_holdNoMore 31 = .ok (.getfield 21, 3) := by decide +kernel
theorem dX3_holdNoMore_34 : decode cX3_holdNoMore 34 = .ok (.iload_n 3, 1) := by decide +kernel
theorem dX3_holdNoMore_35 : decode cX3_holdNoMore 35 = .ok (.iaload, 1) := by decide +kernel
theorem dX3_holdNoMore_36 : decode cX3_holdNoMore 36 = .ok (.iastore, 1) := by decide +kernel
theorem dX3_holdNoMore_37 : decode cX3_holdNoMore 37 = .ok (.iinc 2 1, 3) := by decide +kernel
theorem dX3_holdNoMore_40 : decode cX3_holdNoMore 40 = .ok (.iinc 3 1, 3) := by decide +kernel
theorem dX3_holdNoMore_43 : decode cX3_holdNoMore 43 = .ok (.goto (-39), 3) := by decide +kernel
theorem dX3_holdNoMore_46 : decode cX3_holdNoMore 46 = .ok (.aload_n 0, 1) := by decide +kernel
theorem dX3_holdNoMore_47 : decode cX3_holdNoMore 47 = .ok (.iload_n 2, 1) := by decide +kernel
theorem dX3_holdNoMore_48 : decode cX3_holdNoMore 48 = .ok (.putfield 50, 3) := by decide +kernel
theorem dX3_holdNoMore_51 : decode cX3_holdNoMore 51 = .ok (.return_, 1) := by decide +kernel
theorem dX3_deposit_0 : decode cX3_deposit 0 = .ok (.lconst 0, 1) := by decide +kernel
theorem dX3_deposit_1 : decode cX3_deposit 1 = .ok (.lstore_n 2, 1) := by decide +kernel
theorem dX3_deposit_2 : decode cX3_deposit 2 = .ok (.iconst 0, 1) := by decide +kernel
theorem dX3_deposit_3 : decode cX3_deposit 3 = .ok (.istore 4, 2) := by decide +kernel
theorem dX3_deposit_5 : decode cX3_deposit 5 = .ok (.iload 4, 2) := by decide +kernel
theorem dX3_deposit_7 : decode cX3_deposit 7 = .ok (.aload_n 0, 1) := by decide +kernel
theorem dX3_deposit_8 : decode cX3_deposit 8 = .ok (.getfield 42, 3) := by decide +kernel
theorem dX3_deposit_11 : decode cX3_deposit 11 = .ok (.if_icmp .ge 50, 3) := by decide +kernel
theorem dX3_deposit_14 : decode cX3_deposit 14 = .ok (.aload_n 0, 1) := by decide +kernel
theorem dX3_deposit_15 : decode cX3_deposit 15 = .ok (.getfield 11, 3) := by decide +kernel
theorem dX3_deposit_18 : decode cX3_deposit 18 = .ok (.iload 4, 2) := by decide +kernel
theorem dX3_deposit_20 : decode cX3_deposit 20 = .ok (.aaload, 1) := by decide +kernel
theorem dX3_deposit_21 : decode cX3_deposit 21 = .ok (.astore 5, 2) := by decide +kernel
theorem dX3_deposit_23 : decode cX3_deposit 23 = .ok (.aload 5, 2) := by decide +kernel
theorem dX3_deposit_25 : decode cX3_deposit 25 = .ok (.ifnull 30, 3) := by decide +kernel
theorem dX3_deposit_28 : decode cX3_deposit 28 = .ok (.aload 5, 2) := by decide +kernel
theorem dX3_deposit_30 : decode cX3_deposit 30 = .ok (.getfield 66, 3) := by decide +kernel
theorem dX3_deposit_33 : decode cX3_deposit 33 = .ok (.iconst 1, 1) := by decide +kernel
theorem dX3_deposit_34 : decode cX3_deposit 34 = .ok (.if_icmp .ne 21, 3) := by decide +kernel
theorem dX3_deposit_37 : decode cX3_deposit 37 = .ok (.aload 5, 2) := by decide +kernel
theorem dX3_deposit_39 : decode cX3_deposit 39 = .ok (.getfield 79, 3) := by decide +kernel
theorem dX3_deposit_42 : decode cX3_deposit 42 = .ok (.iload_n 1, 1) := by decide +kernel
theorem dX3_deposit_43 : decode cX3_deposit 43 = .ok (.if_icmp .ne 12, 3) := by decide +kernel
theorem dX3_deposit_46 : decode cX3_deposit 46 = .ok (.lload_n 2, 1) := by decide +kernel
theorem dX3_deposit_47 : decode cX3_deposit 47 = .ok (.aload 5, 2) := by decide +kernel
theorem dX3_deposit_49 : decode cX3_deposit 49 = .ok (.getfield 105, 3) := by decide +kernel
theorem dX3_deposit_52 : decode cX3_deposit 52 = .ok (.i2l, 1) := by decide +kernel
theorem dX3_deposit_53 : decode cX3_deposit 53 = .ok (.ladd, 1) := by decide +kernel
theorem dX3_deposit_54 : decode cX3_deposit 54 = .ok (.lstore_n 2, 1) := by decide +kernel
theorem dX3_deposit_55 : decode cX3_deposit 55 = .ok (.iinc 4 1, 3) := by decide +kernel
theorem dX3_deposit_58 : decode cX3_deposit 58 = .ok (.goto (-53), 3) := by decide +kernel
theorem dX3_deposit_61 : decode cX3_deposit 61 = .ok (.lload_n 2, 1) := by decide +kernel
theorem dX3_deposit_62 : decode cX3_deposit 62 = .ok (.lreturn, 1) := by decide +kernel
theorem dX4_init_0 : decode cX4_init 0 = .ok (.aload_n 0, 1) := by decide +kernel
theorem dX4_init_1 : decode cX4_init 1 = .ok (.invokespecial 1, 3) := by decide +kernel
theorem dX4_init_4 : decode cX4_init 4 = .ok (.return_, 1) := by decide +kernel
theorem dX4_begin_0 : decode cX4_begin 0 = .ok (.aload_n 0, 1) := by decide +kernel
theorem dX4_begin_1 : decode cX4_begin 1 = .ok (.aload_n 1, 1) := by decide +kernel
theorem dX4_begin_2 : decode cX4_begin 2 = .ok (.putfield 7, 3) := by decide +kernel
theorem dX4_begin_5 : decode cX4_begin 5 = .ok (.aload_n 0, 1) := by decide +kernel
theorem dX4_begin_6 : decode cX4_begin 6 = .ok (.iload_n 2, 1) := by decide +kernel
theorem dX4_begin_7 : decode cX4_begin 7 = .ok (.putfield 13, 3) := by decide +kernel
theorem dX4_begin_10 : decode cX4_begin 10 = .ok (.aload_n 0, 1) := by decide +kernel
theorem dX4_begin_11 : decode cX4_begin 11 = .ok (.iconst 1, 1) := by decide +kernel
theorem dX4_begin_12 : decode cX4_begin 12 = .ok (.putfield 17, 3) := by decide +kernel
theorem dX4_begin_15 : decode cX4_begin 15 = .ok (.aload_n 0, 1) := by decide +kernel
theorem dX4_begin_16 : decode cX4_begin 16 = .ok (.aload_n 3, 1) := by decide +kernel
theorem dX4_begin_17 : decode cX4_begin 17 = .ok (.putfield 21, 3) := by decide +kernel
theorem dX4_begin_20 : decode cX4_begin 20 = .ok (.aload_n 0, 1) := by decide +kernel
theorem dX4_begin_21 : decode cX4_begin 21 = .ok (.aconst_null, 1) := by decide +kernel
theorem dX4_begin_22 : decode cX4_begin 22 = .ok (.putfield 25, 3) := by decide +kernel
theorem dX4_begin_25 : decode cX4_begin 25 = .ok (.aload_n 0, 1) := by decide +kernel
theorem dX4_begin_26 : decode cX4_begin 26 = .ok (.aconst_null, 1) := by decide +kernel
theorem dX4_begin_27 : decode cX4_begin 27 = .ok (.putfield 28, 3) := by decide +kernel
theorem dX4_begin_30 : decode cX4_begin 30 = .ok (.aload_n 0, 1) := by decide +kernel
theorem dX4_begin_31 : decode cX4_begin 31 = .ok (.aconst_null, 1) := by decide +kernel
theorem dX4_begin_32 : decode cX4_begin 32 = .ok (.putfield 32, 3) := by decide +kernel
theorem dX4_begin_35 : decode cX4_begin 35 = .ok (.aload_n 0, 1) := by decide +kernel
theorem dX4_begin_36 : decode cX4_begin 36 = .ok (.aconst_null, 1) := by decide +kernel
theorem dX4_begin_37 : decode cX4_begin 37 = .ok (.putfield 35, 3) := by decide +kernel
theorem dX4_begin_40 : decode cX4_begin 40 = .ok (.aload_n 3, 1) := by decide +kernel
theorem dX4_begin_41 : decode cX4_begin 41 = .ok (.ifnull 8, 3) := by decide +kernel
theorem dX4_begin_44 : decode cX4_begin 44 = .ok (.aload_n 3, 1) := by decide +kernel
theorem dX4_begin_45 : decode cX4_begin 45 = .ok (.aload_n 0, 1) := by decide +kernel
theorem dX4_begin_46 : decode cX4_begin 46 = .ok (.putfield 25, 3) := by decide +kernel
theorem dX4_begin_49 : decode cX4_begin 49 = .ok (.return_, 1) := by decide +kernel
theorem dX4_moveTo_0 : decode cX4_moveTo 0 = .ok (.aload_n 0, 1) := by decide +kernel
theorem dX4_moveTo_1 : decode cX4_moveTo 1 = .ok (.invokevirtual 38, 3) := by decide +kernel
theorem dX4_moveTo_4 : decode cX4_moveTo 4 = .ok (.aload_n 0, 1) := by decide +kernel
theorem dX4_moveTo_5 : decode cX4_moveTo 5 = .ok (.aload_n 1, 1) := by decide +kernel
theorem dX4_moveTo_6 : decode cX4_moveTo 6 = .ok (.putfield 28, 3) := by decide +kernel
theorem dX4_moveTo_9 : decode cX4_moveTo 9 = .ok (.aload_n 0, 1) := by decide +kernel
theorem dX4_moveTo_10 : decode cX4_moveTo 10 = .ok (.aload_n 1, 1) := by decide +kernel
theorem dX4_moveTo_11 : decode cX4_moveTo 11 = .ok (.getfield 41, 3) := by decide +kernel
theorem dX4_moveTo_14 : decode cX4_moveTo 14 = .ok (.putfield 32, 3) := by decide +kernel
theorem dX4_moveTo_17 : decode cX4_moveTo 17 = .ok (.aload_n 1, 1) := by decide +kernel
theorem dX4_moveTo_18 : decode cX4_moveTo 18 = .ok (.getfield 41, 3) := by decide +kernel
theorem dX4_moveTo_21 : decode cX4_moveTo 21 = .ok (.ifnull 11, 3) := by decide +kernel
theorem dX4_moveTo_24 : decode cX4_moveTo 24 = .ok (.aload_n 1, 1) := by decide +kernel
theorem dX4_moveTo_25 : decode cX4_moveTo 25 = .ok (.getfield 41, 3) := by decide +kernel
theorem dX4_moveTo_28 : decode cX4_moveTo 28 = .ok (.aload_n 0, 1) := by decide +kernel
theorem dX4_moveTo_29 : decode cX4_moveTo 29 = .ok (.putfield 35, 3) := by decide +kernel
theorem dX4_moveTo_32 : decode cX4_moveTo 32 = .ok (.aload_n 1, 1) := by decide +kernel
theorem dX4_moveTo_33 : decode cX4_moveTo 33 = .ok (.aload_n 0, 1) := by decide +kernel
theorem dX4_moveTo_34 : decode cX4_moveTo 34 = .ok (.putfield 41, 3) := by decide +kernel
theorem dX4_moveTo_37 : decode cX4_moveTo 37 = .ok (.return_, 1) := by decide +kernel
theorem dX4_close_0 : decode cX4_close 0 = .ok (.aload_n 0, 1) := by decide +kernel
theorem dX4_close_1 : decode cX4_close 1 = .ok (.iconst 0, 1) := by decide +kernel
theorem dX4_close_2 : decode cX4_close 2 = .ok (.putfield 17, 3) := by decide +kernel
theorem dX4_close_5 : decode cX4_close 5 = .ok (.aload_n 0, 1) := by decide +kernel
theorem dX4_close_6 : decode cX4_close 6 = .ok (.invokevirtual 38, 3) := by decide +kernel
theorem dX4_close_9 : decode cX4_close 9 = .ok (.aload_n 0, 1) := by decide +kernel
theorem dX4_close_10 : decode cX4_close 10 = .ok (.getfield 21, 3) := by decide +kernel
theorem dX4_close_13 : decode cX4_close 13 = .ok (.ifnull 11, 3) := by decide +kernel
theorem dX4_close_16 : decode cX4_close 16 = .ok (.aload_n 0, 1) := by decide +kernel
theorem dX4_close_17 : decode cX4_close 17 = .ok (.getfield 21, 3) := by decide +kernel
theorem dX4_close_20 : decode cX4_close 20 = .ok (.aconst_null, 1) := by decide +kernel
theorem dX4_close_21 : decode cX4_close 21 = .ok (.putfield 25, 3) := by decide +kernel
theorem dX4_close_24 : decode cX4_close 24 = .ok (.return_, 1) := by decide +kernel
theorem dX4_leaveScope_0 : decode cX4_leaveScope 0 = .ok (.aload_n 0, 1) := by decide +kernel
theorem dX4_leaveScope_1 : decode cX4_leaveScope 1 = .ok (.getfield 32, 3) := by decide +kernel
theorem dX4_leaveScope_4 : decode cX4_leaveScope 4 = .ok (.ifnull 14, 3) := by decide +kernel
theorem dX4_leaveScope_7 : decode cX4_leaveScope 7 = .ok (.aload_n 0, 1) := by decide +kernel
theorem dX4_leaveScope_8 : decode cX4_leaveScope 8 = .ok (.getfield 32, 3) := by decide +kernel
theorem dX4_leaveScope_11 : decode cX4_leaveScope 11 = .ok (.aload_n 0, 1) := by decide +kernel
theorem dX4_leaveScope_12 : decode cX4_leaveScope 12 = .ok (.getfield 35, 3) := by decide +kernel
theorem dX4_leaveScope_15 : decode cX4_leaveScope 15 = .ok (.putfield 35, 3) := by decide +kernel
theorem dX4_leaveScope_18 : decode cX4_leaveScope 18 = .ok (.aload_n 0, 1) := by decide +kernel
theorem dX4_leaveScope_19 : decode cX4_leaveScope 19 = .ok (.getfield 35, 3) := by decide +kernel
theorem dX4_leaveScope_22 : decode cX4_leaveScope 22 = .ok (.ifnull 17, 3) := by decide +kernel
theorem dX4_leaveScope_25 : decode cX4_leaveScope 25 = .ok (.aload_n 0, 1) := by decide +kernel
theorem dX4_leaveScope_26 : decode cX4_leaveScope 26 = .ok (.getfield 35, 3) := by decide +kernel
theorem dX4_leaveScope_29 : decode cX4_leaveScope 29 = .ok (.aload_n 0, 1) := by decide +kernel
theorem dX4_leaveScope_30 : decode cX4_leaveScope 30 = .ok (.getfield 32, 3) := by decide +kernel
theorem dX4_leaveScope_33 : decode cX4_leaveScope 33 = .ok (.putfield 32, 3) := by decide +kernel
theorem dX4_leaveScope_36 : decode cX4_leaveScope 36 = .ok (.goto 21, 3) := by decide +kernel
theorem dX4_leaveScope_39 : decode cX4_leaveScope 39 = .ok (.aload_n 0, 1) := by decide +kernel
theorem dX4_leaveScope_40 : decode cX4_leaveScope 40 = .ok (.getfield 28, 3) := by decide +kernel
theorem dX4_leaveScope_43 : decode cX4_leaveScope 43 = .ok (.ifnull 14, 3) := by decide +kernel
theorem dX4_leaveScope_46 : decode cX4_leaveScope 46 = .ok (.aload_n 0, 1) := by decide +kernel
theorem dX4_leaveScope_47 : decode cX4_leaveScope 47 = .ok (.getfield 28, 3) := by decide +kernel
theorem dX4_leaveScope_50 : decode cX4_leaveScope 50 = .ok (.aload_n 0, 1) := by decide +kernel
theorem dX4_leaveScope_51 : decode cX4_leaveScope 51 = .ok (.getfield 32, 3) := by decide +kernel
theorem dX4_leaveScope_54 : decode cX4_leaveScope 54 = .ok (.putfield 41, 3) := by decide +kernel
theorem dX4_leaveScope_57 : decode cX4_leaveScope 57 = .ok (.aload_n 0, 1) := by decide +kernel
theorem dX4_leaveScope_58 : decode cX4_leaveScope 58 = .ok (.aconst_null, 1) := by decide +kernel
theorem dX4_leaveScope_59 : decode cX4_leaveScope 59 = .ok (.putfield 28, 3) := by decide +kernel
theorem dX4_leaveScope_62 : decode cX4_leaveScope 62 = .ok (.aload_n 0, 1) := by decide +kernel
theorem dX4_leaveScope_63 : decode cX4_leaveScope 63 = .ok (.aconst_null, 1) := by decide +kernel
theorem dX4_leaveScope_64 : decode cX4_leaveScope 64 = .ok (.putfield 32, 3) := by decide +kernel
theorem dX4_leaveScope_67 : decode cX4_leaveScope 67 = .ok (.aload_n 0, 1) := by decide +kernel
theorem dX4_leaveScope_68 : decode cX4_leaveScope 68 = .ok (.aconst_null, 1) := by decide +kernel
theorem dX4_leaveScope_69 : decode cX4_leaveScope 69 = .ok (.putfield 35, 3) := by decide +kernel
theorem dX4_leaveScope_72 : decode cX4_leaveScope 72 = .ok (.return_, 1) := by decide +kernel
theorem dX5_init_0 : decode cX5_init 0 = .ok (.aload_n 0, 1) := by decide +kernel
theorem dX5_init_1 : decode cX5_init 1 = .ok (.invokespecial 3, 3) := by decide +kernel
theorem dX5_init_4 : decode cX5_init 4 = .ok (.aload_n 0, 1) := by decide +kernel
theorem dX5_init_5 : decode cX5_init 5 = .ok (.bipush 60, 2) := by decide +kernel
theorem dX5_init_7 : decode cX5_init 7 = .ok (.newarray .int, 2) := by decide +kernel
theorem dX5_init_9 : decode cX5_init 9 = .ok (.putfield 9, 3) := by decide +kernel
theorem dX5_init_12 : decode cX5_init 12 = .ok (.aload_n 0, 1) := by decide +kernel
theorem dX5_init_13 : decode cX5_init 13 = .ok (.bipush 60, 2) := by decide +kernel
theorem dX5_init_15 : decode cX5_init 15 = .ok (.newarray .int, 2) := by decide +kernel
theorem dX5_init_17 : decode cX5_init 17 = .ok (.putfield 15, 3) := by decide +kernel
theorem dX5_init_20 : decode cX5_init 20 = .ok (.aload_n 0, 1) := by decide +kernel
theorem dX5_init_21 : decode cX5_init 21 = .ok (.bipush 60, 2) := by decide +kernel
theorem dX5_init_23 : decode cX5_init 23 = .ok (.newarray .int, 2) := by decide +kernel
theorem dX5_init_25 : decode cX5_init 25 = .ok (.putfield 18, 3) := by decide +kernel
theorem dX5_init_28 : decode cX5_init 28 = .ok (.aload_n 0, 1) := by decide +kernel
theorem dX5_init_29 : decode cX5_init 29 = .ok (.bipush 59, 2) := by decide +kernel
theorem dX5_init_31 : decode cX5_init 31 = .ok (.putfield 21, 3) := by decide +kernel
theorem dX5_init_34 : decode cX5_init 34 = .ok (.return_, 1) := by decide +kernel
theorem dX5_add_0 : decode cX5_add 0 = .ok (.aload_n 0, 1) := by decide +kernel
theorem dX5_add_1 : decode cX5_add 1 = .ok (.aload_n 0, 1) := by decide +kernel
theorem dX5_add_2 : decode cX5_add 2 = .ok (.getfield 21, 3) := by decide +kernel
theorem dX5_add_5 : decode cX5_add 5 = .ok (.bipush 59, 2) := by decide +kernel
theorem dX5_add_7 : decode cX5_add 7 = .ok (.if_icmp .ge 12, 3) := by decide +kernel
theorem dX5_add_10 : decode cX5_add 10 = .ok (.aload_n 0, 1) := by decide +kernel
theorem dX5_add_11 : decode cX5_add 11 = .ok (.getfield 21, 3) := by decide +kernel
theorem dX5_add_14 : decode cX5_add 14 = .ok (.iconst 1, 1) := by decide +kernel
theorem dX5_add_15 : decode cX5_add 15 = .ok (.iadd, 1) := by decide +kernel
theorem dX5_add_16 : decode cX5_add 16 = .ok (.goto 4, 3) := by decide +kernel
theorem dX5_add_19 : decode cX5_add 19 = .ok (.iconst 0, 1) := by decide +kernel
theorem dX5_add_20 : decode cX5_add 20 = .ok (.putfield 21, 3) := by decide +kernel
theorem dX5_add_23 : decode cX5_add 23 = .ok (.aload_n 0, 1) := by decide +kernel
theorem dX5_add_24 : decode cX5_add 24 = .ok (.getfield 9, 3) := by decide +kernel
theorem dX5_add_27 : decode cX5_add 27 = .ok (.aload_n 0, 1) := by decide +kernel
theorem dX5_add_28 : decode cX5_add 28 = .ok (.getfield 21, 3) := by decide +kernel
theorem dX5_add_31 : decode cX5_add 31 = .ok (.iload_n 1, 1) := by decide +kernel
theorem dX5_add_32 : decode cX5_add 32 = .ok (.iastore, 1) := by decide +kernel
theorem dX5_add_33 : decode cX5_add 33 = .ok (.aload_n 0, 1) := by decide +kernel
theorem dX5_add_34 : decode cX5_add 34 = .ok (.getfield 15, 3) := by decide +kernel
theorem dX5_add_37 : decode cX5_add 37 = .ok (.aload_n 0, 1) := by decide +kernel
theorem dX5_add_38 : decode cX5_add 38 = .ok (.getfield 21, 3) := by decide +kernel
theorem dX5_add_41 : decode cX5_add 41 = .ok (.iload_n 2, 1) := by decide +kernel
theorem dX5_add_42 : decode cX5_add 42 = .ok (.iastore, 1) := by decide +kernel
theorem dX5_add_43 : decode cX5_add 43 = .ok (.aload_n 0, 1) := by decide +kernel
theorem dX5_add_44 : decode cX5_add 44 = .ok (.getfield 18, 3) := by decide +kernel
theorem dX5_add_47 : decode cX5_add 47 = .ok (.aload_n 0, 1) := by decide +kernel
theorem dX5_add_48 : decode cX5_add 48 = .ok (.getfield 21, 3) := by decide +kernel
theorem dX5_add_51 : decode cX5_add 51 = .ok (.iload_n 3, 1) := by decide +kernel
theorem dX5_add_52 : decode cX5_add 52 = .ok (.ifCond .eq 7, 3) := by decide +kernel
theorem dX5_add_55 : decode cX5_add 55 = .ok (.iconst 1, 1) := by decide +kernel
theorem dX5_add_56 : decode cX5_add 56 = .ok (.goto 4, 3) := by decide +kernel
theorem dX5_add_59 : decode cX5_add 59 = .ok (.iconst 0, 1) := by decide +kernel
theorem dX5_add_60 : decode cX5_add 60 = .ok (.iastore, 1) := by decide +kernel
theorem dX5_add_61 : decode cX5_add 61 = .ok (.aload_n 0, 1) := by decide +kernel
theorem dX5_add_62 : decode cX5_add 62 = .ok (.getfield 25, 3) := by decide +kernel
theorem dX5_add_65 : decode cX5_add 65 = .ok (.bipush 60, 2) := by decide +kernel
theorem dX5_add_67 : decode cX5_add 67 = .ok (.if_icmp .ge 13, 3) := by decide +kernel
theorem dX5_add_70 : decode cX5_add 70 = .ok (.aload_n 0, 1) := by decide +kernel
theorem dX5_add_71 : decode cX5_add 71 = .ok (.dup, 1) := by decide +kernel
theorem dX5_add_72 : decode cX5_add 72 = .ok (.getfield 25, 3) := by decide +kernel
theorem dX5_add_75 : decode cX5_add 75 = .ok (.iconst 1, 1) := by decide +kernel
theorem dX5_add_76 : decode cX5_add 76 = .ok (.iadd, 1) := by decide +kernel
theorem dX5_add_77 : decode cX5_add 77 = .ok (.putfield 25, 3) := by decide +kernel
theorem dX5_add_80 : decode cX5_add 80 = .ok (.return_, 1) := by decide +kernel
theorem dX5_told_0 : decode cX5_told 0 = .ok (.iload_n 1, 1) := by decide +kernel
theorem dX5_told_1 : decode cX5_told 1 = .ok (.aload_n 0, 1) := by decide +kernel
theorem dX5_told_2 : decode cX5_told 2 = .ok (.getfield 25, 3) := by decide +kernel
theorem dX5_told_5 : decode cX5_told 5 = .ok (.invokestatic 28, 3) := by decide +kernel
theorem dX5_told_8 : decode cX5_told 8 = .ok (.ifCond .ne 5, 3) := by decide +kernel
theorem dX5_told_11 : decode cX5_told 11 = .ok (.iconst (-1), 1) := by decide +kernel
theorem dX5_told_12 : decode cX5_told 12 = .ok (.ireturn, 1) := by decide +kernel
theorem dX5_told_13 : decode cX5_told 13 = .ok (.aload_n 0, 1) := by decide +kernel
theorem dX5_told_14 : decode cX5_told 14 = .ok (.getfield 21, 3) := by decide +kernel
theorem dX5_told_17 : decode cX5_told 17 = .ok (.iload_n 1, 1) := by decide +kernel
theorem dX5_told_18 : decode cX5_told 18 = .ok (.if_icmp .lt 12, 3) := by decide +kernel
theorem dX5_told_21 : decode cX5_told 21 = .ok (.aload_n 0, 1) := by decide +kernel
theorem dX5_told_22 : decode cX5_told 22 = .ok (.getfield 21, 3) := by decide +kernel
theorem dX5_told_25 : decode cX5_told 25 = .ok (.iload_n 1, 1) := by decide +kernel
theorem dX5_told_26 : decode cX5_told 26 = .ok (.isub, 1) := by decide +kernel
theorem dX5_told_27 : decode cX5_told 27 = .ok (.goto 12, 3) := by decide +kernel
theorem dX5_told_30 : decode cX5_told 30 = .ok (.aload_n 0, 1) := by decide +kernel
theorem dX5_told_31 : decode cX5_told 31 = .ok (.getfield 21, 3) := by decide +kernel
theorem dX5_told_34 : decode cX5_told 34 = .ok (.iload_n 1, 1) := by decide +kernel
theorem dX5_told_35 : decode cX5_told 35 = .ok (.isub, 1) := by decide +kernel
theorem dX5_told_36 : decode cX5_told 36 = .ok (.bipush 60, 2) := by decide +kernel
theorem dX5_told_38 : decode cX5_told 38 = .ok (.iadd, 1) := by decide +kernel
theorem dX5_told_39 : decode cX5_told 39 = .ok (.istore_n 3, 1) := by decide +kernel
theorem dX5_told_40 : decode cX5_told 40 = .ok (.iload_n 2, 1) := by decide +kernel
theorem dX5_told_41 : decode cX5_told 41 = .ok (.lookupswitch 41 #[(0, 27), (1, 34)], 27) := by decide +kernel
theorem dX5_told_68 : decode cX5_told 68 = .ok (.aload_n 0, 1) := by decide +kernel
theorem dX5_told_69 : decode cX5_told 69 = .ok (.getfield 9, 3) := by decide +kernel
theorem dX5_told_72 : decode cX5_told 72 = .ok (.iload_n 3, 1) := by decide +kernel
theorem dX5_told_73 : decode cX5_told 73 = .ok (.iaload, 1) := by decide +kernel
theorem dX5_told_74 : decode cX5_told 74 = .ok (.ireturn, 1) := by decide +kernel
theorem dX5_told_75 : decode cX5_told 75 = .ok (.aload_n 0, 1) := by decide +kernel
theorem dX5_told_76 : decode cX5_told 76 = .ok (.getfield 15, 3) := by decide +kernel
theorem dX5_told_79 : decode cX5_told 79 = .ok (.iload_n 3, 1) := by decide +kernel
theorem dX5_told_80 : decode cX5_told 80 = .ok (.iaload, 1) := by decide +kernel
theorem dX5_told_81 : decode cX5_told 81 = .ok (.ireturn, 1) := by decide +kernel
theorem dX5_told_82 : decode cX5_told 82 = .ok (.aload_n 0, 1) := by decide +kernel
theorem dX5_told_83 : decode cX5_told 83 = .ok (.getfield 18, 3) := by decide +kernel
theorem dX5_told_86 : decode cX5_told 86 = .ok (.iload_n 3, 1) := by decide +kernel
theorem dX5_told_87 : decode cX5_told 87 = .ok (.iaload, 1) := by decide +kernel
theorem dX5_told_88 : decode cX5_told 88 = .ok (.ireturn, 1) := by decide +kernel
theorem dX6_init_0 : decode cX6_init 0 = .ok (.aload_n 0, 1) := by decide +kernel
theorem dX6_init_1 : decode cX6_init 1 = .ok (.invokespecial 3, 3) := by decide +kernel
theorem dX6_init_4 : decode cX6_init 4 = .ok (.aload_n 0, 1) := by decide +kernel
theorem dX6_init_5 : decode cX6_init 5 = .ok (.iload_n 1, 1) := by decide +kernel
theorem dX6_init_6 : decode cX6_init 6 = .ok (.putfield 9, 3) := by decide +kernel
theorem dX6_init_9 : decode cX6_init 9 = .ok (.aload_n 0, 1) := by decide +kernel
theorem dX6_init_10 : decode cX6_init 10 = .ok (.iload_n 2, 1) := by decide +kernel
theorem dX6_init_11 : decode cX6_init 11 = .ok (.putfield 15, 3) := by decide +kernel
theorem dX6_init_14 : decode cX6_init 14 = .ok (.aload_n 0, 1) := by decide +kernel
theorem dX6_init_15 : decode cX6_init 15 = .ok (.iload_n 3, 1) := by decide +kernel
theorem dX6_init_16 : decode cX6_init 16 = .ok (.putfield 18, 3) := by decide +kernel
theorem dX6_init_19 : decode cX6_init 19 = .ok (.aload_n 0, 1) := by decide +kernel
theorem dX6_init_20 : decode cX6_init 20 = .ok (.bipush 10, 2) := by decide +kernel
theorem dX6_init_22 : decode cX6_init 22 = .ok (.newarray .int, 2) := by decide +kernel
theorem dX6_init_24 : decode cX6_init 24 = .ok (.putfield 21, 3) := by decide +kernel
theorem dX6_init_27 : decode cX6_init 27 = .ok (.aload_n 0, 1) := by decide +kernel
theorem dX6_init_28 : decode cX6_init 28 = .ok (.bipush 10, 2) := by decide +kernel
theorem dX6_init_30 : decode cX6_init 30 = .ok (.newarray .int, 2) := by decide +kernel
theorem dX6_init_32 : decode cX6_init 32 = .ok (.putfield 25, 3) := by decide +kernel
theorem dX6_init_35 : decode cX6_init 35 = .ok (.return_, 1) := by decide +kernel
theorem dX6_addToTrace_0 : decode cX6_addToTrace 0 = .ok (.aload_n 0, 1) := by decide +kernel
theorem dX6_addToTrace_1 : decode cX6_addToTrace 1 = .ok (.getfield 28, 3) := by decide +kernel
theorem dX6_addToTrace_4 : decode cX6_addToTrace 4 = .ok (.bipush 10, 2) := by decide +kernel
theorem dX6_addToTrace_6 : decode cX6_addToTrace 6 = .ok (.invokestatic 31, 3) := by decide +kernel
theorem dX6_addToTrace_9 : decode cX6_addToTrace 9 = .ok (.ifCond .eq 33, 3) := by decide +kernel
theorem dX6_addToTrace_12 : decode cX6_addToTrace 12 = .ok (.aload_n 0, 1) := by decide +kernel
theorem dX6_addToTrace_13 : decode cX6_addToTrace 13 = .ok (.getfield 21, 3) := by decide +kernel
theorem dX6_addToTrace_16 : decode cX6_addToTrace 16 = .ok (.aload_n 0, 1) := by decide +kernel
theorem dX6_addToTrace_17 : decode cX6_addToTrace 17 = .ok (.getfield 28, 3) := by decide +kernel
theorem dX6_addToTrace_20 : decode cX6_addToTrace 20 = .ok (.iload_n 1, 1) := by decide +kernel
theorem dX6_addToTrace_21 : decode cX6_addToTrace 21 = .ok (.iastore, 1) := by decide +kernel
theorem dX6_addToTrace_22 : decode cX6_addToTrace 22 = .ok (.aload_n 0, 1) := by decide +kernel
theorem dX6_addToTrace_23 : decode cX6_addToTrace 23 = .ok (.getfield 25, 3) := by decide +kernel
theorem dX6_addToTrace_26 : decode cX6_addToTrace 26 = .ok (.aload_n 0, 1) := by decide +kernel
theorem dX6_addToTrace_27 : decode cX6_addToTrace 27 = .ok (.getfield 28, 3) := by decide +kernel
theorem dX6_addToTrace_30 : decode cX6_addToTrace 30 = .ok (.iload_n 2, 1) := by decide +kernel
theorem dX6_addToTrace_31 : decode cX6_addToTrace 31 = .ok (.iastore, 1) := by decide +kernel
theorem dX6_addToTrace_32 : decode cX6_addToTrace 32 = .ok (.aload_n 0, 1) := by decide +kernel
theorem dX6_addToTrace_33 : decode cX6_addToTrace 33 = .ok (.dup, 1) := by decide +kernel
theorem dX6_addToTrace_34 : decode cX6_addToTrace 34 = .ok (.getfield 28, 3) := by decide +kernel
theorem dX6_addToTrace_37 : decode cX6_addToTrace 37 = .ok (.iconst 1, 1) := by decide +kernel
theorem dX6_addToTrace_38 : decode cX6_addToTrace 38 = .ok (.iadd, 1) := by decide +kernel
theorem dX6_addToTrace_39 : decode cX6_addToTrace 39 = .ok (.putfield 28, 3) := by decide +kernel
theorem dX6_addToTrace_42 : decode cX6_addToTrace 42 = .ok (.return_, 1) := by decide +kernel
theorem dX7_init_0 : decode cX7_init 0 = .ok (.aload_n 0, 1) := by decide +kernel
theorem dX7_init_1 : decode cX7_init 1 = .ok (.invokespecial 3, 3) := by decide +kernel
theorem dX7_init_4 : decode cX7_init 4 = .ok (.aload_n 0, 1) := by decide +kernel
theorem dX7_init_5 : decode cX7_init 5 = .ok (.bipush 30, 2) := by decide +kernel
theorem dX7_init_7 : decode cX7_init 7 = .ok (.newarray .int, 2) := by decide +kernel
theorem dX7_init_9 : decode cX7_init 9 = .ok (.putfield 9, 3) := by decide +kernel
theorem dX7_init_12 : decode cX7_init 12 = .ok (.aload_n 0, 1) := by decide +kernel
theorem dX7_init_13 : decode cX7_init 13 = .ok (.bipush 30, 2) := by decide +kernel
theorem dX7_init_15 : decode cX7_init 15 = .ok (.newarray .int, 2) := by decide +kernel
theorem dX7_init_17 : decode cX7_init 17 = .ok (.putfield 15, 3) := by decide +kernel
theorem dX7_init_20 : decode cX7_init 20 = .ok (.aload_n 0, 1) := by decide +kernel
theorem dX7_init_21 : decode cX7_init 21 = .ok (.bipush 30, 2) := by decide +kernel
theorem dX7_init_23 : decode cX7_init 23 = .ok (.newarray .int, 2) := by decide +kernel
theorem dX7_init_25 : decode cX7_init 25 = .ok (.putfield 18, 3) := by decide +kernel
theorem dX7_init_28 : decode cX7_init 28 = .ok (.return_, 1) := by decide +kernel
theorem dX7_add_0 : decode cX7_add 0 = .ok (.aload_n 0, 1) := by decide +kernel
theorem dX7_add_1 : decode cX7_add 1 = .ok (.getfield 21, 3) := by decide +kernel
theorem dX7_add_4 : decode cX7_add 4 = .ok (.bipush 30, 2) := by decide +kernel
theorem dX7_add_6 : decode cX7_add 6 = .ok (.invokestatic 25, 3) := by decide +kernel
theorem dX7_add_9 : decode cX7_add 9 = .ok (.ifCond .ne 6, 3) := by decide +kernel
theorem dX7_add_12 : decode cX7_add 12 = .ok (.bipush (-104), 2) := by decide +kernel
theorem dX7_add_14 : decode cX7_add 14 = .ok (.ireturn, 1) := by decide +kernel
theorem dX7_add_15 : decode cX7_add 15 = .ok (.aload_n 0, 1) := by decide +kernel
theorem dX7_add_16 : decode cX7_add 16 = .ok (.getfield 9, 3) := by decide +kernel
theorem dX7_add_19 : decode cX7_add 19 = .ok (.aload_n 0, 1) := by decide +kernel
theorem dX7_add_20 : decode cX7_add 20 = .ok (.getfield 21, 3) := by decide +kernel
theorem dX7_add_23 : decode cX7_add 23 = .ok (.iload_n 1, 1) := by decide +kernel
theorem dX7_add_24 : decode cX7_add 24 = .ok (.iastore, 1) := by decide +kernel
theorem dX7_add_25 : decode cX7_add 25 = .ok (.aload_n 0, 1) := by decide +kernel
theorem dX7_add_26 : decode cX7_add 26 = .ok (.getfield 15, 3) := by decide +kernel
theorem dX7_add_29 : decode cX7_add 29 = .ok (.aload_n 0, 1) := by decide +kernel
theorem dX7_add_30 : decode cX7_add 30 = .ok (.getfield 21, 3) := by decide +kernel
theorem dX7_add_33 : decode cX7_add 33 = .ok (.iload_n 2, 1) := by decide +kernel
theorem dX7_add_34 : decode cX7_add 34 = .ok (.iastore, 1) := by decide +kernel
theorem dX7_add_35 : decode cX7_add 35 = .ok (.aload_n 0, 1) := by decide +kernel
theorem dX7_add_36 : decode cX7_add 36 = .ok (.getfield 18, 3) := by decide +kernel
theorem dX7_add_39 : decode cX7_add 39 = .ok (.aload_n 0, 1) := by decide +kernel
theorem dX7_add_40 : decode cX7_add 40 = .ok (.getfield 21, 3) := by decide +kernel
theorem dX7_add_43 : decode cX7_add 43 = .ok (.iload_n 3, 1) := by decide +kernel
theorem dX7_add_44 : decode cX7_add 44 = .ok (.iastore, 1) := by decide +kernel
theorem dX7_add_45 : decode cX7_add 45 = .ok (.aload_n 0, 1) := by decide +kernel
theorem dX7_add_46 : decode cX7_add 46 = .ok (.dup, 1) := by decide +kernel
theorem dX7_add_47 : decode cX7_add 47 = .ok (.getfield 21, 3) := by decide +kernel
theorem dX7_add_50 : decode cX7_add 50 = .ok (.iconst 1, 1) := by decide +kernel
theorem dX7_add_51 : decode cX7_add 51 = .ok (.iadd, 1) := by decide +kernel
theorem dX7_add_52 : decode cX7_add 52 = .ok (.putfield 21, 3) := by decide +kernel
theorem dX7_add_55 : decode cX7_add 55 = .ok (.aload_n 0, 1) := by decide +kernel
theorem dX7_add_56 : decode cX7_add 56 = .ok (.getfield 21, 3) := by decide +kernel
theorem dX7_add_59 : decode cX7_add 59 = .ok (.ireturn, 1) := by decide +kernel
theorem dX7_meets_0 : decode cX7_meets 0 = .ok (.iconst 0, 1) := by decide +kernel
theorem dX7_meets_1 : decode cX7_meets 1 = .ok (.istore_n 3, 1) := by decide +kernel
theorem dX7_meets_2 : decode cX7_meets 2 = .ok (.aload_n 0, 1) := by decide +kernel
theorem dX7_meets_3 : decode cX7_meets 3 = .ok (.getfield 21, 3) := by decide +kernel
theorem dX7_meets_6 : decode cX7_meets 6 = .ok (.istore 4, 2) := by decide +kernel
theorem dX7_meets_8 : decode cX7_meets 8 = .ok (.iconst 0, 1) := by decide +kernel
theorem dX7_meets_9 : decode cX7_meets 9 = .ok (.istore 5, 2) := by decide +kernel
theorem dX7_meets_11 : decode cX7_meets 11 = .ok (.iload 5, 2) := by decide +kernel
theorem dX7_meets_13 : decode cX7_meets 13 = .ok (.iload 4, 2) := by decide +kernel
theorem dX7_meets_15 : decode cX7_meets 15 = .ok (.if_icmp .ge 94, 3) := by decide +kernel
theorem dX7_meets_18 : decode cX7_meets 18 = .ok (.aload_n 0, 1) := by decide +kernel
theorem dX7_meets_19 : decode cX7_meets 19 = .ok (.getfield 9, 3) := by decide +kernel
theorem dX7_meets_22 : decode cX7_meets 22 = .ok (.iload 5, 2) := by decide +kernel
theorem dX7_meets_24 : decode cX7_meets 24 = .ok (.iaload, 1) := by decide +kernel
theorem dX7_meets_25 : decode cX7_meets 25 = .ok (.iload_n 1, 1) := by decide +kernel
theorem dX7_meets_26 : decode cX7_meets 26 = .ok (.if_icmp .ne 25, 3) := by decide +kernel
theorem dX7_meets_29 : decode cX7_meets 29 = .ok (.aload_n 0, 1) := by decide +kernel
theorem dX7_meets_30 : decode cX7_meets 30 = .ok (.getfield 18, 3) := by decide +kernel
theorem dX7_meets_33 : decode cX7_meets 33 = .ok (.iload 5, 2) := by decide +kernel
theorem dX7_meets_35 : decode cX7_meets 35 = .ok (.iaload, 1) := by decide +kernel
theorem dX7_meets_36 : decode cX7_meets 36 = .ok (.iload_n 2, 1) := by decide +kernel
theorem dX7_meets_37 : decode cX7_meets 37 = .ok (.if_icmp .ne 14, 3) := by decide +kernel
theorem dX7_meets_40 : decode cX7_meets 40 = .ok (.aload_n 0, 1) := by decide +kernel
theorem dX7_meets_41 : decode cX7_meets 41 = .ok (.getfield 15, 3) := by decide +kernel
theorem dX7_meets_44 : decode cX7_meets 44 = .ok (.iload 5, 2) := by decide +kernel
theorem dX7_meets_46 : decode cX7_meets 46 = .ok (.dup2, 1) := by decide +kernel
theorem dX7_meets_47 : decode cX7_meets 47 = .ok (.iaload, 1) := by decide +kernel
theorem dX7_meets_48 : decode cX7_meets 48 = .ok (.iconst 1, 1) := by decide +kernel
theorem dX7_meets_49 : decode cX7_meets 49 = .ok (.isub, 1) := by decide +kernel
theorem dX7_meets_50 : decode cX7_meets 50 = .ok (.iastore, 1) := by decide +kernel
theorem dX7_meets_51 : decode cX7_meets 51 = .ok (.aload_n 0, 1) := by decide +kernel
theorem dX7_meets_52 : decode cX7_meets 52 = .ok (.getfield 15, 3) := by decide +kernel
theorem dX7_meets_55 : decode cX7_meets 55 = .ok (.iload 5, 2) := by decide +kernel
theorem dX7_meets_57 : decode cX7_meets 57 = .ok (.iaload, 1) := by decide +kernel
theorem dX7_meets_58 : decode cX7_meets 58 = .ok (.ifCond .le 45, 3) := by decide +kernel
theorem dX7_meets_61 : decode cX7_meets 61 = .ok (.aload_n 0, 1) := by decide +kernel
theorem dX7_meets_62 : decode cX7_meets 62 = .ok (.getfield 9, 3) := by decide +kernel
theorem dX7_meets_65 : decode cX7_meets 65 = .ok (.iload_n 3, 1) := by decide +kernel
theorem dX7_meets_66 : decode cX7_meets 66 = .ok (.aload_n 0, 1) := by decide +kernel
theorem dX7_meets_67 : decode cX7_meets 67 = .ok (.getfield 9, 3) := by decide +kernel
theorem dX7_meets_70 : decode cX7_meets 70 = .ok (.iload 5, 2) := by decide +kernel
theorem dX7_meets_72 : decode cX7_meets 72 = .ok (.iaload, 1) := by decide +kernel
theorem dX7_meets_73 : decode cX7_meets 73 = .ok (.iastore, 1) := by decide +kernel
theorem dX7_meets_74 : decode cX7_meets 74 = .ok (.aload_n 0, 1) := by decide +kernel
theorem dX7_meets_75 : decode cX7_meets 75 = .ok (.getfield 15, 3) := by decide +kernel
theorem dX7_meets_78 : decode cX7_meets 78 = .ok (.iload_n 3, 1) := by decide +kernel
theorem dX7_meets_79 : decode cX7_meets 79 = .ok (.aload_n 0, 1) := by decide +kernel
theorem dX7_meets_80 : decode cX7_meets 80 = .ok (.getfield 15, 3) := by decide +kernel
theorem dX7_meets_83 : decode cX7_meets 83 = .ok (.iload 5, 2) := by decide +kernel
theorem dX7_meets_85 : decode cX7_meets 85 = .ok (.iaload, 1) := by decide +kernel
theorem dX7_meets_86 : decode cX7_meets 86 = .ok (.iastore, 1) := by decide +kernel
theorem dX7_meets_87 : decode cX7_meets 87 = .ok (.aload_n 0, 1) := by decide +kernel
theorem dX7_meets_88 : decode cX7_meets 88 = .ok (.getfield 18, 3) := by decide +kernel
theorem dX7_meets_91 : decode cX7_meets 91 = .ok (.iload_n 3, 1) := by decide +kernel
theorem dX7_meets_92 : decode cX7_meets 92 = .ok (.aload_n 0, 1) := by decide +kernel
theorem dX7_meets_93 : decode cX7_meets 93 = .ok (.getfield 18, 3) := by decide +kernel
theorem dX7_meets_96 : decode cX7_meets 96 = .ok (.iload 5, 2) := by decide +kernel
theorem dX7_meets_98 : decode cX7_meets 98 = .ok (.iaload, 1) := by decide +kernel
theorem dX7_meets_99 : decode cX7_meets 99 = .ok (.iastore, 1) := by decide +kernel
theorem dX7_meets_100 : decode cX7_meets 100 = .ok (.iinc 3 1, 3) := by decide +kernel
theorem dX7_meets_103 : decode cX7_meets 103 = .ok (.iinc 5 1, 3) := by decide +kernel
theorem dX7_meets_106 : decode cX7_meets 106 = .ok (.goto (-95), 3) := by decide +kernel
theorem dX7_meets_109 : decode cX7_meets 109 = .ok (.aload_n 0, 1) := by decide +kernel
theorem dX7_meets_110 : decode cX7_meets 110 = .ok (.iload_n 3, 1) := by decide +kernel
theorem dX7_meets_111 : decode cX7_meets 111 = .ok (.putfield 21, 3) := by decide +kernel
theorem dX7_meets_114 : decode cX7_meets 114 = .ok (.iload_n 3, 1) := by decide +kernel
theorem dX7_meets_115 : decode cX7_meets 115 = .ok (.iload 4, 2) := by decide +kernel
theorem dX7_meets_117 : decode cX7_meets 117 = .ok (.if_icmp .ge 7, 3) := by decide +kernel
theorem dX7_meets_120 : decode cX7_meets 120 = .ok (.iconst 1, 1) := by decide +kernel
theorem dX7_meets_121 : decode cX7_meets 121 = .ok (.goto 4, 3) := by decide +kernel
theorem dX7_meets_124 : decode cX7_meets 124 = .ok (.iconst 0, 1) := by decide +kernel
theorem dX7_meets_125 : decode cX7_meets 125 = .ok (.ireturn, 1) := by decide +kernel
theorem dX8_init_0 : decode cX8_init 0 = .ok (.aload_n 0, 1) := by decide +kernel
theorem dX8_init_1 : decode cX8_init 1 = .ok (.invokespecial 3, 3) := by decide +kernel
theorem dX8_init_4 : decode cX8_init 4 = .ok (.aload_n 0, 1) := by decide +kernel
theorem dX8_init_5 : decode cX8_init 5 = .ok (.bipush 11, 2) := by decide +kernel
theorem dX8_init_7 : decode cX8_init 7 = .ok (.anewarray 9, 3) := by decide +kernel
theorem dX8_init_10 : decode cX8_init 10 = .ok (.putfield 11, 3) := by decide +kernel
theorem dX8_init_13 : decode cX8_init 13 = .ok (.aload_n 0, 1) := by decide +kernel
theorem dX8_init_14 : decode cX8_init 14 = .ok (.bipush 91, 2) := by decide +kernel
theorem dX8_init_16 : decode cX8_init 16 = .ok (.anewarray 17, 3) := by decide +kernel
theorem dX8_init_19 : decode cX8_init 19 = .ok (.putfield 19, 3) := by decide +kernel
theorem dX8_init_22 : decode cX8_init 22 = .ok (.aload_n 0, 1) := by decide +kernel
theorem dX8_init_23 : decode cX8_init 23 = .ok (.bipush 91, 2) := by decide +kernel
theorem dX8_init_25 : decode cX8_init 25 = .ok (.anewarray 23, 3) := by decide +kernel
theorem dX8_init_28 : decode cX8_init 28 = .ok (.putfield 25, 3) := by decide +kernel
theorem dX8_init_31 : decode cX8_init 31 = .ok (.aload_n 0, 1) := by decide +kernel
theorem dX8_init_32 : decode cX8_init 32 = .ok (.sipush 160, 3) := by decide +kernel
theorem dX8_init_35 : decode cX8_init 35 = .ok (.anewarray 29, 3) := by decide +kernel
theorem dX8_init_38 : decode cX8_init 38 = .ok (.putfield 31, 3) := by decide +kernel
theorem dX8_init_41 : decode cX8_init 41 = .ok (.aload_n 0, 1) := by decide +kernel
theorem dX8_init_42 : decode cX8_init 42 = .ok (.new 35, 3) := by decide +kernel
theorem dX8_init_45 : decode cX8_init 45 = .ok (.dup, 1) := by decide +kernel
theorem dX8_init_46 : decode cX8_init 46 = .ok (.invokespecial 37, 3) := by decide +kernel
theorem dX8_init_49 : decode cX8_init 49 = .ok (.putfield 38, 3) := by decide +kernel
theorem dX8_init_52 : decode cX8_init 52 = .ok (.aload_n 0, 1) := by decide +kernel
theorem dX8_init_53 : decode cX8_init 53 = .ok (.iconst (-1), 1) := by decide +kernel
theorem dX8_init_54 : decode cX8_init 54 = .ok (.putfield 42, 3) := by decide +kernel
theorem dX8_init_57 : decode cX8_init 57 = .ok (.aload_n 0, 1) := by decide +kernel
theorem dX8_init_58 : decode cX8_init 58 = .ok (.aload_n 1, 1) := by decide +kernel
theorem dX8_init_59 : decode cX8_init 59 = .ok (.putfield 46, 3) := by decide +kernel
theorem dX8_init_62 : decode cX8_init 62 = .ok (.aload_n 0, 1) := by decide +kernel
theorem dX8_init_63 : decode cX8_init 63 = .ok (.aload_n 2, 1) := by decide +kernel
theorem dX8_init_64 : decode cX8_init 64 = .ok (.putfield 50, 3) := by decide +kernel
theorem dX8_init_67 : decode cX8_init 67 = .ok (.new 54, 3) := by decide +kernel
theorem dX8_init_70 : decode cX8_init 70 = .ok (.dup, 1) := by decide +kernel
theorem dX8_init_71 : decode cX8_init 71 = .ok (.invokespecial 56, 3) := by decide +kernel
theorem dX8_init_74 : decode cX8_init 74 = .ok (.astore_n 3, 1) := by decide +kernel
theorem dX8_init_75 : decode cX8_init 75 = .ok (.iconst 0, 1) := by decide +kernel
theorem dX8_init_76 : decode cX8_init 76 = .ok (.istore 4, 2) := by decide +kernel
theorem dX8_init_78 : decode cX8_init 78 = .ok (.iload 4, 2) := by decide +kernel
theorem dX8_init_80 : decode cX8_init 80 = .ok (.aload_n 0, 1) := by decide +kernel
theorem dX8_init_81 : decode cX8_init 81 = .ok (.getfield 11, 3) := by decide +kernel
theorem dX8_init_84 : decode cX8_init 84 = .ok (.arraylength, 1) := by decide +kernel
theorem dX8_init_85 : decode cX8_init 85 = .ok (.if_icmp .ge 24, 3) := by decide +kernel
theorem dX8_init_88 : decode cX8_init 88 = .ok (.aload_n 0, 1) := by decide +kernel
theorem dX8_init_89 : decode cX8_init 89 = .ok (.getfield 11, 3) := by decide +kernel
theorem dX8_init_92 : decode cX8_init 92 = .ok (.iload 4, 2) := by decide +kernel
theorem dX8_init_94 : decode cX8_init 94 = .ok (.new 9, 3) := by decide +kernel
theorem dX8_init_97 : decode cX8_init 97 = .ok (.dup, 1) := by decide +kernel
theorem dX8_init_98 : decode cX8_init 98 = .ok (.aload_n 3, 1) := by decide +kernel
theorem dX8_init_99 : decode cX8_init 99 = .ok (.invokespecial 57, 3) := by decide +kernel
theorem dX8_init_102 : decode cX8_init 102 = .ok (.aastore, 1) := by decide +kernel
theorem dX8_init_103 : decode cX8_init 103 = .ok (.iinc 4 1, 3) := by decide +kernel
theorem dX8_init_106 : decode cX8_init 106 = .ok (.goto (-28), 3) := by decide +kernel
theorem dX8_init_109 : decode cX8_init 109 = .ok (.iconst 0, 1) := by decide +kernel
theorem dX8_init_110 : decode cX8_init 110 = .ok (.istore 4, 2) := by decide +kernel
theorem dX8_init_112 : decode cX8_init 112 = .ok (.iload 4, 2) := by decide +kernel
theorem dX8_init_114 : decode cX8_init 114 = .ok (.aload_n 0, 1) := by decide +kernel
theorem dX8_init_115 : decode cX8_init 115 = .ok (.getfield 19, 3) := by decide +kernel
theorem dX8_init_118 : decode cX8_init 118 = .ok (.arraylength, 1) := by decide +kernel
theorem dX8_init_119 : decode cX8_init 119 = .ok (.if_icmp .ge 37, 3) := by decide +kernel
theorem dX8_init_122 : decode cX8_init 122 = .ok (.aload_n 0, 1) := by decide +kernel
theorem dX8_init_123 : decode cX8_init 123 = .ok (.getfield 19, 3) := by decide +kernel
theorem dX8_init_126 : decode cX8_init 126 = .ok (.iload 4, 2) := by decide +kernel
theorem dX8_init_128 : decode cX8_init 128 = .ok (.new 17, 3) := by decide +kernel
theorem dX8_init_131 : decode cX8_init 131 = .ok (.dup, 1) := by decide +kernel
theorem dX8_init_132 : decode cX8_init 132 = .ok (.invokespecial 60, 3) := by decide +kernel
theorem dX8_init_135 : decode cX8_init 135 = .ok (.aastore, 1) := by decide +kernel
theorem dX8_init_136 : decode cX8_init 136 = .ok (.aload_n 0, 1) := by decide +kernel
theorem dX8_init_137 : decode cX8_init 137 = .ok (.getfield 25, 3) := by decide +kernel
theorem dX8_init_140 : decode cX8_init 140 = .ok (.iload 4, 2) := by decide +kernel
theorem dX8_init_142 : decode cX8_init 142 = .ok (.new 23, 3) := by decide +kernel
theorem dX8_init_145 : decode cX8_init 145 = .ok (.dup, 1) := by decide +kernel
theorem dX8_init_146 : decode cX8_init 146 = .ok (.invokespecial 61, 3) := by decide +kernel
theorem dX8_init_149 : decode cX8_init 149 = .ok (.aastore, 1) := by decide +kernel
theorem dX8_init_150 : decode cX8_init 150 = .ok (.iinc 4 1, 3) := by decide +kernel
theorem dX8_init_153 : decode cX8_init 153 = .ok (.goto (-41), 3) := by decide +kernel
theorem dX8_init_156 : decode cX8_init 156 = .ok (.iconst 0, 1) := by decide +kernel
theorem dX8_init_157 : decode cX8_init 157 = .ok (.istore 4, 2) := by decide +kernel
theorem dX8_init_159 : decode cX8_init 159 = .ok (.iload 4, 2) := by decide +kernel
theorem dX8_init_161 : decode cX8_init 161 = .ok (.aload_n 0, 1) := by decide +kernel
theorem dX8_init_162 : decode cX8_init 162 = .ok (.getfield 31, 3) := by decide +kernel
theorem dX8_init_165 : decode cX8_init 165 = .ok (.arraylength, 1) := by decide +kernel
theorem dX8_init_166 : decode cX8_init 166 = .ok (.if_icmp .ge 23, 3) := by decide +kernel
theorem dX8_init_169 : decode cX8_init 169 = .ok (.aload_n 0, 1) := by decide +kernel
theorem dX8_init_170 : decode cX8_init 170 = .ok (.getfield 31, 3) := by decide +kernel
theorem dX8_init_173 : decode cX8_init 173 = .ok (.iload 4, 2) := by decide +kernel
theorem dX8_init_175 : decode cX8_init 175 = .ok (.new 29, 3) := by decide +kernel
theorem dX8_init_178 : decode cX8_init 178 = .ok (.dup, 1) := by decide +kernel
theorem dX8_init_179 : decode cX8_init 179 = .ok (.invokespecial 62, 3) := by decide +kernel
theorem dX8_init_182 : decode cX8_init 182 = .ok (.aastore, 1) := by decide +kernel
theorem dX8_init_183 : decode cX8_init 183 = .ok (.iinc 4 1, 3) := by decide +kernel
theorem dX8_init_186 : decode cX8_init 186 = .ok (.goto (-27), 3) := by decide +kernel
theorem dX8_init_189 : decode cX8_init 189 = .ok (.return_, 1) := by decide +kernel
theorem dX8_told_0 : decode cX8_told 0 = .ok (.iload_n 1, 1) := by decide +kernel
theorem dX8_told_1 : decode cX8_told 1 = .ok (.tableswitch 72 0 5 #[39, 44, 49, 57, 62, 67], 39) := by decide +kernel
theorem dX8_told_40 : decode cX8_told 40 = .ok (.aload_n 0, 1) := by decide +kernel
theorem dX8_told_41 : decode cX8_told 41 = .ok (.getfield 63, 3) := by decide +kernel
theorem dX8_told_44 : decode cX8_told 44 = .ok (.ireturn, 1) := by decide +kernel
theorem dX8_told_45 : decode cX8_told 45 = .ok (.aload_n 0, 1) := by decide +kernel
theorem dX8_told_46 : decode cX8_told 46 = .ok (.getfield 66, 3) := by decide +kernel
theorem dX8_told_49 : decode cX8_told 49 = .ok (.ireturn, 1) := by decide +kernel
theorem dX8_told_50 : decode cX8_told 50 = .ok (.aload_n 0, 1) := by decide +kernel
theorem dX8_told_51 : decode cX8_told 51 = .ok (.getfield 38, 3) := by decide +kernel
theorem dX8_told_54 : decode cX8_told 54 = .ok (.getfield 69, 3) := by decide +kernel
theorem dX8_told_57 : decode cX8_told 57 = .ok (.ireturn, 1) := by decide +kernel
theorem dX8_told_58 : decode cX8_told 58 = .ok (.aload_n 0, 1) := by decide +kernel
theorem dX8_told_59 : decode cX8_told 59 = .ok (.getfield 72, 3) := by decide +kernel
theorem dX8_told_62 : decode cX8_told 62 = .ok (.ireturn, 1) := by decide +kernel
theorem dX8_told_63 : decode cX8_told 63 = .ok (.aload_n 0, 1) := by decide +kernel
theorem dX8_told_64 : decode cX8_told 64 = .ok (.getfield 75, 3) := by decide +kernel
theorem dX8_told_67 : decode cX8_told 67 = .ok (.ireturn, 1) := by decide +kernel
theorem dX8_told_68 : decode cX8_told 68 = .ok (.aload_n 0, 1) := by decide +kernel
theorem dX8_told_69 : decode cX8_told 69 = .ok (.getfield 78, 3) := by decide +kernel
theorem dX8_told_72 : decode cX8_told 72 = .ok (.ireturn, 1) := by decide +kernel
theorem dX8_told_73 : decode cX8_told 73 = .ok (.aload_n 0, 1) := by decide +kernel
theorem dX8_told_74 : decode cX8_told 74 = .ok (.getfield 63, 3) := by decide +kernel
theorem dX8_told_77 : decode cX8_told 77 = .ok (.iconst 1, 1) := by decide +kernel
theorem dX8_told_78 : decode cX8_told 78 = .ok (.if_icmp .ne 10, 3) := by decide +kernel
theorem dX8_told_81 : decode cX8_told 81 = .ok (.aload_n 0, 1) := by decide +kernel
theorem dX8_told_82 : decode cX8_told 82 = .ok (.getfield 42, 3) := by decide +kernel
theorem dX8_told_85 : decode cX8_told 85 = .ok (.goto 4, 3) := by decide +kernel
theorem dX8_told_88 : decode cX8_told 88 = .ok (.iconst (-1), 1) := by decide +kernel
theorem dX8_told_89 : decode cX8_told 89 = .ok (.ireturn, 1) := by decide +kernel
theorem dX8_perform_0 : decode cX8_perform 0 = .ok (.aload_n 0, 1) := by decide +kernel
theorem dX8_perform_1 : decode cX8_perform 1 = .ok (.iload_n 2, 1) := by decide +kernel
theorem dX8_perform_2 : decode cX8_perform 2 = .ok (.invokevirtual 81, 3) := by decide +kernel
theorem dX8_perform_5 : decode cX8_perform 5 = .ok (.aload_n 0, 1) := by decide +kernel
theorem dX8_perform_6 : decode cX8_perform 6 = .ok (.aload_n 0, 1) := by decide +kernel
theorem dX8_perform_7 : decode cX8_perform 7 = .ok (.getfield 50, 3) := by decide +kernel
theorem dX8_perform_10 : decode cX8_perform 10 = .ok (.iload_n 1, 1) := by decide +kernel
theorem dX8_perform_11 : decode cX8_perform 11 = .ok (.invokestatic 85, 3) := by decide +kernel
theorem dX8_perform_14 : decode cX8_perform 14 = .ok (.iload_n 1, 1) := by decide +kernel
theorem dX8_perform_15 : decode cX8_perform 15 = .ok (.aconst_null, 1) := by decide +kernel
theorem dX8_perform_16 : decode cX8_perform 16 = .ok (.invokevirtual 89, 3) := by decide +kernel
theorem dX8_perform_19 : decode cX8_perform 19 = .ok (.iconst 0, 1) := by decide +kernel
theorem dX8_perform_20 : decode cX8_perform 20 = .ok (.istore_n 3, 1) := by decide +kernel
theorem dX8_perform_21 : decode cX8_perform 21 = .ok (.iload_n 3, 1) := by decide +kernel
theorem dX8_perform_22 : decode cX8_perform 22 = .ok (.ldc 93, 2) := by decide +kernel
theorem dX8_perform_24 : decode cX8_perform 24 = .ok (.if_icmp .ge 117, 3) := by decide +kernel
theorem dX8_perform_27 : decode cX8_perform 27 = .ok (.aload_n 0, 1) := by decide +kernel
theorem dX8_perform_28 : decode cX8_perform 28 = .ok (.getfield 94, 3) := by decide +kernel
theorem dX8_perform_31 : decode cX8_perform 31 = .ok (.ifCond .le 110, 3) := by decide +kernel
theorem dX8_perform_34 : decode cX8_perform 34 = .ok (.aload_n 0, 1) := by decide +kernel
theorem dX8_perform_35 : decode cX8_perform 35 = .ok (.getfield 97, 3) := by decide +kernel
theorem dX8_perform_38 : decode cX8_perform 38 = .ok (.iconst 4, 1) := by decide +kernel
theorem dX8_perform_39 : decode cX8_perform 39 = .ok (.if_icmp .eq 102, 3) := by decide +kernel
theorem dX8_perform_42 : decode cX8_perform 42 = .ok (.aload_n 0, 1) := by decide +kernel
theorem dX8_perform_43 : decode cX8_perform 43 = .ok (.getfield 11, 3) := by decide +kernel
theorem dX8_perform_46 : decode cX8_perform 46 = .ok (.aload_n 0, 1) := by decide +kernel
theorem dX8_perform_47 : decode cX8_perform 47 = .ok (.getfield 94, 3) := by decide +kernel
theorem dX8_perform_50 : decode cX8_perform 50 = .ok (.aaload, 1) := by decide +kernel
theorem dX8_perform_51 : decode cX8_perform 51 = .ok (.astore 4, 2) := by decide +kernel
theorem dX8_perform_53 : decode cX8_perform 53 = .ok (.aload 4, 2) := by decide +kernel
theorem dX8_perform_55 : decode cX8_perform 55 = .ok (.getfield 100, 3) := by decide +kernel
theorem dX8_perform_58 : decode cX8_perform 58 = .ok (.aload 4, 2) := by decide +kernel
theorem dX8_perform_60 : decode cX8_perform 60 = .ok (.getfield 104, 3) := by decide +kernel
theorem dX8_perform_63 : decode cX8_perform 63 = .ok (.invokevirtual 107, 3) := by decide +kernel
theorem dX8_perform_66 : decode cX8_perform 66 = .ok (.istore 5, 2) := by decide +kernel
theorem dX8_perform_68 : decode cX8_perform 68 = .ok (.aload_n 0, 1) := by decide +kernel
theorem dX8_perform_69 : decode cX8_perform 69 = .ok (.getfield 97, 3) := by decide +kernel
theorem dX8_perform_72 : decode cX8_perform 72 = .ok (.ifCond .eq 12, 3) := by decide +kernel
theorem dX8_perform_75 : decode cX8_perform 75 = .ok (.aload_n 0, 1) := by decide +kernel
theorem dX8_perform_76 : decode cX8_perform 76 = .ok (.aload 4, 2) := by decide +kernel
theorem dX8_perform_78 : decode cX8_perform 78 = .ok (.invokevirtual 111, 3) := by decide +kernel
theorem dX8_perform_81 : decode cX8_perform 81 = .ok (.goto 54, 3) := by decide +kernel
theorem dX8_perform_84 : decode cX8_perform 84 = .ok (.iload 5, 2) := by decide +kernel
theorem dX8_perform_86 : decode cX8_perform 86 = .ok (.iconst (-1), 1) := by decide +kernel
theorem dX8_perform_87 : decode cX8_perform 87 = .ok (.if_icmp .eq 24, 3) := by decide +kernel
theorem dX8_perform_90 : decode cX8_perform 90 = .ok (.iload 5, 2) := by decide +kernel
theorem dX8_perform_92 : decode cX8_perform 92 = .ok (.bipush 14, 2) := by decide +kernel
theorem dX8_perform_94 : decode cX8_perform 94 = .ok (.if_icmp .eq 17, 3) := by decide +kernel
theorem dX8_perform_97 : decode cX8_perform 97 = .ok (.iload 5, 2) := by decide +kernel
theorem dX8_perform_99 : decode cX8_perform 99 = .ok (.bipush 15, 2) := by decide +kernel
theorem dX8_perform_101 : decode cX8_perform 101 = .ok (.if_icmp .eq 10, 3) := by decide +kernel
theorem dX8_perform_104 : decode cX8_perform 104 = .ok (.iload 5, 2) := by decide +kernel
theorem dX8_perform_106 : decode cX8_perform 106 = .ok (.bipush 16, 2) := by decide +kernel
theorem dX8_perform_108 : decode cX8_perform 108 = .ok (.if_icmp .ne 12, 3) := by decide +kernel
theorem dX8_perform_111 : decode cX8_perform 111 = .ok (.aload_n 0, 1) := by decide +kernel
theorem dX8_perform_112 : decode cX8_perform 112 = .ok (.aload 4, 2) := by decide +kernel
theorem dX8_perform_114 : decode cX8_perform 114 = .ok (.invokevirtual 115, 3) := by decide +kernel
theorem dX8_perform_117 : decode cX8_perform 117 = .ok (.goto 18, 3) := by decide +kernel
theorem dX8_perform_120 : decode cX8_perform 120 = .ok (.aload_n 0, 1) := by decide +kernel
theorem dX8_perform_121 : decode cX8_perform 121 = .ok (.invokevirtual 118, 3) := by decide +kernel
theorem dX8_perform_124 : decode cX8_perform 124 = .ok (.ifCond .eq 11, 3) := by decide +kernel
theorem dX8_perform_127 : decode cX8_perform 127 = .ok (.aload_n 0, 1) := by decide +kernel
theorem dX8_perform_128 : decode cX8_perform 128 = .ok (.aload 4, 2) := by decide +kernel
theorem dX8_perform_130 : decode cX8_perform 130 = .ok (.iload 5, 2) := by decide +kernel
theorem dX8_perform_132 : decode cX8_perform 132 = .ok (.invokevirtual 122, 3) := by decide +kernel
theorem dX8_perform_135 : decode cX8_perform 135 = .ok (.iinc 3 1, 3) := by decide +kernel
theorem dX8_perform_138 : decode cX8_perform 138 = .ok (.goto (-117), 3) := by decide +kernel
theorem dX8_perform_141 : decode cX8_perform 141 = .ok (.aload_n 0, 1) := by decide +kernel
theorem dX8_perform_142 : decode cX8_perform 142 = .ok (.getfield 94, 3) := by decide +kernel
theorem dX8_perform_145 : decode cX8_perform 145 = .ok (.ifCond .le 15, 3) := by decide +kernel
theorem dX8_perform_148 : decode cX8_perform 148 = .ok (.aload_n 0, 1) := by decide +kernel
theorem dX8_perform_149 : decode cX8_perform 149 = .ok (.invokevirtual 126, 3) := by decide +kernel
theorem dX8_perform_152 : decode cX8_perform 152 = .ok (.aload_n 0, 1) := by decide +kernel
theorem dX8_perform_153 : decode cX8_perform 153 = .ok (.iconst 2, 1) := by decide +kernel
theorem dX8_perform_154 : decode cX8_perform 154 = .ok (.putfield 63, 3) := by decide +kernel
theorem dX8_perform_157 : decode cX8_perform 157 = .ok (.goto 20, 3) := by decide +kernel
theorem dX8_perform_160 : decode cX8_perform 160 = .ok (.aload_n 0, 1) := by decide +kernel
theorem dX8_perform_161 : decode cX8_perform 161 = .ok (.aload_n 0, 1) := by decide +kernel
theorem dX8_perform_162 : decode cX8_perform 162 = .ok (.getfield 97, 3) := by decide +kernel
theorem dX8_perform_165 : decode cX8_perform 165 = .ok (.iconst 3, 1) := by decide +kernel
theorem dX8_perform_166 : decode cX8_perform 166 = .ok (.if_icmp .ne 7, 3) := by decide +kernel
theorem dX8_perform_169 : decode cX8_perform 169 = .ok (.iconst 1, 1) := by decide +kernel
theorem dX8_perform_170 : decode cX8_perform 170 = .ok (.goto 4, 3) := by decide +kernel
theorem dX8_perform_173 : decode cX8_perform 173 = .ok (.iconst 0, 1) := by decide +kernel
theorem dX8_perform_174 : decode cX8_perform 174 = .ok (.putfield 63, 3) := by decide +kernel
theorem dX8_perform_177 : decode cX8_perform 177 = .ok (.aload_n 0, 1) := by decide +kernel
theorem dX8_perform_178 : decode cX8_perform 178 = .ok (.getfield 63, 3) := by decide +kernel
theorem dX8_perform_181 : decode cX8_perform 181 = .ok (.ireturn, 1) := by decide +kernel
theorem dX8_reset_0 : decode cX8_reset 0 = .ok (.aload_n 0, 1) := by decide +kernel
theorem dX8_reset_1 : decode cX8_reset 1 = .ok (.iload_n 1, 1) := by decide +kernel
theorem dX8_reset_2 : decode cX8_reset 2 = .ok (.putfield 129, 3) := by decide +kernel
theorem dX8_reset_5 : decode cX8_reset 5 = .ok (.aload_n 0, 1) := by decide +kernel
theorem dX8_reset_6 : decode cX8_reset 6 = .ok (.iconst 0, 1) := by decide +kernel
theorem dX8_reset_7 : decode cX8_reset 7 = .ok (.putfield 94, 3) := by decide +kernel
theorem dX8_reset_10 : decode cX8_reset 10 = .ok (.aload_n 0, 1) := by decide +kernel
theorem dX8_reset_11 : decode cX8_reset 11 = .ok (.iconst 0, 1) := by decide +kernel
theorem dX8_reset_12 : decode cX8_reset 12 = .ok (.putfield 132, 3) := by decide +kernel
theorem dX8_reset_15 : decode cX8_reset 15 = .ok (.aload_n 0, 1) := by decide +kernel
theorem dX8_reset_16 : decode cX8_reset 16 = .ok (.iconst 0, 1) := by decide +kernel
theorem dX8_reset_17 : decode cX8_reset 17 = .ok (.putfield 135, 3) := by decide +kernel
theorem dX8_reset_20 : decode cX8_reset 20 = .ok (.aload_n 0, 1) := by decide +kernel
theorem dX8_reset_21 : decode cX8_reset 21 = .ok (.iconst 0, 1) := by decide +kernel
theorem dX8_reset_22 : decode cX8_reset 22 = .ok (.putfield 72, 3) := by decide +kernel
theorem dX8_reset_25 : decode cX8_reset 25 = .ok (.aload_n 0, 1) := by decide +kernel
theorem dX8_reset_26 : decode cX8_reset 26 = .ok (.getfield 38, 3) := by decide +kernel
theorem dX8_reset_29 : decode cX8_reset 29 = .ok (.iconst 0, 1) := by decide +kernel
theorem dX8_reset_30 : decode cX8_reset 30 = .ok (.putfield 69, 3) := by decide +kernel
theorem dX8_reset_33 : decode cX8_reset 33 = .ok (.aload_n 0, 1) := by decide +kernel
theorem dX8_reset_34 : decode cX8_reset 34 = .ok (.iconst 0, 1) := by decide +kernel
theorem dX8_reset_35 : decode cX8_reset 35 = .ok (.putfield 97, 3) := by decide +kernel
theorem dX8_reset_38 : decode cX8_reset 38 = .ok (.aload_n 0, 1) := by decide +kernel
theorem dX8_reset_39 : decode cX8_reset 39 = .ok (.iconst (-1), 1) := by decide +kernel
theorem dX8_reset_40 : decode cX8_reset 40 = .ok (.putfield 42, 3) := by decide +kernel
theorem dX8_reset_43 : decode cX8_reset 43 = .ok (.aload_n 0, 1) := by decide +kernel
theorem dX8_reset_44 : decode cX8_reset 44 = .ok (.iconst 0, 1) := by decide +kernel
theorem dX8_reset_45 : decode cX8_reset 45 = .ok (.putfield 66, 3) := by decide +kernel
theorem dX8_reset_48 : decode cX8_reset 48 = .ok (.aload_n 0, 1) := by decide +kernel
theorem dX8_reset_49 : decode cX8_reset 49 = .ok (.iconst 0, 1) := by decide +kernel
theorem dX8_reset_50 : decode cX8_reset 50 = .ok (.putfield 75, 3) := by decide +kernel
theorem dX8_reset_53 : decode cX8_reset 53 = .ok (.aload_n 0, 1) := by decide +kernel
theorem dX8_reset_54 : decode cX8_reset 54 = .ok (.iconst 0, 1) := by decide +kernel
theorem dX8_reset_55 : decode cX8_reset 55 = .ok (.putfield 78, 3) := by decide +kernel
theorem dX8_reset_58 : decode cX8_reset 58 = .ok (.return_, 1) := by decide +kernel
theorem dX8_step_0 : decode cX8_step 0 = .ok (.aload_n 0, 1) := by decide +kernel
theorem dX8_step_1 : decode cX8_step 1 = .ok (.getfield 66, 3) := by decide +kernel
theorem dX8_step_4 : decode cX8_step 4 = .ok (.sipush 160, 3) := by decide +kernel
theorem dX8_step_7 : decode cX8_step 7 = .ok (.if_icmp .lt 10, 3) := by decide +kernel
theorem dX8_step_10 : decode cX8_step 10 = .ok (.aload_n 0, 1) := by decide +kernel
theorem dX8_step_11 : decode cX8_step 11 = .ok (.iconst 4, 1) := by decide +kernel
theorem dX8_step_12 : decode cX8_step 12 = .ok (.putfield 97, 3) := by decide +kernel
theorem dX8_step_15 : decode cX8_step 15 = .ok (.iconst 0, 1) := by decide +kernel
theorem dX8_step_16 : decode cX8_step 16 = .ok (.ireturn, 1) := by decide +kernel
theorem dX8_step_17 : decode cX8_step 17 = .ok (.aload_n 0, 1) := by decide +kernel
theorem dX8_step_18 : decode cX8_step 18 = .ok (.dup, 1) := by decide +kernel
theorem dX8_step_19 : decode cX8_step 19 = .ok (.getfield 66, 3) := by decide +kernel
theorem dX8_step_22 : decode cX8_step 22 = .ok (.iconst 1, 1) := by decide +kernel
theorem dX8_step_23 : decode cX8_step 23 = .ok (.iadd, 1) := by decide +kernel
theorem dX8_step_24 : decode cX8_step 24 = .ok (.putfield 66, 3) := by decide +kernel
theorem dX8_step_27 : decode cX8_step 27 = .ok (.iconst 1, 1) := by decide +kernel
theorem dX8_step_28 : decode cX8_step 28 = .ok (.ireturn, 1) := by decide +kernel
theorem dX8_enter_0 : decode cX8_enter 0 = .ok (.aload_n 1, 1) := by decide +kernel
theorem dX8_enter_1 : decode cX8_enter 1 = .ok (.ifnull 51, 3) := by decide +kernel
theorem dX8_enter_4 : decode cX8_enter 4 = .ok (.aload_n 0, 1) := by decide +kernel
theorem dX8_enter_5 : decode cX8_enter 5 = .ok (.getfield 94, 3) := by decide +kernel
theorem dX8_enter_8 : decode cX8_enter 8 = .ok (.bipush 10, 2) := by decide +kernel
theorem dX8_enter_10 : decode cX8_enter 10 = .ok (.if_icmp .ge 42, 3) := by decide +kernel
theorem dX8_enter_13 : decode cX8_enter 13 = .ok (.aload_n 0, 1) := by decide +kernel
theorem dX8_enter_14 : decode cX8_enter 14 = .ok (.dup, 1) := by decide +kernel
theorem dX8_enter_15 : decode cX8_enter 15 = .ok (.getfield 94, 3) := by decide +kernel
theorem dX8_enter_18 : decode cX8_enter 18 = .ok (.iconst 1, 1) := by decide +kernel
theorem dX8_enter_19 : decode cX8_enter 19 = .ok (.iadd, 1) := by decide +kernel
theorem dX8_enter_20 : decode cX8_enter 20 = .ok (.putfield 94, 3) := by decide +kernel
theorem dX8_enter_23 : decode cX8_enter 23 = .ok (.aload_n 0, 1) := by decide +kernel
theorem dX8_enter_24 : decode cX8_enter 24 = .ok (.getfield 11, 3) := by decide +kernel
theorem dX8_enter_27 : decode cX8_enter 27 = .ok (.aload_n 0, 1) := by decide +kernel
theorem dX8_enter_28 : decode cX8_enter 28 = .ok (.getfield 94, 3) := by decide +kernel
theorem dX8_enter_31 : decode cX8_enter 31 = .ok (.aaload, 1) := by decide +kernel
theorem dX8_enter_32 : decode cX8_enter 32 = .ok (.aload_n 1, 1) := by decide +kernel
theorem dX8_enter_33 : decode cX8_enter 33 = .ok (.iload_n 2, 1) := by decide +kernel
theorem dX8_enter_34 : decode cX8_enter 34 = .ok (.aload_n 3, 1) := by decide +kernel
theorem dX8_enter_35 : decode cX8_enter 35 = .ok (.invokevirtual 138, 3) := by decide +kernel
theorem dX8_enter_38 : decode cX8_enter 38 = .ok (.aload_n 0, 1) := by decide +kernel
theorem dX8_enter_39 : decode cX8_enter 39 = .ok (.bipush 17, 2) := by decide +kernel
theorem dX8_enter_41 : decode cX8_enter 41 = .ok (.iconst (-1), 1) := by decide +kernel
theorem dX8_enter_42 : decode cX8_enter 42 = .ok (.iconst 0, 1) := by decide +kernel
theorem dX8_enter_43 : decode cX8_enter 43 = .ok (.invokevirtual 141, 3) := by decide +kernel
theorem dX8_enter_46 : decode cX8_enter 46 = .ok (.aload_n 0, 1) := by decide +kernel
theorem dX8_enter_47 : decode cX8_enter 47 = .ok (.iload_n 2, 1) := by decide +kernel
theorem dX8_enter_48 : decode cX8_enter 48 = .ok (.iconst (-1), 1) := by decide +kernel
theorem dX8_enter_49 : decode cX8_enter 49 = .ok (.invokevirtual 145, 3) := by decide +kernel
theorem dX8_enter_52 : decode cX8_enter 52 = .ok (.return_, 1) := by decide +kernel
theorem dX8_push_0 : decode cX8_push 0 = .ok (.aload_n 0, 1) := by decide +kernel
theorem dX8_push_1 : decode cX8_push 1 = .ok (.getfield 132, 3) := by decide +kernel
theorem dX8_push_4 : decode cX8_push 4 = .ok (.bipush 90, 2) := by decide +kernel
theorem dX8_push_6 : decode cX8_push 6 = .ok (.if_icmp .ge 28, 3) := by decide +kernel
theorem dX8_push_9 : decode cX8_push 9 = .ok (.aload_n 0, 1) := by decide +kernel
theorem dX8_push_10 : decode cX8_push 10 = .ok (.dup, 1) := by decide +kernel
theorem dX8_push_11 : decode cX8_push 11 = .ok (.getfield 132, 3) := by decide +kernel
theorem dX8_push_14 : decode cX8_push 14 = .ok (.iconst 1, 1) := by decide +kernel
theorem dX8_push_15 : decode cX8_push 15 = .ok (.iadd, 1) := by decide +kernel
theorem dX8_push_16 : decode cX8_push 16 = .ok (.putfield 132, 3) := by decide +kernel
theorem dX8_push_19 : decode cX8_push 19 = .ok (.aload_n 0, 1) := by decide +kernel
theorem dX8_push_20 : decode cX8_push 20 = .ok (.getfield 19, 3) := by decide +kernel
theorem dX8_push_23 : decode cX8_push 23 = .ok (.aload_n 0, 1) := by decide +kernel
theorem dX8_push_24 : decode cX8_push 24 = .ok (.getfield 132, 3) := by decide +kernel
theorem dX8_push_27 : decode cX8_push 27 = .ok (.aaload, 1) := by decide +kernel
theorem dX8_push_28 : decode cX8_push 28 = .ok (.iload_n 1, 1) := by decide +kernel
theorem dX8_push_29 : decode cX8_push 29 = .ok (.iload_n 2, 1) := by decide +kernel
theorem dX8_push_30 : decode cX8_push 30 = .ok (.iload_n 3, 1) := by decide +kernel
theorem dX8_push_31 : decode cX8_push 31 = .ok (.invokevirtual 149, 3) := by decide +kernel
theorem dX8_push_34 : decode cX8_push 34 = .ok (.return_, 1) := by decide +kernel
theorem dX8_pop_0 : decode cX8_pop 0 = .ok (.aload_n 0, 1) := by decide +kernel
theorem dX8_pop_1 : decode cX8_pop 1 = .ok (.getfield 132, 3) := by decide +kernel
theorem dX8_pop_4 : decode cX8_pop 4 = .ok (.ifCond .le 13, 3) := by decide +kernel
theorem dX8_pop_7 : decode cX8_pop 7 = .ok (.aload_n 0, 1) := by decide +kernel
theorem dX8_pop_8 : decode cX8_pop 8 = .ok (.dup, 1) := by decide +kernel
theorem dX8_pop_9 : decode cX8_pop 9 = .ok (.getfield 132, 3) := by decide +kernel
theorem dX8_pop_12 : decode cX8_pop 12 = .ok (.iconst 1, 1) := by decide +kernel
theorem dX8_pop_13 : decode cX8_pop 13 = .ok (.isub, 1) := by decide +kernel
theorem dX8_pop_14 : decode cX8_pop 14 = .ok (.putfield 132, 3) := by decide +kernel
theorem dX8_pop_17 : decode cX8_pop 17 = .ok (.return_, 1) := by decide +kernel
theorem dX8_openScope_0 : decode cX8_openScope 0 = .ok (.aload_n 0, 1) := by decide +kernel
theorem dX8_openScope_1 : decode cX8_openScope 1 = .ok (.getfield 135, 3) := by decide +kernel
theorem dX8_openScope_4 : decode cX8_openScope 4 = .ok (.bipush 90, 2) := by decide +kernel
theorem dX8_openScope_6 : decode cX8_openScope 6 = .ok (.if_icmp .ge 27, 3) := by decide +kernel
theorem dX8_openScope_9 : decode cX8_openScope 9 = .ok (.aload_n 0, 1) := by decide +kernel
theorem dX8_openScope_10 : decode cX8_openScope 10 = .ok (.dup, 1) := by decide +kernel
theorem dX8_openScope_11 : decode cX8_openScope 11 = .ok (.getfield 135, 3) := by decide +kernel
theorem dX8_openScope_14 : decode cX8_openScope 14 = .ok (.iconst 1, 1) := by decide +kernel
theorem dX8_openScope_15 : decode cX8_openScope 15 = .ok (.iadd, 1) := by decide +kernel
theorem dX8_openScope_16 : decode cX8_openScope 16 = .ok (.putfield 135, 3) := by decide +kernel
theorem dX8_openScope_19 : decode cX8_openScope 19 = .ok (.aload_n 0, 1) := by decide +kernel
theorem dX8_openScope_20 : decode cX8_openScope 20 = .ok (.getfield 25, 3) := by decide +kernel
theorem dX8_openScope_23 : decode cX8_openScope 23 = .ok (.aload_n 0, 1) := by decide +kernel
theorem dX8_openScope_24 : decode cX8_openScope 24 = .ok (.getfield 135, 3) := by decide +kernel
theorem dX8_openScope_27 : decode cX8_openScope 27 = .ok (.aaload, 1) := by decide +kernel
theorem dX8_openScope_28 : decode cX8_openScope 28 = .ok (.iload_n 1, 1) := by decide +kernel
theorem dX8_openScope_29 : decode cX8_openScope 29 = .ok (.iload_n 2, 1) := by decide +kernel
theorem dX8_openScope_30 : decode cX8_openScope 30 = .ok (.invokevirtual 151, 3) := by decide +kernel
theorem dX8_openScope_33 : decode cX8_openScope 33 = .ok (.return_, 1) := by decide +kernel
theorem dX8_doLine_0 : decode cX8_doLine 0 = .ok (.aload_n 1, 1) := by decide +kernel
theorem dX8_doLine_1 : decode cX8_doLine 1 = .ok (.getfield 100, 3) := by decide +kernel
theorem dX8_doLine_4 : decode cX8_doLine 4 = .ok (.aload_n 1, 1) := by decide +kernel
theorem dX8_doLine_5 : decode cX8_doLine 5 = .ok (.getfield 104, 3) := by decide +kernel
theorem dX8_doLine_8 : decode cX8_doLine 8 = .ok (.invokevirtual 153, 3) := by decide +kernel
theorem dX8_doLine_11 : decode cX8_doLine 11 = .ok (.istore_n 3, 1) := by decide +kernel
theorem dX8_doLine_12 : decode cX8_doLine 12 = .ok (.aload_n 1, 1) := by decide +kernel
theorem dX8_doLine_13 : decode cX8_doLine 13 = .ok (.getfield 100, 3) := by decide +kernel
theorem dX8_doLine_16 : decode cX8_doLine 16 = .ok (.aload_n 1, 1) := by decide +kernel
theorem dX8_doLine_17 : decode cX8_doLine 17 = .ok (.getfield 104, 3) := by decide +kernel
theorem dX8_doLine_20 : decode cX8_doLine 20 = .ok (.invokevirtual 156, 3) := by decide +kernel
theorem dX8_doLine_23 : decode cX8_doLine 23 = .ok (.istore 4, 2) := by decide +kernel
theorem dX8_doLine_25 : decode cX8_doLine 25 = .ok (.iload_n 2, 1) := by decide +kernel
theorem dX8_doLine_26 : decode cX8_doLine 26 = .ok (.tableswitch 190 0 10 #[58, 70, 81, 93, 106, 119, 134, 149, 164, 174, 182], 58) := by decide +kernel
theorem dX8_doLine_84 : decode cX8_doLine 84 = .ok (.aload_n 0, 1) := by decide +kernel
theorem dX8_doLine_85 : decode cX8_doLine 85 = .ok (.aload_n 1, 1) := by decide +kernel
theorem dX8_doLine_86 : decode cX8_doLine 86 = .ok (.iload_n 3, 1) := by decide +kernel
theorem dX8_doLine_87 : decode cX8_doLine 87 = .ok (.iload 4, 2) := by decide +kernel
theorem dX8_doLine_89 : decode cX8_doLine 89 = .ok (.iconst 0, 1) := by decide +kernel
theorem dX8_doLine_90 : decode cX8_doLine 90 = .ok (.invokevirtual 159, 3) := by decide +kernel
theorem dX8_doLine_93 : decode cX8_doLine 93 = .ok (.goto 130, 3) := by decide +kernel
theorem dX8_doLine_96 : decode cX8_doLine 96 = .ok (.aload_n 0, 1) := by decide +kernel
theorem dX8_doLine_97 : decode cX8_doLine 97 = .ok (.aload_n 1, 1) := by decide +kernel
theorem dX8_doLine_98 : decode cX8_doLine 98 = .ok (.iload_n 3, 1) := by decide +kernel
theorem dX8_doLine_99 : decode cX8_doLine 99 = .ok (.iload 4, 2) := by decide +kernel
theorem dX8_doLine_101 : decode cX8_doLine 101 = .ok (.invokevirtual 163, 3) := by decide +kernel
theorem dX8_doLine_104 : decode cX8_doLine 104 = .ok (.goto 119, 3) := by decide +kernel
theorem dX8_doLine_107 : decode cX8_doLine 107 = .ok (.aload_n 0, 1) := by decide +kernel
theorem dX8_doLine_108 : decode cX8_doLine 108 = .ok (.aload_n 1, 1) := by decide +kernel
theorem dX8_doLine_109 : decode cX8_doLine 109 = .ok (.iload_n 3, 1) := by decide +kernel
theorem dX8_doLine_110 : decode cX8_doLine 110 = .ok (.iload 4, 2) := by decide +kernel
theorem dX8_doLine_112 : decode cX8_doLine 112 = .ok (.iconst 1, 1) := by decide +kernel
theorem dX8_doLine_113 : decode cX8_doLine 113 = .ok (.invokevirtual 159, 3) := by decide +kernel
theorem dX8_doLine_116 : decode cX8_doLine 116 = .ok (.goto 107, 3) := by decide +kernel
theorem dX8_doLine_119 : decode cX8_doLine 119 = .ok (.aload_n 0, 1) := by decide +kernel
theorem dX8_doLine_120 : decode cX8_doLine 120 = .ok (.aload_n 1, 1) := by decide +kernel
theorem dX8_doLine_121 : decode cX8_doLine 121 = .ok (.aload_n 1, 1) := by decide +kernel
theorem dX8_doLine_122 : decode cX8_doLine 122 = .ok (.iload_n 3, 1) := by decide +kernel
theorem dX8_doLine_123 : decode cX8_doLine 123 = .ok (.invokevirtual 167, 3) := by decide +kernel
theorem dX8_doLine_126 : decode cX8_doLine 126 = .ok (.invokevirtual 171, 3) := by decide +kernel
theorem dX8_doLine_129 : decode cX8_doLine 129 = .ok (.goto 94, 3) := by decide +kernel
theorem dX8_doLine_132 : decode cX8_doLine 132 = .ok (.aload_n 0, 1) := by decide +kernel
theorem dX8_doLine_133 : decode cX8_doLine 133 = .ok (.aload_n 1, 1) := by decide +kernel
theorem dX8_doLine_134 : decode cX8_doLine 134 = .ok (.aload_n 1, 1) := by decide +kernel
theorem dX8_doLine_135 : decode cX8_doLine 135 = .ok (.iload_n 3, 1) := by decide +kernel
theorem dX8_doLine_136 : decode cX8_doLine 136 = .ok (.invokevirtual 167, 3) := by decide +kernel
theorem dX8_doLine_139 : decode cX8_doLine 139 = .ok (.invokevirtual 175, 3) := by decide +kernel
theorem dX8_doLine_142 : decode cX8_doLine 142 = .ok (.goto 81, 3) := by decide +kernel
theorem dX8_doLine_145 : decode cX8_doLine 145 = .ok (.aload_n 0, 1) := by decide +kernel
theorem dX8_doLine_146 : decode cX8_doLine 146 = .ok (.aload_n 1, 1) := by decide +kernel
theorem dX8_doLine_147 : decode cX8_doLine 147 = .ok (.aload_n 1, 1) := by decide +kernel
theorem dX8_doLine_148 : decode cX8_doLine 148 = .ok (.iload_n 3, 1) := by decide +kernel
theorem dX8_doLine_149 : decode cX8_doLine 149 = .ok (.invokevirtual 167, 3) := by decide +kernel
theorem dX8_doLine_152 : decode cX8_doLine 152 = .ok (.iload 4, 2) := by decide +kernel
theorem dX8_doLine_154 : decode cX8_doLine 154 = .ok (.invokevirtual 178, 3) := by decide +kernel
theorem dX8_doLine_157 : decode cX8_doLine 157 = .ok (.goto 66, 3) := by decide +kernel
theorem dX8_doLine_160 : decode cX8_doLine 160 = .ok (.aload_n 0, 1) := by decide +kernel
theorem dX8_doLine_161 : decode cX8_doLine 161 = .ok (.aload_n 1, 1) := by decide +kernel
theorem dX8_doLine_162 : decode cX8_doLine 162 = .ok (.aload_n 1, 1) := by decide +kernel
theorem dX8_doLine_163 : decode cX8_doLine 163 = .ok (.iload_n 3, 1) := by decide +kernel
theorem dX8_doLine_164 : decode cX8_doLine 164 = .ok (.invokevirtual 167, 3) := by decide +kernel
theorem dX8_doLine_167 : decode cX8_doLine 167 = .ok (.iload 4, 2) := by decide +kernel
theorem dX8_doLine_169 : decode cX8_doLine 169 = .ok (.invokevirtual 182, 3) := by decide +kernel
theorem dX8_doLine_172 : decode cX8_doLine 172 = .ok (.goto 51, 3) := by decide +kernel
theorem dX8_doLine_175 : decode cX8_doLine 175 = .ok (.aload_n 0, 1) := by decide +kernel
theorem dX8_doLine_176 : decode cX8_doLine 176 = .ok (.aload_n 1, 1) := by decide +kernel
theorem dX8_doLine_177 : decode cX8_doLine 177 = .ok (.iload_n 3, 1) := by decide +kernel
theorem dX8_doLine_178 : decode cX8_doLine 178 = .ok (.aload_n 1, 1) := by decide +kernel
theorem dX8_doLine_179 : decode cX8_doLine 179 = .ok (.iload 4, 2) := by decide +kernel
theorem dX8_doLine_181 : decode cX8_doLine 181 = .ok (.invokevirtual 167, 3) := by decide +kernel
theorem dX8_doLine_184 : decode cX8_doLine 184 = .ok (.invokevirtual 185, 3) := by decide +kernel
theorem dX8_doLine_187 : decode cX8_doLine 187 = .ok (.goto 36, 3) := by decide +kernel
theorem dX8_doLine_190 : decode cX8_doLine 190 = .ok (.aload_n 0, 1) := by decide +kernel
theorem dX8_doLine_191 : decode cX8_doLine 191 = .ok (.aload_n 1, 1) := by decide +kernel
theorem dX8_doLine_192 : decode cX8_doLine 192 = .ok (.iload_n 3, 1) := by decide +kernel
theorem dX8_doLine_193 : decode cX8_doLine 193 = .ok (.iconst (-1), 1) := by decide +kernel
theorem dX8_doLine_194 : decode cX8_doLine 194 = .ok (.invokevirtual 189, 3) := by decide +kernel
theorem dX8_doLine_197 : decode cX8_doLine 197 = .ok (.goto 26, 3) := by decide +kernel
theorem dX8_doLine_200 : decode cX8_doLine 200 = .ok (.aload_n 0, 1) := by decide +kernel
theorem dX8_doLine_201 : decode cX8_doLine 201 = .ok (.iconst 1, 1) := by decide +kernel
theorem dX8_doLine_202 : decode cX8_doLine 202 = .ok (.putfield 97, 3) := by decide +kernel
theorem dX8_doLine_205 : decode cX8_doLine 205 = .ok (.goto 18, 3) := by decide +kernel
theorem dX8_doLine_208 : decode cX8_doLine 208 = .ok (.aload_n 0, 1) := by decide +kernel
theorem dX8_doLine_209 : decode cX8_doLine 209 = .ok (.iconst 2, 1) := by decide +kernel
theorem dX8_doLine_210 : decode cX8_doLine 210 = .ok (.putfield 97, 3) := by decide +kernel
theorem dX8_doLine_213 : decode cX8_doLine 213 = .ok (.goto 10, 3) := by decide +kernel
theorem dX8_doLine_216 : decode cX8_doLine 216 = .ok (.aload_n 0, 1) := by decide +kernel
theorem dX8_doLine_217 : decode cX8_doLine 217 = .ok (.aload_n 1, 1) := by decide +kernel
theorem dX8_doLine_218 : decode cX8_doLine 218 = .ok (.iload_n 2, 1) := by decide +kernel
theorem dX8_doLine_219 : decode cX8_doLine 219 = .ok (.iload_n 3, 1) := by decide +kernel
theorem dX8_doLine_220 : decode cX8_doLine 220 = .ok (.invokevirtual 192, 3) := by decide +kernel
theorem dX8_doLine_223 : decode cX8_doLine 223 = .ok (.aload_n 0, 1) := by decide +kernel
theorem dX8_doLine_224 : decode cX8_doLine 224 = .ok (.getfield 97, 3) := by decide +kernel
theorem dX8_doLine_227 : decode cX8_doLine 227 = .ok (.ifCond .ne 19, 3) := by decide +kernel
theorem dX8_doLine_230 : decode cX8_doLine 230 = .ok (.iload_n 2, 1) := by decide +kernel
theorem dX8_doLine_231 : decode cX8_doLine 231 = .ok (.bipush 6, 2) := by decide +kernel
theorem dX8_doLine_233 : decode cX8_doLine 233 = .ok (.if_icmp .gt 13, 3) := by decide +kernel
theorem dX8_doLine_236 : decode cX8_doLine 236 = .ok (.aload_n 1, 1) := by decide +kernel
theorem dX8_doLine_237 : decode cX8_doLine 237 = .ok (.dup, 1) := by decide +kernel
theorem dX8_doLine_238 : decode cX8_doLine 238 = .ok (.getfield 104, 3) := by decide +kernel
theorem dX8_doLine_241 : decode cX8_doLine 241 = .ok (.iconst 1, 1) := by decide +kernel
theorem dX8_doLine_242 : decode cX8_doLine 242 = .ok (.iadd, 1) := by decide +kernel
theorem dX8_doLine_243 : decode cX8_doLine 243 = .ok (.putfield 104, 3) := by decide +kernel
theorem dX8_doLine_246 : decode cX8_doLine 246 = .ok (.return_, 1) := by decide +kernel
theorem dX8_borrow_0 : decode cX8_borrow 0 = .ok (.aload_n 0, 1) := by decide +kernel
theorem dX8_borrow_1 : decode cX8_borrow 1 = .ok (.getfield 46, 3) := by decide +kernel
theorem dX8_borrow_4 : decode cX8_borrow 4 = .ok (.iload_n 3, 1) := by decide +kernel
theorem dX8_borrow_5 : decode cX8_borrow 5 = .ok (.invokevirtual 195, 3) := by decide +kernel
theorem dX8_borrow_8 : decode cX8_borrow 8 = .ok (.astore 5, 2) := by decide +kernel
theorem dX8_borrow_10 : decode cX8_borrow 10 = .ok (.aload 5, 2) := by decide +kernel
theorem dX8_borrow_12 : decode cX8_borrow 12 = .ok (.ifnull 11, 3) := by decide +kernel
theorem dX8_borrow_15 : decode cX8_borrow 15 = .ok (.aload 5, 2) := by decide +kernel
theorem dX8_borrow_17 : decode cX8_borrow 17 = .ok (.getfield 201, 3) := by decide +kernel
theorem dX8_borrow_20 : decode cX8_borrow 20 = .ok (.ifCond .eq 13, 3) := by decide +kernel
theorem dX8_borrow_23 : decode cX8_borrow 23 = .ok (.aload_n 0, 1) := by decide +kernel
theorem dX8_borrow_24 : decode cX8_borrow 24 = .ok (.aload_n 1, 1) := by decide +kernel
theorem dX8_borrow_25 : decode cX8_borrow 25 = .ok (.iconst 2, 1) := by decide +kernel
theorem dX8_borrow_26 : decode cX8_borrow 26 = .ok (.iload_n 3, 1) := by decide +kernel
theorem dX8_borrow_27 : decode cX8_borrow 27 = .ok (.invokevirtual 189, 3) := by decide +kernel
theorem dX8_borrow_30 : decode cX8_borrow 30 = .ok (.goto 13, 3) := by decide +kernel
theorem dX8_borrow_33 : decode cX8_borrow 33 = .ok (.aload_n 0, 1) := by decide +kernel
theorem dX8_borrow_34 : decode cX8_borrow 34 = .ok (.aload_n 1, 1) := by decide +kernel
theorem dX8_borrow_35 : decode cX8_borrow 35 = .ok (.iload_n 2, 1) := by decide +kernel
theorem dX8_borrow_36 : decode cX8_borrow 36 = .ok (.aload 5, 2) := by decide +kernel
theorem dX8_borrow_38 : decode cX8_borrow 38 = .ok (.iload 4, 2) := by decide +kernel
theorem dX8_borrow_40 : decode cX8_borrow 40 = .ok (.invokevirtual 206, 3) := by decide +kernel
theorem dX8_borrow_43 : decode cX8_borrow 43 = .ok (.return_, 1) := by decide +kernel
theorem dX8_take_0 : decode cX8_take 0 = .ok (.aload_n 0, 1) := by decide +kernel
theorem dX8_take_1 : decode cX8_take 1 = .ok (.getfield 46, 3) := by decide +kernel
theorem dX8_take_4 : decode cX8_take 4 = .ok (.iload_n 3, 1) := by decide +kernel
theorem dX8_take_5 : decode cX8_take 5 = .ok (.invokevirtual 210, 3) := by decide +kernel
theorem dX8_take_8 : decode cX8_take 8 = .ok (.astore 4, 2) := by decide +kernel
theorem dX8_take_10 : decode cX8_take 10 = .ok (.aload 4, 2) := by decide +kernel
theorem dX8_take_12 : decode cX8_take 12 = .ok (.ifnonnull 14, 3) := by decide +kernel
theorem dX8_take_15 : decode cX8_take 15 = .ok (.aload_n 0, 1) := by decide +kernel
theorem dX8_take_16 : decode cX8_take 16 = .ok (.aload_n 1, 1) := by decide +kernel
theorem dX8_take_17 : decode cX8_take 17 = .ok (.bipush 7, 2) := by decide +kernel
theorem dX8_take_19 : decode cX8_take 19 = .ok (.iconst (-1), 1) := by decide +kernel
theorem dX8_take_20 : decode cX8_take 20 = .ok (.invokevirtual 189, 3) := by decide +kernel
theorem dX8_take_23 : decode cX8_take 23 = .ok (.goto 12, 3) := by decide +kernel
theorem dX8_take_26 : decode cX8_take 26 = .ok (.aload_n 0, 1) := by decide +kernel
theorem dX8_take_27 : decode cX8_take 27 = .ok (.aload_n 1, 1) := by decide +kernel
theorem dX8_take_28 : decode cX8_take 28 = .ok (.iload_n 2, 1) := by decide +kernel
theorem dX8_take_29 : decode cX8_take 29 = .ok (.aload 4, 2) := by decide +kernel
theorem dX8_take_31 : decode cX8_take 31 = .ok (.iconst 0, 1) := by decide +kernel
theorem dX8_take_32 : decode cX8_take 32 = .ok (.invokevirtual 206, 3) := by decide +kernel
theorem dX8_take_35 : decode cX8_take 35 = .ok (.return_, 1) := by decide +kernel
theorem dX8_hire_0 : decode cX8_hire 0 = .ok (.aload_n 0, 1) := by decide +kernel
theorem dX8_hire_1 : decode cX8_hire 1 = .ok (.getfield 46, 3) := by decide +kernel
theorem dX8_hire_4 : decode cX8_hire 4 = .ok (.aload_n 3, 1) := by decide +kernel
theorem dX8_hire_5 : decode cX8_hire 5 = .ok (.aload_n 0, 1) := by decide +kernel
theorem dX8_hire_6 : decode cX8_hire 6 = .ok (.getfield 129, 3) := by decide +kernel
theorem dX8_hire_9 : decode cX8_hire 9 = .ok (.iload 4, 2) := by decide +kernel
theorem dX8_hire_11 : decode cX8_hire 11 = .ok (.iconst 1, 1) := by decide +kernel
theorem dX8_hire_12 : decode cX8_hire 12 = .ok (.if_icmp .ne 7, 3) := by decide +kernel
theorem dX8_hire_15 : decode cX8_hire 15 = .ok (.iconst 1, 1) := by decide +kernel
theorem dX8_hire_16 : decode cX8_hire 16 = .ok (.goto 4, 3) := by decide +kernel
theorem dX8_hire_19 : decode cX8_hire 19 = .ok (.iconst 0, 1) := by decide +kernel
theorem dX8_hire_20 : decode cX8_hire 20 = .ok (.invokevirtual 213, 3) := by decide +kernel
theorem dX8_hire_23 : decode cX8_hire 23 = .ok (.aload_n 0, 1) := by decide +kernel
theorem dX8_hire_24 : decode cX8_hire 24 = .ok (.aload_n 1, 1) := by decide +kernel
theorem dX8_hire_25 : decode cX8_hire 25 = .ok (.iload_n 2, 1) := by decide +kernel
theorem dX8_hire_26 : decode cX8_hire 26 = .ok (.aload_n 3, 1) := by decide +kernel
theorem dX8_hire_27 : decode cX8_hire 27 = .ok (.iload 4, 2) := by decide +kernel
theorem dX8_hire_29 : decode cX8_hire 29 = .ok (.aconst_null, 1) := by decide +kernel
theorem dX8_hire_30 : decode cX8_hire 30 = .ok (.invokevirtual 217, 3) := by decide +kernel
theorem dX8_hire_33 : decode cX8_hire 33 = .ok (.iload 4, 2) := by decide +kernel
theorem dX8_hire_35 : decode cX8_hire 35 = .ok (.iconst 1, 1) := by decide +kernel
theorem dX8_hire_36 : decode cX8_hire 36 = .ok (.if_icmp .ne 52, 3) := by decide +kernel
theorem dX8_hire_39 : decode cX8_hire 39 = .ok (.iconst 1, 1) := by decide +kernel
theorem dX8_hire_40 : decode cX8_hire 40 = .ok (.istore 5, 2) := by decide +kernel
theorem dX8_hire_42 : decode cX8_hire 42 = .ok (.iload 5, 2) := by decide +kernel
theorem dX8_hire_44 : decode cX8_hire 44 = .ok (.aload_n 0, 1) := by decide +kernel
theorem dX8_hire_45 : decode cX8_hire 45 = .ok (.getfield 94, 3) := by decide +kernel
theorem dX8_hire_48 : decode cX8_hire 48 = .ok (.if_icmp .gt 40, 3) := by decide +kernel
theorem dX8_hire_51 : decode cX8_hire 51 = .ok (.iload 5, 2) := by decide +kernel
theorem dX8_hire_53 : decode cX8_hire 53 = .ok (.bipush 10, 2) := by decide +kernel
theorem dX8_hire_55 : decode cX8_hire 55 = .ok (.if_icmp .gt 33, 3) := by decide +kernel
theorem dX8_hire_58 : decode cX8_hire 58 = .ok (.aload_n 3, 1) := by decide +kernel
theorem dX8_hire_59 : decode cX8_hire 59 = .ok (.aload_n 0, 1) := by decide +kernel
theorem dX8_hire_60 : decode cX8_hire 60 = .ok (.getfield 11, 3) := by decide +kernel
theorem dX8_hire_63 : decode cX8_hire 63 = .ok (.iload 5, 2) := by decide +kernel
theorem dX8_hire_65 : decode cX8_hire 65 = .ok (.aaload, 1) := by decide +kernel
theorem dX8_hire_66 : decode cX8_hire 66 = .ok (.getfield 221, 3) := by decide +kernel
theorem dX8_hire_69 : decode cX8_hire 69 = .ok (.aload_n 0, 1) := by decide +kernel
theorem dX8_hire_70 : decode cX8_hire 70 = .ok (.getfield 11, 3) := by decide +kernel
theorem dX8_hire_73 : decode cX8_hire 73 = .ok (.iload 5, 2) := by decide +kernel
theorem dX8_hire_75 : decode cX8_hire 75 = .ok (.aaload, 1) := by decide +kernel
theorem dX8_hire_76 : decode cX8_hire 76 = .ok (.getfield 104, 3) := by decide +kernel
theorem dX8_hire_79 : decode cX8_hire 79 = .ok (.invokevirtual 224, 3) := by decide +kernel
theorem dX8_hire_82 : decode cX8_hire 82 = .ok (.iinc 5 1, 3) := by decide +kernel
theorem dX8_hire_85 : decode cX8_hire 85 = .ok (.goto (-43), 3) := by decide +kernel
theorem dX8_hire_88 : decode cX8_hire 88 = .ok (.return_, 1) := by decide +kernel
theorem dX8_makeLoan_0 : decode cX8_makeLoan 0 = .ok (.aload_n 0, 1) := by decide +kernel
theorem dX8_makeLoan_1 : decode cX8_makeLoan 1 = .ok (.getfield 72, 3) := by decide +kernel
theorem dX8_makeLoan_4 : decode cX8_makeLoan 4 = .ok (.sipush 160, 3) := by decide +kernel
theorem dX8_makeLoan_7 : decode cX8_makeLoan 7 = .ok (.invokestatic 227, 3) := by decide +kernel
theorem dX8_makeLoan_10 : decode cX8_makeLoan 10 = .ok (.ifCond .ne 4, 3) := by decide +kernel
theorem dX8_makeLoan_13 : decode cX8_makeLoan 13 = .ok (.return_, 1) := by decide +kernel
theorem dX8_makeLoan_14 : decode cX8_makeLoan 14 = .ok (.aload_n 0, 1) := by decide +kernel
theorem dX8_makeLoan_15 : decode cX8_makeLoan 15 = .ok (.getfield 31, 3) := by decide +kernel
theorem dX8_makeLoan_18 : decode cX8_makeLoan 18 = .ok (.aload_n 0, 1) := by decide +kernel
theorem dX8_makeLoan_19 : decode cX8_makeLoan 19 = .ok (.getfield 72, 3) := by decide +kernel
theorem dX8_makeLoan_22 : decode cX8_makeLoan 22 = .ok (.aaload, 1) := by decide +kernel
theorem dX8_makeLoan_23 : decode cX8_makeLoan 23 = .ok (.astore 6, 2) := by decide +kernel
theorem dX8_makeLoan_25 : decode cX8_makeLoan 25 = .ok (.aload_n 0, 1) := by decide +kernel
theorem dX8_makeLoan_26 : decode cX8_makeLoan 26 = .ok (.dup, 1) := by decide +kernel
theorem dX8_makeLoan_27 : decode cX8_makeLoan 27 = .ok (.getfield 72, 3) := by decide +kernel
theorem dX8_makeLoan_30 : decode cX8_makeLoan 30 = .ok (.iconst 1, 1) := by decide +kernel
theorem dX8_makeLoan_31 : decode cX8_makeLoan 31 = .ok (.iadd, 1) := by decide +kernel
theorem dX8_makeLoan_32 : decode cX8_makeLoan 32 = .ok (.putfield 72, 3) := by decide +kernel
theorem dX8_makeLoan_35 : decode cX8_makeLoan 35 = .ok (.aload 6, 2) := by decide +kernel
theorem dX8_makeLoan_37 : decode cX8_makeLoan 37 = .ok (.aload_n 3, 1) := by decide +kernel
theorem dX8_makeLoan_38 : decode cX8_makeLoan 38 = .ok (.iload 4, 2) := by decide +kernel
theorem dX8_makeLoan_40 : decode cX8_makeLoan 40 = .ok (.aload 5, 2) := by decide +kernel
theorem dX8_makeLoan_42 : decode cX8_makeLoan 42 = .ok (.invokevirtual 231, 3) := by decide +kernel
theorem dX8_makeLoan_45 : decode cX8_makeLoan 45 = .ok (.iload 4, 2) := by decide +kernel
theorem dX8_makeLoan_47 : decode cX8_makeLoan 47 = .ok (.iconst 1, 1) := by decide +kernel
theorem dX8_makeLoan_48 : decode cX8_makeLoan 48 = .ok (.if_icmp .eq 17, 3) := by decide +kernel
theorem dX8_makeLoan_51 : decode cX8_makeLoan 51 = .ok (.aload 6, 2) := by decide +kernel
theorem dX8_makeLoan_53 : decode cX8_makeLoan 53 = .ok (.aload_n 0, 1) := by decide +kernel
theorem dX8_makeLoan_54 : decode cX8_makeLoan 54 = .ok (.getfield 25, 3) := by decide +kernel
theorem dX8_makeLoan_57 : decode cX8_makeLoan 57 = .ok (.aload_n 0, 1) := by decide +kernel
theorem dX8_makeLoan_58 : decode cX8_makeLoan 58 = .ok (.getfield 135, 3) := by decide +kernel
theorem dX8_makeLoan_61 : decode cX8_makeLoan 61 = .ok (.aaload, 1) := by decide +kernel
theorem dX8_makeLoan_62 : decode cX8_makeLoan 62 = .ok (.invokevirtual 234, 3) := by decide +kernel
theorem dX8_makeLoan_65 : decode cX8_makeLoan 65 = .ok (.aload_n 1, 1) := by decide +kernel
theorem dX8_makeLoan_66 : decode cX8_makeLoan 66 = .ok (.iload_n 2, 1) := by decide +kernel
theorem dX8_makeLoan_67 : decode cX8_makeLoan 67 = .ok (.aload 6, 2) := by decide +kernel
theorem dX8_makeLoan_69 : decode cX8_makeLoan 69 = .ok (.invokevirtual 238, 3) := by decide +kernel
theorem dX8_makeLoan_72 : decode cX8_makeLoan 72 = .ok (.return_, 1) := by decide +kernel
theorem dX8_use_0 : decode cX8_use 0 = .ok (.aload_n 2, 1) := by decide +kernel
theorem dX8_use_1 : decode cX8_use 1 = .ok (.iconst 1, 1) := by decide +kernel
theorem dX8_use_2 : decode cX8_use 2 = .ok (.invokestatic 242, 3) := by decide +kernel
theorem dX8_use_5 : decode cX8_use 5 = .ok (.istore_n 3, 1) := by decide +kernel
theorem dX8_use_6 : decode cX8_use 6 = .ok (.iload_n 3, 1) := by decide +kernel
theorem dX8_use_7 : decode cX8_use 7 = .ok (.iconst (-1), 1) := by decide +kernel
theorem dX8_use_8 : decode cX8_use 8 = .ok (.if_icmp .eq 16, 3) := by decide +kernel
theorem dX8_use_11 : decode cX8_use 11 = .ok (.aload_n 0, 1) := by decide +kernel
theorem dX8_use_12 : decode cX8_use 12 = .ok (.aload_n 1, 1) := by decide +kernel
theorem dX8_use_13 : decode cX8_use 13 = .ok (.iload_n 3, 1) := by decide +kernel
theorem dX8_use_14 : decode cX8_use 14 = .ok (.aload_n 2, 1) := by decide +kernel
theorem dX8_use_15 : decode cX8_use 15 = .ok (.invokestatic 246, 3) := by decide +kernel
theorem dX8_use_18 : decode cX8_use 18 = .ok (.invokevirtual 189, 3) := by decide +kernel
theorem dX8_use_21 : decode cX8_use 21 = .ok (.goto 31, 3) := by decide +kernel
theorem dX8_use_24 : decode cX8_use 24 = .ok (.aload_n 0, 1) := by decide +kernel
theorem dX8_use_25 : decode cX8_use 25 = .ok (.getfield 46, 3) := by decide +kernel
theorem dX8_use_28 : decode cX8_use 28 = .ok (.getfield 250, 3) := by decide +kernel
theorem dX8_use_31 : decode cX8_use 31 = .ok (.aload_n 2, 1) := by decide +kernel
theorem dX8_use_32 : decode cX8_use 32 = .ok (.invokestatic 246, 3) := by decide +kernel
theorem dX8_use_35 : decode cX8_use 35 = .ok (.iconst 0, 1) := by decide +kernel
theorem dX8_use_36 : decode cX8_use 36 = .ok (.invokevirtual 254, 3) := by decide +kernel
theorem dX8_use_39 : decode cX8_use 39 = .ok (.ifCond .eq 13, 3) := by decide +kernel
theorem dX8_use_42 : decode cX8_use 42 = .ok (.aload_n 0, 1) := by decide +kernel
theorem dX8_use_43 : decode cX8_use 43 = .ok (.aload_n 1, 1) := by decide +kernel
theorem dX8_use_44 : decode cX8_use 44 = .ok (.iconst 5, 1) := by decide +kernel
theorem dX8_use_45 : decode cX8_use 45 = .ok (.aload_n 2, 1) := by decide +kernel
theorem dX8_use_46 : decode cX8_use 46 = .ok (.invokestatic 246, 3) := by decide +kernel
theorem dX8_use_49 : decode cX8_use 49 = .ok (.invokevirtual 189, 3) := by decide +kernel
theorem dX8_use_52 : decode cX8_use 52 = .ok (.return_, 1) := by decide +kernel
theorem dX8_bringBack_0 : decode cX8_bringBack 0 = .ok (.aload_n 2, 1) := by decide +kernel
theorem dX8_bringBack_1 : decode cX8_bringBack 1 = .ok (.iconst 0, 1) := by decide +kernel
theorem dX8_bringBack_2 : decode cX8_bringBack 2 = .ok (.invokestatic 242, 3) := by decide +kernel
theorem dX8_bringBack_5 : decode cX8_bringBack 5 = .ok (.istore_n 3, 1) := by decide +kernel
theorem dX8_bringBack_6 : decode cX8_bringBack 6 = .ok (.iload_n 3, 1) := by decide +kernel
theorem dX8_bringBack_7 : decode cX8_bringBack 7 = .ok (.iconst (-1), 1) := by decide +kernel
theorem dX8_bringBack_8 : decode cX8_bringBack 8 = .ok (.if_icmp .eq 16, 3) := by decide +kernel
theorem dX8_bringBack_11 : decode cX8_bringBack 11 = .ok (.aload_n 0, 1) := by decide +kernel
theorem dX8_bringBack_12 : decode cX8_bringBack 12 = .ok (.aload_n 1, 1) := by decide +kernel
theorem dX8_bringBack_13 : decode cX8_bringBack 13 = .ok (.iload_n 3, 1) := by decide +kernel
theorem dX8_bringBack_14 : decode cX8_bringBack 14 = .ok (.aload_n 2, 1) := by decide +kernel
theorem dX8_bringBack_15 : decode cX8_bringBack 15 = .ok (.invokestatic 246, 3) := by decide +kernel
theorem dX8_bringBack_18 : decode cX8_bringBack 18 = .ok (.invokevirtual 189, 3) := by decide +kernel
theorem dX8_bringBack_21 : decode cX8_bringBack 21 = .ok (.goto 23, 3) := by decide +kernel
theorem dX8_bringBack_24 : decode cX8_bringBack 24 = .ok (.aload_n 0, 1) := by decide +kernel
theorem dX8_bringBack_25 : decode cX8_bringBack 25 = .ok (.aload_n 2, 1) := by decide +kernel
theorem dX8_bringBack_26 : decode cX8_bringBack 26 = .ok (.iconst 0, 1) := by decide +kernel
theorem dX8_bringBack_27 : decode cX8_bringBack 27 = .ok (.invokevirtual 259, 3) := by decide +kernel
theorem dX8_bringBack_30 : decode cX8_bringBack 30 = .ok (.ifCond .eq 14, 3) := by decide +kernel
theorem dX8_bringBack_33 : decode cX8_bringBack 33 = .ok (.aload_n 0, 1) := by decide +kernel
theorem dX8_bringBack_34 : decode cX8_bringBack 34 = .ok (.aload_n 1, 1) := by decide +kernel
theorem dX8_bringBack_35 : decode cX8_bringBack 35 = .ok (.bipush 6, 2) := by decide +kernel
theorem dX8_bringBack_37 : decode cX8_bringBack 37 = .ok (.aload_n 2, 1) := by decide +kernel
theorem dX8_bringBack_38 : decode cX8_bringBack 38 = .ok (.invokestatic 246, 3) := by decide +kernel
theorem dX8_bringBack_41 : decode cX8_bringBack 41 = .ok (.invokevirtual 189, 3) := by decide +kernel
theorem dX8_bringBack_44 : decode cX8_bringBack 44 = .ok (.return_, 1) := by decide +kernel
theorem dX8_lendOn_0 : decode cX8_lendOn 0 = .ok (.aload_n 2, 1) := by decide +kernel
theorem dX8_lendOn_1 : decode cX8_lendOn 1 = .ok (.iconst 1, 1) := by decide +kernel
theorem dX8_lendOn_2 : decode cX8_lendOn 2 = .ok (.invokestatic 242, 3) := by decide +kernel
theorem dX8_lendOn_5 : decode cX8_lendOn 5 = .ok (.istore 4, 2) := by decide +kernel
theorem dX8_lendOn_7 : decode cX8_lendOn 7 = .ok (.iload 4, 2) := by decide +kernel
theorem dX8_lendOn_9 : decode cX8_lendOn 9 = .ok (.iconst (-1), 1) := by decide +kernel
theorem dX8_lendOn_10 : decode cX8_lendOn 10 = .ok (.if_icmp .eq 17, 3) := by decide +kernel
theorem dX8_lendOn_13 : decode cX8_lendOn 13 = .ok (.aload_n 0, 1) := by decide +kernel
theorem dX8_lendOn_14 : decode cX8_lendOn 14 = .ok (.aload_n 1, 1) := by decide +kernel
theorem dX8_lendOn_15 : decode cX8_lendOn 15 = .ok (.iload 4, 2) := by decide +kernel
theorem dX8_lendOn_17 : decode cX8_lendOn 17 = .ok (.aload_n 2, 1) := by decide +kernel
theorem dX8_lendOn_18 : decode cX8_lendOn 18 = .ok (.invokestatic 246, 3) := by decide +kernel
theorem dX8_lendOn_21 : decode cX8_lendOn 21 = .ok (.invokevirtual 189, 3) := by decide +kernel
theorem dX8_lendOn_24 : decode cX8_lendOn 24 = .ok (.goto 15, 3) := by decide +kernel
theorem dX8_lendOn_27 : decode cX8_lendOn 27 = .ok (.aload_n 0, 1) := by decide +kernel
theorem dX8_lendOn_28 : decode cX8_lendOn 28 = .ok (.aload_n 1, 1) := by decide +kernel
theorem dX8_lendOn_29 : decode cX8_lendOn 29 = .ok (.iload_n 3, 1) := by decide +kernel
theorem dX8_lendOn_30 : decode cX8_lendOn 30 = .ok (.aload_n 2, 1) := by decide +kernel
theorem dX8_lendOn_31 : decode cX8_lendOn 31 = .ok (.getfield 263, 3) := by decide +kernel
theorem dX8_lendOn_34 : decode cX8_lendOn 34 = .ok (.iconst 2, 1) := by decide +kernel
theorem dX8_lendOn_35 : decode cX8_lendOn 35 = .ok (.aload_n 2, 1) := by decide +kernel
theorem dX8_lendOn_36 : decode cX8_lendOn 36 = .ok (.invokevirtual 217, 3) := by decide +kernel
theorem dX8_lendOn_39 : decode cX8_lendOn 39 = .ok (.return_, 1) := by decide +kernel
theorem dX8_passOn_0 : decode cX8_passOn 0 = .ok (.aload_n 2, 1) := by decide +kernel
theorem dX8_passOn_1 : decode cX8_passOn 1 = .ok (.iconst 0, 1) := by decide +kernel
theorem dX8_passOn_2 : decode cX8_passOn 2 = .ok (.invokestatic 242, 3) := by decide +kernel
theorem dX8_passOn_5 : decode cX8_passOn 5 = .ok (.istore 4, 2) := by decide +kernel
theorem dX8_passOn_7 : decode cX8_passOn 7 = .ok (.iload 4, 2) := by decide +kernel
theorem dX8_passOn_9 : decode cX8_passOn 9 = .ok (.iconst (-1), 1) := by decide +kernel
theorem dX8_passOn_10 : decode cX8_passOn 10 = .ok (.if_icmp .eq 17, 3) := by decide +kernel
theorem dX8_passOn_13 : decode cX8_passOn 13 = .ok (.aload_n 0, 1) := by decide +kernel
theorem dX8_passOn_14 : decode cX8_passOn 14 = .ok (.aload_n 1, 1) := by decide +kernel
theorem dX8_passOn_15 : decode cX8_passOn 15 = .ok (.iload 4, 2) := by decide +kernel
theorem dX8_passOn_17 : decode cX8_passOn 17 = .ok (.aload_n 2, 1) := by decide +kernel
theorem dX8_passOn_18 : decode cX8_passOn 18 = .ok (.invokestatic 246, 3) := by decide +kernel
theorem dX8_passOn_21 : decode cX8_passOn 21 = .ok (.invokevirtual 189, 3) := by decide +kernel
theorem dX8_passOn_24 : decode cX8_passOn 24 = .ok (.goto 50, 3) := by decide +kernel
theorem dX8_passOn_27 : decode cX8_passOn 27 = .ok (.aload_n 2, 1) := by decide +kernel
theorem dX8_passOn_28 : decode cX8_passOn 28 = .ok (.getfield 267, 3) := by decide +kernel
theorem dX8_passOn_31 : decode cX8_passOn 31 = .ok (.iconst 1, 1) := by decide +kernel
theorem dX8_passOn_32 : decode cX8_passOn 32 = .ok (.if_icmp .eq 14, 3) := by decide +kernel
theorem dX8_passOn_35 : decode cX8_passOn 35 = .ok (.iload_n 3, 1) := by decide +kernel
theorem dX8_passOn_36 : decode cX8_passOn 36 = .ok (.aload_n 0, 1) := by decide +kernel
theorem dX8_passOn_37 : decode cX8_passOn 37 = .ok (.getfield 135, 3) := by decide +kernel
theorem dX8_passOn_40 : decode cX8_passOn 40 = .ok (.invokestatic 227, 3) := by decide +kernel
theorem dX8_passOn_43 : decode cX8_passOn 43 = .ok (.ifCond .ne 16, 3) := by decide +kernel
theorem dX8_passOn_46 : decode cX8_passOn 46 = .ok (.aload_n 0, 1) := by decide +kernel
theorem dX8_passOn_47 : decode cX8_passOn 47 = .ok (.aload_n 1, 1) := by decide +kernel
theorem dX8_passOn_48 : decode cX8_passOn 48 = .ok (.iconst 4, 1) := by decide +kernel
theorem dX8_passOn_49 : decode cX8_passOn 49 = .ok (.aload_n 2, 1) := by decide +kernel
theorem dX8_passOn_50 : decode cX8_passOn 50 = .ok (.invokestatic 246, 3) := by decide +kernel
theorem dX8_passOn_53 : decode cX8_passOn 53 = .ok (.invokevirtual 189, 3) := by decide +kernel
theorem dX8_passOn_56 : decode cX8_passOn 56 = .ok (.goto 18, 3) := by decide +kernel
theorem dX8_passOn_59 : decode cX8_passOn 59 = .ok (.aload_n 2, 1) := by decide +kernel
theorem dX8_passOn_60 : decode cX8_passOn 60 = .ok (.aload_n 0, 1) := by decide +kernel
theorem dX8_passOn_61 : decode cX8_passOn 61 = .ok (.getfield 25, 3) := by decide +kernel
theorem dX8_passOn_64 : decode cX8_passOn 64 = .ok (.aload_n 0, 1) := by decide +kernel
theorem dX8_passOn_65 : decode cX8_passOn 65 = .ok (.getfield 135, 3) := by decide +kernel
theorem dX8_passOn_68 : decode cX8_passOn 68 = .ok (.iload_n 3, 1) := by decide +kernel
theorem dX8_passOn_69 : decode cX8_passOn 69 = .ok (.isub, 1) := by decide +kernel
theorem dX8_passOn_70 : decode cX8_passOn 70 = .ok (.aaload, 1) := by decide +kernel
theorem dX8_passOn_71 : decode cX8_passOn 71 = .ok (.invokevirtual 234, 3) := by decide +kernel
theorem dX8_passOn_74 : decode cX8_passOn 74 = .ok (.return_, 1) := by decide +kernel
theorem dX8_callAct_0 : decode cX8_callAct 0 = .ok (.aload_n 0, 1) := by decide +kernel
theorem dX8_callAct_1 : decode cX8_callAct 1 = .ok (.getfield 50, 3) := by decide +kernel
theorem dX8_callAct_4 : decode cX8_callAct 4 = .ok (.iload_n 2, 1) := by decide +kernel
theorem dX8_callAct_5 : decode cX8_callAct 5 = .ok (.invokestatic 85, 3) := by decide +kernel
theorem dX8_callAct_8 : decode cX8_callAct 8 = .ok (.astore 4, 2) := by decide +kernel
theorem dX8_callAct_10 : decode cX8_callAct 10 = .ok (.aload_n 0, 1) := by decide +kernel
theorem dX8_callAct_11 : decode cX8_callAct 11 = .ok (.getfield 94, 3) := by decide +kernel
theorem dX8_callAct_14 : decode cX8_callAct 14 = .ok (.bipush 10, 2) := by decide +kernel
theorem dX8_callAct_16 : decode cX8_callAct 16 = .ok (.if_icmp .lt 14, 3) := by decide +kernel
theorem dX8_callAct_19 : decode cX8_callAct 19 = .ok (.aload_n 0, 1) := by decide +kernel
theorem dX8_callAct_20 : decode cX8_callAct 20 = .ok (.aload_n 1, 1) := by decide +kernel
theorem dX8_callAct_21 : decode cX8_callAct 21 = .ok (.bipush 8, 2) := by decide +kernel
theorem dX8_callAct_23 : decode cX8_callAct 23 = .ok (.iconst (-1), 1) := by decide +kernel
theorem dX8_callAct_24 : decode cX8_callAct 24 = .ok (.invokevirtual 189, 3) := by decide +kernel
theorem dX8_callAct_27 : decode cX8_callAct 27 = .ok (.goto 34, 3) := by decide +kernel
theorem dX8_callAct_30 : decode cX8_callAct 30 = .ok (.aload 4, 2) := by decide +kernel
theorem dX8_callAct_32 : decode cX8_callAct 32 = .ok (.ifnull 11, 3) := by decide +kernel
theorem dX8_callAct_35 : decode cX8_callAct 35 = .ok (.aload 4, 2) := by decide +kernel
theorem dX8_callAct_37 : decode cX8_callAct 37 = .ok (.invokevirtual 270, 3) := by decide +kernel
theorem dX8_callAct_40 : decode cX8_callAct 40 = .ok (.ifCond .eq 13, 3) := by decide +kernel
theorem dX8_callAct_43 : decode cX8_callAct 43 = .ok (.aload_n 0, 1) := by decide +kernel
theorem dX8_callAct_44 : decode cX8_callAct 44 = .ok (.aload_n 1, 1) := by decide +kernel
theorem dX8_callAct_45 : decode cX8_callAct 45 = .ok (.iconst 4, 1) := by decide +kernel
theorem dX8_callAct_46 : decode cX8_callAct 46 = .ok (.iconst (-1), 1) := by decide +kernel
theorem dX8_callAct_47 : decode cX8_callAct 47 = .ok (.invokevirtual 189, 3) := by decide +kernel
theorem dX8_callAct_50 : decode cX8_callAct 50 = .ok (.goto 11, 3) := by decide +kernel
theorem dX8_callAct_53 : decode cX8_callAct 53 = .ok (.aload_n 0, 1) := by decide +kernel
theorem dX8_callAct_54 : decode cX8_callAct 54 = .ok (.aload 4, 2) := by decide +kernel
theorem dX8_callAct_56 : decode cX8_callAct 56 = .ok (.iload_n 2, 1) := by decide +kernel
theorem dX8_callAct_57 : decode cX8_callAct 57 = .ok (.aload_n 3, 1) := by decide +kernel
theorem dX8_callAct_58 : decode cX8_callAct 58 = .ok (.invokevirtual 89, 3) := by decide +kernel
theorem dX8_callAct_61 : decode cX8_callAct 61 = .ok (.return_, 1) := by decide +kernel
theorem dX8_misuseOf_0 : decode cX8_misuseOf 0 = .ok (.aload_n 0, 1) := by decide +kernel
theorem dX8_misuseOf_1 : decode cX8_misuseOf 1 = .ok (.ifnull 10, 3) := by decide +kernel
theorem dX8_misuseOf_4 : decode cX8_misuseOf 4 = .ok (.aload_n 0, 1) := by decide +kernel
theorem dX8_misuseOf_5 : decode cX8_misuseOf 5 = .ok (.getfield 274, 3) := by decide +kernel
theorem dX8_misuseOf_8 : decode cX8_misuseOf 8 = .ok (.ifCond .ne 5, 3) := by decide +kernel
theorem dX8_misuseOf_11 : decode cX8_misuseOf 11 = .ok (.iconst 3, 1) := by decide +kernel
theorem dX8_misuseOf_12 : decode cX8_misuseOf 12 = .ok (.ireturn, 1) := by decide +kernel
theorem dX8_misuseOf_13 : decode cX8_misuseOf 13 = .ok (.iload_n 1, 1) := by decide +kernel
theorem dX8_misuseOf_14 : decode cX8_misuseOf 14 = .ok (.ifCond .eq 14, 3) := by decide +kernel
theorem dX8_misuseOf_17 : decode cX8_misuseOf 17 = .ok (.aload_n 0, 1) := by decide +kernel
theorem dX8_misuseOf_18 : decode cX8_misuseOf 18 = .ok (.getfield 278, 3) := by decide +kernel
theorem dX8_misuseOf_21 : decode cX8_misuseOf 21 = .ok (.ifnull 7, 3) := by decide +kernel
theorem dX8_misuseOf_24 : decode cX8_misuseOf 24 = .ok (.iconst 2, 1) := by decide +kernel
theorem dX8_misuseOf_25 : decode cX8_misuseOf 25 = .ok (.goto 4, 3) := by decide +kernel
theorem dX8_misuseOf_28 : decode cX8_misuseOf 28 = .ok (.iconst (-1), 1) := by decide +kernel
theorem dX8_misuseOf_29 : decode cX8_misuseOf 29 = .ok (.ireturn, 1) := by decide +kernel
theorem dX8_partOf_0 : decode cX8_partOf 0 = .ok (.aload_n 0, 1) := by decide +kernel
theorem dX8_partOf_1 : decode cX8_partOf 1 = .ok (.ifnull 10, 3) := by decide +kernel
theorem dX8_partOf_4 : decode cX8_partOf 4 = .ok (.aload_n 0, 1) := by decide +kernel
end
section
theorem dX8_partOf_5 : decode cX8_partOf 5 = .ok (.getfield 263, 3) := by decide +kernel
theorem dX8_partOf_8 : decode cX8_partOf 8 = .ok (.ifnonnull 7, 3) := by decide +kernel
theorem dX8_partOf_11 : decode cX8_partOf 11 = .ok (.iconst (-1), 1) := by decide +kernel
theorem dX8_partOf_12 : decode cX8_partOf 12 = .ok (.goto 10, 3) := by decide +kernel
theorem dX8_partOf_15 : decode cX8_partOf 15 = .ok (.aload_n 0, 1) := by decide +kernel
theorem dX8_partOf_16 : decode cX8_partOf 16 = .ok (.getfield 263, 3) := by decide +kernel
theorem dX8_partOf_19 : decode cX8_partOf 19 = .ok (.getfield 282, 3) := by decide +kernel
theorem dX8_partOf_22 : decode cX8_partOf 22 = .ok (.ireturn, 1) := by decide +kernel
theorem dX8_fail_0 : decode cX8_fail 0 = .ok (.aload_n 0, 1) := by decide +kernel
theorem dX8_fail_1 : decode cX8_fail 1 = .ok (.getfield 38, 3) := by decide +kernel
theorem dX8_fail_4 : decode cX8_fail 4 = .ok (.iload_n 2, 1) := by decide +kernel
theorem dX8_fail_5 : decode cX8_fail 5 = .ok (.aload_n 1, 1) := by decide +kernel
theorem dX8_fail_6 : decode cX8_fail 6 = .ok (.getfield 221, 3) := by decide +kernel
theorem dX8_fail_9 : decode cX8_fail 9 = .ok (.aload_n 1, 1) := by decide +kernel
theorem dX8_fail_10 : decode cX8_fail 10 = .ok (.getfield 104, 3) := by decide +kernel
theorem dX8_fail_13 : decode cX8_fail 13 = .ok (.iload_n 3, 1) := by decide +kernel
theorem dX8_fail_14 : decode cX8_fail 14 = .ok (.invokevirtual 283, 3) := by decide +kernel
theorem dX8_fail_17 : decode cX8_fail 17 = .ok (.istore 4, 2) := by decide +kernel
theorem dX8_fail_19 : decode cX8_fail 19 = .ok (.aload_n 0, 1) := by decide +kernel
theorem dX8_fail_20 : decode cX8_fail 20 = .ok (.iload 4, 2) := by decide +kernel
theorem dX8_fail_22 : decode cX8_fail 22 = .ok (.putfield 42, 3) := by decide +kernel
theorem dX8_fail_25 : decode cX8_fail 25 = .ok (.aload_n 0, 1) := by decide +kernel
theorem dX8_fail_26 : decode cX8_fail 26 = .ok (.iload 4, 2) := by decide +kernel
theorem dX8_fail_28 : decode cX8_fail 28 = .ok (.iconst (-1), 1) := by decide +kernel
theorem dX8_fail_29 : decode cX8_fail 29 = .ok (.if_icmp .ne 7, 3) := by decide +kernel
theorem dX8_fail_32 : decode cX8_fail 32 = .ok (.iconst 4, 1) := by decide +kernel
theorem dX8_fail_33 : decode cX8_fail 33 = .ok (.goto 4, 3) := by decide +kernel
theorem dX8_fail_36 : decode cX8_fail 36 = .ok (.iconst 3, 1) := by decide +kernel
theorem dX8_fail_37 : decode cX8_fail 37 = .ok (.putfield 97, 3) := by decide +kernel
theorem dX8_fail_40 : decode cX8_fail 40 = .ok (.return_, 1) := by decide +kernel
theorem dX8_giveUp_0 : decode cX8_giveUp 0 = .ok (.aload_n 1, 1) := by decide +kernel
theorem dX8_giveUp_1 : decode cX8_giveUp 1 = .ok (.astore_n 3, 1) := by decide +kernel
theorem dX8_giveUp_2 : decode cX8_giveUp 2 = .ok (.iconst 0, 1) := by decide +kernel
theorem dX8_giveUp_3 : decode cX8_giveUp 3 = .ok (.istore 4, 2) := by decide +kernel
theorem dX8_giveUp_5 : decode cX8_giveUp 5 = .ok (.iload 4, 2) := by decide +kernel
theorem dX8_giveUp_7 : decode cX8_giveUp 7 = .ok (.sipush 160, 3) := by decide +kernel
theorem dX8_giveUp_10 : decode cX8_giveUp 10 = .ok (.if_icmp .ge 26, 3) := by decide +kernel
theorem dX8_giveUp_13 : decode cX8_giveUp 13 = .ok (.aload_n 3, 1) := by decide +kernel
theorem dX8_giveUp_14 : decode cX8_giveUp 14 = .ok (.ifnull 22, 3) := by decide +kernel
theorem dX8_giveUp_17 : decode cX8_giveUp 17 = .ok (.aload_n 3, 1) := by decide +kernel
theorem dX8_giveUp_18 : decode cX8_giveUp 18 = .ok (.getfield 278, 3) := by decide +kernel
theorem dX8_giveUp_21 : decode cX8_giveUp 21 = .ok (.astore 5, 2) := by decide +kernel
theorem dX8_giveUp_23 : decode cX8_giveUp 23 = .ok (.aload_n 3, 1) := by decide +kernel
theorem dX8_giveUp_24 : decode cX8_giveUp 24 = .ok (.invokevirtual 287, 3) := by decide +kernel
theorem dX8_giveUp_27 : decode cX8_giveUp 27 = .ok (.aload 5, 2) := by decide +kernel
theorem dX8_giveUp_29 : decode cX8_giveUp 29 = .ok (.astore_n 3, 1) := by decide +kernel
theorem dX8_giveUp_30 : decode cX8_giveUp 30 = .ok (.iinc 4 1, 3) := by decide +kernel
theorem dX8_giveUp_33 : decode cX8_giveUp 33 = .ok (.goto (-28), 3) := by decide +kernel
theorem dX8_giveUp_36 : decode cX8_giveUp 36 = .ok (.aload_n 1, 1) := by decide +kernel
theorem dX8_giveUp_37 : decode cX8_giveUp 37 = .ok (.getfield 267, 3) := by decide +kernel
theorem dX8_giveUp_40 : decode cX8_giveUp 40 = .ok (.iconst 2, 1) := by decide +kernel
theorem dX8_giveUp_41 : decode cX8_giveUp 41 = .ok (.if_icmp .eq 29, 3) := by decide +kernel
theorem dX8_giveUp_44 : decode cX8_giveUp 44 = .ok (.aload_n 1, 1) := by decide +kernel
theorem dX8_giveUp_45 : decode cX8_giveUp 45 = .ok (.getfield 263, 3) := by decide +kernel
theorem dX8_giveUp_48 : decode cX8_giveUp 48 = .ok (.ifnull 22, 3) := by decide +kernel
theorem dX8_giveUp_51 : decode cX8_giveUp 51 = .ok (.aload_n 0, 1) := by decide +kernel
theorem dX8_giveUp_52 : decode cX8_giveUp 52 = .ok (.getfield 46, 3) := by decide +kernel
theorem dX8_giveUp_55 : decode cX8_giveUp 55 = .ok (.aload_n 1, 1) := by decide +kernel
theorem dX8_giveUp_56 : decode cX8_giveUp 56 = .ok (.getfield 263, 3) := by decide +kernel
theorem dX8_giveUp_59 : decode cX8_giveUp 59 = .ok (.iload_n 2, 1) := by decide +kernel
theorem dX8_giveUp_60 : decode cX8_giveUp 60 = .ok (.invokevirtual 290, 3) := by decide +kernel
theorem dX8_giveUp_63 : decode cX8_giveUp 63 = .ok (.ifCond .eq 7, 3) := by decide +kernel
theorem dX8_giveUp_66 : decode cX8_giveUp 66 = .ok (.iconst 1, 1) := by decide +kernel
theorem dX8_giveUp_67 : decode cX8_giveUp 67 = .ok (.goto 4, 3) := by decide +kernel
theorem dX8_giveUp_70 : decode cX8_giveUp 70 = .ok (.iconst 0, 1) := by decide +kernel
theorem dX8_giveUp_71 : decode cX8_giveUp 71 = .ok (.ireturn, 1) := by decide +kernel
theorem dX8_beginBlock_0 : decode cX8_beginBlock 0 = .ok (.iload_n 2, 1) := by decide +kernel
theorem dX8_beginBlock_1 : decode cX8_beginBlock 1 = .ok (.bipush 11, 2) := by decide +kernel
theorem dX8_beginBlock_3 : decode cX8_beginBlock 3 = .ok (.if_icmp .ne 25, 3) := by decide +kernel
theorem dX8_beginBlock_6 : decode cX8_beginBlock 6 = .ok (.iload_n 3, 1) := by decide +kernel
theorem dX8_beginBlock_7 : decode cX8_beginBlock 7 = .ok (.ifCond .ne 21, 3) := by decide +kernel
theorem dX8_beginBlock_10 : decode cX8_beginBlock 10 = .ok (.aload_n 1, 1) := by decide +kernel
theorem dX8_beginBlock_11 : decode cX8_beginBlock 11 = .ok (.aload_n 1, 1) := by decide +kernel
theorem dX8_beginBlock_12 : decode cX8_beginBlock 12 = .ok (.getfield 100, 3) := by decide +kernel
theorem dX8_beginBlock_15 : decode cX8_beginBlock 15 = .ok (.aload_n 1, 1) := by decide +kernel
theorem dX8_beginBlock_16 : decode cX8_beginBlock 16 = .ok (.getfield 104, 3) := by decide +kernel
theorem dX8_beginBlock_19 : decode cX8_beginBlock 19 = .ok (.invokevirtual 294, 3) := by decide +kernel
theorem dX8_beginBlock_22 : decode cX8_beginBlock 22 = .ok (.iconst 1, 1) := by decide +kernel
theorem dX8_beginBlock_23 : decode cX8_beginBlock 23 = .ok (.iadd, 1) := by decide +kernel
theorem dX8_beginBlock_24 : decode cX8_beginBlock 24 = .ok (.putfield 104, 3) := by decide +kernel
theorem dX8_beginBlock_27 : decode cX8_beginBlock 27 = .ok (.return_, 1) := by decide +kernel
theorem dX8_beginBlock_28 : decode cX8_beginBlock 28 = .ok (.aload_n 0, 1) := by decide +kernel
theorem dX8_beginBlock_29 : decode cX8_beginBlock 29 = .ok (.iload_n 2, 1) := by decide +kernel
theorem dX8_beginBlock_30 : decode cX8_beginBlock 30 = .ok (.aload_n 1, 1) := by decide +kernel
theorem dX8_beginBlock_31 : decode cX8_beginBlock 31 = .ok (.getfield 104, 3) := by decide +kernel
theorem dX8_beginBlock_34 : decode cX8_beginBlock 34 = .ok (.iload_n 2, 1) := by decide +kernel
theorem dX8_beginBlock_35 : decode cX8_beginBlock 35 = .ok (.bipush 11, 2) := by decide +kernel
theorem dX8_beginBlock_37 : decode cX8_beginBlock 37 = .ok (.if_icmp .ne 9, 3) := by decide +kernel
theorem dX8_beginBlock_40 : decode cX8_beginBlock 40 = .ok (.iload_n 3, 1) := by decide +kernel
theorem dX8_beginBlock_41 : decode cX8_beginBlock 41 = .ok (.iconst 1, 1) := by decide +kernel
theorem dX8_beginBlock_42 : decode cX8_beginBlock 42 = .ok (.isub, 1) := by decide +kernel
theorem dX8_beginBlock_43 : decode cX8_beginBlock 43 = .ok (.goto 4, 3) := by decide +kernel
theorem dX8_beginBlock_46 : decode cX8_beginBlock 46 = .ok (.iconst 0, 1) := by decide +kernel
theorem dX8_beginBlock_47 : decode cX8_beginBlock 47 = .ok (.invokevirtual 141, 3) := by decide +kernel
theorem dX8_beginBlock_50 : decode cX8_beginBlock 50 = .ok (.iload_n 2, 1) := by decide +kernel
theorem dX8_beginBlock_51 : decode cX8_beginBlock 51 = .ok (.bipush 12, 2) := by decide +kernel
theorem dX8_beginBlock_53 : decode cX8_beginBlock 53 = .ok (.if_icmp .ne 15, 3) := by decide +kernel
theorem dX8_beginBlock_56 : decode cX8_beginBlock 56 = .ok (.aload_n 0, 1) := by decide +kernel
theorem dX8_beginBlock_57 : decode cX8_beginBlock 57 = .ok (.aload_n 1, 1) := by decide +kernel
theorem dX8_beginBlock_58 : decode cX8_beginBlock 58 = .ok (.getfield 221, 3) := by decide +kernel
theorem dX8_beginBlock_61 : decode cX8_beginBlock 61 = .ok (.aload_n 1, 1) := by decide +kernel
theorem dX8_beginBlock_62 : decode cX8_beginBlock 62 = .ok (.getfield 104, 3) := by decide +kernel
theorem dX8_beginBlock_65 : decode cX8_beginBlock 65 = .ok (.invokevirtual 145, 3) := by decide +kernel
theorem dX8_beginBlock_68 : decode cX8_beginBlock 68 = .ok (.aload_n 1, 1) := by decide +kernel
theorem dX8_beginBlock_69 : decode cX8_beginBlock 69 = .ok (.dup, 1) := by decide +kernel
theorem dX8_beginBlock_70 : decode cX8_beginBlock 70 = .ok (.getfield 104, 3) := by decide +kernel
theorem dX8_beginBlock_73 : decode cX8_beginBlock 73 = .ok (.iconst 1, 1) := by decide +kernel
theorem dX8_beginBlock_74 : decode cX8_beginBlock 74 = .ok (.iadd, 1) := by decide +kernel
theorem dX8_beginBlock_75 : decode cX8_beginBlock 75 = .ok (.putfield 104, 3) := by decide +kernel
theorem dX8_beginBlock_78 : decode cX8_beginBlock 78 = .ok (.return_, 1) := by decide +kernel
theorem dX8_reachMark_0 : decode cX8_reachMark 0 = .ok (.aload_n 0, 1) := by decide +kernel
theorem dX8_reachMark_1 : decode cX8_reachMark 1 = .ok (.getfield 19, 3) := by decide +kernel
theorem dX8_reachMark_4 : decode cX8_reachMark 4 = .ok (.aload_n 0, 1) := by decide +kernel
theorem dX8_reachMark_5 : decode cX8_reachMark 5 = .ok (.getfield 132, 3) := by decide +kernel
theorem dX8_reachMark_8 : decode cX8_reachMark 8 = .ok (.aaload, 1) := by decide +kernel
theorem dX8_reachMark_9 : decode cX8_reachMark 9 = .ok (.astore_n 2, 1) := by decide +kernel
theorem dX8_reachMark_10 : decode cX8_reachMark 10 = .ok (.aload_n 2, 1) := by decide +kernel
theorem dX8_reachMark_11 : decode cX8_reachMark 11 = .ok (.getfield 297, 3) := by decide +kernel
theorem dX8_reachMark_14 : decode cX8_reachMark 14 = .ok (.tableswitch 69 11 13 #[34, 26, 43], 26) := by decide +kernel
theorem dX8_reachMark_40 : decode cX8_reachMark 40 = .ok (.aload_n 0, 1) := by decide +kernel
theorem dX8_reachMark_41 : decode cX8_reachMark 41 = .ok (.aload_n 1, 1) := by decide +kernel
theorem dX8_reachMark_42 : decode cX8_reachMark 42 = .ok (.invokevirtual 300, 3) := by decide +kernel
theorem dX8_reachMark_45 : decode cX8_reachMark 45 = .ok (.goto 43, 3) := by decide +kernel
theorem dX8_reachMark_48 : decode cX8_reachMark 48 = .ok (.aload_n 0, 1) := by decide +kernel
theorem dX8_reachMark_49 : decode cX8_reachMark 49 = .ok (.aload_n 1, 1) := by decide +kernel
theorem dX8_reachMark_50 : decode cX8_reachMark 50 = .ok (.aload_n 2, 1) := by decide +kernel
theorem dX8_reachMark_51 : decode cX8_reachMark 51 = .ok (.invokevirtual 303, 3) := by decide +kernel
theorem dX8_reachMark_54 : decode cX8_reachMark 54 = .ok (.goto 34, 3) := by decide +kernel
theorem dX8_reachMark_57 : decode cX8_reachMark 57 = .ok (.aload_n 2, 1) := by decide +kernel
theorem dX8_reachMark_58 : decode cX8_reachMark 58 = .ok (.getfield 307, 3) := by decide +kernel
theorem dX8_reachMark_61 : decode cX8_reachMark 61 = .ok (.iconst 2, 1) := by decide +kernel
theorem dX8_reachMark_62 : decode cX8_reachMark 62 = .ok (.if_icmp .ne 12, 3) := by decide +kernel
theorem dX8_reachMark_65 : decode cX8_reachMark 65 = .ok (.aload_n 0, 1) := by decide +kernel
theorem dX8_reachMark_66 : decode cX8_reachMark 66 = .ok (.aload_n 1, 1) := by decide +kernel
theorem dX8_reachMark_67 : decode cX8_reachMark 67 = .ok (.aload_n 2, 1) := by decide +kernel
theorem dX8_reachMark_68 : decode cX8_reachMark 68 = .ok (.invokevirtual 310, 3) := by decide +kernel
theorem dX8_reachMark_71 : decode cX8_reachMark 71 = .ok (.goto 17, 3) := by decide +kernel
theorem dX8_reachMark_74 : decode cX8_reachMark 74 = .ok (.aload_n 0, 1) := by decide +kernel
theorem dX8_reachMark_75 : decode cX8_reachMark 75 = .ok (.aload_n 1, 1) := by decide +kernel
theorem dX8_reachMark_76 : decode cX8_reachMark 76 = .ok (.aload_n 2, 1) := by decide +kernel
theorem dX8_reachMark_77 : decode cX8_reachMark 77 = .ok (.invokevirtual 313, 3) := by decide +kernel
theorem dX8_reachMark_80 : decode cX8_reachMark 80 = .ok (.goto 8, 3) := by decide +kernel
theorem dX8_reachMark_83 : decode cX8_reachMark 83 = .ok (.aload_n 0, 1) := by decide +kernel
theorem dX8_reachMark_84 : decode cX8_reachMark 84 = .ok (.iconst 1, 1) := by decide +kernel
theorem dX8_reachMark_85 : decode cX8_reachMark 85 = .ok (.putfield 97, 3) := by decide +kernel
theorem dX8_reachMark_88 : decode cX8_reachMark 88 = .ok (.return_, 1) := by decide +kernel
theorem dX8_endScopeBlock_0 : decode cX8_endScopeBlock 0 = .ok (.aload_n 0, 1) := by decide +kernel
theorem dX8_endScopeBlock_1 : decode cX8_endScopeBlock 1 = .ok (.invokevirtual 316, 3) := by decide +kernel
theorem dX8_endScopeBlock_4 : decode cX8_endScopeBlock 4 = .ok (.aload_n 0, 1) := by decide +kernel
theorem dX8_endScopeBlock_5 : decode cX8_endScopeBlock 5 = .ok (.invokevirtual 319, 3) := by decide +kernel
theorem dX8_endScopeBlock_8 : decode cX8_endScopeBlock 8 = .ok (.aload_n 0, 1) := by decide +kernel
theorem dX8_endScopeBlock_9 : decode cX8_endScopeBlock 9 = .ok (.getfield 97, 3) := by decide +kernel
theorem dX8_endScopeBlock_12 : decode cX8_endScopeBlock 12 = .ok (.ifCond .ne 13, 3) := by decide +kernel
theorem dX8_endScopeBlock_15 : decode cX8_endScopeBlock 15 = .ok (.aload_n 1, 1) := by decide +kernel
theorem dX8_endScopeBlock_16 : decode cX8_endScopeBlock 16 = .ok (.dup, 1) := by decide +kernel
theorem dX8_endScopeBlock_17 : decode cX8_endScopeBlock 17 = .ok (.getfield 104, 3) := by decide +kernel
theorem dX8_endScopeBlock_20 : decode cX8_endScopeBlock 20 = .ok (.iconst 1, 1) := by decide +kernel
theorem dX8_endScopeBlock_21 : decode cX8_endScopeBlock 21 = .ok (.iadd, 1) := by decide +kernel
theorem dX8_endScopeBlock_22 : decode cX8_endScopeBlock 22 = .ok (.putfield 104, 3) := by decide +kernel
theorem dX8_endScopeBlock_25 : decode cX8_endScopeBlock 25 = .ok (.return_, 1) := by decide +kernel
theorem dX8_endTurn_0 : decode cX8_endTurn 0 = .ok (.aload_n 2, 1) := by decide +kernel
theorem dX8_endTurn_1 : decode cX8_endTurn 1 = .ok (.getfield 322, 3) := by decide +kernel
theorem dX8_endTurn_4 : decode cX8_endTurn 4 = .ok (.ifCond .gt 20, 3) := by decide +kernel
theorem dX8_endTurn_7 : decode cX8_endTurn 7 = .ok (.aload_n 0, 1) := by decide +kernel
theorem dX8_endTurn_8 : decode cX8_endTurn 8 = .ok (.invokevirtual 319, 3) := by decide +kernel
theorem dX8_endTurn_11 : decode cX8_endTurn 11 = .ok (.aload_n 1, 1) := by decide +kernel
theorem dX8_endTurn_12 : decode cX8_endTurn 12 = .ok (.dup, 1) := by decide +kernel
theorem dX8_endTurn_13 : decode cX8_endTurn 13 = .ok (.getfield 104, 3) := by decide +kernel
theorem dX8_endTurn_16 : decode cX8_endTurn 16 = .ok (.iconst 1, 1) := by decide +kernel
theorem dX8_endTurn_17 : decode cX8_endTurn 17 = .ok (.iadd, 1) := by decide +kernel
theorem dX8_endTurn_18 : decode cX8_endTurn 18 = .ok (.putfield 104, 3) := by decide +kernel
theorem dX8_endTurn_21 : decode cX8_endTurn 21 = .ok (.goto 30, 3) := by decide +kernel
theorem dX8_endTurn_24 : decode cX8_endTurn 24 = .ok (.aload_n 0, 1) := by decide +kernel
theorem dX8_endTurn_25 : decode cX8_endTurn 25 = .ok (.invokevirtual 118, 3) := by decide +kernel
theorem dX8_endTurn_28 : decode cX8_endTurn 28 = .ok (.ifCond .eq 23, 3) := by decide +kernel
theorem dX8_endTurn_31 : decode cX8_endTurn 31 = .ok (.aload_n 2, 1) := by decide +kernel
theorem dX8_endTurn_32 : decode cX8_endTurn 32 = .ok (.dup, 1) := by decide +kernel
theorem dX8_endTurn_33 : decode cX8_endTurn 33 = .ok (.getfield 322, 3) := by decide +kernel
theorem dX8_endTurn_36 : decode cX8_endTurn 36 = .ok (.iconst 1, 1) := by decide +kernel
theorem dX8_endTurn_37 : decode cX8_endTurn 37 = .ok (.isub, 1) := by decide +kernel
theorem dX8_endTurn_38 : decode cX8_endTurn 38 = .ok (.putfield 322, 3) := by decide +kernel
theorem dX8_endTurn_41 : decode cX8_endTurn 41 = .ok (.aload_n 1, 1) := by decide +kernel
theorem dX8_endTurn_42 : decode cX8_endTurn 42 = .ok (.aload_n 2, 1) := by decide +kernel
theorem dX8_endTurn_43 : decode cX8_endTurn 43 = .ok (.getfield 325, 3) := by decide +kernel
theorem dX8_endTurn_46 : decode cX8_endTurn 46 = .ok (.iconst 1, 1) := by decide +kernel
theorem dX8_endTurn_47 : decode cX8_endTurn 47 = .ok (.iadd, 1) := by decide +kernel
theorem dX8_endTurn_48 : decode cX8_endTurn 48 = .ok (.putfield 104, 3) := by decide +kernel
theorem dX8_endTurn_51 : decode cX8_endTurn 51 = .ok (.return_, 1) := by decide +kernel
theorem dX8_endLastWay_0 : decode cX8_endLastWay 0 = .ok (.aload_n 0, 1) := by decide +kernel
theorem dX8_endLastWay_1 : decode cX8_endLastWay 1 = .ok (.aload_n 2, 1) := by decide +kernel
theorem dX8_endLastWay_2 : decode cX8_endLastWay 2 = .ok (.getfield 328, 3) := by decide +kernel
theorem dX8_endLastWay_5 : decode cX8_endLastWay 5 = .ok (.putfield 97, 3) := by decide +kernel
theorem dX8_endLastWay_8 : decode cX8_endLastWay 8 = .ok (.aload_n 0, 1) := by decide +kernel
theorem dX8_endLastWay_9 : decode cX8_endLastWay 9 = .ok (.aload_n 2, 1) := by decide +kernel
theorem dX8_endLastWay_10 : decode cX8_endLastWay 10 = .ok (.getfield 331, 3) := by decide +kernel
theorem dX8_endLastWay_13 : decode cX8_endLastWay 13 = .ok (.putfield 42, 3) := by decide +kernel
theorem dX8_endLastWay_16 : decode cX8_endLastWay 16 = .ok (.aload_n 0, 1) := by decide +kernel
theorem dX8_endLastWay_17 : decode cX8_endLastWay 17 = .ok (.invokevirtual 319, 3) := by decide +kernel
theorem dX8_endLastWay_20 : decode cX8_endLastWay 20 = .ok (.aload_n 1, 1) := by decide +kernel
theorem dX8_endLastWay_21 : decode cX8_endLastWay 21 = .ok (.dup, 1) := by decide +kernel
theorem dX8_endLastWay_22 : decode cX8_endLastWay 22 = .ok (.getfield 104, 3) := by decide +kernel
theorem dX8_endLastWay_25 : decode cX8_endLastWay 25 = .ok (.iconst 1, 1) := by decide +kernel
theorem dX8_endLastWay_26 : decode cX8_endLastWay 26 = .ok (.iadd, 1) := by decide +kernel
theorem dX8_endLastWay_27 : decode cX8_endLastWay 27 = .ok (.putfield 104, 3) := by decide +kernel
theorem dX8_endLastWay_30 : decode cX8_endLastWay 30 = .ok (.return_, 1) := by decide +kernel
theorem dX8_leaveWay_0 : decode cX8_leaveWay 0 = .ok (.aload_n 1, 1) := by decide +kernel
theorem dX8_leaveWay_1 : decode cX8_leaveWay 1 = .ok (.getfield 100, 3) := by decide +kernel
theorem dX8_leaveWay_4 : decode cX8_leaveWay 4 = .ok (.aload_n 2, 1) := by decide +kernel
theorem dX8_leaveWay_5 : decode cX8_leaveWay 5 = .ok (.getfield 325, 3) := by decide +kernel
theorem dX8_leaveWay_8 : decode cX8_leaveWay 8 = .ok (.invokevirtual 334, 3) := by decide +kernel
theorem dX8_leaveWay_11 : decode cX8_leaveWay 11 = .ok (.istore_n 3, 1) := by decide +kernel
theorem dX8_leaveWay_12 : decode cX8_leaveWay 12 = .ok (.aload_n 1, 1) := by decide +kernel
theorem dX8_leaveWay_13 : decode cX8_leaveWay 13 = .ok (.getfield 100, 3) := by decide +kernel
theorem dX8_leaveWay_16 : decode cX8_leaveWay 16 = .ok (.iload_n 3, 1) := by decide +kernel
theorem dX8_leaveWay_17 : decode cX8_leaveWay 17 = .ok (.invokevirtual 107, 3) := by decide +kernel
theorem dX8_leaveWay_20 : decode cX8_leaveWay 20 = .ok (.bipush 15, 2) := by decide +kernel
theorem dX8_leaveWay_22 : decode cX8_leaveWay 22 = .ok (.if_icmp .eq 24, 3) := by decide +kernel
theorem dX8_leaveWay_25 : decode cX8_leaveWay 25 = .ok (.aload_n 0, 1) := by decide +kernel
theorem dX8_leaveWay_26 : decode cX8_leaveWay 26 = .ok (.invokevirtual 319, 3) := by decide +kernel
theorem dX8_leaveWay_29 : decode cX8_leaveWay 29 = .ok (.aload_n 0, 1) := by decide +kernel
theorem dX8_leaveWay_30 : decode cX8_leaveWay 30 = .ok (.getfield 97, 3) := by decide +kernel
theorem dX8_leaveWay_33 : decode cX8_leaveWay 33 = .ok (.ifCond .ne 58, 3) := by decide +kernel
theorem dX8_leaveWay_36 : decode cX8_leaveWay 36 = .ok (.aload_n 1, 1) := by decide +kernel
theorem dX8_leaveWay_37 : decode cX8_leaveWay 37 = .ok (.iload_n 3, 1) := by decide +kernel
theorem dX8_leaveWay_38 : decode cX8_leaveWay 38 = .ok (.iconst 1, 1) := by decide +kernel
theorem dX8_leaveWay_39 : decode cX8_leaveWay 39 = .ok (.iadd, 1) := by decide +kernel
theorem dX8_leaveWay_40 : decode cX8_leaveWay 40 = .ok (.putfield 104, 3) := by decide +kernel
theorem dX8_leaveWay_43 : decode cX8_leaveWay 43 = .ok (.goto 48, 3) := by decide +kernel
theorem dX8_leaveWay_46 : decode cX8_leaveWay 46 = .ok (.aload_n 0, 1) := by decide +kernel
theorem dX8_leaveWay_47 : decode cX8_leaveWay 47 = .ok (.invokevirtual 118, 3) := by decide +kernel
theorem dX8_leaveWay_50 : decode cX8_leaveWay 50 = .ok (.ifCond .eq 41, 3) := by decide +kernel
theorem dX8_leaveWay_53 : decode cX8_leaveWay 53 = .ok (.aload_n 2, 1) := by decide +kernel
theorem dX8_leaveWay_54 : decode cX8_leaveWay 54 = .ok (.iconst 2, 1) := by decide +kernel
theorem dX8_leaveWay_55 : decode cX8_leaveWay 55 = .ok (.putfield 307, 3) := by decide +kernel
theorem dX8_leaveWay_58 : decode cX8_leaveWay 58 = .ok (.aload_n 2, 1) := by decide +kernel
theorem dX8_leaveWay_59 : decode cX8_leaveWay 59 = .ok (.aload_n 0, 1) := by decide +kernel
theorem dX8_leaveWay_60 : decode cX8_leaveWay 60 = .ok (.getfield 97, 3) := by decide +kernel
theorem dX8_leaveWay_63 : decode cX8_leaveWay 63 = .ok (.putfield 328, 3) := by decide +kernel
theorem dX8_leaveWay_66 : decode cX8_leaveWay 66 = .ok (.aload_n 2, 1) := by decide +kernel
theorem dX8_leaveWay_67 : decode cX8_leaveWay 67 = .ok (.aload_n 0, 1) := by decide +kernel
theorem dX8_leaveWay_68 : decode cX8_leaveWay 68 = .ok (.getfield 42, 3) := by decide +kernel
theorem dX8_leaveWay_71 : decode cX8_leaveWay 71 = .ok (.putfield 331, 3) := by decide +kernel
theorem dX8_leaveWay_74 : decode cX8_leaveWay 74 = .ok (.aload_n 0, 1) := by decide +kernel
theorem dX8_leaveWay_75 : decode cX8_leaveWay 75 = .ok (.iconst 0, 1) := by decide +kernel
theorem dX8_leaveWay_76 : decode cX8_leaveWay 76 = .ok (.putfield 97, 3) := by decide +kernel
theorem dX8_leaveWay_79 : decode cX8_leaveWay 79 = .ok (.aload_n 0, 1) := by decide +kernel
theorem dX8_leaveWay_80 : decode cX8_leaveWay 80 = .ok (.iconst (-1), 1) := by decide +kernel
theorem dX8_leaveWay_81 : decode cX8_leaveWay 81 = .ok (.putfield 42, 3) := by decide +kernel
theorem dX8_leaveWay_84 : decode cX8_leaveWay 84 = .ok (.aload_n 1, 1) := by decide +kernel
theorem dX8_leaveWay_85 : decode cX8_leaveWay 85 = .ok (.iload_n 3, 1) := by decide +kernel
theorem dX8_leaveWay_86 : decode cX8_leaveWay 86 = .ok (.iconst 1, 1) := by decide +kernel
theorem dX8_leaveWay_87 : decode cX8_leaveWay 87 = .ok (.iadd, 1) := by decide +kernel
theorem dX8_leaveWay_88 : decode cX8_leaveWay 88 = .ok (.putfield 104, 3) := by decide +kernel
theorem dX8_leaveWay_91 : decode cX8_leaveWay 91 = .ok (.return_, 1) := by decide +kernel
theorem dX8_leave_0 : decode cX8_leave 0 = .ok (.aload_n 0, 1) := by decide +kernel
theorem dX8_leave_1 : decode cX8_leave 1 = .ok (.getfield 19, 3) := by decide +kernel
theorem dX8_leave_4 : decode cX8_leave 4 = .ok (.aload_n 0, 1) := by decide +kernel
theorem dX8_leave_5 : decode cX8_leave 5 = .ok (.getfield 132, 3) := by decide +kernel
theorem dX8_leave_8 : decode cX8_leave 8 = .ok (.aaload, 1) := by decide +kernel
theorem dX8_leave_9 : decode cX8_leave 9 = .ok (.astore_n 2, 1) := by decide +kernel
theorem dX8_leave_10 : decode cX8_leave 10 = .ok (.aload_n 2, 1) := by decide +kernel
theorem dX8_leave_11 : decode cX8_leave 11 = .ok (.getfield 297, 3) := by decide +kernel
theorem dX8_leave_14 : decode cX8_leave 14 = .ok (.tableswitch 52 11 13 #[34, 26, 43], 26) := by decide +kernel
theorem dX8_leave_40 : decode cX8_leave 40 = .ok (.aload_n 0, 1) := by decide +kernel
theorem dX8_leave_41 : decode cX8_leave 41 = .ok (.aload_n 1, 1) := by decide +kernel
theorem dX8_leave_42 : decode cX8_leave 42 = .ok (.invokevirtual 300, 3) := by decide +kernel
theorem dX8_leave_45 : decode cX8_leave 45 = .ok (.goto 25, 3) := by decide +kernel
theorem dX8_leave_48 : decode cX8_leave 48 = .ok (.aload_n 0, 1) := by decide +kernel
theorem dX8_leave_49 : decode cX8_leave 49 = .ok (.aload_n 1, 1) := by decide +kernel
theorem dX8_leave_50 : decode cX8_leave 50 = .ok (.aload_n 2, 1) := by decide +kernel
theorem dX8_leave_51 : decode cX8_leave 51 = .ok (.invokevirtual 337, 3) := by decide +kernel
theorem dX8_leave_54 : decode cX8_leave 54 = .ok (.goto 16, 3) := by decide +kernel
theorem dX8_leave_57 : decode cX8_leave 57 = .ok (.aload_n 0, 1) := by decide +kernel
theorem dX8_leave_58 : decode cX8_leave 58 = .ok (.aload_n 1, 1) := by decide +kernel
theorem dX8_leave_59 : decode cX8_leave 59 = .ok (.aload_n 2, 1) := by decide +kernel
theorem dX8_leave_60 : decode cX8_leave 60 = .ok (.invokevirtual 340, 3) := by decide +kernel
theorem dX8_leave_63 : decode cX8_leave 63 = .ok (.goto 7, 3) := by decide +kernel
theorem dX8_leave_66 : decode cX8_leave 66 = .ok (.aload_n 0, 1) := by decide +kernel
theorem dX8_leave_67 : decode cX8_leave 67 = .ok (.invokevirtual 343, 3) := by decide +kernel
theorem dX8_leave_70 : decode cX8_leave 70 = .ok (.return_, 1) := by decide +kernel
theorem dX8_leaveLoop_0 : decode cX8_leaveLoop 0 = .ok (.aload_n 0, 1) := by decide +kernel
theorem dX8_leaveLoop_1 : decode cX8_leaveLoop 1 = .ok (.invokevirtual 319, 3) := by decide +kernel
theorem dX8_leaveLoop_4 : decode cX8_leaveLoop 4 = .ok (.aload_n 0, 1) := by decide +kernel
theorem dX8_leaveLoop_5 : decode cX8_leaveLoop 5 = .ok (.getfield 97, 3) := by decide +kernel
theorem dX8_leaveLoop_8 : decode cX8_leaveLoop 8 = .ok (.iconst 2, 1) := by decide +kernel
theorem dX8_leaveLoop_9 : decode cX8_leaveLoop 9 = .ok (.if_icmp .ne 25, 3) := by decide +kernel
theorem dX8_leaveLoop_12 : decode cX8_leaveLoop 12 = .ok (.aload_n 0, 1) := by decide +kernel
theorem dX8_leaveLoop_13 : decode cX8_leaveLoop 13 = .ok (.iconst 0, 1) := by decide +kernel
theorem dX8_leaveLoop_14 : decode cX8_leaveLoop 14 = .ok (.putfield 97, 3) := by decide +kernel
theorem dX8_leaveLoop_17 : decode cX8_leaveLoop 17 = .ok (.aload_n 1, 1) := by decide +kernel
theorem dX8_leaveLoop_18 : decode cX8_leaveLoop 18 = .ok (.aload_n 1, 1) := by decide +kernel
theorem dX8_leaveLoop_19 : decode cX8_leaveLoop 19 = .ok (.getfield 100, 3) := by decide +kernel
theorem dX8_leaveLoop_22 : decode cX8_leaveLoop 22 = .ok (.aload_n 2, 1) := by decide +kernel
theorem dX8_leaveLoop_23 : decode cX8_leaveLoop 23 = .ok (.getfield 325, 3) := by decide +kernel
theorem dX8_leaveLoop_26 : decode cX8_leaveLoop 26 = .ok (.invokevirtual 294, 3) := by decide +kernel
theorem dX8_leaveLoop_29 : decode cX8_leaveLoop 29 = .ok (.iconst 1, 1) := by decide +kernel
theorem dX8_leaveLoop_30 : decode cX8_leaveLoop 30 = .ok (.iadd, 1) := by decide +kernel
theorem dX8_leaveLoop_31 : decode cX8_leaveLoop 31 = .ok (.putfield 104, 3) := by decide +kernel
theorem dX8_leaveLoop_34 : decode cX8_leaveLoop 34 = .ok (.return_, 1) := by decide +kernel
theorem dX8_leaveTry_0 : decode cX8_leaveTry 0 = .ok (.aload_n 2, 1) := by decide +kernel
theorem dX8_leaveTry_1 : decode cX8_leaveTry 1 = .ok (.getfield 307, 3) := by decide +kernel
theorem dX8_leaveTry_4 : decode cX8_leaveTry 4 = .ok (.iconst 2, 1) := by decide +kernel
theorem dX8_leaveTry_5 : decode cX8_leaveTry 5 = .ok (.if_icmp .ne 9, 3) := by decide +kernel
theorem dX8_leaveTry_8 : decode cX8_leaveTry 8 = .ok (.aload_n 0, 1) := by decide +kernel
theorem dX8_leaveTry_9 : decode cX8_leaveTry 9 = .ok (.aload_n 2, 1) := by decide +kernel
theorem dX8_leaveTry_10 : decode cX8_leaveTry 10 = .ok (.invokevirtual 346, 3) := by decide +kernel
theorem dX8_leaveTry_13 : decode cX8_leaveTry 13 = .ok (.return_, 1) := by decide +kernel
theorem dX8_leaveTry_14 : decode cX8_leaveTry 14 = .ok (.aload_n 0, 1) := by decide +kernel
theorem dX8_leaveTry_15 : decode cX8_leaveTry 15 = .ok (.getfield 97, 3) := by decide +kernel
theorem dX8_leaveTry_18 : decode cX8_leaveTry 18 = .ok (.iconst 3, 1) := by decide +kernel
theorem dX8_leaveTry_19 : decode cX8_leaveTry 19 = .ok (.if_icmp .ne 46, 3) := by decide +kernel
theorem dX8_leaveTry_22 : decode cX8_leaveTry 22 = .ok (.aload_n 2, 1) := by decide +kernel
theorem dX8_leaveTry_23 : decode cX8_leaveTry 23 = .ok (.getfield 307, 3) := by decide +kernel
theorem dX8_leaveTry_26 : decode cX8_leaveTry 26 = .ok (.ifCond .ne 39, 3) := by decide +kernel
theorem dX8_leaveTry_29 : decode cX8_leaveTry 29 = .ok (.aload_n 1, 1) := by decide +kernel
theorem dX8_leaveTry_30 : decode cX8_leaveTry 30 = .ok (.getfield 100, 3) := by decide +kernel
theorem dX8_leaveTry_33 : decode cX8_leaveTry 33 = .ok (.aload_n 2, 1) := by decide +kernel
theorem dX8_leaveTry_34 : decode cX8_leaveTry 34 = .ok (.getfield 325, 3) := by decide +kernel
theorem dX8_leaveTry_37 : decode cX8_leaveTry 37 = .ok (.aload_n 0, 1) := by decide +kernel
theorem dX8_leaveTry_38 : decode cX8_leaveTry 38 = .ok (.getfield 38, 3) := by decide +kernel
theorem dX8_leaveTry_41 : decode cX8_leaveTry 41 = .ok (.aload_n 0, 1) := by decide +kernel
theorem dX8_leaveTry_42 : decode cX8_leaveTry 42 = .ok (.getfield 42, 3) := by decide +kernel
theorem dX8_leaveTry_45 : decode cX8_leaveTry 45 = .ok (.invokevirtual 350, 3) := by decide +kernel
theorem dX8_leaveTry_48 : decode cX8_leaveTry 48 = .ok (.invokevirtual 353, 3) := by decide +kernel
theorem dX8_leaveTry_51 : decode cX8_leaveTry 51 = .ok (.istore_n 3, 1) := by decide +kernel
theorem dX8_leaveTry_52 : decode cX8_leaveTry 52 = .ok (.iload_n 3, 1) := by decide +kernel
theorem dX8_leaveTry_53 : decode cX8_leaveTry 53 = .ok (.iconst (-1), 1) := by decide +kernel
theorem dX8_leaveTry_54 : decode cX8_leaveTry 54 = .ok (.if_icmp .eq 11, 3) := by decide +kernel
theorem dX8_leaveTry_57 : decode cX8_leaveTry 57 = .ok (.aload_n 0, 1) := by decide +kernel
theorem dX8_leaveTry_58 : decode cX8_leaveTry 58 = .ok (.aload_n 1, 1) := by decide +kernel
theorem dX8_leaveTry_59 : decode cX8_leaveTry 59 = .ok (.aload_n 2, 1) := by decide +kernel
theorem dX8_leaveTry_60 : decode cX8_leaveTry 60 = .ok (.iload_n 3, 1) := by decide +kernel
theorem dX8_leaveTry_61 : decode cX8_leaveTry 61 = .ok (.invokevirtual 357, 3) := by decide +kernel
theorem dX8_leaveTry_64 : decode cX8_leaveTry 64 = .ok (.return_, 1) := by decide +kernel
theorem dX8_leaveTry_65 : decode cX8_leaveTry 65 = .ok (.aload_n 0, 1) := by decide +kernel
theorem dX8_leaveTry_66 : decode cX8_leaveTry 66 = .ok (.getfield 97, 3) := by decide +kernel
theorem dX8_leaveTry_69 : decode cX8_leaveTry 69 = .ok (.iconst 3, 1) := by decide +kernel
theorem dX8_leaveTry_70 : decode cX8_leaveTry 70 = .ok (.if_icmp .ne 26, 3) := by decide +kernel
theorem dX8_leaveTry_73 : decode cX8_leaveTry 73 = .ok (.aload_n 2, 1) := by decide +kernel
theorem dX8_leaveTry_74 : decode cX8_leaveTry 74 = .ok (.getfield 307, 3) := by decide +kernel
theorem dX8_leaveTry_77 : decode cX8_leaveTry 77 = .ok (.iconst 1, 1) := by decide +kernel
theorem dX8_leaveTry_78 : decode cX8_leaveTry 78 = .ok (.if_icmp .ne 18, 3) := by decide +kernel
theorem dX8_leaveTry_81 : decode cX8_leaveTry 81 = .ok (.aload_n 0, 1) := by decide +kernel
theorem dX8_leaveTry_82 : decode cX8_leaveTry 82 = .ok (.getfield 38, 3) := by decide +kernel
theorem dX8_leaveTry_85 : decode cX8_leaveTry 85 = .ok (.aload_n 0, 1) := by decide +kernel
theorem dX8_leaveTry_86 : decode cX8_leaveTry 86 = .ok (.getfield 42, 3) := by decide +kernel
theorem dX8_leaveTry_89 : decode cX8_leaveTry 89 = .ok (.aload_n 2, 1) := by decide +kernel
theorem dX8_leaveTry_90 : decode cX8_leaveTry 90 = .ok (.getfield 361, 3) := by decide +kernel
theorem dX8_leaveTry_93 : decode cX8_leaveTry 93 = .ok (.invokevirtual 364, 3) := by decide +kernel
theorem dX8_leaveTry_96 : decode cX8_leaveTry 96 = .ok (.aload_n 0, 1) := by decide +kernel
theorem dX8_leaveTry_97 : decode cX8_leaveTry 97 = .ok (.aload_n 1, 1) := by decide +kernel
theorem dX8_leaveTry_98 : decode cX8_leaveTry 98 = .ok (.aload_n 2, 1) := by decide +kernel
theorem dX8_leaveTry_99 : decode cX8_leaveTry 99 = .ok (.invokevirtual 313, 3) := by decide +kernel
theorem dX8_leaveTry_102 : decode cX8_leaveTry 102 = .ok (.return_, 1) := by decide +kernel
theorem dX8_beginWay_0 : decode cX8_beginWay 0 = .ok (.aload_n 0, 1) := by decide +kernel
theorem dX8_beginWay_1 : decode cX8_beginWay 1 = .ok (.invokevirtual 118, 3) := by decide +kernel
theorem dX8_beginWay_4 : decode cX8_beginWay 4 = .ok (.ifCond .eq 33, 3) := by decide +kernel
theorem dX8_beginWay_7 : decode cX8_beginWay 7 = .ok (.aload_n 2, 1) := by decide +kernel
theorem dX8_beginWay_8 : decode cX8_beginWay 8 = .ok (.iconst 1, 1) := by decide +kernel
theorem dX8_beginWay_9 : decode cX8_beginWay 9 = .ok (.putfield 307, 3) := by decide +kernel
theorem dX8_beginWay_12 : decode cX8_beginWay 12 = .ok (.aload_n 2, 1) := by decide +kernel
theorem dX8_beginWay_13 : decode cX8_beginWay 13 = .ok (.aload_n 0, 1) := by decide +kernel
theorem dX8_beginWay_14 : decode cX8_beginWay 14 = .ok (.getfield 42, 3) := by decide +kernel
theorem dX8_beginWay_17 : decode cX8_beginWay 17 = .ok (.putfield 361, 3) := by decide +kernel
theorem dX8_beginWay_20 : decode cX8_beginWay 20 = .ok (.aload_n 0, 1) := by decide +kernel
theorem dX8_beginWay_21 : decode cX8_beginWay 21 = .ok (.iconst 0, 1) := by decide +kernel
theorem dX8_beginWay_22 : decode cX8_beginWay 22 = .ok (.putfield 97, 3) := by decide +kernel
theorem dX8_beginWay_25 : decode cX8_beginWay 25 = .ok (.aload_n 0, 1) := by decide +kernel
theorem dX8_beginWay_26 : decode cX8_beginWay 26 = .ok (.iconst (-1), 1) := by decide +kernel
theorem dX8_beginWay_27 : decode cX8_beginWay 27 = .ok (.putfield 42, 3) := by decide +kernel
theorem dX8_beginWay_30 : decode cX8_beginWay 30 = .ok (.aload_n 1, 1) := by decide +kernel
theorem dX8_beginWay_31 : decode cX8_beginWay 31 = .ok (.iload_n 3, 1) := by decide +kernel
theorem dX8_beginWay_32 : decode cX8_beginWay 32 = .ok (.iconst 1, 1) := by decide +kernel
theorem dX8_beginWay_33 : decode cX8_beginWay 33 = .ok (.iadd, 1) := by decide +kernel
theorem dX8_beginWay_34 : decode cX8_beginWay 34 = .ok (.putfield 104, 3) := by decide +kernel
theorem dX8_beginWay_37 : decode cX8_beginWay 37 = .ok (.return_, 1) := by decide +kernel
theorem dX8_leaveLastWay_0 : decode cX8_leaveLastWay 0 = .ok (.aload_n 1, 1) := by decide +kernel
theorem dX8_leaveLastWay_1 : decode cX8_leaveLastWay 1 = .ok (.getfield 328, 3) := by decide +kernel
theorem dX8_leaveLastWay_4 : decode cX8_leaveLastWay 4 = .ok (.iconst 3, 1) := by decide +kernel
theorem dX8_leaveLastWay_5 : decode cX8_leaveLastWay 5 = .ok (.if_icmp .ne 39, 3) := by decide +kernel
theorem dX8_leaveLastWay_8 : decode cX8_leaveLastWay 8 = .ok (.aload_n 0, 1) := by decide +kernel
theorem dX8_leaveLastWay_9 : decode cX8_leaveLastWay 9 = .ok (.getfield 97, 3) := by decide +kernel
theorem dX8_leaveLastWay_12 : decode cX8_leaveLastWay 12 = .ok (.iconst 3, 1) := by decide +kernel
theorem dX8_leaveLastWay_13 : decode cX8_leaveLastWay 13 = .ok (.if_icmp .ne 21, 3) := by decide +kernel
theorem dX8_leaveLastWay_16 : decode cX8_leaveLastWay 16 = .ok (.aload_n 0, 1) := by decide +kernel
theorem dX8_leaveLastWay_17 : decode cX8_leaveLastWay 17 = .ok (.getfield 38, 3) := by decide +kernel
theorem dX8_leaveLastWay_20 : decode cX8_leaveLastWay 20 = .ok (.aload_n 1, 1) := by decide +kernel
theorem dX8_leaveLastWay_21 : decode cX8_leaveLastWay 21 = .ok (.getfield 331, 3) := by decide +kernel
theorem dX8_leaveLastWay_24 : decode cX8_leaveLastWay 24 = .ok (.aload_n 0, 1) := by decide +kernel
theorem dX8_leaveLastWay_25 : decode cX8_leaveLastWay 25 = .ok (.getfield 42, 3) := by decide +kernel
theorem dX8_leaveLastWay_28 : decode cX8_leaveLastWay 28 = .ok (.invokevirtual 367, 3) := by decide +kernel
theorem dX8_leaveLastWay_31 : decode cX8_leaveLastWay 31 = .ok (.goto 13, 3) := by decide +kernel
theorem dX8_leaveLastWay_34 : decode cX8_leaveLastWay 34 = .ok (.aload_n 0, 1) := by decide +kernel
theorem dX8_leaveLastWay_35 : decode cX8_leaveLastWay 35 = .ok (.dup, 1) := by decide +kernel
theorem dX8_leaveLastWay_36 : decode cX8_leaveLastWay 36 = .ok (.getfield 78, 3) := by decide +kernel
theorem dX8_leaveLastWay_39 : decode cX8_leaveLastWay 39 = .ok (.iconst 1, 1) := by decide +kernel
theorem dX8_leaveLastWay_40 : decode cX8_leaveLastWay 40 = .ok (.iadd, 1) := by decide +kernel
theorem dX8_leaveLastWay_41 : decode cX8_leaveLastWay 41 = .ok (.putfield 78, 3) := by decide +kernel
theorem dX8_leaveLastWay_44 : decode cX8_leaveLastWay 44 = .ok (.aload_n 0, 1) := by decide +kernel
theorem dX8_leaveLastWay_45 : decode cX8_leaveLastWay 45 = .ok (.invokevirtual 319, 3) := by decide +kernel
theorem dX8_leaveLastWay_48 : decode cX8_leaveLastWay 48 = .ok (.return_, 1) := by decide +kernel
theorem dX8_leaveAct_0 : decode cX8_leaveAct 0 = .ok (.aload_n 0, 1) := by decide +kernel
theorem dX8_leaveAct_1 : decode cX8_leaveAct 1 = .ok (.invokevirtual 316, 3) := by decide +kernel
theorem dX8_leaveAct_4 : decode cX8_leaveAct 4 = .ok (.aload_n 0, 1) := by decide +kernel
theorem dX8_leaveAct_5 : decode cX8_leaveAct 5 = .ok (.getfield 97, 3) := by decide +kernel
theorem dX8_leaveAct_8 : decode cX8_leaveAct 8 = .ok (.iconst 4, 1) := by decide +kernel
theorem dX8_leaveAct_9 : decode cX8_leaveAct 9 = .ok (.if_icmp .ne 4, 3) := by decide +kernel
theorem dX8_leaveAct_12 : decode cX8_leaveAct 12 = .ok (.return_, 1) := by decide +kernel
theorem dX8_leaveAct_13 : decode cX8_leaveAct 13 = .ok (.aload_n 0, 1) := by decide +kernel
theorem dX8_leaveAct_14 : decode cX8_leaveAct 14 = .ok (.invokevirtual 319, 3) := by decide +kernel
theorem dX8_leaveAct_17 : decode cX8_leaveAct 17 = .ok (.aload_n 0, 1) := by decide +kernel
theorem dX8_leaveAct_18 : decode cX8_leaveAct 18 = .ok (.dup, 1) := by decide +kernel
theorem dX8_leaveAct_19 : decode cX8_leaveAct 19 = .ok (.getfield 94, 3) := by decide +kernel
theorem dX8_leaveAct_22 : decode cX8_leaveAct 22 = .ok (.iconst 1, 1) := by decide +kernel
theorem dX8_leaveAct_23 : decode cX8_leaveAct 23 = .ok (.isub, 1) := by decide +kernel
theorem dX8_leaveAct_24 : decode cX8_leaveAct 24 = .ok (.putfield 94, 3) := by decide +kernel
theorem dX8_leaveAct_27 : decode cX8_leaveAct 27 = .ok (.aload_n 0, 1) := by decide +kernel
theorem dX8_leaveAct_28 : decode cX8_leaveAct 28 = .ok (.getfield 97, 3) := by decide +kernel
theorem dX8_leaveAct_31 : decode cX8_leaveAct 31 = .ok (.iconst 1, 1) := by decide +kernel
theorem dX8_leaveAct_32 : decode cX8_leaveAct 32 = .ok (.if_icmp .ne 26, 3) := by decide +kernel
theorem dX8_leaveAct_35 : decode cX8_leaveAct 35 = .ok (.aload_n 0, 1) := by decide +kernel
theorem dX8_leaveAct_36 : decode cX8_leaveAct 36 = .ok (.iconst 0, 1) := by decide +kernel
theorem dX8_leaveAct_37 : decode cX8_leaveAct 37 = .ok (.putfield 97, 3) := by decide +kernel
theorem dX8_leaveAct_40 : decode cX8_leaveAct 40 = .ok (.aload_n 0, 1) := by decide +kernel
theorem dX8_leaveAct_41 : decode cX8_leaveAct 41 = .ok (.getfield 11, 3) := by decide +kernel
theorem dX8_leaveAct_44 : decode cX8_leaveAct 44 = .ok (.aload_n 0, 1) := by decide +kernel
theorem dX8_leaveAct_45 : decode cX8_leaveAct 45 = .ok (.getfield 94, 3) := by decide +kernel
theorem dX8_leaveAct_48 : decode cX8_leaveAct 48 = .ok (.aaload, 1) := by decide +kernel
theorem dX8_leaveAct_49 : decode cX8_leaveAct 49 = .ok (.dup, 1) := by decide +kernel
theorem dX8_leaveAct_50 : decode cX8_leaveAct 50 = .ok (.getfield 104, 3) := by decide +kernel
theorem dX8_leaveAct_53 : decode cX8_leaveAct 53 = .ok (.iconst 1, 1) := by decide +kernel
theorem dX8_leaveAct_54 : decode cX8_leaveAct 54 = .ok (.iadd, 1) := by decide +kernel
theorem dX8_leaveAct_55 : decode cX8_leaveAct 55 = .ok (.putfield 104, 3) := by decide +kernel
theorem dX8_leaveAct_58 : decode cX8_leaveAct 58 = .ok (.return_, 1) := by decide +kernel
theorem dX8_endInnermost_0 : decode cX8_endInnermost 0 = .ok (.aload_n 0, 1) := by decide +kernel
theorem dX8_endInnermost_1 : decode cX8_endInnermost 1 = .ok (.getfield 25, 3) := by decide +kernel
theorem dX8_endInnermost_4 : decode cX8_endInnermost 4 = .ok (.aload_n 0, 1) := by decide +kernel
theorem dX8_endInnermost_5 : decode cX8_endInnermost 5 = .ok (.getfield 135, 3) := by decide +kernel
theorem dX8_endInnermost_8 : decode cX8_endInnermost 8 = .ok (.aaload, 1) := by decide +kernel
theorem dX8_endInnermost_9 : decode cX8_endInnermost 9 = .ok (.astore_n 1, 1) := by decide +kernel
theorem dX8_endInnermost_10 : decode cX8_endInnermost 10 = .ok (.iconst 0, 1) := by decide +kernel
theorem dX8_endInnermost_11 : decode cX8_endInnermost 11 = .ok (.istore_n 2, 1) := by decide +kernel
theorem dX8_endInnermost_12 : decode cX8_endInnermost 12 = .ok (.iload_n 2, 1) := by decide +kernel
theorem dX8_endInnermost_13 : decode cX8_endInnermost 13 = .ok (.sipush 160, 3) := by decide +kernel
theorem dX8_endInnermost_16 : decode cX8_endInnermost 16 = .ok (.if_icmp .ge 47, 3) := by decide +kernel
theorem dX8_endInnermost_19 : decode cX8_endInnermost 19 = .ok (.aload_n 1, 1) := by decide +kernel
theorem dX8_endInnermost_20 : decode cX8_endInnermost 20 = .ok (.getfield 370, 3) := by decide +kernel
theorem dX8_endInnermost_23 : decode cX8_endInnermost 23 = .ok (.ifnull 40, 3) := by decide +kernel
theorem dX8_endInnermost_26 : decode cX8_endInnermost 26 = .ok (.aload_n 0, 1) := by decide +kernel
theorem dX8_endInnermost_27 : decode cX8_endInnermost 27 = .ok (.getfield 97, 3) := by decide +kernel
theorem dX8_endInnermost_30 : decode cX8_endInnermost 30 = .ok (.iconst 4, 1) := by decide +kernel
theorem dX8_endInnermost_31 : decode cX8_endInnermost 31 = .ok (.if_icmp .eq 32, 3) := by decide +kernel
theorem dX8_endInnermost_34 : decode cX8_endInnermost 34 = .ok (.aload_n 1, 1) := by decide +kernel
theorem dX8_endInnermost_35 : decode cX8_endInnermost 35 = .ok (.getfield 370, 3) := by decide +kernel
theorem dX8_endInnermost_38 : decode cX8_endInnermost 38 = .ok (.astore_n 3, 1) := by decide +kernel
theorem dX8_endInnermost_39 : decode cX8_endInnermost 39 = .ok (.aload_n 0, 1) := by decide +kernel
theorem dX8_endInnermost_40 : decode cX8_endInnermost 40 = .ok (.aload_n 3, 1) := by decide +kernel
theorem dX8_endInnermost_41 : decode cX8_endInnermost 41 = .ok (.iconst 1, 1) := by decide +kernel
theorem dX8_endInnermost_42 : decode cX8_endInnermost 42 = .ok (.invokevirtual 259, 3) := by decide +kernel
theorem dX8_endInnermost_45 : decode cX8_endInnermost 45 = .ok (.ifCond .eq 12, 3) := by decide +kernel
theorem dX8_endInnermost_48 : decode cX8_endInnermost 48 = .ok (.aload_n 0, 1) := by decide +kernel
theorem dX8_endInnermost_49 : decode cX8_endInnermost 49 = .ok (.aload_n 1, 1) := by decide +kernel
theorem dX8_endInnermost_50 : decode cX8_endInnermost 50 = .ok (.aload_n 3, 1) := by decide +kernel
theorem dX8_endInnermost_51 : decode cX8_endInnermost 51 = .ok (.invokestatic 246, 3) := by decide +kernel
theorem dX8_endInnermost_54 : decode cX8_endInnermost 54 = .ok (.invokevirtual 373, 3) := by decide +kernel
theorem dX8_endInnermost_57 : decode cX8_endInnermost 57 = .ok (.iinc 2 1, 3) := by decide +kernel
theorem dX8_endInnermost_60 : decode cX8_endInnermost 60 = .ok (.goto (-48), 3) := by decide +kernel
theorem dX8_endInnermost_63 : decode cX8_endInnermost 63 = .ok (.aload_n 0, 1) := by decide +kernel
theorem dX8_endInnermost_64 : decode cX8_endInnermost 64 = .ok (.getfield 97, 3) := by decide +kernel
theorem dX8_endInnermost_67 : decode cX8_endInnermost 67 = .ok (.iconst 4, 1) := by decide +kernel
theorem dX8_endInnermost_68 : decode cX8_endInnermost 68 = .ok (.if_icmp .eq 30, 3) := by decide +kernel
theorem dX8_endInnermost_71 : decode cX8_endInnermost 71 = .ok (.aload_n 0, 1) := by decide +kernel
theorem dX8_endInnermost_72 : decode cX8_endInnermost 72 = .ok (.getfield 135, 3) := by decide +kernel
theorem dX8_endInnermost_75 : decode cX8_endInnermost 75 = .ok (.ifCond .le 23, 3) := by decide +kernel
theorem dX8_endInnermost_78 : decode cX8_endInnermost 78 = .ok (.aload_n 0, 1) := by decide +kernel
theorem dX8_endInnermost_79 : decode cX8_endInnermost 79 = .ok (.dup, 1) := by decide +kernel
theorem dX8_endInnermost_80 : decode cX8_endInnermost 80 = .ok (.getfield 135, 3) := by decide +kernel
theorem dX8_endInnermost_83 : decode cX8_endInnermost 83 = .ok (.iconst 1, 1) := by decide +kernel
theorem dX8_endInnermost_84 : decode cX8_endInnermost 84 = .ok (.isub, 1) := by decide +kernel
theorem dX8_endInnermost_85 : decode cX8_endInnermost 85 = .ok (.putfield 135, 3) := by decide +kernel
theorem dX8_endInnermost_88 : decode cX8_endInnermost 88 = .ok (.aload_n 0, 1) := by decide +kernel
theorem dX8_endInnermost_89 : decode cX8_endInnermost 89 = .ok (.dup, 1) := by decide +kernel
theorem dX8_endInnermost_90 : decode cX8_endInnermost 90 = .ok (.getfield 75, 3) := by decide +kernel
theorem dX8_endInnermost_93 : decode cX8_endInnermost 93 = .ok (.iconst 1, 1) := by decide +kernel
theorem dX8_endInnermost_94 : decode cX8_endInnermost 94 = .ok (.iadd, 1) := by decide +kernel
theorem dX8_endInnermost_95 : decode cX8_endInnermost 95 = .ok (.putfield 75, 3) := by decide +kernel
theorem dX8_endInnermost_98 : decode cX8_endInnermost 98 = .ok (.return_, 1) := by decide +kernel
theorem dX8_failAtEnd_0 : decode cX8_failAtEnd 0 = .ok (.aload_n 0, 1) := by decide +kernel
theorem dX8_failAtEnd_1 : decode cX8_failAtEnd 1 = .ok (.getfield 38, 3) := by decide +kernel
theorem dX8_failAtEnd_4 : decode cX8_failAtEnd 4 = .ok (.bipush 6, 2) := by decide +kernel
theorem dX8_failAtEnd_6 : decode cX8_failAtEnd 6 = .ok (.aload_n 1, 1) := by decide +kernel
theorem dX8_failAtEnd_7 : decode cX8_failAtEnd 7 = .ok (.getfield 377, 3) := by decide +kernel
theorem dX8_failAtEnd_10 : decode cX8_failAtEnd 10 = .ok (.aload_n 1, 1) := by decide +kernel
theorem dX8_failAtEnd_11 : decode cX8_failAtEnd 11 = .ok (.getfield 380, 3) := by decide +kernel
theorem dX8_failAtEnd_14 : decode cX8_failAtEnd 14 = .ok (.iload_n 2, 1) := by decide +kernel
theorem dX8_failAtEnd_15 : decode cX8_failAtEnd 15 = .ok (.invokevirtual 283, 3) := by decide +kernel
theorem dX8_failAtEnd_18 : decode cX8_failAtEnd 18 = .ok (.istore_n 3, 1) := by decide +kernel
theorem dX8_failAtEnd_19 : decode cX8_failAtEnd 19 = .ok (.iload_n 3, 1) := by decide +kernel
theorem dX8_failAtEnd_20 : decode cX8_failAtEnd 20 = .ok (.iconst (-1), 1) := by decide +kernel
theorem dX8_failAtEnd_21 : decode cX8_failAtEnd 21 = .ok (.if_icmp .ne 11, 3) := by decide +kernel
theorem dX8_failAtEnd_24 : decode cX8_failAtEnd 24 = .ok (.aload_n 0, 1) := by decide +kernel
theorem dX8_failAtEnd_25 : decode cX8_failAtEnd 25 = .ok (.iconst 4, 1) := by decide +kernel
theorem dX8_failAtEnd_26 : decode cX8_failAtEnd 26 = .ok (.putfield 97, 3) := by decide +kernel
theorem dX8_failAtEnd_29 : decode cX8_failAtEnd 29 = .ok (.goto 36, 3) := by decide +kernel
theorem dX8_failAtEnd_32 : decode cX8_failAtEnd 32 = .ok (.aload_n 0, 1) := by decide +kernel
theorem dX8_failAtEnd_33 : decode cX8_failAtEnd 33 = .ok (.getfield 97, 3) := by decide +kernel
theorem dX8_failAtEnd_36 : decode cX8_failAtEnd 36 = .ok (.iconst 3, 1) := by decide +kernel
theorem dX8_failAtEnd_37 : decode cX8_failAtEnd 37 = .ok (.if_icmp .ne 18, 3) := by decide +kernel
theorem dX8_failAtEnd_40 : decode cX8_failAtEnd 40 = .ok (.aload_n 0, 1) := by decide +kernel
theorem dX8_failAtEnd_41 : decode cX8_failAtEnd 41 = .ok (.getfield 38, 3) := by decide +kernel
theorem dX8_failAtEnd_44 : decode cX8_failAtEnd 44 = .ok (.iload_n 3, 1) := by decide +kernel
theorem dX8_failAtEnd_45 : decode cX8_failAtEnd 45 = .ok (.aload_n 0, 1) := by decide +kernel
theorem dX8_failAtEnd_46 : decode cX8_failAtEnd 46 = .ok (.getfield 42, 3) := by decide +kernel
theorem dX8_failAtEnd_49 : decode cX8_failAtEnd 49 = .ok (.invokevirtual 367, 3) := by decide +kernel
theorem dX8_failAtEnd_52 : decode cX8_failAtEnd 52 = .ok (.goto 13, 3) := by decide +kernel
theorem dX8_failAtEnd_55 : decode cX8_failAtEnd 55 = .ok (.aload_n 0, 1) := by decide +kernel
theorem dX8_failAtEnd_56 : decode cX8_failAtEnd 56 = .ok (.iconst 3, 1) := by decide +kernel
theorem dX8_failAtEnd_57 : decode cX8_failAtEnd 57 = .ok (.putfield 97, 3) := by decide +kernel
theorem dX8_failAtEnd_60 : decode cX8_failAtEnd 60 = .ok (.aload_n 0, 1) := by decide +kernel
theorem dX8_failAtEnd_61 : decode cX8_failAtEnd 61 = .ok (.iload_n 3, 1) := by decide +kernel
theorem dX8_failAtEnd_62 : decode cX8_failAtEnd 62 = .ok (.putfield 42, 3) := by decide +kernel
theorem dX8_failAtEnd_65 : decode cX8_failAtEnd 65 = .ok (.return_, 1) := by decide +kernel
theorem dX8_spend_0 : decode cX8_spend 0 = .ok (.aload_n 0, 1) := by decide +kernel
theorem dX8_spend_1 : decode cX8_spend 1 = .ok (.getfield 135, 3) := by decide +kernel
theorem dX8_spend_4 : decode cX8_spend 4 = .ok (.ifCond .le 68, 3) := by decide +kernel
theorem dX8_spend_7 : decode cX8_spend 7 = .ok (.aload_n 0, 1) := by decide +kernel
theorem dX8_spend_8 : decode cX8_spend 8 = .ok (.getfield 25, 3) := by decide +kernel
theorem dX8_spend_11 : decode cX8_spend 11 = .ok (.aload_n 0, 1) := by decide +kernel
theorem dX8_spend_12 : decode cX8_spend 12 = .ok (.getfield 135, 3) := by decide +kernel
theorem dX8_spend_15 : decode cX8_spend 15 = .ok (.aaload, 1) := by decide +kernel
theorem dX8_spend_16 : decode cX8_spend 16 = .ok (.astore_n 1, 1) := by decide +kernel
theorem dX8_spend_17 : decode cX8_spend 17 = .ok (.iconst 0, 1) := by decide +kernel
theorem dX8_spend_18 : decode cX8_spend 18 = .ok (.istore_n 2, 1) := by decide +kernel
theorem dX8_spend_19 : decode cX8_spend 19 = .ok (.iload_n 2, 1) := by decide +kernel
theorem dX8_spend_20 : decode cX8_spend 20 = .ok (.sipush 160, 3) := by decide +kernel
theorem dX8_spend_23 : decode cX8_spend 23 = .ok (.if_icmp .ge 26, 3) := by decide +kernel
theorem dX8_spend_26 : decode cX8_spend 26 = .ok (.aload_n 1, 1) := by decide +kernel
theorem dX8_spend_27 : decode cX8_spend 27 = .ok (.getfield 370, 3) := by decide +kernel
theorem dX8_spend_30 : decode cX8_spend 30 = .ok (.ifnull 19, 3) := by decide +kernel
theorem dX8_spend_33 : decode cX8_spend 33 = .ok (.aload_n 0, 1) := by decide +kernel
theorem dX8_spend_34 : decode cX8_spend 34 = .ok (.aload_n 1, 1) := by decide +kernel
theorem dX8_spend_35 : decode cX8_spend 35 = .ok (.getfield 370, 3) := by decide +kernel
theorem dX8_spend_38 : decode cX8_spend 38 = .ok (.iconst 2, 1) := by decide +kernel
theorem dX8_spend_39 : decode cX8_spend 39 = .ok (.invokevirtual 259, 3) := by decide +kernel
theorem dX8_spend_42 : decode cX8_spend 42 = .ok (.pop, 1) := by decide +kernel
theorem dX8_spend_43 : decode cX8_spend 43 = .ok (.iinc 2 1, 3) := by decide +kernel
theorem dX8_spend_46 : decode cX8_spend 46 = .ok (.goto (-27), 3) := by decide +kernel
theorem dX8_spend_49 : decode cX8_spend 49 = .ok (.aload_n 0, 1) := by decide +kernel
theorem dX8_spend_50 : decode cX8_spend 50 = .ok (.dup, 1) := by decide +kernel
theorem dX8_spend_51 : decode cX8_spend 51 = .ok (.getfield 75, 3) := by decide +kernel
theorem dX8_spend_54 : decode cX8_spend 54 = .ok (.iconst 1, 1) := by decide +kernel
theorem dX8_spend_55 : decode cX8_spend 55 = .ok (.iadd, 1) := by decide +kernel
theorem dX8_spend_56 : decode cX8_spend 56 = .ok (.putfield 75, 3) := by decide +kernel
theorem dX8_spend_59 : decode cX8_spend 59 = .ok (.aload_n 0, 1) := by decide +kernel
theorem dX8_spend_60 : decode cX8_spend 60 = .ok (.dup, 1) := by decide +kernel
theorem dX8_spend_61 : decode cX8_spend 61 = .ok (.getfield 135, 3) := by decide +kernel
theorem dX8_spend_64 : decode cX8_spend 64 = .ok (.iconst 1, 1) := by decide +kernel
theorem dX8_spend_65 : decode cX8_spend 65 = .ok (.isub, 1) := by decide +kernel
theorem dX8_spend_66 : decode cX8_spend 66 = .ok (.putfield 135, 3) := by decide +kernel
theorem dX8_spend_69 : decode cX8_spend 69 = .ok (.goto (-69), 3) := by decide +kernel
theorem dX8_spend_72 : decode cX8_spend 72 = .ok (.return_, 1) := by decide +kernel
theorem dX9_init_0 : decode cX9_init 0 = .ok (.aload_n 0, 1) := by decide +kernel
theorem dX9_init_1 : decode cX9_init 1 = .ok (.invokespecial 1, 3) := by decide +kernel
theorem dX9_init_4 : decode cX9_init 4 = .ok (.return_, 1) := by decide +kernel
theorem dX9_begin_0 : decode cX9_begin 0 = .ok (.aload_n 0, 1) := by decide +kernel
theorem dX9_begin_1 : decode cX9_begin 1 = .ok (.iload_n 1, 1) := by decide +kernel
theorem dX9_begin_2 : decode cX9_begin 2 = .ok (.putfield 7, 3) := by decide +kernel
theorem dX9_begin_5 : decode cX9_begin 5 = .ok (.aload_n 0, 1) := by decide +kernel
theorem dX9_begin_6 : decode cX9_begin 6 = .ok (.iload_n 2, 1) := by decide +kernel
theorem dX9_begin_7 : decode cX9_begin 7 = .ok (.putfield 13, 3) := by decide +kernel
theorem dX9_begin_10 : decode cX9_begin 10 = .ok (.aload_n 0, 1) := by decide +kernel
theorem dX9_begin_11 : decode cX9_begin 11 = .ok (.aconst_null, 1) := by decide +kernel
theorem dX9_begin_12 : decode cX9_begin 12 = .ok (.putfield 16, 3) := by decide +kernel
theorem dX9_begin_15 : decode cX9_begin 15 = .ok (.return_, 1) := by decide +kernel
theorem dX10_init_0 : decode cX10_init 0 = .ok (.aload_n 0, 1) := by decide +kernel
theorem dX10_init_1 : decode cX10_init 1 = .ok (.invokespecial 3, 3) := by decide +kernel
theorem dX10_init_4 : decode cX10_init 4 = .ok (.aload_n 0, 1) := by decide +kernel
theorem dX10_init_5 : decode cX10_init 5 = .ok (.bipush 40, 2) := by decide +kernel
theorem dX10_init_7 : decode cX10_init 7 = .ok (.newarray .int, 2) := by decide +kernel
theorem dX10_init_9 : decode cX10_init 9 = .ok (.putfield 9, 3) := by decide +kernel
theorem dX10_init_12 : decode cX10_init 12 = .ok (.aload_n 0, 1) := by decide +kernel
theorem dX10_init_13 : decode cX10_init 13 = .ok (.bipush 40, 2) := by decide +kernel
theorem dX10_init_15 : decode cX10_init 15 = .ok (.newarray .int, 2) := by decide +kernel
theorem dX10_init_17 : decode cX10_init 17 = .ok (.putfield 15, 3) := by decide +kernel
theorem dX10_init_20 : decode cX10_init 20 = .ok (.aload_n 0, 1) := by decide +kernel
theorem dX10_init_21 : decode cX10_init 21 = .ok (.bipush 40, 2) := by decide +kernel
theorem dX10_init_23 : decode cX10_init 23 = .ok (.newarray .int, 2) := by decide +kernel
theorem dX10_init_25 : decode cX10_init 25 = .ok (.putfield 18, 3) := by decide +kernel
theorem dX10_init_28 : decode cX10_init 28 = .ok (.aload_n 0, 1) := by decide +kernel
theorem dX10_init_29 : decode cX10_init 29 = .ok (.bipush 40, 2) := by decide +kernel
theorem dX10_init_31 : decode cX10_init 31 = .ok (.newarray .int, 2) := by decide +kernel
theorem dX10_init_33 : decode cX10_init 33 = .ok (.putfield 21, 3) := by decide +kernel
theorem dX10_init_36 : decode cX10_init 36 = .ok (.aload_n 0, 1) := by decide +kernel
theorem dX10_init_37 : decode cX10_init 37 = .ok (.bipush 8, 2) := by decide +kernel
theorem dX10_init_39 : decode cX10_init 39 = .ok (.newarray .int, 2) := by decide +kernel
theorem dX10_init_41 : decode cX10_init 41 = .ok (.putfield 24, 3) := by decide +kernel
theorem dX10_init_44 : decode cX10_init 44 = .ok (.aload_n 0, 1) := by decide +kernel
theorem dX10_init_45 : decode cX10_init 45 = .ok (.bipush 8, 2) := by decide +kernel
theorem dX10_init_47 : decode cX10_init 47 = .ok (.newarray .int, 2) := by decide +kernel
theorem dX10_init_49 : decode cX10_init 49 = .ok (.putfield 27, 3) := by decide +kernel
theorem dX10_init_52 : decode cX10_init 52 = .ok (.return_, 1) := by decide +kernel
theorem dX10_add_0 : decode cX10_add 0 = .ok (.aload_n 0, 1) := by decide +kernel
theorem dX10_add_1 : decode cX10_add 1 = .ok (.getfield 30, 3) := by decide +kernel
theorem dX10_add_4 : decode cX10_add 4 = .ok (.bipush 40, 2) := by decide +kernel
theorem dX10_add_6 : decode cX10_add 6 = .ok (.invokestatic 34, 3) := by decide +kernel
theorem dX10_add_9 : decode cX10_add 9 = .ok (.ifCond .ne 6, 3) := by decide +kernel
theorem dX10_add_12 : decode cX10_add 12 = .ok (.bipush (-104), 2) := by decide +kernel
theorem dX10_add_14 : decode cX10_add 14 = .ok (.ireturn, 1) := by decide +kernel
theorem dX10_add_15 : decode cX10_add 15 = .ok (.aload_n 0, 1) := by decide +kernel
theorem dX10_add_16 : decode cX10_add 16 = .ok (.getfield 9, 3) := by decide +kernel
theorem dX10_add_19 : decode cX10_add 19 = .ok (.aload_n 0, 1) := by decide +kernel
theorem dX10_add_20 : decode cX10_add 20 = .ok (.getfield 30, 3) := by decide +kernel
theorem dX10_add_23 : decode cX10_add 23 = .ok (.iload_n 1, 1) := by decide +kernel
theorem dX10_add_24 : decode cX10_add 24 = .ok (.iastore, 1) := by decide +kernel
theorem dX10_add_25 : decode cX10_add 25 = .ok (.aload_n 0, 1) := by decide +kernel
theorem dX10_add_26 : decode cX10_add 26 = .ok (.getfield 15, 3) := by decide +kernel
theorem dX10_add_29 : decode cX10_add 29 = .ok (.aload_n 0, 1) := by decide +kernel
theorem dX10_add_30 : decode cX10_add 30 = .ok (.getfield 30, 3) := by decide +kernel
theorem dX10_add_33 : decode cX10_add 33 = .ok (.iload_n 2, 1) := by decide +kernel
theorem dX10_add_34 : decode cX10_add 34 = .ok (.iastore, 1) := by decide +kernel
theorem dX10_add_35 : decode cX10_add 35 = .ok (.aload_n 0, 1) := by decide +kernel
theorem dX10_add_36 : decode cX10_add 36 = .ok (.getfield 18, 3) := by decide +kernel
theorem dX10_add_39 : decode cX10_add 39 = .ok (.aload_n 0, 1) := by decide +kernel
theorem dX10_add_40 : decode cX10_add 40 = .ok (.getfield 30, 3) := by decide +kernel
theorem dX10_add_43 : decode cX10_add 43 = .ok (.iload_n 3, 1) := by decide +kernel
theorem dX10_add_44 : decode cX10_add 44 = .ok (.iastore, 1) := by decide +kernel
theorem dX10_add_45 : decode cX10_add 45 = .ok (.aload_n 0, 1) := by decide +kernel
theorem dX10_add_46 : decode cX10_add 46 = .ok (.getfield 21, 3) := by decide +kernel
theorem dX10_add_49 : decode cX10_add 49 = .ok (.aload_n 0, 1) := by decide +kernel
theorem dX10_add_50 : decode cX10_add 50 = .ok (.getfield 30, 3) := by decide +kernel
theorem dX10_add_53 : decode cX10_add 53 = .ok (.iconst (-1), 1) := by decide +kernel
theorem dX10_add_54 : decode cX10_add 54 = .ok (.iastore, 1) := by decide +kernel
theorem dX10_add_55 : decode cX10_add 55 = .ok (.aload_n 0, 1) := by decide +kernel
theorem dX10_add_56 : decode cX10_add 56 = .ok (.dup, 1) := by decide +kernel
theorem dX10_add_57 : decode cX10_add 57 = .ok (.getfield 30, 3) := by decide +kernel
theorem dX10_add_60 : decode cX10_add 60 = .ok (.iconst 1, 1) := by decide +kernel
theorem dX10_add_61 : decode cX10_add 61 = .ok (.iadd, 1) := by decide +kernel
theorem dX10_add_62 : decode cX10_add 62 = .ok (.putfield 30, 3) := by decide +kernel
theorem dX10_add_65 : decode cX10_add 65 = .ok (.aload_n 0, 1) := by decide +kernel
theorem dX10_add_66 : decode cX10_add 66 = .ok (.getfield 38, 3) := by decide +kernel
theorem dX10_add_69 : decode cX10_add 69 = .ok (.ifCond .ne 42, 3) := by decide +kernel
theorem dX10_add_72 : decode cX10_add 72 = .ok (.aload_n 0, 1) := by decide +kernel
theorem dX10_add_73 : decode cX10_add 73 = .ok (.aload_n 0, 1) := by decide +kernel
theorem dX10_add_74 : decode cX10_add 74 = .ok (.iload_n 1, 1) := by decide +kernel
theorem dX10_add_75 : decode cX10_add 75 = .ok (.iload_n 2, 1) := by decide +kernel
theorem dX10_add_76 : decode cX10_add 76 = .ok (.iload_n 3, 1) := by decide +kernel
theorem dX10_add_77 : decode cX10_add 77 = .ok (.invokevirtual 41, 3) := by decide +kernel
theorem dX10_add_80 : decode cX10_add 80 = .ok (.putfield 38, 3) := by decide +kernel
theorem dX10_add_83 : decode cX10_add 83 = .ok (.aload_n 0, 1) := by decide +kernel
theorem dX10_add_84 : decode cX10_add 84 = .ok (.aload_n 0, 1) := by decide +kernel
theorem dX10_add_85 : decode cX10_add 85 = .ok (.getfield 30, 3) := by decide +kernel
theorem dX10_add_88 : decode cX10_add 88 = .ok (.iconst 1, 1) := by decide +kernel
theorem dX10_add_89 : decode cX10_add 89 = .ok (.isub, 1) := by decide +kernel
theorem dX10_add_90 : decode cX10_add 90 = .ok (.putfield 45, 3) := by decide +kernel
theorem dX10_add_93 : decode cX10_add 93 = .ok (.aload_n 0, 1) := by decide +kernel
theorem dX10_add_94 : decode cX10_add 94 = .ok (.getfield 38, 3) := by decide +kernel
theorem dX10_add_97 : decode cX10_add 97 = .ok (.ifCond .ne 14, 3) := by decide +kernel
theorem dX10_add_100 : decode cX10_add 100 = .ok (.aload_n 0, 1) := by decide +kernel
theorem dX10_add_101 : decode cX10_add 101 = .ok (.iload_n 1, 1) := by decide +kernel
theorem dX10_add_102 : decode cX10_add 102 = .ok (.aload_n 0, 1) := by decide +kernel
theorem dX10_add_103 : decode cX10_add 103 = .ok (.getfield 30, 3) := by decide +kernel
theorem dX10_add_106 : decode cX10_add 106 = .ok (.iconst 1, 1) := by decide +kernel
theorem dX10_add_107 : decode cX10_add 107 = .ok (.isub, 1) := by decide +kernel
theorem dX10_add_108 : decode cX10_add 108 = .ok (.invokevirtual 48, 3) := by decide +kernel
theorem dX10_add_111 : decode cX10_add 111 = .ok (.aload_n 0, 1) := by decide +kernel
theorem dX10_add_112 : decode cX10_add 112 = .ok (.getfield 30, 3) := by decide +kernel
theorem dX10_add_115 : decode cX10_add 115 = .ok (.ireturn, 1) := by decide +kernel
theorem dX10_clear_0 : decode cX10_clear 0 = .ok (.aload_n 0, 1) := by decide +kernel
theorem dX10_clear_1 : decode cX10_clear 1 = .ok (.getfield 30, 3) := by decide +kernel
theorem dX10_clear_4 : decode cX10_clear 4 = .ok (.istore_n 1, 1) := by decide +kernel
theorem dX10_clear_5 : decode cX10_clear 5 = .ok (.aload_n 0, 1) := by decide +kernel
theorem dX10_clear_6 : decode cX10_clear 6 = .ok (.iconst 0, 1) := by decide +kernel
theorem dX10_clear_7 : decode cX10_clear 7 = .ok (.putfield 30, 3) := by decide +kernel
theorem dX10_clear_10 : decode cX10_clear 10 = .ok (.aload_n 0, 1) := by decide +kernel
theorem dX10_clear_11 : decode cX10_clear 11 = .ok (.iconst 0, 1) := by decide +kernel
theorem dX10_clear_12 : decode cX10_clear 12 = .ok (.putfield 38, 3) := by decide +kernel
theorem dX10_clear_15 : decode cX10_clear 15 = .ok (.aload_n 0, 1) := by decide +kernel
theorem dX10_clear_16 : decode cX10_clear 16 = .ok (.iconst 0, 1) := by decide +kernel
theorem dX10_clear_17 : decode cX10_clear 17 = .ok (.putfield 52, 3) := by decide +kernel
theorem dX10_clear_20 : decode cX10_clear 20 = .ok (.iload_n 1, 1) := by decide +kernel
theorem dX10_clear_21 : decode cX10_clear 21 = .ok (.ireturn, 1) := by decide +kernel
theorem dX10_faultNumber_0 : decode cX10_faultNumber 0 = .ok (.aload_n 0, 1) := by decide +kernel
theorem dX10_faultNumber_1 : decode cX10_faultNumber 1 = .ok (.getfield 38, 3) := by decide +kernel
theorem dX10_faultNumber_4 : decode cX10_faultNumber 4 = .ok (.ifCond .ne 14, 3) := by decide +kernel
theorem dX10_faultNumber_7 : decode cX10_faultNumber 7 = .ok (.aload_n 0, 1) := by decide +kernel
theorem dX10_faultNumber_8 : decode cX10_faultNumber 8 = .ok (.getfield 52, 3) := by decide +kernel
theorem dX10_faultNumber_11 : decode cX10_faultNumber 11 = .ok (.ifCond .le 7, 3) := by decide +kernel
theorem dX10_faultNumber_14 : decode cX10_faultNumber 14 = .ok (.iconst 5, 1) := by decide +kernel
theorem dX10_faultNumber_15 : decode cX10_faultNumber 15 = .ok (.goto 7, 3) := by decide +kernel
theorem dX10_faultNumber_18 : decode cX10_faultNumber 18 = .ok (.aload_n 0, 1) := by decide +kernel
theorem dX10_faultNumber_19 : decode cX10_faultNumber 19 = .ok (.getfield 38, 3) := by decide +kernel
theorem dX10_faultNumber_22 : decode cX10_faultNumber 22 = .ok (.ireturn, 1) := by decide +kernel
theorem dX10_faultLine_0 : decode cX10_faultLine 0 = .ok (.aload_n 0, 1) := by decide +kernel
theorem dX10_faultLine_1 : decode cX10_faultLine 1 = .ok (.getfield 38, 3) := by decide +kernel
theorem dX10_faultLine_4 : decode cX10_faultLine 4 = .ok (.ifCond .eq 8, 3) := by decide +kernel
theorem dX10_faultLine_7 : decode cX10_faultLine 7 = .ok (.aload_n 0, 1) := by decide +kernel
theorem dX10_faultLine_8 : decode cX10_faultLine 8 = .ok (.getfield 45, 3) := by decide +kernel
theorem dX10_faultLine_11 : decode cX10_faultLine 11 = .ok (.ireturn, 1) := by decide +kernel
theorem dX10_faultLine_12 : decode cX10_faultLine 12 = .ok (.aload_n 0, 1) := by decide +kernel
theorem dX10_faultLine_13 : decode cX10_faultLine 13 = .ok (.getfield 52, 3) := by decide +kernel
theorem dX10_faultLine_16 : decode cX10_faultLine 16 = .ok (.ifCond .le 10, 3) := by decide +kernel
theorem dX10_faultLine_19 : decode cX10_faultLine 19 = .ok (.aload_n 0, 1) := by decide +kernel
theorem dX10_faultLine_20 : decode cX10_faultLine 20 = .ok (.getfield 30, 3) := by decide +kernel
theorem dX10_faultLine_23 : decode cX10_faultLine 23 = .ok (.goto 4, 3) := by decide +kernel
theorem dX10_faultLine_26 : decode cX10_faultLine 26 = .ok (.iconst (-1), 1) := by decide +kernel
theorem dX10_faultLine_27 : decode cX10_faultLine 27 = .ok (.ireturn, 1) := by decide +kernel
theorem dX10_faultOf_0 : decode cX10_faultOf 0 = .ok (.iload_n 1, 1) := by decide +kernel
theorem dX10_faultOf_1 : decode cX10_faultOf 1 = .ok (.bipush 17, 2) := by decide +kernel
theorem dX10_faultOf_3 : decode cX10_faultOf 3 = .ok (.invokestatic 34, 3) := by decide +kernel
theorem dX10_faultOf_6 : decode cX10_faultOf 6 = .ok (.ifCond .eq 27, 3) := by decide +kernel
theorem dX10_faultOf_9 : decode cX10_faultOf 9 = .ok (.iload_n 2, 1) := by decide +kernel
theorem dX10_faultOf_10 : decode cX10_faultOf 10 = .ok (.getstatic 55, 3) := by decide +kernel
theorem dX10_faultOf_13 : decode cX10_faultOf 13 = .ok (.iload_n 1, 1) := by decide +kernel
theorem dX10_faultOf_14 : decode cX10_faultOf 14 = .ok (.iaload, 1) := by decide +kernel
theorem dX10_faultOf_15 : decode cX10_faultOf 15 = .ok (.invokestatic 58, 3) := by decide +kernel
theorem dX10_faultOf_18 : decode cX10_faultOf 18 = .ok (.ifCond .eq 15, 3) := by decide +kernel
theorem dX10_faultOf_21 : decode cX10_faultOf 21 = .ok (.iload_n 3, 1) := by decide +kernel
theorem dX10_faultOf_22 : decode cX10_faultOf 22 = .ok (.getstatic 61, 3) := by decide +kernel
theorem dX10_faultOf_25 : decode cX10_faultOf 25 = .ok (.iload_n 1, 1) := by decide +kernel
theorem dX10_faultOf_26 : decode cX10_faultOf 26 = .ok (.iaload, 1) := by decide +kernel
theorem dX10_faultOf_27 : decode cX10_faultOf 27 = .ok (.invokestatic 58, 3) := by decide +kernel
theorem dX10_faultOf_30 : decode cX10_faultOf 30 = .ok (.ifCond .ne 5, 3) := by decide +kernel
theorem dX10_faultOf_33 : decode cX10_faultOf 33 = .ok (.iconst 1, 1) := by decide +kernel
theorem dX10_faultOf_34 : decode cX10_faultOf 34 = .ok (.ireturn, 1) := by decide +kernel
theorem dX10_faultOf_35 : decode cX10_faultOf 35 = .ok (.iload_n 1, 1) := by decide +kernel
theorem dX10_faultOf_36 : decode cX10_faultOf 36 = .ok (.tableswitch 98 10 16 #[85, 70, 70, 70, 57, 57, 44], 44) := by decide +kernel
theorem dX10_faultOf_80 : decode cX10_faultOf 80 = .ok (.aload_n 0, 1) := by decide +kernel
theorem dX10_faultOf_81 : decode cX10_faultOf 81 = .ok (.getfield 52, 3) := by decide +kernel
theorem dX10_faultOf_84 : decode cX10_faultOf 84 = .ok (.ifCond .le 7, 3) := by decide +kernel
theorem dX10_faultOf_87 : decode cX10_faultOf 87 = .ok (.iconst 0, 1) := by decide +kernel
theorem dX10_faultOf_88 : decode cX10_faultOf 88 = .ok (.goto 4, 3) := by decide +kernel
theorem dX10_faultOf_91 : decode cX10_faultOf 91 = .ok (.iconst 2, 1) := by decide +kernel
theorem dX10_faultOf_92 : decode cX10_faultOf 92 = .ok (.ireturn, 1) := by decide +kernel
theorem dX10_faultOf_93 : decode cX10_faultOf 93 = .ok (.aload_n 0, 1) := by decide +kernel
theorem dX10_faultOf_94 : decode cX10_faultOf 94 = .ok (.invokevirtual 64, 3) := by decide +kernel
theorem dX10_faultOf_97 : decode cX10_faultOf 97 = .ok (.ifCond .eq 7, 3) := by decide +kernel
theorem dX10_faultOf_100 : decode cX10_faultOf 100 = .ok (.iconst 0, 1) := by decide +kernel
theorem dX10_faultOf_101 : decode cX10_faultOf 101 = .ok (.goto 4, 3) := by decide +kernel
theorem dX10_faultOf_104 : decode cX10_faultOf 104 = .ok (.iconst 2, 1) := by decide +kernel
theorem dX10_faultOf_105 : decode cX10_faultOf 105 = .ok (.ireturn, 1) := by decide +kernel
theorem dX10_faultOf_106 : decode cX10_faultOf 106 = .ok (.aload_n 0, 1) := by decide +kernel
theorem dX10_faultOf_107 : decode cX10_faultOf 107 = .ok (.getfield 52, 3) := by decide +kernel
theorem dX10_faultOf_110 : decode cX10_faultOf 110 = .ok (.bipush 8, 2) := by decide +kernel
theorem dX10_faultOf_112 : decode cX10_faultOf 112 = .ok (.if_icmp .ge 7, 3) := by decide +kernel
theorem dX10_faultOf_115 : decode cX10_faultOf 115 = .ok (.iconst 0, 1) := by decide +kernel
theorem dX10_faultOf_116 : decode cX10_faultOf 116 = .ok (.goto 4, 3) := by decide +kernel
theorem dX10_faultOf_119 : decode cX10_faultOf 119 = .ok (.iconst 3, 1) := by decide +kernel
theorem dX10_faultOf_120 : decode cX10_faultOf 120 = .ok (.ireturn, 1) := by decide +kernel
theorem dX10_faultOf_121 : decode cX10_faultOf 121 = .ok (.aload_n 0, 1) := by decide +kernel
theorem dX10_faultOf_122 : decode cX10_faultOf 122 = .ok (.invokevirtual 68, 3) := by decide +kernel
theorem dX10_faultOf_125 : decode cX10_faultOf 125 = .ok (.ifCond .eq 7, 3) := by decide +kernel
theorem dX10_faultOf_128 : decode cX10_faultOf 128 = .ok (.iconst 0, 1) := by decide +kernel
theorem dX10_faultOf_129 : decode cX10_faultOf 129 = .ok (.goto 4, 3) := by decide +kernel
theorem dX10_faultOf_132 : decode cX10_faultOf 132 = .ok (.iconst 4, 1) := by decide +kernel
theorem dX10_faultOf_133 : decode cX10_faultOf 133 = .ok (.ireturn, 1) := by decide +kernel
theorem dX10_faultOf_134 : decode cX10_faultOf 134 = .ok (.iconst 0, 1) := by decide +kernel
theorem dX10_faultOf_135 : decode cX10_faultOf 135 = .ok (.ireturn, 1) := by decide +kernel
theorem dX10_fits_0 : decode cX10_fits 0 = .ok (.iload_n 1, 1) := by decide +kernel
theorem dX10_fits_1 : decode cX10_fits 1 = .ok (.iconst (-1), 1) := by decide +kernel
theorem dX10_fits_2 : decode cX10_fits 2 = .ok (.if_icmp .eq 12, 3) := by decide +kernel
theorem dX10_fits_5 : decode cX10_fits 5 = .ok (.iload_n 0, 1) := by decide +kernel
theorem dX10_fits_6 : decode cX10_fits 6 = .ok (.ifCond .lt 12, 3) := by decide +kernel
theorem dX10_fits_9 : decode cX10_fits 9 = .ok (.iload_n 0, 1) := by decide +kernel
theorem dX10_fits_10 : decode cX10_fits 10 = .ok (.iload_n 1, 1) := by decide +kernel
theorem dX10_fits_11 : decode cX10_fits 11 = .ok (.if_icmp .gt 7, 3) := by decide +kernel
theorem dX10_fits_14 : decode cX10_fits 14 = .ok (.iconst 1, 1) := by decide +kernel
theorem dX10_fits_15 : decode cX10_fits 15 = .ok (.goto 4, 3) := by decide +kernel
theorem dX10_fits_18 : decode cX10_fits 18 = .ok (.iconst 0, 1) := by decide +kernel
theorem dX10_fits_19 : decode cX10_fits 19 = .ok (.ireturn, 1) := by decide +kernel
theorem dX10_takesWays_0 : decode cX10_takesWays 0 = .ok (.aload_n 0, 1) := by decide +kernel
theorem dX10_takesWays_1 : decode cX10_takesWays 1 = .ok (.getfield 52, 3) := by decide +kernel
theorem dX10_takesWays_4 : decode cX10_takesWays 4 = .ok (.iconst 1, 1) := by decide +kernel
theorem dX10_takesWays_5 : decode cX10_takesWays 5 = .ok (.isub, 1) := by decide +kernel
theorem dX10_takesWays_6 : decode cX10_takesWays 6 = .ok (.istore_n 1, 1) := by decide +kernel
theorem dX10_takesWays_7 : decode cX10_takesWays 7 = .ok (.iload_n 1, 1) := by decide +kernel
theorem dX10_takesWays_8 : decode cX10_takesWays 8 = .ok (.bipush 8, 2) := by decide +kernel
theorem dX10_takesWays_10 : decode cX10_takesWays 10 = .ok (.invokestatic 34, 3) := by decide +kernel
theorem dX10_takesWays_13 : decode cX10_takesWays 13 = .ok (.ifCond .eq 37, 3) := by decide +kernel
theorem dX10_takesWays_16 : decode cX10_takesWays 16 = .ok (.aload_n 0, 1) := by decide +kernel
theorem dX10_takesWays_17 : decode cX10_takesWays 17 = .ok (.aload_n 0, 1) := by decide +kernel
theorem dX10_takesWays_18 : decode cX10_takesWays 18 = .ok (.getfield 24, 3) := by decide +kernel
theorem dX10_takesWays_21 : decode cX10_takesWays 21 = .ok (.iload_n 1, 1) := by decide +kernel
theorem dX10_takesWays_22 : decode cX10_takesWays 22 = .ok (.iaload, 1) := by decide +kernel
theorem dX10_takesWays_23 : decode cX10_takesWays 23 = .ok (.invokevirtual 71, 3) := by decide +kernel
theorem dX10_takesWays_26 : decode cX10_takesWays 26 = .ok (.bipush 13, 2) := by decide +kernel
theorem dX10_takesWays_28 : decode cX10_takesWays 28 = .ok (.if_icmp .ne 22, 3) := by decide +kernel
theorem dX10_takesWays_31 : decode cX10_takesWays 31 = .ok (.aload_n 0, 1) := by decide +kernel
theorem dX10_takesWays_32 : decode cX10_takesWays 32 = .ok (.aload_n 0, 1) := by decide +kernel
theorem dX10_takesWays_33 : decode cX10_takesWays 33 = .ok (.getfield 27, 3) := by decide +kernel
theorem dX10_takesWays_36 : decode cX10_takesWays 36 = .ok (.iload_n 1, 1) := by decide +kernel
theorem dX10_takesWays_37 : decode cX10_takesWays 37 = .ok (.iaload, 1) := by decide +kernel
theorem dX10_takesWays_38 : decode cX10_takesWays 38 = .ok (.invokevirtual 71, 3) := by decide +kernel
theorem dX10_takesWays_41 : decode cX10_takesWays 41 = .ok (.bipush 15, 2) := by decide +kernel
theorem dX10_takesWays_43 : decode cX10_takesWays 43 = .ok (.if_icmp .eq 7, 3) := by decide +kernel
theorem dX10_takesWays_46 : decode cX10_takesWays 46 = .ok (.iconst 1, 1) := by decide +kernel
theorem dX10_takesWays_47 : decode cX10_takesWays 47 = .ok (.goto 4, 3) := by decide +kernel
theorem dX10_takesWays_50 : decode cX10_takesWays 50 = .ok (.iconst 0, 1) := by decide +kernel
theorem dX10_takesWays_51 : decode cX10_takesWays 51 = .ok (.ireturn, 1) := by decide +kernel
theorem dX10_isInLoop_0 : decode cX10_isInLoop 0 = .ok (.iconst 0, 1) := by decide +kernel
theorem dX10_isInLoop_1 : decode cX10_isInLoop 1 = .ok (.istore_n 1, 1) := by decide +kernel
theorem dX10_isInLoop_2 : decode cX10_isInLoop 2 = .ok (.iload_n 1, 1) := by decide +kernel
theorem dX10_isInLoop_3 : decode cX10_isInLoop 3 = .ok (.aload_n 0, 1) := by decide +kernel
theorem dX10_isInLoop_4 : decode cX10_isInLoop 4 = .ok (.getfield 52, 3) := by decide +kernel
theorem dX10_isInLoop_7 : decode cX10_isInLoop 7 = .ok (.if_icmp .ge 26, 3) := by decide +kernel
theorem dX10_isInLoop_10 : decode cX10_isInLoop 10 = .ok (.aload_n 0, 1) := by decide +kernel
theorem dX10_isInLoop_11 : decode cX10_isInLoop 11 = .ok (.aload_n 0, 1) := by decide +kernel
theorem dX10_isInLoop_12 : decode cX10_isInLoop 12 = .ok (.getfield 24, 3) := by decide +kernel
theorem dX10_isInLoop_15 : decode cX10_isInLoop 15 = .ok (.iload_n 1, 1) := by decide +kernel
theorem dX10_isInLoop_16 : decode cX10_isInLoop 16 = .ok (.iaload, 1) := by decide +kernel
theorem dX10_isInLoop_17 : decode cX10_isInLoop 17 = .ok (.invokevirtual 71, 3) := by decide +kernel
theorem dX10_isInLoop_20 : decode cX10_isInLoop 20 = .ok (.bipush 11, 2) := by decide +kernel
theorem dX10_isInLoop_22 : decode cX10_isInLoop 22 = .ok (.if_icmp .ne 5, 3) := by decide +kernel
theorem dX10_isInLoop_25 : decode cX10_isInLoop 25 = .ok (.iconst 1, 1) := by decide +kernel
theorem dX10_isInLoop_26 : decode cX10_isInLoop 26 = .ok (.ireturn, 1) := by decide +kernel
theorem dX10_isInLoop_27 : decode cX10_isInLoop 27 = .ok (.iinc 1 1, 3) := by decide +kernel
theorem dX10_isInLoop_30 : decode cX10_isInLoop 30 = .ok (.goto (-28), 3) := by decide +kernel
theorem dX10_isInLoop_33 : decode cX10_isInLoop 33 = .ok (.iconst 0, 1) := by decide +kernel
theorem dX10_isInLoop_34 : decode cX10_isInLoop 34 = .ok (.ireturn, 1) := by decide +kernel
theorem dX10_place_0 : decode cX10_place 0 = .ok (.iload_n 1, 1) := by decide +kernel
theorem dX10_place_1 : decode cX10_place 1 = .ok (.bipush 11, 2) := by decide +kernel
theorem dX10_place_3 : decode cX10_place 3 = .ok (.if_icmp .eq 15, 3) := by decide +kernel
theorem dX10_place_6 : decode cX10_place 6 = .ok (.iload_n 1, 1) := by decide +kernel
theorem dX10_place_7 : decode cX10_place 7 = .ok (.bipush 12, 2) := by decide +kernel
theorem dX10_place_9 : decode cX10_place 9 = .ok (.if_icmp .eq 9, 3) := by decide +kernel
theorem dX10_place_12 : decode cX10_place 12 = .ok (.iload_n 1, 1) := by decide +kernel
theorem dX10_place_13 : decode cX10_place 13 = .ok (.bipush 13, 2) := by decide +kernel
theorem dX10_place_15 : decode cX10_place 15 = .ok (.if_icmp .ne 48, 3) := by decide +kernel
theorem dX10_place_18 : decode cX10_place 18 = .ok (.aload_n 0, 1) := by decide +kernel
theorem dX10_place_19 : decode cX10_place 19 = .ok (.getfield 52, 3) := by decide +kernel
theorem dX10_place_22 : decode cX10_place 22 = .ok (.bipush 8, 2) := by decide +kernel
theorem dX10_place_24 : decode cX10_place 24 = .ok (.invokestatic 34, 3) := by decide +kernel
theorem dX10_place_27 : decode cX10_place 27 = .ok (.ifCond .eq 60, 3) := by decide +kernel
theorem dX10_place_30 : decode cX10_place 30 = .ok (.aload_n 0, 1) := by decide +kernel
theorem dX10_place_31 : decode cX10_place 31 = .ok (.getfield 24, 3) := by decide +kernel
theorem dX10_place_34 : decode cX10_place 34 = .ok (.aload_n 0, 1) := by decide +kernel
theorem dX10_place_35 : decode cX10_place 35 = .ok (.getfield 52, 3) := by decide +kernel
theorem dX10_place_38 : decode cX10_place 38 = .ok (.iload_n 2, 1) := by decide +kernel
theorem dX10_place_39 : decode cX10_place 39 = .ok (.iastore, 1) := by decide +kernel
theorem dX10_place_40 : decode cX10_place 40 = .ok (.aload_n 0, 1) := by decide +kernel
theorem dX10_place_41 : decode cX10_place 41 = .ok (.getfield 27, 3) := by decide +kernel
theorem dX10_place_44 : decode cX10_place 44 = .ok (.aload_n 0, 1) := by decide +kernel
theorem dX10_place_45 : decode cX10_place 45 = .ok (.getfield 52, 3) := by decide +kernel
theorem dX10_place_48 : decode cX10_place 48 = .ok (.iload_n 2, 1) := by decide +kernel
theorem dX10_place_49 : decode cX10_place 49 = .ok (.iastore, 1) := by decide +kernel
theorem dX10_place_50 : decode cX10_place 50 = .ok (.aload_n 0, 1) := by decide +kernel
theorem dX10_place_51 : decode cX10_place 51 = .ok (.dup, 1) := by decide +kernel
theorem dX10_place_52 : decode cX10_place 52 = .ok (.getfield 52, 3) := by decide +kernel
theorem dX10_place_55 : decode cX10_place 55 = .ok (.iconst 1, 1) := by decide +kernel
theorem dX10_place_56 : decode cX10_place 56 = .ok (.iadd, 1) := by decide +kernel
theorem dX10_place_57 : decode cX10_place 57 = .ok (.putfield 52, 3) := by decide +kernel
theorem dX10_place_60 : decode cX10_place 60 = .ok (.goto 27, 3) := by decide +kernel
theorem dX10_place_63 : decode cX10_place 63 = .ok (.iload_n 1, 1) := by decide +kernel
theorem dX10_place_64 : decode cX10_place 64 = .ok (.bipush 14, 2) := by decide +kernel
theorem dX10_place_66 : decode cX10_place 66 = .ok (.if_icmp .eq 15, 3) := by decide +kernel
theorem dX10_place_69 : decode cX10_place 69 = .ok (.iload_n 1, 1) := by decide +kernel
theorem dX10_place_70 : decode cX10_place 70 = .ok (.bipush 15, 2) := by decide +kernel
theorem dX10_place_72 : decode cX10_place 72 = .ok (.if_icmp .eq 9, 3) := by decide +kernel
theorem dX10_place_75 : decode cX10_place 75 = .ok (.iload_n 1, 1) := by decide +kernel
theorem dX10_place_76 : decode cX10_place 76 = .ok (.bipush 16, 2) := by decide +kernel
theorem dX10_place_78 : decode cX10_place 78 = .ok (.if_icmp .ne 9, 3) := by decide +kernel
theorem dX10_place_81 : decode cX10_place 81 = .ok (.aload_n 0, 1) := by decide +kernel
theorem dX10_place_82 : decode cX10_place 82 = .ok (.iload_n 1, 1) := by decide +kernel
theorem dX10_place_83 : decode cX10_place 83 = .ok (.iload_n 2, 1) := by decide +kernel
theorem dX10_place_84 : decode cX10_place 84 = .ok (.invokevirtual 75, 3) := by decide +kernel
theorem dX10_place_87 : decode cX10_place 87 = .ok (.return_, 1) := by decide +kernel
theorem dX10_linkMark_0 : decode cX10_linkMark 0 = .ok (.aload_n 0, 1) := by decide +kernel
theorem dX10_linkMark_1 : decode cX10_linkMark 1 = .ok (.getfield 52, 3) := by decide +kernel
theorem dX10_linkMark_4 : decode cX10_linkMark 4 = .ok (.iconst 1, 1) := by decide +kernel
theorem dX10_linkMark_5 : decode cX10_linkMark 5 = .ok (.isub, 1) := by decide +kernel
theorem dX10_linkMark_6 : decode cX10_linkMark 6 = .ok (.istore_n 3, 1) := by decide +kernel
theorem dX10_linkMark_7 : decode cX10_linkMark 7 = .ok (.iload_n 3, 1) := by decide +kernel
theorem dX10_linkMark_8 : decode cX10_linkMark 8 = .ok (.bipush 8, 2) := by decide +kernel
theorem dX10_linkMark_10 : decode cX10_linkMark 10 = .ok (.invokestatic 34, 3) := by decide +kernel
theorem dX10_linkMark_13 : decode cX10_linkMark 13 = .ok (.ifCond .ne 4, 3) := by decide +kernel
theorem dX10_linkMark_16 : decode cX10_linkMark 16 = .ok (.return_, 1) := by decide +kernel
theorem dX10_linkMark_17 : decode cX10_linkMark 17 = .ok (.aload_n 0, 1) := by decide +kernel
theorem dX10_linkMark_18 : decode cX10_linkMark 18 = .ok (.getfield 27, 3) := by decide +kernel
theorem dX10_linkMark_21 : decode cX10_linkMark 21 = .ok (.iload_n 3, 1) := by decide +kernel
theorem dX10_linkMark_22 : decode cX10_linkMark 22 = .ok (.iaload, 1) := by decide +kernel
theorem dX10_linkMark_23 : decode cX10_linkMark 23 = .ok (.bipush 40, 2) := by decide +kernel
theorem dX10_linkMark_25 : decode cX10_linkMark 25 = .ok (.invokestatic 34, 3) := by decide +kernel
theorem dX10_linkMark_28 : decode cX10_linkMark 28 = .ok (.ifCond .eq 15, 3) := by decide +kernel
theorem dX10_linkMark_31 : decode cX10_linkMark 31 = .ok (.aload_n 0, 1) := by decide +kernel
theorem dX10_linkMark_32 : decode cX10_linkMark 32 = .ok (.getfield 21, 3) := by decide +kernel
theorem dX10_linkMark_35 : decode cX10_linkMark 35 = .ok (.aload_n 0, 1) := by decide +kernel
theorem dX10_linkMark_36 : decode cX10_linkMark 36 = .ok (.getfield 27, 3) := by decide +kernel
theorem dX10_linkMark_39 : decode cX10_linkMark 39 = .ok (.iload_n 3, 1) := by decide +kernel
theorem dX10_linkMark_40 : decode cX10_linkMark 40 = .ok (.iaload, 1) := by decide +kernel
theorem dX10_linkMark_41 : decode cX10_linkMark 41 = .ok (.iload_n 2, 1) := by decide +kernel
theorem dX10_linkMark_42 : decode cX10_linkMark 42 = .ok (.iastore, 1) := by decide +kernel
theorem dX10_linkMark_43 : decode cX10_linkMark 43 = .ok (.aload_n 0, 1) := by decide +kernel
theorem dX10_linkMark_44 : decode cX10_linkMark 44 = .ok (.getfield 27, 3) := by decide +kernel
theorem dX10_linkMark_47 : decode cX10_linkMark 47 = .ok (.iload_n 3, 1) := by decide +kernel
theorem dX10_linkMark_48 : decode cX10_linkMark 48 = .ok (.iload_n 2, 1) := by decide +kernel
theorem dX10_linkMark_49 : decode cX10_linkMark 49 = .ok (.iastore, 1) := by decide +kernel
theorem dX10_linkMark_50 : decode cX10_linkMark 50 = .ok (.iload_n 1, 1) := by decide +kernel
theorem dX10_linkMark_51 : decode cX10_linkMark 51 = .ok (.bipush 16, 2) := by decide +kernel
theorem dX10_linkMark_53 : decode cX10_linkMark 53 = .ok (.if_icmp .ne 13, 3) := by decide +kernel
theorem dX10_linkMark_56 : decode cX10_linkMark 56 = .ok (.aload_n 0, 1) := by decide +kernel
theorem dX10_linkMark_57 : decode cX10_linkMark 57 = .ok (.dup, 1) := by decide +kernel
theorem dX10_linkMark_58 : decode cX10_linkMark 58 = .ok (.getfield 52, 3) := by decide +kernel
theorem dX10_linkMark_61 : decode cX10_linkMark 61 = .ok (.iconst 1, 1) := by decide +kernel
theorem dX10_linkMark_62 : decode cX10_linkMark 62 = .ok (.isub, 1) := by decide +kernel
theorem dX10_linkMark_63 : decode cX10_linkMark 63 = .ok (.putfield 52, 3) := by decide +kernel
theorem dX10_linkMark_66 : decode cX10_linkMark 66 = .ok (.return_, 1) := by decide +kernel
theorem dX10_opAt_0 : decode cX10_opAt 0 = .ok (.iload_n 1, 1) := by decide +kernel
theorem dX10_opAt_1 : decode cX10_opAt 1 = .ok (.aload_n 0, 1) := by decide +kernel
theorem dX10_opAt_2 : decode cX10_opAt 2 = .ok (.getfield 30, 3) := by decide +kernel
theorem dX10_opAt_5 : decode cX10_opAt 5 = .ok (.invokestatic 34, 3) := by decide +kernel
theorem dX10_opAt_8 : decode cX10_opAt 8 = .ok (.ifCond .eq 12, 3) := by decide +kernel
theorem dX10_opAt_11 : decode cX10_opAt 11 = .ok (.aload_n 0, 1) := by decide +kernel
theorem dX10_opAt_12 : decode cX10_opAt 12 = .ok (.getfield 9, 3) := by decide +kernel
theorem dX10_opAt_15 : decode cX10_opAt 15 = .ok (.iload_n 1, 1) := by decide +kernel
theorem dX10_opAt_16 : decode cX10_opAt 16 = .ok (.iaload, 1) := by decide +kernel
theorem dX10_opAt_17 : decode cX10_opAt 17 = .ok (.goto 4, 3) := by decide +kernel
theorem dX10_opAt_20 : decode cX10_opAt 20 = .ok (.iconst (-1), 1) := by decide +kernel
theorem dX10_opAt_21 : decode cX10_opAt 21 = .ok (.ireturn, 1) := by decide +kernel
theorem dX10_aAt_0 : decode cX10_aAt 0 = .ok (.iload_n 1, 1) := by decide +kernel
theorem dX10_aAt_1 : decode cX10_aAt 1 = .ok (.aload_n 0, 1) := by decide +kernel
theorem dX10_aAt_2 : decode cX10_aAt 2 = .ok (.getfield 30, 3) := by decide +kernel
theorem dX10_aAt_5 : decode cX10_aAt 5 = .ok (.invokestatic 34, 3) := by decide +kernel
theorem dX10_aAt_8 : decode cX10_aAt 8 = .ok (.ifCond .eq 12, 3) := by decide +kernel
theorem dX10_aAt_11 : decode cX10_aAt 11 = .ok (.aload_n 0, 1) := by decide +kernel
theorem dX10_aAt_12 : decode cX10_aAt 12 = .ok (.getfield 15, 3) := by decide +kernel
theorem dX10_aAt_15 : decode cX10_aAt 15 = .ok (.iload_n 1, 1) := by decide +kernel
theorem dX10_aAt_16 : decode cX10_aAt 16 = .ok (.iaload, 1) := by decide +kernel
theorem dX10_aAt_17 : decode cX10_aAt 17 = .ok (.goto 4, 3) := by decide +kernel
theorem dX10_aAt_20 : decode cX10_aAt 20 = .ok (.iconst (-1), 1) := by decide +kernel
theorem dX10_aAt_21 : decode cX10_aAt 21 = .ok (.ireturn, 1) := by decide +kernel
theorem dX10_bAt_0 : decode cX10_bAt 0 = .ok (.iload_n 1, 1) := by decide +kernel
theorem dX10_bAt_1 : decode cX10_bAt 1 = .ok (.aload_n 0, 1) := by decide +kernel
theorem dX10_bAt_2 : decode cX10_bAt 2 = .ok (.getfield 30, 3) := by decide +kernel
theorem dX10_bAt_5 : decode cX10_bAt 5 = .ok (.invokestatic 34, 3) := by decide +kernel
theorem dX10_bAt_8 : decode cX10_bAt 8 = .ok (.ifCond .eq 12, 3) := by decide +kernel
theorem dX10_bAt_11 : decode cX10_bAt 11 = .ok (.aload_n 0, 1) := by decide +kernel
theorem dX10_bAt_12 : decode cX10_bAt 12 = .ok (.getfield 18, 3) := by decide +kernel
theorem dX10_bAt_15 : decode cX10_bAt 15 = .ok (.iload_n 1, 1) := by decide +kernel
theorem dX10_bAt_16 : decode cX10_bAt 16 = .ok (.iaload, 1) := by decide +kernel
theorem dX10_bAt_17 : decode cX10_bAt 17 = .ok (.goto 4, 3) := by decide +kernel
theorem dX10_bAt_20 : decode cX10_bAt 20 = .ok (.iconst (-1), 1) := by decide +kernel
theorem dX10_bAt_21 : decode cX10_bAt 21 = .ok (.ireturn, 1) := by decide +kernel
theorem dX10_nextOf_0 : decode cX10_nextOf 0 = .ok (.iload_n 1, 1) := by decide +kernel
theorem dX10_nextOf_1 : decode cX10_nextOf 1 = .ok (.aload_n 0, 1) := by decide +kernel
theorem dX10_nextOf_2 : decode cX10_nextOf 2 = .ok (.getfield 30, 3) := by decide +kernel
theorem dX10_nextOf_5 : decode cX10_nextOf 5 = .ok (.invokestatic 34, 3) := by decide +kernel
theorem dX10_nextOf_8 : decode cX10_nextOf 8 = .ok (.ifCond .eq 12, 3) := by decide +kernel
theorem dX10_nextOf_11 : decode cX10_nextOf 11 = .ok (.aload_n 0, 1) := by decide +kernel
theorem dX10_nextOf_12 : decode cX10_nextOf 12 = .ok (.getfield 21, 3) := by decide +kernel
theorem dX10_nextOf_15 : decode cX10_nextOf 15 = .ok (.iload_n 1, 1) := by decide +kernel
theorem dX10_nextOf_16 : decode cX10_nextOf 16 = .ok (.iaload, 1) := by decide +kernel
theorem dX10_nextOf_17 : decode cX10_nextOf 17 = .ok (.goto 4, 3) := by decide +kernel
theorem dX10_nextOf_20 : decode cX10_nextOf 20 = .ok (.iconst (-1), 1) := by decide +kernel
theorem dX10_nextOf_21 : decode cX10_nextOf 21 = .ok (.ireturn, 1) := by decide +kernel
theorem dX10_guardFor_0 : decode cX10_guardFor 0 = .ok (.aload_n 0, 1) := by decide +kernel
theorem dX10_guardFor_1 : decode cX10_guardFor 1 = .ok (.iload_n 1, 1) := by decide +kernel
theorem dX10_guardFor_2 : decode cX10_guardFor 2 = .ok (.invokevirtual 78, 3) := by decide +kernel
theorem dX10_guardFor_5 : decode cX10_guardFor 5 = .ok (.istore_n 3, 1) := by decide +kernel
theorem dX10_guardFor_6 : decode cX10_guardFor 6 = .ok (.iconst 0, 1) := by decide +kernel
theorem dX10_guardFor_7 : decode cX10_guardFor 7 = .ok (.istore 4, 2) := by decide +kernel
theorem dX10_guardFor_9 : decode cX10_guardFor 9 = .ok (.iload 4, 2) := by decide +kernel
theorem dX10_guardFor_11 : decode cX10_guardFor 11 = .ok (.bipush 40, 2) := by decide +kernel
theorem dX10_guardFor_13 : decode cX10_guardFor 13 = .ok (.if_icmp .ge 39, 3) := by decide +kernel
theorem dX10_guardFor_16 : decode cX10_guardFor 16 = .ok (.aload_n 0, 1) := by decide +kernel
theorem dX10_guardFor_17 : decode cX10_guardFor 17 = .ok (.iload_n 3, 1) := by decide +kernel
theorem dX10_guardFor_18 : decode cX10_guardFor 18 = .ok (.invokevirtual 71, 3) := by decide +kernel
theorem dX10_guardFor_21 : decode cX10_guardFor 21 = .ok (.bipush 14, 2) := by decide +kernel
theorem dX10_guardFor_23 : decode cX10_guardFor 23 = .ok (.if_icmp .ne 29, 3) := by decide +kernel
theorem dX10_guardFor_26 : decode cX10_guardFor 26 = .ok (.iload_n 2, 1) := by decide +kernel
theorem dX10_guardFor_27 : decode cX10_guardFor 27 = .ok (.aload_n 0, 1) := by decide +kernel
theorem dX10_guardFor_28 : decode cX10_guardFor 28 = .ok (.iload_n 3, 1) := by decide +kernel
theorem dX10_guardFor_29 : decode cX10_guardFor 29 = .ok (.invokevirtual 81, 3) := by decide +kernel
theorem dX10_guardFor_32 : decode cX10_guardFor 32 = .ok (.invokestatic 84, 3) := by decide +kernel
theorem dX10_guardFor_35 : decode cX10_guardFor 35 = .ok (.ifCond .eq 5, 3) := by decide +kernel
theorem dX10_guardFor_38 : decode cX10_guardFor 38 = .ok (.iload_n 3, 1) := by decide +kernel
theorem dX10_guardFor_39 : decode cX10_guardFor 39 = .ok (.ireturn, 1) := by decide +kernel
theorem dX10_guardFor_40 : decode cX10_guardFor 40 = .ok (.aload_n 0, 1) := by decide +kernel
theorem dX10_guardFor_41 : decode cX10_guardFor 41 = .ok (.iload_n 3, 1) := by decide +kernel
theorem dX10_guardFor_42 : decode cX10_guardFor 42 = .ok (.invokevirtual 78, 3) := by decide +kernel
theorem dX10_guardFor_45 : decode cX10_guardFor 45 = .ok (.istore_n 3, 1) := by decide +kernel
theorem dX10_guardFor_46 : decode cX10_guardFor 46 = .ok (.iinc 4 1, 3) := by decide +kernel
theorem dX10_guardFor_49 : decode cX10_guardFor 49 = .ok (.goto (-40), 3) := by decide +kernel
theorem dX10_guardFor_52 : decode cX10_guardFor 52 = .ok (.iconst (-1), 1) := by decide +kernel
theorem dX10_guardFor_53 : decode cX10_guardFor 53 = .ok (.ireturn, 1) := by decide +kernel
theorem dX10_wayOut_0 : decode cX10_wayOut 0 = .ok (.aload_n 0, 1) := by decide +kernel
theorem dX10_wayOut_1 : decode cX10_wayOut 1 = .ok (.iload_n 1, 1) := by decide +kernel
theorem dX10_wayOut_2 : decode cX10_wayOut 2 = .ok (.invokevirtual 78, 3) := by decide +kernel
theorem dX10_wayOut_5 : decode cX10_wayOut 5 = .ok (.istore_n 2, 1) := by decide +kernel
theorem dX10_wayOut_6 : decode cX10_wayOut 6 = .ok (.iconst 0, 1) := by decide +kernel
theorem dX10_wayOut_7 : decode cX10_wayOut 7 = .ok (.istore_n 3, 1) := by decide +kernel
theorem dX10_wayOut_8 : decode cX10_wayOut 8 = .ok (.iload_n 3, 1) := by decide +kernel
theorem dX10_wayOut_9 : decode cX10_wayOut 9 = .ok (.bipush 40, 2) := by decide +kernel
theorem dX10_wayOut_11 : decode cX10_wayOut 11 = .ok (.if_icmp .ge 25, 3) := by decide +kernel
theorem dX10_wayOut_14 : decode cX10_wayOut 14 = .ok (.aload_n 0, 1) := by decide +kernel
theorem dX10_wayOut_15 : decode cX10_wayOut 15 = .ok (.iload_n 2, 1) := by decide +kernel
theorem dX10_wayOut_16 : decode cX10_wayOut 16 = .ok (.invokevirtual 71, 3) := by decide +kernel
theorem dX10_wayOut_19 : decode cX10_wayOut 19 = .ok (.bipush 14, 2) := by decide +kernel
theorem dX10_wayOut_21 : decode cX10_wayOut 21 = .ok (.if_icmp .ne 15, 3) := by decide +kernel
theorem dX10_wayOut_24 : decode cX10_wayOut 24 = .ok (.aload_n 0, 1) := by decide +kernel
theorem dX10_wayOut_25 : decode cX10_wayOut 25 = .ok (.iload_n 2, 1) := by decide +kernel
theorem dX10_wayOut_26 : decode cX10_wayOut 26 = .ok (.invokevirtual 78, 3) := by decide +kernel
theorem dX10_wayOut_29 : decode cX10_wayOut 29 = .ok (.istore_n 2, 1) := by decide +kernel
theorem dX10_wayOut_30 : decode cX10_wayOut 30 = .ok (.iinc 3 1, 3) := by decide +kernel
theorem dX10_wayOut_33 : decode cX10_wayOut 33 = .ok (.goto (-25), 3) := by decide +kernel
theorem dX10_wayOut_36 : decode cX10_wayOut 36 = .ok (.iload_n 2, 1) := by decide +kernel
theorem dX10_wayOut_37 : decode cX10_wayOut 37 = .ok (.ireturn, 1) := by decide +kernel
theorem dX11_init_0 : decode cX11_init 0 = .ok (.aload_n 0, 1) := by decide +kernel
theorem dX11_init_1 : decode cX11_init 1 = .ok (.invokespecial 3, 3) := by decide +kernel
theorem dX11_init_4 : decode cX11_init 4 = .ok (.new 9, 3) := by decide +kernel
theorem dX11_init_7 : decode cX11_init 7 = .ok (.dup, 1) := by decide +kernel
theorem dX11_init_8 : decode cX11_init 8 = .ok (.invokespecial 11, 3) := by decide +kernel
theorem dX11_init_11 : decode cX11_init 11 = .ok (.astore_n 1, 1) := by decide +kernel
theorem dX11_init_12 : decode cX11_init 12 = .ok (.bipush 12, 2) := by decide +kernel
theorem dX11_init_14 : decode cX11_init 14 = .ok (.anewarray 12, 3) := by decide +kernel
theorem dX11_init_17 : decode cX11_init 17 = .ok (.astore_n 2, 1) := by decide +kernel
theorem dX11_init_18 : decode cX11_init 18 = .ok (.aload_n 0, 1) := by decide +kernel
theorem dX11_init_19 : decode cX11_init 19 = .ok (.aload_n 1, 1) := by decide +kernel
theorem dX11_init_20 : decode cX11_init 20 = .ok (.putfield 14, 3) := by decide +kernel
theorem dX11_init_23 : decode cX11_init 23 = .ok (.aload_n 0, 1) := by decide +kernel
theorem dX11_init_24 : decode cX11_init 24 = .ok (.aload_n 2, 1) := by decide +kernel
theorem dX11_init_25 : decode cX11_init 25 = .ok (.putfield 18, 3) := by decide +kernel
theorem dX11_init_28 : decode cX11_init 28 = .ok (.aload_n 0, 1) := by decide +kernel
theorem dX11_init_29 : decode cX11_init 29 = .ok (.new 22, 3) := by decide +kernel
theorem dX11_init_32 : decode cX11_init 32 = .ok (.dup, 1) := by decide +kernel
theorem dX11_init_33 : decode cX11_init 33 = .ok (.aload_n 1, 1) := by decide +kernel
theorem dX11_init_34 : decode cX11_init 34 = .ok (.aload_n 2, 1) := by decide +kernel
theorem dX11_init_35 : decode cX11_init 35 = .ok (.invokespecial 24, 3) := by decide +kernel
theorem dX11_init_38 : decode cX11_init 38 = .ok (.putfield 27, 3) := by decide +kernel
theorem dX11_init_41 : decode cX11_init 41 = .ok (.return_, 1) := by decide +kernel
theorem dX11_part_0 : decode cX11_part 0 = .ok (.iload_n 1, 1) := by decide +kernel
theorem dX11_part_1 : decode cX11_part 1 = .ok (.bipush 40, 2) := by decide +kernel
theorem dX11_part_3 : decode cX11_part 3 = .ok (.invokestatic 31, 3) := by decide +kernel
theorem dX11_part_6 : decode cX11_part 6 = .ok (.ifCond .eq 13, 3) := by decide +kernel
theorem dX11_part_9 : decode cX11_part 9 = .ok (.iload_n 2, 1) := by decide +kernel
theorem dX11_part_10 : decode cX11_part 10 = .ok (.ifCond .lt 9, 3) := by decide +kernel
theorem dX11_part_13 : decode cX11_part 13 = .ok (.iload_n 2, 1) := by decide +kernel
theorem dX11_part_14 : decode cX11_part 14 = .ok (.ldc 35, 2) := by decide +kernel
theorem dX11_part_16 : decode cX11_part 16 = .ok (.if_icmp .le 6, 3) := by decide +kernel
theorem dX11_part_19 : decode cX11_part 19 = .ok (.bipush (-102), 2) := by decide +kernel
theorem dX11_part_21 : decode cX11_part 21 = .ok (.ireturn, 1) := by decide +kernel
theorem dX11_part_22 : decode cX11_part 22 = .ok (.aload_n 0, 1) := by decide +kernel
theorem dX11_part_23 : decode cX11_part 23 = .ok (.getfield 14, 3) := by decide +kernel
theorem dX11_part_26 : decode cX11_part 26 = .ok (.iload_n 1, 1) := by decide +kernel
theorem dX11_part_27 : decode cX11_part 27 = .ok (.iload_n 2, 1) := by decide +kernel
theorem dX11_part_28 : decode cX11_part 28 = .ok (.invokevirtual 36, 3) := by decide +kernel
theorem dX11_part_31 : decode cX11_part 31 = .ok (.ireturn, 1) := by decide +kernel
theorem dX11_state_0 : decode cX11_state 0 = .ok (.aload_n 0, 1) := by decide +kernel
theorem dX11_state_1 : decode cX11_state 1 = .ok (.getfield 14, 3) := by decide +kernel
theorem dX11_state_4 : decode cX11_state 4 = .ok (.iload_n 1, 1) := by decide +kernel
theorem dX11_state_5 : decode cX11_state 5 = .ok (.invokevirtual 40, 3) := by decide +kernel
theorem dX11_state_8 : decode cX11_state 8 = .ok (.astore_n 2, 1) := by decide +kernel
theorem dX11_state_9 : decode cX11_state 9 = .ok (.aload_n 2, 1) := by decide +kernel
theorem dX11_state_10 : decode cX11_state 10 = .ok (.ifnonnull 8, 3) := by decide +kernel
theorem dX11_state_13 : decode cX11_state 13 = .ok (.bipush (-101), 2) := by decide +kernel
theorem dX11_state_15 : decode cX11_state 15 = .ok (.goto 7, 3) := by decide +kernel
theorem dX11_state_18 : decode cX11_state 18 = .ok (.aload_n 2, 1) := by decide +kernel
theorem dX11_state_19 : decode cX11_state 19 = .ok (.getfield 44, 3) := by decide +kernel
theorem dX11_state_22 : decode cX11_state 22 = .ok (.ireturn, 1) := by decide +kernel
theorem dX11_clean_0 : decode cX11_clean 0 = .ok (.iload_n 1, 1) := by decide +kernel
theorem dX11_clean_1 : decode cX11_clean 1 = .ok (.ifCond .lt 9, 3) := by decide +kernel
theorem dX11_clean_4 : decode cX11_clean 4 = .ok (.iload_n 1, 1) := by decide +kernel
theorem dX11_clean_5 : decode cX11_clean 5 = .ok (.bipush 60, 2) := by decide +kernel
theorem dX11_clean_7 : decode cX11_clean 7 = .ok (.if_icmp .le 8, 3) := by decide +kernel
theorem dX11_clean_10 : decode cX11_clean 10 = .ok (.bipush (-102), 2) := by decide +kernel
theorem dX11_clean_12 : decode cX11_clean 12 = .ok (.goto 11, 3) := by decide +kernel
theorem dX11_clean_15 : decode cX11_clean 15 = .ok (.aload_n 0, 1) := by decide +kernel
theorem dX11_clean_16 : decode cX11_clean 16 = .ok (.getfield 14, 3) := by decide +kernel
theorem dX11_clean_19 : decode cX11_clean 19 = .ok (.iload_n 1, 1) := by decide +kernel
theorem dX11_clean_20 : decode cX11_clean 20 = .ok (.invokevirtual 50, 3) := by decide +kernel
theorem dX11_clean_23 : decode cX11_clean 23 = .ok (.ireturn, 1) := by decide +kernel
theorem dX11_cleaning_0 : decode cX11_cleaning 0 = .ok (.aload_n 0, 1) := by decide +kernel
theorem dX11_cleaning_1 : decode cX11_cleaning 1 = .ok (.getfield 14, 3) := by decide +kernel
theorem dX11_cleaning_4 : decode cX11_cleaning 4 = .ok (.iload_n 1, 1) := by decide +kernel
theorem dX11_cleaning_5 : decode cX11_cleaning 5 = .ok (.invokevirtual 54, 3) := by decide +kernel
theorem dX11_cleaning_8 : decode cX11_cleaning 8 = .ok (.ireturn, 1) := by decide +kernel
theorem dX11_plan_0 : decode cX11_plan 0 = .ok (.aload_n 0, 1) := by decide +kernel
theorem dX11_plan_1 : decode cX11_plan 1 = .ok (.getfield 14, 3) := by decide +kernel
theorem dX11_plan_4 : decode cX11_plan 4 = .ok (.iload_n 1, 1) := by decide +kernel
theorem dX11_plan_5 : decode cX11_plan 5 = .ok (.invokevirtual 40, 3) := by decide +kernel
theorem dX11_plan_8 : decode cX11_plan 8 = .ok (.ifnonnull 6, 3) := by decide +kernel
theorem dX11_plan_11 : decode cX11_plan 11 = .ok (.bipush (-101), 2) := by decide +kernel
theorem dX11_plan_13 : decode cX11_plan 13 = .ok (.ireturn, 1) := by decide +kernel
theorem dX11_plan_14 : decode cX11_plan 14 = .ok (.iload_n 2, 1) := by decide +kernel
theorem dX11_plan_15 : decode cX11_plan 15 = .ok (.iconst 1, 1) := by decide +kernel
theorem dX11_plan_16 : decode cX11_plan 16 = .ok (.if_icmp .lt 17, 3) := by decide +kernel
theorem dX11_plan_19 : decode cX11_plan 19 = .ok (.iload_n 2, 1) := by decide +kernel
theorem dX11_plan_20 : decode cX11_plan 20 = .ok (.bipush 20, 2) := by decide +kernel
theorem dX11_plan_22 : decode cX11_plan 22 = .ok (.if_icmp .gt 11, 3) := by decide +kernel
theorem dX11_plan_25 : decode cX11_plan 25 = .ok (.iload_n 3, 1) := by decide +kernel
theorem dX11_plan_26 : decode cX11_plan 26 = .ok (.iconst 2, 1) := by decide +kernel
theorem dX11_plan_27 : decode cX11_plan 27 = .ok (.invokestatic 31, 3) := by decide +kernel
theorem dX11_plan_30 : decode cX11_plan 30 = .ok (.ifCond .ne 6, 3) := by decide +kernel
theorem dX11_plan_33 : decode cX11_plan 33 = .ok (.bipush (-102), 2) := by decide +kernel
theorem dX11_plan_35 : decode cX11_plan 35 = .ok (.ireturn, 1) := by decide +kernel
theorem dX11_plan_36 : decode cX11_plan 36 = .ok (.aload_n 0, 1) := by decide +kernel
theorem dX11_plan_37 : decode cX11_plan 37 = .ok (.getfield 14, 3) := by decide +kernel
theorem dX11_plan_40 : decode cX11_plan 40 = .ok (.getfield 57, 3) := by decide +kernel
theorem dX11_plan_43 : decode cX11_plan 43 = .ok (.iload_n 1, 1) := by decide +kernel
theorem dX11_plan_44 : decode cX11_plan 44 = .ok (.iload_n 2, 1) := by decide +kernel
theorem dX11_plan_45 : decode cX11_plan 45 = .ok (.iload_n 3, 1) := by decide +kernel
theorem dX11_plan_46 : decode cX11_plan 46 = .ok (.invokevirtual 61, 3) := by decide +kernel
theorem dX11_plan_49 : decode cX11_plan 49 = .ok (.ireturn, 1) := by decide +kernel
theorem dX11_plans_0 : decode cX11_plans 0 = .ok (.aload_n 0, 1) := by decide +kernel
theorem dX11_plans_1 : decode cX11_plans 1 = .ok (.getfield 14, 3) := by decide +kernel
theorem dX11_plans_4 : decode cX11_plans 4 = .ok (.getfield 57, 3) := by decide +kernel
theorem dX11_plans_7 : decode cX11_plans 7 = .ok (.getfield 67, 3) := by decide +kernel
theorem dX11_plans_10 : decode cX11_plans 10 = .ok (.istore_n 2, 1) := by decide +kernel
theorem dX11_plans_11 : decode cX11_plans 11 = .ok (.iload_n 1, 1) := by decide +kernel
theorem dX11_plans_12 : decode cX11_plans 12 = .ok (.ifCond .eq 14, 3) := by decide +kernel
theorem dX11_plans_15 : decode cX11_plans 15 = .ok (.aload_n 0, 1) := by decide +kernel
theorem dX11_plans_16 : decode cX11_plans 16 = .ok (.getfield 14, 3) := by decide +kernel
theorem dX11_plans_19 : decode cX11_plans 19 = .ok (.getfield 57, 3) := by decide +kernel
theorem dX11_plans_22 : decode cX11_plans 22 = .ok (.iconst 0, 1) := by decide +kernel
theorem dX11_plans_23 : decode cX11_plans 23 = .ok (.putfield 67, 3) := by decide +kernel
theorem dX11_plans_26 : decode cX11_plans 26 = .ok (.iload_n 2, 1) := by decide +kernel
theorem dX11_plans_27 : decode cX11_plans 27 = .ok (.ireturn, 1) := by decide +kernel
theorem dX11_act_0 : decode cX11_act 0 = .ok (.aload_n 0, 1) := by decide +kernel
theorem dX11_act_1 : decode cX11_act 1 = .ok (.getfield 70, 3) := by decide +kernel
theorem dX11_act_4 : decode cX11_act 4 = .ok (.bipush 12, 2) := by decide +kernel
theorem dX11_act_6 : decode cX11_act 6 = .ok (.invokestatic 31, 3) := by decide +kernel
theorem dX11_act_9 : decode cX11_act 9 = .ok (.ifCond .ne 6, 3) := by decide +kernel
theorem dX11_act_12 : decode cX11_act 12 = .ok (.bipush (-104), 2) := by decide +kernel
theorem dX11_act_14 : decode cX11_act 14 = .ok (.ireturn, 1) := by decide +kernel
theorem dX11_act_15 : decode cX11_act 15 = .ok (.aload_n 0, 1) := by decide +kernel
theorem dX11_act_16 : decode cX11_act 16 = .ok (.getfield 18, 3) := by decide +kernel
theorem dX11_act_19 : decode cX11_act 19 = .ok (.aload_n 0, 1) := by decide +kernel
theorem dX11_act_20 : decode cX11_act 20 = .ok (.getfield 70, 3) := by decide +kernel
theorem dX11_act_23 : decode cX11_act 23 = .ok (.new 12, 3) := by decide +kernel
theorem dX11_act_26 : decode cX11_act 26 = .ok (.dup, 1) := by decide +kernel
theorem dX11_act_27 : decode cX11_act 27 = .ok (.invokespecial 73, 3) := by decide +kernel
theorem dX11_act_30 : decode cX11_act 30 = .ok (.aastore, 1) := by decide +kernel
theorem dX11_act_31 : decode cX11_act 31 = .ok (.aload_n 0, 1) := by decide +kernel
theorem dX11_act_32 : decode cX11_act 32 = .ok (.dup, 1) := by decide +kernel
theorem dX11_act_33 : decode cX11_act 33 = .ok (.getfield 70, 3) := by decide +kernel
theorem dX11_act_36 : decode cX11_act 36 = .ok (.iconst 1, 1) := by decide +kernel
theorem dX11_act_37 : decode cX11_act 37 = .ok (.iadd, 1) := by decide +kernel
theorem dX11_act_38 : decode cX11_act 38 = .ok (.putfield 70, 3) := by decide +kernel
theorem dX11_act_41 : decode cX11_act 41 = .ok (.aload_n 0, 1) := by decide +kernel
theorem dX11_act_42 : decode cX11_act 42 = .ok (.getfield 70, 3) := by decide +kernel
theorem dX11_act_45 : decode cX11_act 45 = .ok (.iconst 1, 1) := by decide +kernel
theorem dX11_act_46 : decode cX11_act 46 = .ok (.isub, 1) := by decide +kernel
theorem dX11_act_47 : decode cX11_act 47 = .ok (.ireturn, 1) := by decide +kernel
theorem dX11_line_0 : decode cX11_line 0 = .ok (.aload_n 0, 1) := by decide +kernel
theorem dX11_line_1 : decode cX11_line 1 = .ok (.getfield 18, 3) := by decide +kernel
theorem dX11_line_4 : decode cX11_line 4 = .ok (.iload_n 1, 1) := by decide +kernel
theorem dX11_line_5 : decode cX11_line 5 = .ok (.invokestatic 74, 3) := by decide +kernel
theorem dX11_line_8 : decode cX11_line 8 = .ok (.astore 5, 2) := by decide +kernel
theorem dX11_line_10 : decode cX11_line 10 = .ok (.aload 5, 2) := by decide +kernel
theorem dX11_line_12 : decode cX11_line 12 = .ok (.ifnonnull 8, 3) := by decide +kernel
theorem dX11_line_15 : decode cX11_line 15 = .ok (.bipush (-101), 2) := by decide +kernel
theorem dX11_line_17 : decode cX11_line 17 = .ok (.goto 12, 3) := by decide +kernel
theorem dX11_line_20 : decode cX11_line 20 = .ok (.aload 5, 2) := by decide +kernel
theorem dX11_line_22 : decode cX11_line 22 = .ok (.iload_n 2, 1) := by decide +kernel
theorem dX11_line_23 : decode cX11_line 23 = .ok (.iload_n 3, 1) := by decide +kernel
theorem dX11_line_24 : decode cX11_line 24 = .ok (.iload 4, 2) := by decide +kernel
theorem dX11_line_26 : decode cX11_line 26 = .ok (.invokevirtual 78, 3) := by decide +kernel
theorem dX11_line_29 : decode cX11_line 29 = .ok (.ireturn, 1) := by decide +kernel
theorem dX11_wipe_0 : decode cX11_wipe 0 = .ok (.aload_n 0, 1) := by decide +kernel
theorem dX11_wipe_1 : decode cX11_wipe 1 = .ok (.getfield 18, 3) := by decide +kernel
theorem dX11_wipe_4 : decode cX11_wipe 4 = .ok (.iload_n 1, 1) := by decide +kernel
theorem dX11_wipe_5 : decode cX11_wipe 5 = .ok (.invokestatic 74, 3) := by decide +kernel
theorem dX11_wipe_8 : decode cX11_wipe 8 = .ok (.astore_n 2, 1) := by decide +kernel
theorem dX11_wipe_9 : decode cX11_wipe 9 = .ok (.aload_n 2, 1) := by decide +kernel
theorem dX11_wipe_10 : decode cX11_wipe 10 = .ok (.ifnonnull 8, 3) := by decide +kernel
theorem dX11_wipe_13 : decode cX11_wipe 13 = .ok (.bipush (-101), 2) := by decide +kernel
theorem dX11_wipe_15 : decode cX11_wipe 15 = .ok (.goto 7, 3) := by decide +kernel
theorem dX11_wipe_18 : decode cX11_wipe 18 = .ok (.aload_n 2, 1) := by decide +kernel
theorem dX11_wipe_19 : decode cX11_wipe 19 = .ok (.invokevirtual 79, 3) := by decide +kernel
theorem dX11_wipe_22 : decode cX11_wipe 22 = .ok (.ireturn, 1) := by decide +kernel
theorem dX11_fault_0 : decode cX11_fault 0 = .ok (.aload_n 0, 1) := by decide +kernel
theorem dX11_fault_1 : decode cX11_fault 1 = .ok (.getfield 18, 3) := by decide +kernel
theorem dX11_fault_4 : decode cX11_fault 4 = .ok (.iload_n 1, 1) := by decide +kernel
theorem dX11_fault_5 : decode cX11_fault 5 = .ok (.invokestatic 74, 3) := by decide +kernel
theorem dX11_fault_8 : decode cX11_fault 8 = .ok (.astore_n 3, 1) := by decide +kernel
theorem dX11_fault_9 : decode cX11_fault 9 = .ok (.aload_n 3, 1) := by decide +kernel
theorem dX11_fault_10 : decode cX11_fault 10 = .ok (.ifnonnull 6, 3) := by decide +kernel
theorem dX11_fault_13 : decode cX11_fault 13 = .ok (.bipush (-101), 2) := by decide +kernel
theorem dX11_fault_15 : decode cX11_fault 15 = .ok (.ireturn, 1) := by decide +kernel
theorem dX11_fault_16 : decode cX11_fault 16 = .ok (.iload_n 2, 1) := by decide +kernel
theorem dX11_fault_17 : decode cX11_fault 17 = .ok (.iconst 2, 1) := by decide +kernel
theorem dX11_fault_18 : decode cX11_fault 18 = .ok (.invokestatic 31, 3) := by decide +kernel
theorem dX11_fault_21 : decode cX11_fault 21 = .ok (.ifCond .ne 6, 3) := by decide +kernel
theorem dX11_fault_24 : decode cX11_fault 24 = .ok (.bipush (-102), 2) := by decide +kernel
theorem dX11_fault_26 : decode cX11_fault 26 = .ok (.ireturn, 1) := by decide +kernel
theorem dX11_fault_27 : decode cX11_fault 27 = .ok (.iload_n 2, 1) := by decide +kernel
theorem dX11_fault_28 : decode cX11_fault 28 = .ok (.ifCond .ne 10, 3) := by decide +kernel
theorem dX11_fault_31 : decode cX11_fault 31 = .ok (.aload_n 3, 1) := by decide +kernel
theorem dX11_fault_32 : decode cX11_fault 32 = .ok (.invokevirtual 83, 3) := by decide +kernel
theorem dX11_fault_35 : decode cX11_fault 35 = .ok (.goto 7, 3) := by decide +kernel
theorem dX11_fault_38 : decode cX11_fault 38 = .ok (.aload_n 3, 1) := by decide +kernel
theorem dX11_fault_39 : decode cX11_fault 39 = .ok (.invokevirtual 86, 3) := by decide +kernel
theorem dX11_fault_42 : decode cX11_fault 42 = .ok (.ireturn, 1) := by decide +kernel
theorem dX11_run_0 : decode cX11_run 0 = .ok (.aload_n 0, 1) := by decide +kernel
theorem dX11_run_1 : decode cX11_run 1 = .ok (.getfield 18, 3) := by decide +kernel
theorem dX11_run_4 : decode cX11_run 4 = .ok (.iload_n 1, 1) := by decide +kernel
theorem dX11_run_5 : decode cX11_run 5 = .ok (.invokestatic 74, 3) := by decide +kernel
theorem dX11_run_8 : decode cX11_run 8 = .ok (.astore_n 3, 1) := by decide +kernel
theorem dX11_run_9 : decode cX11_run 9 = .ok (.aload_n 3, 1) := by decide +kernel
theorem dX11_run_10 : decode cX11_run 10 = .ok (.ifnull 12, 3) := by decide +kernel
theorem dX11_run_13 : decode cX11_run 13 = .ok (.iload_n 2, 1) := by decide +kernel
theorem dX11_run_14 : decode cX11_run 14 = .ok (.bipush 8, 2) := by decide +kernel
theorem dX11_run_16 : decode cX11_run 16 = .ok (.invokestatic 31, 3) := by decide +kernel
theorem dX11_run_19 : decode cX11_run 19 = .ok (.ifCond .ne 6, 3) := by decide +kernel
theorem dX11_run_22 : decode cX11_run 22 = .ok (.bipush (-101), 2) := by decide +kernel
theorem dX11_run_24 : decode cX11_run 24 = .ok (.ireturn, 1) := by decide +kernel
theorem dX11_run_25 : decode cX11_run 25 = .ok (.aload_n 3, 1) := by decide +kernel
theorem dX11_run_26 : decode cX11_run 26 = .ok (.invokevirtual 83, 3) := by decide +kernel
theorem dX11_run_29 : decode cX11_run 29 = .ok (.ifCond .ne 15, 3) := by decide +kernel
theorem dX11_run_32 : decode cX11_run 32 = .ok (.aload_n 0, 1) := by decide +kernel
theorem dX11_run_33 : decode cX11_run 33 = .ok (.getfield 27, 3) := by decide +kernel
theorem dX11_run_36 : decode cX11_run 36 = .ok (.iload_n 1, 1) := by decide +kernel
theorem dX11_run_37 : decode cX11_run 37 = .ok (.iload_n 2, 1) := by decide +kernel
theorem dX11_run_38 : decode cX11_run 38 = .ok (.invokevirtual 89, 3) := by decide +kernel
theorem dX11_run_41 : decode cX11_run 41 = .ok (.goto 5, 3) := by decide +kernel
theorem dX11_run_44 : decode cX11_run 44 = .ok (.bipush (-103), 2) := by decide +kernel
theorem dX11_run_46 : decode cX11_run 46 = .ok (.ireturn, 1) := by decide +kernel
theorem dX11_ran_0 : decode cX11_ran 0 = .ok (.iload_n 1, 1) := by decide +kernel
theorem dX11_ran_1 : decode cX11_ran 1 = .ok (.bipush 7, 2) := by decide +kernel
theorem dX11_ran_3 : decode cX11_ran 3 = .ok (.invokestatic 31, 3) := by decide +kernel
theorem dX11_ran_6 : decode cX11_ran 6 = .ok (.ifCond .eq 14, 3) := by decide +kernel
theorem dX11_ran_9 : decode cX11_ran 9 = .ok (.aload_n 0, 1) := by decide +kernel
theorem dX11_ran_10 : decode cX11_ran 10 = .ok (.getfield 27, 3) := by decide +kernel
theorem dX11_ran_13 : decode cX11_ran 13 = .ok (.iload_n 1, 1) := by decide +kernel
theorem dX11_ran_14 : decode cX11_ran 14 = .ok (.invokevirtual 92, 3) := by decide +kernel
theorem dX11_ran_17 : decode cX11_ran 17 = .ok (.goto 5, 3) := by decide +kernel
theorem dX11_ran_20 : decode cX11_ran 20 = .ok (.bipush (-102), 2) := by decide +kernel
theorem dX11_ran_22 : decode cX11_ran 22 = .ok (.ireturn, 1) := by decide +kernel
theorem dX11_failure_0 : decode cX11_failure 0 = .ok (.iload_n 1, 1) := by decide +kernel
theorem dX11_failure_1 : decode cX11_failure 1 = .ok (.aload_n 0, 1) := by decide +kernel
theorem dX11_failure_2 : decode cX11_failure 2 = .ok (.getfield 27, 3) := by decide +kernel
theorem dX11_failure_5 : decode cX11_failure 5 = .ok (.getfield 95, 3) := by decide +kernel
theorem dX11_failure_8 : decode cX11_failure 8 = .ok (.getfield 99, 3) := by decide +kernel
theorem dX11_failure_11 : decode cX11_failure 11 = .ok (.invokestatic 31, 3) := by decide +kernel
theorem dX11_failure_14 : decode cX11_failure 14 = .ok (.ifCond .ne 6, 3) := by decide +kernel
theorem dX11_failure_17 : decode cX11_failure 17 = .ok (.bipush (-101), 2) := by decide +kernel
theorem dX11_failure_19 : decode cX11_failure 19 = .ok (.ireturn, 1) := by decide +kernel
theorem dX11_failure_20 : decode cX11_failure 20 = .ok (.iload_n 2, 1) := by decide +kernel
theorem dX11_failure_21 : decode cX11_failure 21 = .ok (.bipush 6, 2) := by decide +kernel
theorem dX11_failure_23 : decode cX11_failure 23 = .ok (.invokestatic 31, 3) := by decide +kernel
theorem dX11_failure_26 : decode cX11_failure 26 = .ok (.ifCond .eq 18, 3) := by decide +kernel
theorem dX11_failure_29 : decode cX11_failure 29 = .ok (.aload_n 0, 1) := by decide +kernel
theorem dX11_failure_30 : decode cX11_failure 30 = .ok (.getfield 27, 3) := by decide +kernel
theorem dX11_failure_33 : decode cX11_failure 33 = .ok (.getfield 95, 3) := by decide +kernel
theorem dX11_failure_36 : decode cX11_failure 36 = .ok (.iload_n 1, 1) := by decide +kernel
theorem dX11_failure_37 : decode cX11_failure 37 = .ok (.iload_n 2, 1) := by decide +kernel
theorem dX11_failure_38 : decode cX11_failure 38 = .ok (.invokevirtual 102, 3) := by decide +kernel
theorem dX11_failure_41 : decode cX11_failure 41 = .ok (.goto 5, 3) := by decide +kernel
theorem dX11_failure_44 : decode cX11_failure 44 = .ok (.bipush (-102), 2) := by decide +kernel
theorem dX11_failure_46 : decode cX11_failure 46 = .ok (.ireturn, 1) := by decide +kernel
theorem dX11_leaks_0 : decode cX11_leaks 0 = .ok (.aload_n 0, 1) := by decide +kernel
theorem dX11_leaks_1 : decode cX11_leaks 1 = .ok (.getfield 14, 3) := by decide +kernel
theorem dX11_leaks_4 : decode cX11_leaks 4 = .ok (.getfield 104, 3) := by decide +kernel
theorem dX11_leaks_7 : decode cX11_leaks 7 = .ok (.ireturn, 1) := by decide +kernel
theorem dX11_leak_0 : decode cX11_leak 0 = .ok (.aload_n 0, 1) := by decide +kernel
theorem dX11_leak_1 : decode cX11_leak 1 = .ok (.getfield 14, 3) := by decide +kernel
theorem dX11_leak_4 : decode cX11_leak 4 = .ok (.iload_n 1, 1) := by decide +kernel
theorem dX11_leak_5 : decode cX11_leak 5 = .ok (.invokevirtual 107, 3) := by decide +kernel
theorem dX11_leak_8 : decode cX11_leak 8 = .ok (.astore_n 3, 1) := by decide +kernel
theorem dX11_leak_9 : decode cX11_leak 9 = .ok (.aload_n 3, 1) := by decide +kernel
theorem dX11_leak_10 : decode cX11_leak 10 = .ok (.ifnonnull 6, 3) := by decide +kernel
theorem dX11_leak_13 : decode cX11_leak 13 = .ok (.bipush (-101), 2) := by decide +kernel
theorem dX11_leak_15 : decode cX11_leak 15 = .ok (.ireturn, 1) := by decide +kernel
theorem dX11_leak_16 : decode cX11_leak 16 = .ok (.iload_n 2, 1) := by decide +kernel
theorem dX11_leak_17 : decode cX11_leak 17 = .ok (.tableswitch 42 0 2 #[27, 32, 37], 27) := by decide +kernel
theorem dX11_leak_44 : decode cX11_leak 44 = .ok (.aload_n 3, 1) := by decide +kernel
theorem dX11_leak_45 : decode cX11_leak 45 = .ok (.getfield 110, 3) := by decide +kernel
theorem dX11_leak_48 : decode cX11_leak 48 = .ok (.ireturn, 1) := by decide +kernel
theorem dX11_leak_49 : decode cX11_leak 49 = .ok (.aload_n 3, 1) := by decide +kernel
theorem dX11_leak_50 : decode cX11_leak 50 = .ok (.getfield 113, 3) := by decide +kernel
theorem dX11_leak_53 : decode cX11_leak 53 = .ok (.ireturn, 1) := by decide +kernel
theorem dX11_leak_54 : decode cX11_leak 54 = .ok (.aload_n 3, 1) := by decide +kernel
theorem dX11_leak_55 : decode cX11_leak 55 = .ok (.getfield 116, 3) := by decide +kernel
theorem dX11_leak_58 : decode cX11_leak 58 = .ok (.ireturn, 1) := by decide +kernel
theorem dX11_leak_59 : decode cX11_leak 59 = .ok (.bipush (-102), 2) := by decide +kernel
theorem dX11_leak_61 : decode cX11_leak 61 = .ok (.ireturn, 1) := by decide +kernel
theorem dX11_trace_0 : decode cX11_trace 0 = .ok (.aload_n 0, 1) := by decide +kernel
theorem dX11_trace_1 : decode cX11_trace 1 = .ok (.getfield 14, 3) := by decide +kernel
theorem dX11_trace_4 : decode cX11_trace 4 = .ok (.iload_n 1, 1) := by decide +kernel
theorem dX11_trace_5 : decode cX11_trace 5 = .ok (.invokevirtual 107, 3) := by decide +kernel
theorem dX11_trace_8 : decode cX11_trace 8 = .ok (.astore 4, 2) := by decide +kernel
theorem dX11_trace_10 : decode cX11_trace 10 = .ok (.aload 4, 2) := by decide +kernel
theorem dX11_trace_12 : decode cX11_trace 12 = .ok (.ifnull 15, 3) := by decide +kernel
theorem dX11_trace_15 : decode cX11_trace 15 = .ok (.iload_n 2, 1) := by decide +kernel
theorem dX11_trace_16 : decode cX11_trace 16 = .ok (.aload 4, 2) := by decide +kernel
theorem dX11_trace_18 : decode cX11_trace 18 = .ok (.getfield 116, 3) := by decide +kernel
theorem dX11_trace_21 : decode cX11_trace 21 = .ok (.invokestatic 31, 3) := by decide +kernel
theorem dX11_trace_24 : decode cX11_trace 24 = .ok (.ifCond .ne 6, 3) := by decide +kernel
theorem dX11_trace_27 : decode cX11_trace 27 = .ok (.bipush (-101), 2) := by decide +kernel
theorem dX11_trace_29 : decode cX11_trace 29 = .ok (.ireturn, 1) := by decide +kernel
theorem dX11_trace_30 : decode cX11_trace 30 = .ok (.iload_n 3, 1) := by decide +kernel
theorem dX11_trace_31 : decode cX11_trace 31 = .ok (.iconst 2, 1) := by decide +kernel
theorem dX11_trace_32 : decode cX11_trace 32 = .ok (.invokestatic 31, 3) := by decide +kernel
theorem dX11_trace_35 : decode cX11_trace 35 = .ok (.ifCond .ne 6, 3) := by decide +kernel
theorem dX11_trace_38 : decode cX11_trace 38 = .ok (.bipush (-102), 2) := by decide +kernel
theorem dX11_trace_40 : decode cX11_trace 40 = .ok (.ireturn, 1) := by decide +kernel
theorem dX11_trace_41 : decode cX11_trace 41 = .ok (.iload_n 3, 1) := by decide +kernel
theorem dX11_trace_42 : decode cX11_trace 42 = .ok (.ifCond .ne 13, 3) := by decide +kernel
theorem dX11_trace_45 : decode cX11_trace 45 = .ok (.aload 4, 2) := by decide +kernel
theorem dX11_trace_47 : decode cX11_trace 47 = .ok (.getfield 119, 3) := by decide +kernel
theorem dX11_trace_50 : decode cX11_trace 50 = .ok (.iload_n 2, 1) := by decide +kernel
theorem dX11_trace_51 : decode cX11_trace 51 = .ok (.iaload, 1) := by decide +kernel
theorem dX11_trace_52 : decode cX11_trace 52 = .ok (.goto 10, 3) := by decide +kernel
theorem dX11_trace_55 : decode cX11_trace 55 = .ok (.aload 4, 2) := by decide +kernel
theorem dX11_trace_57 : decode cX11_trace 57 = .ok (.getfield 123, 3) := by decide +kernel
theorem dX11_trace_60 : decode cX11_trace 60 = .ok (.iload_n 2, 1) := by decide +kernel
theorem dX11_trace_61 : decode cX11_trace 61 = .ok (.iaload, 1) := by decide +kernel
theorem dX11_trace_62 : decode cX11_trace 62 = .ok (.ireturn, 1) := by decide +kernel
theorem dX11_giveBack_0 : decode cX11_giveBack 0 = .ok (.aload_n 0, 1) := by decide +kernel
theorem dX11_giveBack_1 : decode cX11_giveBack 1 = .ok (.getfield 14, 3) := by decide +kernel
theorem dX11_giveBack_4 : decode cX11_giveBack 4 = .ok (.iload_n 1, 1) := by decide +kernel
theorem dX11_giveBack_5 : decode cX11_giveBack 5 = .ok (.invokevirtual 107, 3) := by decide +kernel
theorem dX11_giveBack_8 : decode cX11_giveBack 8 = .ok (.astore_n 2, 1) := by decide +kernel
theorem dX11_giveBack_9 : decode cX11_giveBack 9 = .ok (.aload_n 2, 1) := by decide +kernel
theorem dX11_giveBack_10 : decode cX11_giveBack 10 = .ok (.ifnonnull 6, 3) := by decide +kernel
theorem dX11_giveBack_13 : decode cX11_giveBack 13 = .ok (.bipush (-101), 2) := by decide +kernel
theorem dX11_giveBack_15 : decode cX11_giveBack 15 = .ok (.ireturn, 1) := by decide +kernel
theorem dX11_giveBack_16 : decode cX11_giveBack 16 = .ok (.aload_n 0, 1) := by decide +kernel
theorem dX11_giveBack_17 : decode cX11_giveBack 17 = .ok (.getfield 14, 3) := by decide +kernel
theorem dX11_giveBack_20 : decode cX11_giveBack 20 = .ok (.aload_n 2, 1) := by decide +kernel
theorem dX11_giveBack_21 : decode cX11_giveBack 21 = .ok (.iconst 3, 1) := by decide +kernel
theorem dX11_giveBack_22 : decode cX11_giveBack 22 = .ok (.invokevirtual 126, 3) := by decide +kernel
theorem dX11_giveBack_25 : decode cX11_giveBack 25 = .ok (.ifCond .eq 7, 3) := by decide +kernel
theorem dX11_giveBack_28 : decode cX11_giveBack 28 = .ok (.iconst 0, 1) := by decide +kernel
theorem dX11_giveBack_29 : decode cX11_giveBack 29 = .ok (.goto 4, 3) := by decide +kernel
theorem dX11_giveBack_32 : decode cX11_giveBack 32 = .ok (.iconst 1, 1) := by decide +kernel
theorem dX11_giveBack_33 : decode cX11_giveBack 33 = .ok (.ireturn, 1) := by decide +kernel
theorem dX11_cents_0 : decode cX11_cents 0 = .ok (.iload_n 1, 1) := by decide +kernel
theorem dX11_cents_1 : decode cX11_cents 1 = .ok (.bipush 8, 2) := by decide +kernel
theorem dX11_cents_3 : decode cX11_cents 3 = .ok (.invokestatic 31, 3) := by decide +kernel
theorem dX11_cents_6 : decode cX11_cents 6 = .ok (.ifCond .ne 7, 3) := by decide +kernel
theorem dX11_cents_9 : decode cX11_cents 9 = .ok (.ldc2_w 130, 3) := by decide +kernel
theorem dX11_cents_12 : decode cX11_cents 12 = .ok (.lreturn, 1) := by decide +kernel
theorem dX11_cents_13 : decode cX11_cents 13 = .ok (.iload_n 2, 1) := by decide +kernel
theorem dX11_cents_14 : decode cX11_cents 14 = .ok (.iconst 2, 1) := by decide +kernel
theorem dX11_cents_15 : decode cX11_cents 15 = .ok (.invokestatic 31, 3) := by decide +kernel
theorem dX11_cents_18 : decode cX11_cents 18 = .ok (.ifCond .ne 7, 3) := by decide +kernel
theorem dX11_cents_21 : decode cX11_cents 21 = .ok (.ldc2_w 132, 3) := by decide +kernel
theorem dX11_cents_24 : decode cX11_cents 24 = .ok (.lreturn, 1) := by decide +kernel
theorem dX11_cents_25 : decode cX11_cents 25 = .ok (.iload_n 2, 1) := by decide +kernel
theorem dX11_cents_26 : decode cX11_cents 26 = .ok (.ifCond .ne 14, 3) := by decide +kernel
theorem dX11_cents_29 : decode cX11_cents 29 = .ok (.aload_n 0, 1) := by decide +kernel
theorem dX11_cents_30 : decode cX11_cents 30 = .ok (.getfield 14, 3) := by decide +kernel
theorem dX11_cents_33 : decode cX11_cents 33 = .ok (.iload_n 1, 1) := by decide +kernel
theorem dX11_cents_34 : decode cX11_cents 34 = .ok (.invokevirtual 134, 3) := by decide +kernel
theorem dX11_cents_37 : decode cX11_cents 37 = .ok (.goto 12, 3) := by decide +kernel
theorem dX11_cents_40 : decode cX11_cents 40 = .ok (.aload_n 0, 1) := by decide +kernel
theorem dX11_cents_41 : decode cX11_cents 41 = .ok (.getfield 14, 3) := by decide +kernel
theorem dX11_cents_44 : decode cX11_cents 44 = .ok (.getfield 138, 3) := by decide +kernel
theorem dX11_cents_47 : decode cX11_cents 47 = .ok (.iload_n 1, 1) := by decide +kernel
theorem dX11_cents_48 : decode cX11_cents 48 = .ok (.laload, 1) := by decide +kernel
theorem dX11_cents_49 : decode cX11_cents 49 = .ok (.lreturn, 1) := by decide +kernel
theorem dX11_log_0 : decode cX11_log 0 = .ok (.iload_n 2, 1) := by decide +kernel
theorem dX11_log_1 : decode cX11_log 1 = .ok (.iconst 3, 1) := by decide +kernel
theorem dX11_log_2 : decode cX11_log 2 = .ok (.invokestatic 31, 3) := by decide +kernel
theorem dX11_log_5 : decode cX11_log 5 = .ok (.ifCond .eq 18, 3) := by decide +kernel
theorem dX11_log_8 : decode cX11_log 8 = .ok (.aload_n 0, 1) := by decide +kernel
theorem dX11_log_9 : decode cX11_log 9 = .ok (.getfield 14, 3) := by decide +kernel
theorem dX11_log_12 : decode cX11_log 12 = .ok (.getfield 142, 3) := by decide +kernel
theorem dX11_log_15 : decode cX11_log 15 = .ok (.iload_n 1, 1) := by decide +kernel
theorem dX11_log_16 : decode cX11_log 16 = .ok (.iload_n 2, 1) := by decide +kernel
theorem dX11_log_17 : decode cX11_log 17 = .ok (.invokevirtual 146, 3) := by decide +kernel
theorem dX11_log_20 : decode cX11_log 20 = .ok (.goto 5, 3) := by decide +kernel
theorem dX11_log_23 : decode cX11_log 23 = .ok (.bipush (-102), 2) := by decide +kernel
theorem dX11_log_25 : decode cX11_log 25 = .ok (.ireturn, 1) := by decide +kernel
theorem dX11_within_0 : decode cX11_within 0 = .ok (.iload_n 0, 1) := by decide +kernel
theorem dX11_within_1 : decode cX11_within 1 = .ok (.ifCond .lt 12, 3) := by decide +kernel
theorem dX11_within_4 : decode cX11_within 4 = .ok (.iload_n 0, 1) := by decide +kernel
theorem dX11_within_5 : decode cX11_within 5 = .ok (.iload_n 1, 1) := by decide +kernel
theorem dX11_within_6 : decode cX11_within 6 = .ok (.if_icmp .ge 7, 3) := by decide +kernel
theorem dX11_within_9 : decode cX11_within 9 = .ok (.iconst 1, 1) := by decide +kernel
theorem dX11_within_10 : decode cX11_within 10 = .ok (.goto 4, 3) := by decide +kernel
theorem dX11_within_13 : decode cX11_within 13 = .ok (.iconst 0, 1) := by decide +kernel
theorem dX11_within_14 : decode cX11_within 14 = .ok (.ireturn, 1) := by decide +kernel
theorem dX11_findScript_0 : decode cX11_findScript 0 = .ok (.iload_n 1, 1) := by decide +kernel
theorem dX11_findScript_1 : decode cX11_findScript 1 = .ok (.aload_n 0, 1) := by decide +kernel
theorem dX11_findScript_2 : decode cX11_findScript 2 = .ok (.arraylength, 1) := by decide +kernel
theorem dX11_findScript_3 : decode cX11_findScript 3 = .ok (.invokestatic 31, 3) := by decide +kernel
theorem dX11_findScript_6 : decode cX11_findScript 6 = .ok (.ifCond .eq 9, 3) := by decide +kernel
theorem dX11_findScript_9 : decode cX11_findScript 9 = .ok (.aload_n 0, 1) := by decide +kernel
theorem dX11_findScript_10 : decode cX11_findScript 10 = .ok (.iload_n 1, 1) := by decide +kernel
theorem dX11_findScript_11 : decode cX11_findScript 11 = .ok (.aaload, 1) := by decide +kernel
theorem dX11_findScript_12 : decode cX11_findScript 12 = .ok (.goto 4, 3) := by decide +kernel
theorem dX11_findScript_15 : decode cX11_findScript 15 = .ok (.aconst_null, 1) := by decide +kernel
theorem dX11_findScript_16 : decode cX11_findScript 16 = .ok (.areturn, 1) := by decide +kernel
theorem dX11_isUnder_0 : decode cX11_isUnder 0 = .ok (.iload_n 0, 1) := by decide +kernel
theorem dX11_isUnder_1 : decode cX11_isUnder 1 = .ok (.istore_n 2, 1) := by decide +kernel
theorem dX11_isUnder_2 : decode cX11_isUnder 2 = .ok (.iconst 0, 1) := by decide +kernel
theorem dX11_isUnder_3 : decode cX11_isUnder 3 = .ok (.istore_n 3, 1) := by decide +kernel
theorem dX11_isUnder_4 : decode cX11_isUnder 4 = .ok (.iload_n 3, 1) := by decide +kernel
theorem dX11_isUnder_5 : decode cX11_isUnder 5 = .ok (.bipush 12, 2) := by decide +kernel
theorem dX11_isUnder_7 : decode cX11_isUnder 7 = .ok (.if_icmp .ge 31, 3) := by decide +kernel
theorem dX11_isUnder_10 : decode cX11_isUnder 10 = .ok (.iload_n 2, 1) := by decide +kernel
theorem dX11_isUnder_11 : decode cX11_isUnder 11 = .ok (.bipush 12, 2) := by decide +kernel
theorem dX11_isUnder_13 : decode cX11_isUnder 13 = .ok (.invokestatic 31, 3) := by decide +kernel
theorem dX11_isUnder_16 : decode cX11_isUnder 16 = .ok (.ifCond .eq 22, 3) := by decide +kernel
theorem dX11_isUnder_19 : decode cX11_isUnder 19 = .ok (.iload_n 2, 1) := by decide +kernel
theorem dX11_isUnder_20 : decode cX11_isUnder 20 = .ok (.iload_n 1, 1) := by decide +kernel
theorem dX11_isUnder_21 : decode cX11_isUnder 21 = .ok (.if_icmp .ne 5, 3) := by decide +kernel
theorem dX11_isUnder_24 : decode cX11_isUnder 24 = .ok (.iconst 1, 1) := by decide +kernel
theorem dX11_isUnder_25 : decode cX11_isUnder 25 = .ok (.ireturn, 1) := by decide +kernel
theorem dX11_isUnder_26 : decode cX11_isUnder 26 = .ok (.getstatic 149, 3) := by decide +kernel
theorem dX11_isUnder_29 : decode cX11_isUnder 29 = .ok (.iload_n 2, 1) := by decide +kernel
theorem dX11_isUnder_30 : decode cX11_isUnder 30 = .ok (.iaload, 1) := by decide +kernel
theorem dX11_isUnder_31 : decode cX11_isUnder 31 = .ok (.istore_n 2, 1) := by decide +kernel
theorem dX11_isUnder_32 : decode cX11_isUnder 32 = .ok (.iinc 3 1, 3) := by decide +kernel
theorem dX11_isUnder_35 : decode cX11_isUnder 35 = .ok (.goto (-31), 3) := by decide +kernel
theorem dX11_isUnder_38 : decode cX11_isUnder 38 = .ok (.iconst 0, 1) := by decide +kernel
theorem dX11_isUnder_39 : decode cX11_isUnder 39 = .ok (.ireturn, 1) := by decide +kernel
theorem dX12_init_0 : decode cX12_init 0 = .ok (.aload_n 0, 1) := by decide +kernel
theorem dX12_init_1 : decode cX12_init 1 = .ok (.invokespecial 1, 3) := by decide +kernel
theorem dX12_init_4 : decode cX12_init 4 = .ok (.aload_n 0, 1) := by decide +kernel
theorem dX12_init_5 : decode cX12_init 5 = .ok (.bipush 60, 2) := by decide +kernel
theorem dX12_init_7 : decode cX12_init 7 = .ok (.newarray .int, 2) := by decide +kernel
theorem dX12_init_9 : decode cX12_init 9 = .ok (.putfield 7, 3) := by decide +kernel
theorem dX12_init_12 : decode cX12_init 12 = .ok (.aload_n 0, 1) := by decide +kernel
theorem dX12_init_13 : decode cX12_init 13 = .ok (.bipush 60, 2) := by decide +kernel
theorem dX12_init_15 : decode cX12_init 15 = .ok (.newarray .int, 2) := by decide +kernel
theorem dX12_init_17 : decode cX12_init 17 = .ok (.putfield 13, 3) := by decide +kernel
theorem dX12_init_20 : decode cX12_init 20 = .ok (.aload_n 0, 1) := by decide +kernel
theorem dX12_init_21 : decode cX12_init 21 = .ok (.bipush 60, 2) := by decide +kernel
theorem dX12_init_23 : decode cX12_init 23 = .ok (.newarray .int, 2) := by decide +kernel
theorem dX12_init_25 : decode cX12_init 25 = .ok (.putfield 16, 3) := by decide +kernel
theorem dX12_init_28 : decode cX12_init 28 = .ok (.aload_n 0, 1) := by decide +kernel
theorem dX12_init_29 : decode cX12_init 29 = .ok (.bipush 60, 2) := by decide +kernel
theorem dX12_init_31 : decode cX12_init 31 = .ok (.newarray .int, 2) := by decide +kernel
theorem dX12_init_33 : decode cX12_init 33 = .ok (.putfield 19, 3) := by decide +kernel
theorem dX12_init_36 : decode cX12_init 36 = .ok (.aload_n 0, 1) := by decide +kernel
theorem dX12_init_37 : decode cX12_init 37 = .ok (.bipush 30, 2) := by decide +kernel
theorem dX12_init_39 : decode cX12_init 39 = .ok (.newarray .int, 2) := by decide +kernel
theorem dX12_init_41 : decode cX12_init 41 = .ok (.putfield 22, 3) := by decide +kernel
theorem dX12_init_44 : decode cX12_init 44 = .ok (.aload_n 0, 1) := by decide +kernel
theorem dX12_init_45 : decode cX12_init 45 = .ok (.bipush 30, 2) := by decide +kernel
theorem dX12_init_47 : decode cX12_init 47 = .ok (.newarray .int, 2) := by decide +kernel
theorem dX12_init_49 : decode cX12_init 49 = .ok (.putfield 25, 3) := by decide +kernel
theorem dX12_init_52 : decode cX12_init 52 = .ok (.aload_n 0, 1) := by decide +kernel
theorem dX12_init_53 : decode cX12_init 53 = .ok (.bipush 30, 2) := by decide +kernel
theorem dX12_init_55 : decode cX12_init 55 = .ok (.newarray .int, 2) := by decide +kernel
theorem dX12_init_57 : decode cX12_init 57 = .ok (.putfield 28, 3) := by decide +kernel
theorem dX12_init_60 : decode cX12_init 60 = .ok (.aload_n 0, 1) := by decide +kernel
theorem dX12_init_61 : decode cX12_init 61 = .ok (.bipush 30, 2) := by decide +kernel
theorem dX12_init_63 : decode cX12_init 63 = .ok (.newarray .int, 2) := by decide +kernel
theorem dX12_init_65 : decode cX12_init 65 = .ok (.putfield 31, 3) := by decide +kernel
theorem dX12_init_68 : decode cX12_init 68 = .ok (.aload_n 0, 1) := by decide +kernel
theorem dX12_init_69 : decode cX12_init 69 = .ok (.bipush 8, 2) := by decide +kernel
theorem dX12_init_71 : decode cX12_init 71 = .ok (.newarray .long, 2) := by decide +kernel
theorem dX12_init_73 : decode cX12_init 73 = .ok (.putfield 34, 3) := by decide +kernel
theorem dX12_init_76 : decode cX12_init 76 = .ok (.aload_n 0, 1) := by decide +kernel
theorem dX12_init_77 : decode cX12_init 77 = .ok (.bipush 60, 2) := by decide +kernel
theorem dX12_init_79 : decode cX12_init 79 = .ok (.newarray .int, 2) := by decide +kernel
theorem dX12_init_81 : decode cX12_init 81 = .ok (.putfield 38, 3) := by decide +kernel
theorem dX12_init_84 : decode cX12_init 84 = .ok (.aload_n 0, 1) := by decide +kernel
theorem dX12_init_85 : decode cX12_init 85 = .ok (.bipush 60, 2) := by decide +kernel
theorem dX12_init_87 : decode cX12_init 87 = .ok (.newarray .int, 2) := by decide +kernel
theorem dX12_init_89 : decode cX12_init 89 = .ok (.putfield 41, 3) := by decide +kernel
theorem dX12_init_92 : decode cX12_init 92 = .ok (.aload_n 0, 1) := by decide +kernel
theorem dX12_init_93 : decode cX12_init 93 = .ok (.bipush 60, 2) := by decide +kernel
theorem dX12_init_95 : decode cX12_init 95 = .ok (.newarray .int, 2) := by decide +kernel
theorem dX12_init_97 : decode cX12_init 97 = .ok (.putfield 44, 3) := by decide +kernel
theorem dX12_init_100 : decode cX12_init 100 = .ok (.aload_n 0, 1) := by decide +kernel
theorem dX12_init_101 : decode cX12_init 101 = .ok (.bipush 12, 2) := by decide +kernel
theorem dX12_init_103 : decode cX12_init 103 = .ok (.newarray .int, 2) := by decide +kernel
theorem dX12_init_105 : decode cX12_init 105 = .ok (.putfield 47, 3) := by decide +kernel
theorem dX12_init_108 : decode cX12_init 108 = .ok (.aload_n 0, 1) := by decide +kernel
theorem dX12_init_109 : decode cX12_init 109 = .ok (.sipush 480, 3) := by decide +kernel
theorem dX12_init_112 : decode cX12_init 112 = .ok (.newarray .int, 2) := by decide +kernel
theorem dX12_init_114 : decode cX12_init 114 = .ok (.putfield 50, 3) := by decide +kernel
theorem dX12_init_117 : decode cX12_init 117 = .ok (.aload_n 0, 1) := by decide +kernel
theorem dX12_init_118 : decode cX12_init 118 = .ok (.sipush 480, 3) := by decide +kernel
theorem dX12_init_121 : decode cX12_init 121 = .ok (.newarray .int, 2) := by decide +kernel
theorem dX12_init_123 : decode cX12_init 123 = .ok (.putfield 53, 3) := by decide +kernel
theorem dX12_init_126 : decode cX12_init 126 = .ok (.aload_n 0, 1) := by decide +kernel
theorem dX12_init_127 : decode cX12_init 127 = .ok (.sipush 480, 3) := by decide +kernel
theorem dX12_init_130 : decode cX12_init 130 = .ok (.newarray .int, 2) := by decide +kernel
theorem dX12_init_132 : decode cX12_init 132 = .ok (.putfield 56, 3) := by decide +kernel
theorem dX12_init_135 : decode cX12_init 135 = .ok (.aload_n 0, 1) := by decide +kernel
theorem dX12_init_136 : decode cX12_init 136 = .ok (.bipush 50, 2) := by decide +kernel
theorem dX12_init_138 : decode cX12_init 138 = .ok (.newarray .int, 2) := by decide +kernel
theorem dX12_init_140 : decode cX12_init 140 = .ok (.putfield 59, 3) := by decide +kernel
theorem dX12_init_143 : decode cX12_init 143 = .ok (.aload_n 0, 1) := by decide +kernel
theorem dX12_init_144 : decode cX12_init 144 = .ok (.bipush 50, 2) := by decide +kernel
theorem dX12_init_146 : decode cX12_init 146 = .ok (.newarray .boolean, 2) := by decide +kernel
theorem dX12_init_148 : decode cX12_init 148 = .ok (.putfield 62, 3) := by decide +kernel
theorem dX12_init_151 : decode cX12_init 151 = .ok (.aload_n 0, 1) := by decide +kernel
theorem dX12_init_152 : decode cX12_init 152 = .ok (.sipush 150, 3) := by decide +kernel
theorem dX12_init_155 : decode cX12_init 155 = .ok (.newarray .int, 2) := by decide +kernel
theorem dX12_init_157 : decode cX12_init 157 = .ok (.putfield 66, 3) := by decide +kernel
theorem dX12_init_160 : decode cX12_init 160 = .ok (.aload_n 0, 1) := by decide +kernel
theorem dX12_init_161 : decode cX12_init 161 = .ok (.sipush 150, 3) := by decide +kernel
theorem dX12_init_164 : decode cX12_init 164 = .ok (.newarray .int, 2) := by decide +kernel
theorem dX12_init_166 : decode cX12_init 166 = .ok (.putfield 69, 3) := by decide +kernel
theorem dX12_init_169 : decode cX12_init 169 = .ok (.aload_n 0, 1) := by decide +kernel
theorem dX12_init_170 : decode cX12_init 170 = .ok (.sipush 150, 3) := by decide +kernel
theorem dX12_init_173 : decode cX12_init 173 = .ok (.newarray .int, 2) := by decide +kernel
theorem dX12_init_175 : decode cX12_init 175 = .ok (.putfield 72, 3) := by decide +kernel
theorem dX12_init_178 : decode cX12_init 178 = .ok (.aload_n 0, 1) := by decide +kernel
theorem dX12_init_179 : decode cX12_init 179 = .ok (.sipush 150, 3) := by decide +kernel
theorem dX12_init_182 : decode cX12_init 182 = .ok (.newarray .int, 2) := by decide +kernel
theorem dX12_init_184 : decode cX12_init 184 = .ok (.putfield 75, 3) := by decide +kernel
theorem dX12_init_187 : decode cX12_init 187 = .ok (.aload_n 0, 1) := by decide +kernel
theorem dX12_init_188 : decode cX12_init 188 = .ok (.sipush 150, 3) := by decide +kernel
theorem dX12_init_191 : decode cX12_init 191 = .ok (.newarray .int, 2) := by decide +kernel
theorem dX12_init_193 : decode cX12_init 193 = .ok (.putfield 78, 3) := by decide +kernel
theorem dX12_init_196 : decode cX12_init 196 = .ok (.aload_n 0, 1) := by decide +kernel
theorem dX12_init_197 : decode cX12_init 197 = .ok (.sipush 150, 3) := by decide +kernel
theorem dX12_init_200 : decode cX12_init 200 = .ok (.newarray .int, 2) := by decide +kernel
theorem dX12_init_202 : decode cX12_init 202 = .ok (.putfield 81, 3) := by decide +kernel
theorem dX12_init_205 : decode cX12_init 205 = .ok (.aload_n 0, 1) := by decide +kernel
theorem dX12_init_206 : decode cX12_init 206 = .ok (.bipush 88, 2) := by decide +kernel
theorem dX12_init_208 : decode cX12_init 208 = .ok (.newarray .int, 2) := by decide +kernel
theorem dX12_init_210 : decode cX12_init 210 = .ok (.putfield 84, 3) := by decide +kernel
theorem dX12_init_213 : decode cX12_init 213 = .ok (.aload_n 0, 1) := by decide +kernel
theorem dX12_init_214 : decode cX12_init 214 = .ok (.sipush 180, 3) := by decide +kernel
theorem dX12_init_217 : decode cX12_init 217 = .ok (.newarray .int, 2) := by decide +kernel
theorem dX12_init_219 : decode cX12_init 219 = .ok (.putfield 87, 3) := by decide +kernel
theorem dX12_init_222 : decode cX12_init 222 = .ok (.aload_n 0, 1) := by decide +kernel
theorem dX12_init_223 : decode cX12_init 223 = .ok (.sipush 180, 3) := by decide +kernel
theorem dX12_init_226 : decode cX12_init 226 = .ok (.newarray .int, 2) := by decide +kernel
theorem dX12_init_228 : decode cX12_init 228 = .ok (.putfield 90, 3) := by decide +kernel
theorem dX12_init_231 : decode cX12_init 231 = .ok (.aload_n 0, 1) := by decide +kernel
theorem dX12_init_232 : decode cX12_init 232 = .ok (.sipush 180, 3) := by decide +kernel
theorem dX12_init_235 : decode cX12_init 235 = .ok (.newarray .int, 2) := by decide +kernel
theorem dX12_init_237 : decode cX12_init 237 = .ok (.putfield 93, 3) := by decide +kernel
theorem dX12_init_240 : decode cX12_init 240 = .ok (.aload_n 0, 1) := by decide +kernel
theorem dX12_init_241 : decode cX12_init 241 = .ok (.sipush 180, 3) := by decide +kernel
theorem dX12_init_244 : decode cX12_init 244 = .ok (.newarray .int, 2) := by decide +kernel
theorem dX12_init_246 : decode cX12_init 246 = .ok (.putfield 96, 3) := by decide +kernel
theorem dX12_init_249 : decode cX12_init 249 = .ok (.aload_n 0, 1) := by decide +kernel
theorem dX12_init_250 : decode cX12_init 250 = .ok (.sipush 180, 3) := by decide +kernel
theorem dX12_init_253 : decode cX12_init 253 = .ok (.newarray .int, 2) := by decide +kernel
theorem dX12_init_255 : decode cX12_init 255 = .ok (.putfield 99, 3) := by decide +kernel
theorem dX12_init_258 : decode cX12_init 258 = .ok (.aload_n 0, 1) := by decide +kernel
theorem dX12_init_259 : decode cX12_init 259 = .ok (.sipush 180, 3) := by decide +kernel
theorem dX12_init_262 : decode cX12_init 262 = .ok (.newarray .boolean, 2) := by decide +kernel
theorem dX12_init_264 : decode cX12_init 264 = .ok (.putfield 102, 3) := by decide +kernel
theorem dX12_init_267 : decode cX12_init 267 = .ok (.aload_n 0, 1) := by decide +kernel
theorem dX12_init_268 : decode cX12_init 268 = .ok (.sipush 180, 3) := by decide +kernel
theorem dX12_init_271 : decode cX12_init 271 = .ok (.newarray .int, 2) := by decide +kernel
theorem dX12_init_273 : decode cX12_init 273 = .ok (.putfield 105, 3) := by decide +kernel
theorem dX12_init_276 : decode cX12_init 276 = .ok (.aload_n 0, 1) := by decide +kernel
theorem dX12_init_277 : decode cX12_init 277 = .ok (.sipush 3600, 3) := by decide +kernel
theorem dX12_init_280 : decode cX12_init 280 = .ok (.newarray .int, 2) := by decide +kernel
theorem dX12_init_282 : decode cX12_init 282 = .ok (.putfield 108, 3) := by decide +kernel
theorem dX12_init_285 : decode cX12_init 285 = .ok (.aload_n 0, 1) := by decide +kernel
theorem dX12_init_286 : decode cX12_init 286 = .ok (.bipush 16, 2) := by decide +kernel
theorem dX12_init_288 : decode cX12_init 288 = .ok (.newarray .int, 2) := by decide +kernel
theorem dX12_init_290 : decode cX12_init 290 = .ok (.putfield 111, 3) := by decide +kernel
theorem dX12_init_293 : decode cX12_init 293 = .ok (.aload_n 0, 1) := by decide +kernel
theorem dX12_init_294 : decode cX12_init 294 = .ok (.bipush 16, 2) := by decide +kernel
theorem dX12_init_296 : decode cX12_init 296 = .ok (.newarray .int, 2) := by decide +kernel
theorem dX12_init_298 : decode cX12_init 298 = .ok (.putfield 114, 3) := by decide +kernel
theorem dX12_init_301 : decode cX12_init 301 = .ok (.aload_n 0, 1) := by decide +kernel
theorem dX12_init_302 : decode cX12_init 302 = .ok (.bipush 16, 2) := by decide +kernel
theorem dX12_init_304 : decode cX12_init 304 = .ok (.newarray .int, 2) := by decide +kernel
theorem dX12_init_306 : decode cX12_init 306 = .ok (.putfield 117, 3) := by decide +kernel
theorem dX12_init_309 : decode cX12_init 309 = .ok (.aload_n 0, 1) := by decide +kernel
theorem dX12_init_310 : decode cX12_init 310 = .ok (.bipush 16, 2) := by decide +kernel
theorem dX12_init_312 : decode cX12_init 312 = .ok (.newarray .int, 2) := by decide +kernel
theorem dX12_init_314 : decode cX12_init 314 = .ok (.putfield 120, 3) := by decide +kernel
theorem dX12_init_317 : decode cX12_init 317 = .ok (.aload_n 0, 1) := by decide +kernel
theorem dX12_init_318 : decode cX12_init 318 = .ok (.bipush 16, 2) := by decide +kernel
theorem dX12_init_320 : decode cX12_init 320 = .ok (.newarray .int, 2) := by decide +kernel
theorem dX12_init_322 : decode cX12_init 322 = .ok (.putfield 123, 3) := by decide +kernel
theorem dX12_init_325 : decode cX12_init 325 = .ok (.aload_n 0, 1) := by decide +kernel
theorem dX12_init_326 : decode cX12_init 326 = .ok (.bipush 16, 2) := by decide +kernel
theorem dX12_init_328 : decode cX12_init 328 = .ok (.newarray .int, 2) := by decide +kernel
theorem dX12_init_330 : decode cX12_init 330 = .ok (.putfield 126, 3) := by decide +kernel
theorem dX12_init_333 : decode cX12_init 333 = .ok (.aload_n 0, 1) := by decide +kernel
theorem dX12_init_334 : decode cX12_init 334 = .ok (.iconst (-1), 1) := by decide +kernel
theorem dX12_init_335 : decode cX12_init 335 = .ok (.putfield 129, 3) := by decide +kernel
theorem dX12_init_338 : decode cX12_init 338 = .ok (.aload_n 0, 1) := by decide +kernel
theorem dX12_init_339 : decode cX12_init 339 = .ok (.bipush 60, 2) := by decide +kernel
theorem dX12_init_341 : decode cX12_init 341 = .ok (.newarray .int, 2) := by decide +kernel
theorem dX12_init_343 : decode cX12_init 343 = .ok (.putfield 133, 3) := by decide +kernel
theorem dX12_init_346 : decode cX12_init 346 = .ok (.aload_n 0, 1) := by decide +kernel
theorem dX12_init_347 : decode cX12_init 347 = .ok (.bipush 60, 2) := by decide +kernel
theorem dX12_init_349 : decode cX12_init 349 = .ok (.newarray .int, 2) := by decide +kernel
theorem dX12_init_351 : decode cX12_init 351 = .ok (.putfield 136, 3) := by decide +kernel
theorem dX12_init_354 : decode cX12_init 354 = .ok (.aload_n 0, 1) := by decide +kernel
theorem dX12_init_355 : decode cX12_init 355 = .ok (.bipush 60, 2) := by decide +kernel
theorem dX12_init_357 : decode cX12_init 357 = .ok (.newarray .int, 2) := by decide +kernel
theorem dX12_init_359 : decode cX12_init 359 = .ok (.putfield 139, 3) := by decide +kernel
theorem dX12_init_362 : decode cX12_init 362 = .ok (.aload_n 0, 1) := by decide +kernel
theorem dX12_init_363 : decode cX12_init 363 = .ok (.sipush 1200, 3) := by decide +kernel
theorem dX12_init_366 : decode cX12_init 366 = .ok (.newarray .int, 2) := by decide +kernel
theorem dX12_init_368 : decode cX12_init 368 = .ok (.putfield 142, 3) := by decide +kernel
theorem dX12_init_371 : decode cX12_init 371 = .ok (.return_, 1) := by decide +kernel
theorem dX12_in_0 : decode cX12_in 0 = .ok (.lload_n 0, 1) := by decide +kernel
theorem dX12_in_1 : decode cX12_in 1 = .ok (.lload_n 2, 1) := by decide +kernel
theorem dX12_in_2 : decode cX12_in 2 = .ok (.lcmp, 1) := by decide +kernel
theorem dX12_in_3 : decode cX12_in 3 = .ok (.ifCond .lt 14, 3) := by decide +kernel
theorem dX12_in_6 : decode cX12_in 6 = .ok (.lload_n 0, 1) := by decide +kernel
theorem dX12_in_7 : decode cX12_in 7 = .ok (.lload 4, 2) := by decide +kernel
theorem dX12_in_9 : decode cX12_in 9 = .ok (.lcmp, 1) := by decide +kernel
theorem dX12_in_10 : decode cX12_in 10 = .ok (.ifCond .gt 7, 3) := by decide +kernel
theorem dX12_in_13 : decode cX12_in 13 = .ok (.iconst 1, 1) := by decide +kernel
theorem dX12_in_14 : decode cX12_in 14 = .ok (.goto 4, 3) := by decide +kernel
theorem dX12_in_17 : decode cX12_in 17 = .ok (.iconst 0, 1) := by decide +kernel
theorem dX12_in_18 : decode cX12_in 18 = .ok (.ireturn, 1) := by decide +kernel
theorem dX12_part_0 : decode cX12_part 0 = .ok (.iload_n 1, 1) := by decide +kernel
theorem dX12_part_1 : decode cX12_part 1 = .ok (.i2l, 1) := by decide +kernel
theorem dX12_part_2 : decode cX12_part 2 = .ok (.lconst 0, 1) := by decide +kernel
theorem dX12_part_3 : decode cX12_part 3 = .ok (.ldc2_w 145, 3) := by decide +kernel
theorem dX12_part_6 : decode cX12_part 6 = .ok (.invokestatic 147, 3) := by decide +kernel
theorem dX12_part_9 : decode cX12_part 9 = .ok (.ifCond .eq 15, 3) := by decide +kernel
theorem dX12_part_12 : decode cX12_part 12 = .ok (.iload_n 2, 1) := by decide +kernel
theorem dX12_part_13 : decode cX12_part 13 = .ok (.i2l, 1) := by decide +kernel
theorem dX12_part_14 : decode cX12_part 14 = .ok (.lconst 0, 1) := by decide +kernel
theorem dX12_part_15 : decode cX12_part 15 = .ok (.ldc2_w 151, 3) := by decide +kernel
theorem dX12_part_18 : decode cX12_part 18 = .ok (.invokestatic 147, 3) := by decide +kernel
theorem dX12_part_21 : decode cX12_part 21 = .ok (.ifCond .ne 6, 3) := by decide +kernel
theorem dX12_part_24 : decode cX12_part 24 = .ok (.bipush (-102), 2) := by decide +kernel
theorem dX12_part_26 : decode cX12_part 26 = .ok (.ireturn, 1) := by decide +kernel
theorem dX12_part_27 : decode cX12_part 27 = .ok (.aload_n 0, 1) := by decide +kernel
theorem dX12_part_28 : decode cX12_part 28 = .ok (.getfield 153, 3) := by decide +kernel
theorem dX12_part_31 : decode cX12_part 31 = .ok (.bipush 60, 2) := by decide +kernel
theorem dX12_part_33 : decode cX12_part 33 = .ok (.if_icmp .ne 6, 3) := by decide +kernel
theorem dX12_part_36 : decode cX12_part 36 = .ok (.bipush (-104), 2) := by decide +kernel
theorem dX12_part_38 : decode cX12_part 38 = .ok (.ireturn, 1) := by decide +kernel
theorem dX12_part_39 : decode cX12_part 39 = .ok (.aload_n 0, 1) := by decide +kernel
theorem dX12_part_40 : decode cX12_part 40 = .ok (.getfield 7, 3) := by decide +kernel
theorem dX12_part_43 : decode cX12_part 43 = .ok (.aload_n 0, 1) := by decide +kernel
theorem dX12_part_44 : decode cX12_part 44 = .ok (.getfield 153, 3) := by decide +kernel
theorem dX12_part_47 : decode cX12_part 47 = .ok (.iload_n 1, 1) := by decide +kernel
theorem dX12_part_48 : decode cX12_part 48 = .ok (.iastore, 1) := by decide +kernel
theorem dX12_part_49 : decode cX12_part 49 = .ok (.aload_n 0, 1) := by decide +kernel
theorem dX12_part_50 : decode cX12_part 50 = .ok (.getfield 13, 3) := by decide +kernel
theorem dX12_part_53 : decode cX12_part 53 = .ok (.aload_n 0, 1) := by decide +kernel
theorem dX12_part_54 : decode cX12_part 54 = .ok (.getfield 153, 3) := by decide +kernel
theorem dX12_part_57 : decode cX12_part 57 = .ok (.iload_n 2, 1) := by decide +kernel
theorem dX12_part_58 : decode cX12_part 58 = .ok (.iastore, 1) := by decide +kernel
theorem dX12_part_59 : decode cX12_part 59 = .ok (.aload_n 0, 1) := by decide +kernel
theorem dX12_part_60 : decode cX12_part 60 = .ok (.getfield 16, 3) := by decide +kernel
theorem dX12_part_63 : decode cX12_part 63 = .ok (.aload_n 0, 1) := by decide +kernel
theorem dX12_part_64 : decode cX12_part 64 = .ok (.getfield 153, 3) := by decide +kernel
theorem dX12_part_67 : decode cX12_part 67 = .ok (.iconst 0, 1) := by decide +kernel
theorem dX12_part_68 : decode cX12_part 68 = .ok (.iastore, 1) := by decide +kernel
theorem dX12_part_69 : decode cX12_part 69 = .ok (.aload_n 0, 1) := by decide +kernel
theorem dX12_part_70 : decode cX12_part 70 = .ok (.dup, 1) := by decide +kernel
theorem dX12_part_71 : decode cX12_part 71 = .ok (.getfield 153, 3) := by decide +kernel
theorem dX12_part_74 : decode cX12_part 74 = .ok (.iconst 1, 1) := by decide +kernel
theorem dX12_part_75 : decode cX12_part 75 = .ok (.iadd, 1) := by decide +kernel
theorem dX12_part_76 : decode cX12_part 76 = .ok (.putfield 153, 3) := by decide +kernel
theorem dX12_part_79 : decode cX12_part 79 = .ok (.aload_n 0, 1) := by decide +kernel
theorem dX12_part_80 : decode cX12_part 80 = .ok (.getfield 153, 3) := by decide +kernel
theorem dX12_part_83 : decode cX12_part 83 = .ok (.iconst 1, 1) := by decide +kernel
theorem dX12_part_84 : decode cX12_part 84 = .ok (.isub, 1) := by decide +kernel
theorem dX12_part_85 : decode cX12_part 85 = .ok (.ireturn, 1) := by decide +kernel
theorem dX12_noPart_0 : decode cX12_noPart 0 = .ok (.iload_n 1, 1) := by decide +kernel
theorem dX12_noPart_1 : decode cX12_noPart 1 = .ok (.i2l, 1) := by decide +kernel
theorem dX12_noPart_2 : decode cX12_noPart 2 = .ok (.lconst 0, 1) := by decide +kernel
theorem dX12_noPart_3 : decode cX12_noPart 3 = .ok (.aload_n 0, 1) := by decide +kernel
theorem dX12_noPart_4 : decode cX12_noPart 4 = .ok (.getfield 153, 3) := by decide +kernel
theorem dX12_noPart_7 : decode cX12_noPart 7 = .ok (.iconst 1, 1) := by decide +kernel
theorem dX12_noPart_8 : decode cX12_noPart 8 = .ok (.isub, 1) := by decide +kernel
theorem dX12_noPart_9 : decode cX12_noPart 9 = .ok (.i2l, 1) := by decide +kernel
theorem dX12_noPart_10 : decode cX12_noPart 10 = .ok (.invokestatic 147, 3) := by decide +kernel
theorem dX12_noPart_13 : decode cX12_noPart 13 = .ok (.ifCond .ne 7, 3) := by decide +kernel
theorem dX12_noPart_16 : decode cX12_noPart 16 = .ok (.iconst 1, 1) := by decide +kernel
theorem dX12_noPart_17 : decode cX12_noPart 17 = .ok (.goto 4, 3) := by decide +kernel
theorem dX12_noPart_20 : decode cX12_noPart 20 = .ok (.iconst 0, 1) := by decide +kernel
theorem dX12_noPart_21 : decode cX12_noPart 21 = .ok (.ireturn, 1) := by decide +kernel
theorem dX12_state_0 : decode cX12_state 0 = .ok (.aload_n 0, 1) := by decide +kernel
theorem dX12_state_1 : decode cX12_state 1 = .ok (.iload_n 1, 1) := by decide +kernel
theorem dX12_state_2 : decode cX12_state 2 = .ok (.invokevirtual 156, 3) := by decide +kernel
theorem dX12_state_5 : decode cX12_state 5 = .ok (.ifCond .eq 8, 3) := by decide +kernel
theorem dX12_state_8 : decode cX12_state 8 = .ok (.bipush (-101), 2) := by decide +kernel
theorem dX12_state_10 : decode cX12_state 10 = .ok (.goto 9, 3) := by decide +kernel
theorem dX12_state_13 : decode cX12_state 13 = .ok (.aload_n 0, 1) := by decide +kernel
theorem dX12_state_14 : decode cX12_state 14 = .ok (.getfield 16, 3) := by decide +kernel
theorem dX12_state_17 : decode cX12_state 17 = .ok (.iload_n 1, 1) := by decide +kernel
theorem dX12_state_18 : decode cX12_state 18 = .ok (.iaload, 1) := by decide +kernel
theorem dX12_state_19 : decode cX12_state 19 = .ok (.ireturn, 1) := by decide +kernel
theorem dX12_clean_0 : decode cX12_clean 0 = .ok (.iload_n 1, 1) := by decide +kernel
theorem dX12_clean_1 : decode cX12_clean 1 = .ok (.i2l, 1) := by decide +kernel
theorem dX12_clean_2 : decode cX12_clean 2 = .ok (.lconst 0, 1) := by decide +kernel
theorem dX12_clean_3 : decode cX12_clean 3 = .ok (.ldc2_w 160, 3) := by decide +kernel
theorem dX12_clean_6 : decode cX12_clean 6 = .ok (.invokestatic 147, 3) := by decide +kernel
theorem dX12_clean_9 : decode cX12_clean 9 = .ok (.ifCond .ne 6, 3) := by decide +kernel
theorem dX12_clean_12 : decode cX12_clean 12 = .ok (.bipush (-102), 2) := by decide +kernel
theorem dX12_clean_14 : decode cX12_clean 14 = .ok (.ireturn, 1) := by decide +kernel
theorem dX12_clean_15 : decode cX12_clean 15 = .ok (.iload_n 1, 1) := by decide +kernel
theorem dX12_clean_16 : decode cX12_clean 16 = .ok (.aload_n 0, 1) := by decide +kernel
theorem dX12_clean_17 : decode cX12_clean 17 = .ok (.getfield 162, 3) := by decide +kernel
theorem dX12_clean_20 : decode cX12_clean 20 = .ok (.if_icmp .ge 7, 3) := by decide +kernel
theorem dX12_clean_23 : decode cX12_clean 23 = .ok (.iload_n 1, 1) := by decide +kernel
theorem dX12_clean_24 : decode cX12_clean 24 = .ok (.goto 7, 3) := by decide +kernel
theorem dX12_clean_27 : decode cX12_clean 27 = .ok (.aload_n 0, 1) := by decide +kernel
theorem dX12_clean_28 : decode cX12_clean 28 = .ok (.getfield 162, 3) := by decide +kernel
theorem dX12_clean_31 : decode cX12_clean 31 = .ok (.istore_n 2, 1) := by decide +kernel
theorem dX12_clean_32 : decode cX12_clean 32 = .ok (.iconst 0, 1) := by decide +kernel
theorem dX12_clean_33 : decode cX12_clean 33 = .ok (.istore_n 3, 1) := by decide +kernel
theorem dX12_clean_34 : decode cX12_clean 34 = .ok (.iload_n 3, 1) := by decide +kernel
end
section
theorem dX12_clean_35 : decode cX12_clean 35 = .ok (.iload_n 2, 1) := by decide +kernel
theorem dX12_clean_36 : decode cX12_clean 36 = .ok (.if_icmp .ge 21, 3) := by decide +kernel
theorem dX12_clean_39 : decode cX12_clean 39 = .ok (.aload_n 0, 1) := by decide +kernel
theorem dX12_clean_40 : decode cX12_clean 40 = .ok (.getfield 16, 3) := by decide +kernel
theorem dX12_clean_43 : decode cX12_clean 43 = .ok (.aload_n 0, 1) := by decide +kernel
theorem dX12_clean_44 : decode cX12_clean 44 = .ok (.getfield 19, 3) := by decide +kernel
theorem dX12_clean_47 : decode cX12_clean 47 = .ok (.iload_n 3, 1) := by decide +kernel
theorem dX12_clean_48 : decode cX12_clean 48 = .ok (.iaload, 1) := by decide +kernel
theorem dX12_clean_49 : decode cX12_clean 49 = .ok (.iconst 0, 1) := by decide +kernel
theorem dX12_clean_50 : decode cX12_clean 50 = .ok (.iastore, 1) := by decide +kernel
theorem dX12_clean_51 : decode cX12_clean 51 = .ok (.iinc 3 1, 3) := by decide +kernel
theorem dX12_clean_54 : decode cX12_clean 54 = .ok (.goto (-20), 3) := by decide +kernel
theorem dX12_clean_57 : decode cX12_clean 57 = .ok (.iload_n 2, 1) := by decide +kernel
theorem dX12_clean_58 : decode cX12_clean 58 = .ok (.istore_n 3, 1) := by decide +kernel
theorem dX12_clean_59 : decode cX12_clean 59 = .ok (.iload_n 3, 1) := by decide +kernel
theorem dX12_clean_60 : decode cX12_clean 60 = .ok (.aload_n 0, 1) := by decide +kernel
theorem dX12_clean_61 : decode cX12_clean 61 = .ok (.getfield 162, 3) := by decide +kernel
theorem dX12_clean_64 : decode cX12_clean 64 = .ok (.if_icmp .ge 23, 3) := by decide +kernel
theorem dX12_clean_67 : decode cX12_clean 67 = .ok (.aload_n 0, 1) := by decide +kernel
theorem dX12_clean_68 : decode cX12_clean 68 = .ok (.getfield 19, 3) := by decide +kernel
theorem dX12_clean_71 : decode cX12_clean 71 = .ok (.iload_n 3, 1) := by decide +kernel
theorem dX12_clean_72 : decode cX12_clean 72 = .ok (.iload_n 2, 1) := by decide +kernel
theorem dX12_clean_73 : decode cX12_clean 73 = .ok (.isub, 1) := by decide +kernel
theorem dX12_clean_74 : decode cX12_clean 74 = .ok (.aload_n 0, 1) := by decide +kernel
theorem dX12_clean_75 : decode cX12_clean 75 = .ok (.getfield 19, 3) := by decide +kernel
theorem dX12_clean_78 : decode cX12_clean 78 = .ok (.iload_n 3, 1) := by decide +kernel
theorem dX12_clean_79 : decode cX12_clean 79 = .ok (.iaload, 1) := by decide +kernel
theorem dX12_clean_80 : decode cX12_clean 80 = .ok (.iastore, 1) := by decide +kernel
theorem dX12_clean_81 : decode cX12_clean 81 = .ok (.iinc 3 1, 3) := by decide +kernel
theorem dX12_clean_84 : decode cX12_clean 84 = .ok (.goto (-25), 3) := by decide +kernel
theorem dX12_clean_87 : decode cX12_clean 87 = .ok (.aload_n 0, 1) := by decide +kernel
theorem dX12_clean_88 : decode cX12_clean 88 = .ok (.dup, 1) := by decide +kernel
theorem dX12_clean_89 : decode cX12_clean 89 = .ok (.getfield 162, 3) := by decide +kernel
theorem dX12_clean_92 : decode cX12_clean 92 = .ok (.iload_n 2, 1) := by decide +kernel
theorem dX12_clean_93 : decode cX12_clean 93 = .ok (.isub, 1) := by decide +kernel
theorem dX12_clean_94 : decode cX12_clean 94 = .ok (.putfield 162, 3) := by decide +kernel
theorem dX12_clean_97 : decode cX12_clean 97 = .ok (.iload_n 2, 1) := by decide +kernel
theorem dX12_clean_98 : decode cX12_clean 98 = .ok (.ireturn, 1) := by decide +kernel
theorem dX12_cleaning_0 : decode cX12_cleaning 0 = .ok (.iload_n 1, 1) := by decide +kernel
theorem dX12_cleaning_1 : decode cX12_cleaning 1 = .ok (.i2l, 1) := by decide +kernel
theorem dX12_cleaning_2 : decode cX12_cleaning 2 = .ok (.lconst 0, 1) := by decide +kernel
theorem dX12_cleaning_3 : decode cX12_cleaning 3 = .ok (.aload_n 0, 1) := by decide +kernel
theorem dX12_cleaning_4 : decode cX12_cleaning 4 = .ok (.getfield 162, 3) := by decide +kernel
theorem dX12_cleaning_7 : decode cX12_cleaning 7 = .ok (.iconst 1, 1) := by decide +kernel
theorem dX12_cleaning_8 : decode cX12_cleaning 8 = .ok (.isub, 1) := by decide +kernel
theorem dX12_cleaning_9 : decode cX12_cleaning 9 = .ok (.i2l, 1) := by decide +kernel
theorem dX12_cleaning_10 : decode cX12_cleaning 10 = .ok (.invokestatic 147, 3) := by decide +kernel
theorem dX12_cleaning_13 : decode cX12_cleaning 13 = .ok (.ifCond .eq 12, 3) := by decide +kernel
theorem dX12_cleaning_16 : decode cX12_cleaning 16 = .ok (.aload_n 0, 1) := by decide +kernel
theorem dX12_cleaning_17 : decode cX12_cleaning 17 = .ok (.getfield 19, 3) := by decide +kernel
theorem dX12_cleaning_20 : decode cX12_cleaning 20 = .ok (.iload_n 1, 1) := by decide +kernel
theorem dX12_cleaning_21 : decode cX12_cleaning 21 = .ok (.iaload, 1) := by decide +kernel
theorem dX12_cleaning_22 : decode cX12_cleaning 22 = .ok (.goto 4, 3) := by decide +kernel
theorem dX12_cleaning_25 : decode cX12_cleaning 25 = .ok (.iconst (-1), 1) := by decide +kernel
theorem dX12_cleaning_26 : decode cX12_cleaning 26 = .ok (.ireturn, 1) := by decide +kernel
theorem dX12_plan_0 : decode cX12_plan 0 = .ok (.aload_n 0, 1) := by decide +kernel
theorem dX12_plan_1 : decode cX12_plan 1 = .ok (.iload_n 1, 1) := by decide +kernel
theorem dX12_plan_2 : decode cX12_plan 2 = .ok (.invokevirtual 156, 3) := by decide +kernel
theorem dX12_plan_5 : decode cX12_plan 5 = .ok (.ifCond .eq 6, 3) := by decide +kernel
theorem dX12_plan_8 : decode cX12_plan 8 = .ok (.bipush (-101), 2) := by decide +kernel
theorem dX12_plan_10 : decode cX12_plan 10 = .ok (.ireturn, 1) := by decide +kernel
theorem dX12_plan_11 : decode cX12_plan 11 = .ok (.iload_n 2, 1) := by decide +kernel
theorem dX12_plan_12 : decode cX12_plan 12 = .ok (.i2l, 1) := by decide +kernel
theorem dX12_plan_13 : decode cX12_plan 13 = .ok (.lconst 1, 1) := by decide +kernel
theorem dX12_plan_14 : decode cX12_plan 14 = .ok (.ldc2_w 165, 3) := by decide +kernel
theorem dX12_plan_17 : decode cX12_plan 17 = .ok (.invokestatic 147, 3) := by decide +kernel
theorem dX12_plan_20 : decode cX12_plan 20 = .ok (.ifCond .eq 13, 3) := by decide +kernel
theorem dX12_plan_23 : decode cX12_plan 23 = .ok (.iload_n 3, 1) := by decide +kernel
theorem dX12_plan_24 : decode cX12_plan 24 = .ok (.i2l, 1) := by decide +kernel
theorem dX12_plan_25 : decode cX12_plan 25 = .ok (.lconst 0, 1) := by decide +kernel
theorem dX12_plan_26 : decode cX12_plan 26 = .ok (.lconst 1, 1) := by decide +kernel
theorem dX12_plan_27 : decode cX12_plan 27 = .ok (.invokestatic 147, 3) := by decide +kernel
theorem dX12_plan_30 : decode cX12_plan 30 = .ok (.ifCond .ne 6, 3) := by decide +kernel
theorem dX12_plan_33 : decode cX12_plan 33 = .ok (.bipush (-102), 2) := by decide +kernel
theorem dX12_plan_35 : decode cX12_plan 35 = .ok (.ireturn, 1) := by decide +kernel
theorem dX12_plan_36 : decode cX12_plan 36 = .ok (.aload_n 0, 1) := by decide +kernel
theorem dX12_plan_37 : decode cX12_plan 37 = .ok (.getfield 167, 3) := by decide +kernel
theorem dX12_plan_40 : decode cX12_plan 40 = .ok (.bipush 30, 2) := by decide +kernel
theorem dX12_plan_42 : decode cX12_plan 42 = .ok (.if_icmp .ne 6, 3) := by decide +kernel
theorem dX12_plan_45 : decode cX12_plan 45 = .ok (.bipush (-104), 2) := by decide +kernel
theorem dX12_plan_47 : decode cX12_plan 47 = .ok (.ireturn, 1) := by decide +kernel
theorem dX12_plan_48 : decode cX12_plan 48 = .ok (.aload_n 0, 1) := by decide +kernel
theorem dX12_plan_49 : decode cX12_plan 49 = .ok (.getfield 22, 3) := by decide +kernel
theorem dX12_plan_52 : decode cX12_plan 52 = .ok (.aload_n 0, 1) := by decide +kernel
theorem dX12_plan_53 : decode cX12_plan 53 = .ok (.getfield 167, 3) := by decide +kernel
theorem dX12_plan_56 : decode cX12_plan 56 = .ok (.iload_n 1, 1) := by decide +kernel
theorem dX12_plan_57 : decode cX12_plan 57 = .ok (.iastore, 1) := by decide +kernel
theorem dX12_plan_58 : decode cX12_plan 58 = .ok (.aload_n 0, 1) := by decide +kernel
theorem dX12_plan_59 : decode cX12_plan 59 = .ok (.getfield 25, 3) := by decide +kernel
theorem dX12_plan_62 : decode cX12_plan 62 = .ok (.aload_n 0, 1) := by decide +kernel
theorem dX12_plan_63 : decode cX12_plan 63 = .ok (.getfield 167, 3) := by decide +kernel
theorem dX12_plan_66 : decode cX12_plan 66 = .ok (.iload_n 2, 1) := by decide +kernel
theorem dX12_plan_67 : decode cX12_plan 67 = .ok (.iastore, 1) := by decide +kernel
theorem dX12_plan_68 : decode cX12_plan 68 = .ok (.aload_n 0, 1) := by decide +kernel
theorem dX12_plan_69 : decode cX12_plan 69 = .ok (.getfield 28, 3) := by decide +kernel
theorem dX12_plan_72 : decode cX12_plan 72 = .ok (.aload_n 0, 1) := by decide +kernel
theorem dX12_plan_73 : decode cX12_plan 73 = .ok (.getfield 167, 3) := by decide +kernel
theorem dX12_plan_76 : decode cX12_plan 76 = .ok (.iload_n 3, 1) := by decide +kernel
theorem dX12_plan_77 : decode cX12_plan 77 = .ok (.iastore, 1) := by decide +kernel
theorem dX12_plan_78 : decode cX12_plan 78 = .ok (.aload_n 0, 1) := by decide +kernel
theorem dX12_plan_79 : decode cX12_plan 79 = .ok (.getfield 31, 3) := by decide +kernel
theorem dX12_plan_82 : decode cX12_plan 82 = .ok (.aload_n 0, 1) := by decide +kernel
theorem dX12_plan_83 : decode cX12_plan 83 = .ok (.getfield 167, 3) := by decide +kernel
theorem dX12_plan_86 : decode cX12_plan 86 = .ok (.iconst 0, 1) := by decide +kernel
theorem dX12_plan_87 : decode cX12_plan 87 = .ok (.iastore, 1) := by decide +kernel
theorem dX12_plan_88 : decode cX12_plan 88 = .ok (.aload_n 0, 1) := by decide +kernel
theorem dX12_plan_89 : decode cX12_plan 89 = .ok (.dup, 1) := by decide +kernel
theorem dX12_plan_90 : decode cX12_plan 90 = .ok (.getfield 167, 3) := by decide +kernel
theorem dX12_plan_93 : decode cX12_plan 93 = .ok (.iconst 1, 1) := by decide +kernel
theorem dX12_plan_94 : decode cX12_plan 94 = .ok (.iadd, 1) := by decide +kernel
theorem dX12_plan_95 : decode cX12_plan 95 = .ok (.putfield 167, 3) := by decide +kernel
theorem dX12_plan_98 : decode cX12_plan 98 = .ok (.aload_n 0, 1) := by decide +kernel
theorem dX12_plan_99 : decode cX12_plan 99 = .ok (.getfield 167, 3) := by decide +kernel
theorem dX12_plan_102 : decode cX12_plan 102 = .ok (.ireturn, 1) := by decide +kernel
theorem dX12_plans_0 : decode cX12_plans 0 = .ok (.aload_n 0, 1) := by decide +kernel
theorem dX12_plans_1 : decode cX12_plans 1 = .ok (.getfield 167, 3) := by decide +kernel
theorem dX12_plans_4 : decode cX12_plans 4 = .ok (.istore_n 2, 1) := by decide +kernel
theorem dX12_plans_5 : decode cX12_plans 5 = .ok (.aload_n 0, 1) := by decide +kernel
theorem dX12_plans_6 : decode cX12_plans 6 = .ok (.iload_n 1, 1) := by decide +kernel
theorem dX12_plans_7 : decode cX12_plans 7 = .ok (.ifCond .eq 7, 3) := by decide +kernel
theorem dX12_plans_10 : decode cX12_plans 10 = .ok (.iconst 0, 1) := by decide +kernel
theorem dX12_plans_11 : decode cX12_plans 11 = .ok (.goto 7, 3) := by decide +kernel
theorem dX12_plans_14 : decode cX12_plans 14 = .ok (.aload_n 0, 1) := by decide +kernel
theorem dX12_plans_15 : decode cX12_plans 15 = .ok (.getfield 167, 3) := by decide +kernel
theorem dX12_plans_18 : decode cX12_plans 18 = .ok (.putfield 167, 3) := by decide +kernel
theorem dX12_plans_21 : decode cX12_plans 21 = .ok (.iload_n 2, 1) := by decide +kernel
theorem dX12_plans_22 : decode cX12_plans 22 = .ok (.ireturn, 1) := by decide +kernel
theorem dX12_meets_0 : decode cX12_meets 0 = .ok (.iconst 0, 1) := by decide +kernel
theorem dX12_meets_1 : decode cX12_meets 1 = .ok (.istore_n 3, 1) := by decide +kernel
theorem dX12_meets_2 : decode cX12_meets 2 = .ok (.iconst 0, 1) := by decide +kernel
theorem dX12_meets_3 : decode cX12_meets 3 = .ok (.istore 4, 2) := by decide +kernel
theorem dX12_meets_5 : decode cX12_meets 5 = .ok (.iload 4, 2) := by decide +kernel
theorem dX12_meets_7 : decode cX12_meets 7 = .ok (.aload_n 0, 1) := by decide +kernel
theorem dX12_meets_8 : decode cX12_meets 8 = .ok (.getfield 167, 3) := by decide +kernel
theorem dX12_meets_11 : decode cX12_meets 11 = .ok (.if_icmp .ge 131, 3) := by decide +kernel
theorem dX12_meets_14 : decode cX12_meets 14 = .ok (.aload_n 0, 1) := by decide +kernel
theorem dX12_meets_15 : decode cX12_meets 15 = .ok (.getfield 22, 3) := by decide +kernel
theorem dX12_meets_18 : decode cX12_meets 18 = .ok (.iload 4, 2) := by decide +kernel
theorem dX12_meets_20 : decode cX12_meets 20 = .ok (.iaload, 1) := by decide +kernel
theorem dX12_meets_21 : decode cX12_meets 21 = .ok (.iload_n 1, 1) := by decide +kernel
theorem dX12_meets_22 : decode cX12_meets 22 = .ok (.if_icmp .ne 18, 3) := by decide +kernel
theorem dX12_meets_25 : decode cX12_meets 25 = .ok (.aload_n 0, 1) := by decide +kernel
theorem dX12_meets_26 : decode cX12_meets 26 = .ok (.getfield 28, 3) := by decide +kernel
theorem dX12_meets_29 : decode cX12_meets 29 = .ok (.iload 4, 2) := by decide +kernel
theorem dX12_meets_31 : decode cX12_meets 31 = .ok (.iaload, 1) := by decide +kernel
theorem dX12_meets_32 : decode cX12_meets 32 = .ok (.iload_n 2, 1) := by decide +kernel
theorem dX12_meets_33 : decode cX12_meets 33 = .ok (.if_icmp .ne 7, 3) := by decide +kernel
theorem dX12_meets_36 : decode cX12_meets 36 = .ok (.iconst 1, 1) := by decide +kernel
theorem dX12_meets_37 : decode cX12_meets 37 = .ok (.goto 4, 3) := by decide +kernel
theorem dX12_meets_40 : decode cX12_meets 40 = .ok (.iconst 0, 1) := by decide +kernel
theorem dX12_meets_41 : decode cX12_meets 41 = .ok (.istore 5, 2) := by decide +kernel
theorem dX12_meets_43 : decode cX12_meets 43 = .ok (.iload 5, 2) := by decide +kernel
theorem dX12_meets_45 : decode cX12_meets 45 = .ok (.ifCond .eq 15, 3) := by decide +kernel
theorem dX12_meets_48 : decode cX12_meets 48 = .ok (.aload_n 0, 1) := by decide +kernel
theorem dX12_meets_49 : decode cX12_meets 49 = .ok (.getfield 31, 3) := by decide +kernel
theorem dX12_meets_52 : decode cX12_meets 52 = .ok (.iload 4, 2) := by decide +kernel
theorem dX12_meets_54 : decode cX12_meets 54 = .ok (.iaload, 1) := by decide +kernel
theorem dX12_meets_55 : decode cX12_meets 55 = .ok (.iconst 1, 1) := by decide +kernel
theorem dX12_meets_56 : decode cX12_meets 56 = .ok (.iadd, 1) := by decide +kernel
theorem dX12_meets_57 : decode cX12_meets 57 = .ok (.goto 10, 3) := by decide +kernel
theorem dX12_meets_60 : decode cX12_meets 60 = .ok (.aload_n 0, 1) := by decide +kernel
theorem dX12_meets_61 : decode cX12_meets 61 = .ok (.getfield 31, 3) := by decide +kernel
theorem dX12_meets_64 : decode cX12_meets 64 = .ok (.iload 4, 2) := by decide +kernel
theorem dX12_meets_66 : decode cX12_meets 66 = .ok (.iaload, 1) := by decide +kernel
theorem dX12_meets_67 : decode cX12_meets 67 = .ok (.istore 6, 2) := by decide +kernel
theorem dX12_meets_69 : decode cX12_meets 69 = .ok (.iload 5, 2) := by decide +kernel
theorem dX12_meets_71 : decode cX12_meets 71 = .ok (.ifCond .eq 15, 3) := by decide +kernel
theorem dX12_meets_74 : decode cX12_meets 74 = .ok (.iload 6, 2) := by decide +kernel
theorem dX12_meets_76 : decode cX12_meets 76 = .ok (.aload_n 0, 1) := by decide +kernel
theorem dX12_meets_77 : decode cX12_meets 77 = .ok (.getfield 25, 3) := by decide +kernel
theorem dX12_meets_80 : decode cX12_meets 80 = .ok (.iload 4, 2) := by decide +kernel
theorem dX12_meets_82 : decode cX12_meets 82 = .ok (.iaload, 1) := by decide +kernel
theorem dX12_meets_83 : decode cX12_meets 83 = .ok (.if_icmp .ge 53, 3) := by decide +kernel
theorem dX12_meets_86 : decode cX12_meets 86 = .ok (.aload_n 0, 1) := by decide +kernel
theorem dX12_meets_87 : decode cX12_meets 87 = .ok (.getfield 22, 3) := by decide +kernel
theorem dX12_meets_90 : decode cX12_meets 90 = .ok (.iload_n 3, 1) := by decide +kernel
theorem dX12_meets_91 : decode cX12_meets 91 = .ok (.aload_n 0, 1) := by decide +kernel
theorem dX12_meets_92 : decode cX12_meets 92 = .ok (.getfield 22, 3) := by decide +kernel
theorem dX12_meets_95 : decode cX12_meets 95 = .ok (.iload 4, 2) := by decide +kernel
theorem dX12_meets_97 : decode cX12_meets 97 = .ok (.iaload, 1) := by decide +kernel
theorem dX12_meets_98 : decode cX12_meets 98 = .ok (.iastore, 1) := by decide +kernel
theorem dX12_meets_99 : decode cX12_meets 99 = .ok (.aload_n 0, 1) := by decide +kernel
theorem dX12_meets_100 : decode cX12_meets 100 = .ok (.getfield 25, 3) := by decide +kernel
theorem dX12_meets_103 : decode cX12_meets 103 = .ok (.iload_n 3, 1) := by decide +kernel
theorem dX12_meets_104 : decode cX12_meets 104 = .ok (.aload_n 0, 1) := by decide +kernel
theorem dX12_meets_105 : decode cX12_meets 105 = .ok (.getfield 25, 3) := by decide +kernel
theorem dX12_meets_108 : decode cX12_meets 108 = .ok (.iload 4, 2) := by decide +kernel
theorem dX12_meets_110 : decode cX12_meets 110 = .ok (.iaload, 1) := by decide +kernel
theorem dX12_meets_111 : decode cX12_meets 111 = .ok (.iastore, 1) := by decide +kernel
theorem dX12_meets_112 : decode cX12_meets 112 = .ok (.aload_n 0, 1) := by decide +kernel
theorem dX12_meets_113 : decode cX12_meets 113 = .ok (.getfield 28, 3) := by decide +kernel
theorem dX12_meets_116 : decode cX12_meets 116 = .ok (.iload_n 3, 1) := by decide +kernel
theorem dX12_meets_117 : decode cX12_meets 117 = .ok (.aload_n 0, 1) := by decide +kernel
theorem dX12_meets_118 : decode cX12_meets 118 = .ok (.getfield 28, 3) := by decide +kernel
theorem dX12_meets_121 : decode cX12_meets 121 = .ok (.iload 4, 2) := by decide +kernel
theorem dX12_meets_123 : decode cX12_meets 123 = .ok (.iaload, 1) := by decide +kernel
theorem dX12_meets_124 : decode cX12_meets 124 = .ok (.iastore, 1) := by decide +kernel
theorem dX12_meets_125 : decode cX12_meets 125 = .ok (.aload_n 0, 1) := by decide +kernel
theorem dX12_meets_126 : decode cX12_meets 126 = .ok (.getfield 31, 3) := by decide +kernel
theorem dX12_meets_129 : decode cX12_meets 129 = .ok (.iload_n 3, 1) := by decide +kernel
theorem dX12_meets_130 : decode cX12_meets 130 = .ok (.iload 6, 2) := by decide +kernel
theorem dX12_meets_132 : decode cX12_meets 132 = .ok (.iastore, 1) := by decide +kernel
theorem dX12_meets_133 : decode cX12_meets 133 = .ok (.iinc 3 1, 3) := by decide +kernel
theorem dX12_meets_136 : decode cX12_meets 136 = .ok (.iinc 4 1, 3) := by decide +kernel
theorem dX12_meets_139 : decode cX12_meets 139 = .ok (.goto (-134), 3) := by decide +kernel
theorem dX12_meets_142 : decode cX12_meets 142 = .ok (.iload_n 3, 1) := by decide +kernel
theorem dX12_meets_143 : decode cX12_meets 143 = .ok (.aload_n 0, 1) := by decide +kernel
theorem dX12_meets_144 : decode cX12_meets 144 = .ok (.getfield 167, 3) := by decide +kernel
theorem dX12_meets_147 : decode cX12_meets 147 = .ok (.if_icmp .ge 7, 3) := by decide +kernel
theorem dX12_meets_150 : decode cX12_meets 150 = .ok (.iconst 1, 1) := by decide +kernel
theorem dX12_meets_151 : decode cX12_meets 151 = .ok (.goto 4, 3) := by decide +kernel
theorem dX12_meets_154 : decode cX12_meets 154 = .ok (.iconst 0, 1) := by decide +kernel
theorem dX12_meets_155 : decode cX12_meets 155 = .ok (.istore 4, 2) := by decide +kernel
theorem dX12_meets_157 : decode cX12_meets 157 = .ok (.aload_n 0, 1) := by decide +kernel
theorem dX12_meets_158 : decode cX12_meets 158 = .ok (.iload_n 3, 1) := by decide +kernel
theorem dX12_meets_159 : decode cX12_meets 159 = .ok (.putfield 167, 3) := by decide +kernel
theorem dX12_meets_162 : decode cX12_meets 162 = .ok (.iload 4, 2) := by decide +kernel
theorem dX12_meets_164 : decode cX12_meets 164 = .ok (.ireturn, 1) := by decide +kernel
theorem dX12_comesBack_0 : decode cX12_comesBack 0 = .ok (.aload_n 0, 1) := by decide +kernel
theorem dX12_comesBack_1 : decode cX12_comesBack 1 = .ok (.iload_n 1, 1) := by decide +kernel
theorem dX12_comesBack_2 : decode cX12_comesBack 2 = .ok (.iconst 1, 1) := by decide +kernel
theorem dX12_comesBack_3 : decode cX12_comesBack 3 = .ok (.invokevirtual 170, 3) := by decide +kernel
theorem dX12_comesBack_6 : decode cX12_comesBack 6 = .ok (.istore 4, 2) := by decide +kernel
theorem dX12_comesBack_8 : decode cX12_comesBack 8 = .ok (.aload_n 0, 1) := by decide +kernel
theorem dX12_comesBack_9 : decode cX12_comesBack 9 = .ok (.getfield 16, 3) := by decide +kernel
theorem dX12_comesBack_12 : decode cX12_comesBack 12 = .ok (.iload_n 1, 1) := by decide +kernel
theorem dX12_comesBack_13 : decode cX12_comesBack 13 = .ok (.iload 4, 2) := by decide +kernel
theorem dX12_comesBack_15 : decode cX12_comesBack 15 = .ok (.ifCond .eq 7, 3) := by decide +kernel
theorem dX12_comesBack_18 : decode cX12_comesBack 18 = .ok (.iconst 3, 1) := by decide +kernel
theorem dX12_comesBack_19 : decode cX12_comesBack 19 = .ok (.goto 4, 3) := by decide +kernel
theorem dX12_comesBack_22 : decode cX12_comesBack 22 = .ok (.iconst 2, 1) := by decide +kernel
theorem dX12_comesBack_23 : decode cX12_comesBack 23 = .ok (.iastore, 1) := by decide +kernel
theorem dX12_comesBack_24 : decode cX12_comesBack 24 = .ok (.iload 4, 2) := by decide +kernel
theorem dX12_comesBack_26 : decode cX12_comesBack 26 = .ok (.ifCond .eq 22, 3) := by decide +kernel
theorem dX12_comesBack_29 : decode cX12_comesBack 29 = .ok (.aload_n 0, 1) := by decide +kernel
theorem dX12_comesBack_30 : decode cX12_comesBack 30 = .ok (.getfield 34, 3) := by decide +kernel
theorem dX12_comesBack_33 : decode cX12_comesBack 33 = .ok (.iload_n 3, 1) := by decide +kernel
theorem dX12_comesBack_34 : decode cX12_comesBack 34 = .ok (.dup2, 1) := by decide +kernel
theorem dX12_comesBack_35 : decode cX12_comesBack 35 = .ok (.laload, 1) := by decide +kernel
theorem dX12_comesBack_36 : decode cX12_comesBack 36 = .ok (.aload_n 0, 1) := by decide +kernel
theorem dX12_comesBack_37 : decode cX12_comesBack 37 = .ok (.getfield 13, 3) := by decide +kernel
theorem dX12_comesBack_40 : decode cX12_comesBack 40 = .ok (.iload_n 1, 1) := by decide +kernel
theorem dX12_comesBack_41 : decode cX12_comesBack 41 = .ok (.iaload, 1) := by decide +kernel
theorem dX12_comesBack_42 : decode cX12_comesBack 42 = .ok (.i2l, 1) := by decide +kernel
theorem dX12_comesBack_43 : decode cX12_comesBack 43 = .ok (.ladd, 1) := by decide +kernel
theorem dX12_comesBack_44 : decode cX12_comesBack 44 = .ok (.lastore, 1) := by decide +kernel
theorem dX12_comesBack_45 : decode cX12_comesBack 45 = .ok (.goto 23, 3) := by decide +kernel
theorem dX12_comesBack_48 : decode cX12_comesBack 48 = .ok (.aload_n 0, 1) := by decide +kernel
theorem dX12_comesBack_49 : decode cX12_comesBack 49 = .ok (.getfield 19, 3) := by decide +kernel
theorem dX12_comesBack_52 : decode cX12_comesBack 52 = .ok (.aload_n 0, 1) := by decide +kernel
theorem dX12_comesBack_53 : decode cX12_comesBack 53 = .ok (.getfield 162, 3) := by decide +kernel
theorem dX12_comesBack_56 : decode cX12_comesBack 56 = .ok (.iload_n 1, 1) := by decide +kernel
theorem dX12_comesBack_57 : decode cX12_comesBack 57 = .ok (.iastore, 1) := by decide +kernel
theorem dX12_comesBack_58 : decode cX12_comesBack 58 = .ok (.aload_n 0, 1) := by decide +kernel
theorem dX12_comesBack_59 : decode cX12_comesBack 59 = .ok (.dup, 1) := by decide +kernel
theorem dX12_comesBack_60 : decode cX12_comesBack 60 = .ok (.getfield 162, 3) := by decide +kernel
theorem dX12_comesBack_63 : decode cX12_comesBack 63 = .ok (.iconst 1, 1) := by decide +kernel
theorem dX12_comesBack_64 : decode cX12_comesBack 64 = .ok (.iadd, 1) := by decide +kernel
theorem dX12_comesBack_65 : decode cX12_comesBack 65 = .ok (.putfield 162, 3) := by decide +kernel
theorem dX12_comesBack_68 : decode cX12_comesBack 68 = .ok (.aload_n 0, 1) := by decide +kernel
theorem dX12_comesBack_69 : decode cX12_comesBack 69 = .ok (.getfield 174, 3) := by decide +kernel
theorem dX12_comesBack_72 : decode cX12_comesBack 72 = .ok (.bipush 60, 2) := by decide +kernel
theorem dX12_comesBack_74 : decode cX12_comesBack 74 = .ok (.irem, 1) := by decide +kernel
theorem dX12_comesBack_75 : decode cX12_comesBack 75 = .ok (.istore 5, 2) := by decide +kernel
theorem dX12_comesBack_77 : decode cX12_comesBack 77 = .ok (.aload_n 0, 1) := by decide +kernel
theorem dX12_comesBack_78 : decode cX12_comesBack 78 = .ok (.getfield 38, 3) := by decide +kernel
theorem dX12_comesBack_81 : decode cX12_comesBack 81 = .ok (.iload 5, 2) := by decide +kernel
theorem dX12_comesBack_83 : decode cX12_comesBack 83 = .ok (.iload_n 1, 1) := by decide +kernel
theorem dX12_comesBack_84 : decode cX12_comesBack 84 = .ok (.iastore, 1) := by decide +kernel
theorem dX12_comesBack_85 : decode cX12_comesBack 85 = .ok (.aload_n 0, 1) := by decide +kernel
theorem dX12_comesBack_86 : decode cX12_comesBack 86 = .ok (.getfield 41, 3) := by decide +kernel
theorem dX12_comesBack_89 : decode cX12_comesBack 89 = .ok (.iload 5, 2) := by decide +kernel
theorem dX12_comesBack_91 : decode cX12_comesBack 91 = .ok (.iload_n 2, 1) := by decide +kernel
theorem dX12_comesBack_92 : decode cX12_comesBack 92 = .ok (.iastore, 1) := by decide +kernel
theorem dX12_comesBack_93 : decode cX12_comesBack 93 = .ok (.aload_n 0, 1) := by decide +kernel
theorem dX12_comesBack_94 : decode cX12_comesBack 94 = .ok (.getfield 44, 3) := by decide +kernel
theorem dX12_comesBack_97 : decode cX12_comesBack 97 = .ok (.iload 5, 2) := by decide +kernel
theorem dX12_comesBack_99 : decode cX12_comesBack 99 = .ok (.iload 4, 2) := by decide +kernel
theorem dX12_comesBack_101 : decode cX12_comesBack 101 = .ok (.ifCond .eq 7, 3) := by decide +kernel
theorem dX12_comesBack_104 : decode cX12_comesBack 104 = .ok (.iconst 1, 1) := by decide +kernel
theorem dX12_comesBack_105 : decode cX12_comesBack 105 = .ok (.goto 4, 3) := by decide +kernel
theorem dX12_comesBack_108 : decode cX12_comesBack 108 = .ok (.iconst 0, 1) := by decide +kernel
theorem dX12_comesBack_109 : decode cX12_comesBack 109 = .ok (.iastore, 1) := by decide +kernel
theorem dX12_comesBack_110 : decode cX12_comesBack 110 = .ok (.aload_n 0, 1) := by decide +kernel
theorem dX12_comesBack_111 : decode cX12_comesBack 111 = .ok (.dup, 1) := by decide +kernel
theorem dX12_comesBack_112 : decode cX12_comesBack 112 = .ok (.getfield 174, 3) := by decide +kernel
theorem dX12_comesBack_115 : decode cX12_comesBack 115 = .ok (.iconst 1, 1) := by decide +kernel
theorem dX12_comesBack_116 : decode cX12_comesBack 116 = .ok (.iadd, 1) := by decide +kernel
theorem dX12_comesBack_117 : decode cX12_comesBack 117 = .ok (.putfield 174, 3) := by decide +kernel
theorem dX12_comesBack_120 : decode cX12_comesBack 120 = .ok (.iload 4, 2) := by decide +kernel
theorem dX12_comesBack_122 : decode cX12_comesBack 122 = .ok (.ireturn, 1) := by decide +kernel
theorem dX12_noAct_0 : decode cX12_noAct 0 = .ok (.iload_n 1, 1) := by decide +kernel
theorem dX12_noAct_1 : decode cX12_noAct 1 = .ok (.i2l, 1) := by decide +kernel
theorem dX12_noAct_2 : decode cX12_noAct 2 = .ok (.lconst 0, 1) := by decide +kernel
theorem dX12_noAct_3 : decode cX12_noAct 3 = .ok (.aload_n 0, 1) := by decide +kernel
theorem dX12_noAct_4 : decode cX12_noAct 4 = .ok (.getfield 177, 3) := by decide +kernel
theorem dX12_noAct_7 : decode cX12_noAct 7 = .ok (.iconst 1, 1) := by decide +kernel
theorem dX12_noAct_8 : decode cX12_noAct 8 = .ok (.isub, 1) := by decide +kernel
theorem dX12_noAct_9 : decode cX12_noAct 9 = .ok (.i2l, 1) := by decide +kernel
theorem dX12_noAct_10 : decode cX12_noAct 10 = .ok (.invokestatic 147, 3) := by decide +kernel
theorem dX12_noAct_13 : decode cX12_noAct 13 = .ok (.ifCond .ne 7, 3) := by decide +kernel
theorem dX12_noAct_16 : decode cX12_noAct 16 = .ok (.iconst 1, 1) := by decide +kernel
theorem dX12_noAct_17 : decode cX12_noAct 17 = .ok (.goto 4, 3) := by decide +kernel
theorem dX12_noAct_20 : decode cX12_noAct 20 = .ok (.iconst 0, 1) := by decide +kernel
theorem dX12_noAct_21 : decode cX12_noAct 21 = .ok (.ireturn, 1) := by decide +kernel
theorem dX12_act_0 : decode cX12_act 0 = .ok (.aload_n 0, 1) := by decide +kernel
theorem dX12_act_1 : decode cX12_act 1 = .ok (.getfield 177, 3) := by decide +kernel
theorem dX12_act_4 : decode cX12_act 4 = .ok (.bipush 12, 2) := by decide +kernel
theorem dX12_act_6 : decode cX12_act 6 = .ok (.if_icmp .ne 6, 3) := by decide +kernel
theorem dX12_act_9 : decode cX12_act 9 = .ok (.bipush (-104), 2) := by decide +kernel
theorem dX12_act_11 : decode cX12_act 11 = .ok (.ireturn, 1) := by decide +kernel
theorem dX12_act_12 : decode cX12_act 12 = .ok (.aload_n 0, 1) := by decide +kernel
theorem dX12_act_13 : decode cX12_act 13 = .ok (.getfield 47, 3) := by decide +kernel
theorem dX12_act_16 : decode cX12_act 16 = .ok (.aload_n 0, 1) := by decide +kernel
theorem dX12_act_17 : decode cX12_act 17 = .ok (.getfield 177, 3) := by decide +kernel
theorem dX12_act_20 : decode cX12_act 20 = .ok (.iconst 0, 1) := by decide +kernel
theorem dX12_act_21 : decode cX12_act 21 = .ok (.iastore, 1) := by decide +kernel
theorem dX12_act_22 : decode cX12_act 22 = .ok (.aload_n 0, 1) := by decide +kernel
theorem dX12_act_23 : decode cX12_act 23 = .ok (.dup, 1) := by decide +kernel
theorem dX12_act_24 : decode cX12_act 24 = .ok (.getfield 177, 3) := by decide +kernel
theorem dX12_act_27 : decode cX12_act 27 = .ok (.iconst 1, 1) := by decide +kernel
theorem dX12_act_28 : decode cX12_act 28 = .ok (.iadd, 1) := by decide +kernel
theorem dX12_act_29 : decode cX12_act 29 = .ok (.putfield 177, 3) := by decide +kernel
theorem dX12_act_32 : decode cX12_act 32 = .ok (.aload_n 0, 1) := by decide +kernel
theorem dX12_act_33 : decode cX12_act 33 = .ok (.getfield 177, 3) := by decide +kernel
theorem dX12_act_36 : decode cX12_act 36 = .ok (.iconst 1, 1) := by decide +kernel
theorem dX12_act_37 : decode cX12_act 37 = .ok (.isub, 1) := by decide +kernel
theorem dX12_act_38 : decode cX12_act 38 = .ok (.ireturn, 1) := by decide +kernel
theorem dX12_line_0 : decode cX12_line 0 = .ok (.aload_n 0, 1) := by decide +kernel
theorem dX12_line_1 : decode cX12_line 1 = .ok (.iload_n 1, 1) := by decide +kernel
theorem dX12_line_2 : decode cX12_line 2 = .ok (.invokevirtual 180, 3) := by decide +kernel
theorem dX12_line_5 : decode cX12_line 5 = .ok (.ifCond .eq 6, 3) := by decide +kernel
theorem dX12_line_8 : decode cX12_line 8 = .ok (.bipush (-101), 2) := by decide +kernel
theorem dX12_line_10 : decode cX12_line 10 = .ok (.ireturn, 1) := by decide +kernel
theorem dX12_line_11 : decode cX12_line 11 = .ok (.aload_n 0, 1) := by decide +kernel
theorem dX12_line_12 : decode cX12_line 12 = .ok (.getfield 47, 3) := by decide +kernel
theorem dX12_line_15 : decode cX12_line 15 = .ok (.iload_n 1, 1) := by decide +kernel
theorem dX12_line_16 : decode cX12_line 16 = .ok (.iaload, 1) := by decide +kernel
theorem dX12_line_17 : decode cX12_line 17 = .ok (.bipush 40, 2) := by decide +kernel
theorem dX12_line_19 : decode cX12_line 19 = .ok (.if_icmp .ne 6, 3) := by decide +kernel
theorem dX12_line_22 : decode cX12_line 22 = .ok (.bipush (-104), 2) := by decide +kernel
theorem dX12_line_24 : decode cX12_line 24 = .ok (.ireturn, 1) := by decide +kernel
theorem dX12_line_25 : decode cX12_line 25 = .ok (.bipush 40, 2) := by decide +kernel
theorem dX12_line_27 : decode cX12_line 27 = .ok (.iload_n 1, 1) := by decide +kernel
theorem dX12_line_28 : decode cX12_line 28 = .ok (.imul, 1) := by decide +kernel
theorem dX12_line_29 : decode cX12_line 29 = .ok (.aload_n 0, 1) := by decide +kernel
theorem dX12_line_30 : decode cX12_line 30 = .ok (.getfield 47, 3) := by decide +kernel
theorem dX12_line_33 : decode cX12_line 33 = .ok (.iload_n 1, 1) := by decide +kernel
theorem dX12_line_34 : decode cX12_line 34 = .ok (.iaload, 1) := by decide +kernel
theorem dX12_line_35 : decode cX12_line 35 = .ok (.iadd, 1) := by decide +kernel
theorem dX12_line_36 : decode cX12_line 36 = .ok (.istore 5, 2) := by decide +kernel
theorem dX12_line_38 : decode cX12_line 38 = .ok (.aload_n 0, 1) := by decide +kernel
theorem dX12_line_39 : decode cX12_line 39 = .ok (.getfield 50, 3) := by decide +kernel
theorem dX12_line_42 : decode cX12_line 42 = .ok (.iload 5, 2) := by decide +kernel
theorem dX12_line_44 : decode cX12_line 44 = .ok (.iload_n 2, 1) := by decide +kernel
theorem dX12_line_45 : decode cX12_line 45 = .ok (.iastore, 1) := by decide +kernel
theorem dX12_line_46 : decode cX12_line 46 = .ok (.aload_n 0, 1) := by decide +kernel
theorem dX12_line_47 : decode cX12_line 47 = .ok (.getfield 53, 3) := by decide +kernel
theorem dX12_line_50 : decode cX12_line 50 = .ok (.iload 5, 2) := by decide +kernel
theorem dX12_line_52 : decode cX12_line 52 = .ok (.iload_n 3, 1) := by decide +kernel
theorem dX12_line_53 : decode cX12_line 53 = .ok (.iastore, 1) := by decide +kernel
theorem dX12_line_54 : decode cX12_line 54 = .ok (.aload_n 0, 1) := by decide +kernel
theorem dX12_line_55 : decode cX12_line 55 = .ok (.getfield 56, 3) := by decide +kernel
theorem dX12_line_58 : decode cX12_line 58 = .ok (.iload 5, 2) := by decide +kernel
theorem dX12_line_60 : decode cX12_line 60 = .ok (.iload 4, 2) := by decide +kernel
theorem dX12_line_62 : decode cX12_line 62 = .ok (.iastore, 1) := by decide +kernel
theorem dX12_line_63 : decode cX12_line 63 = .ok (.aload_n 0, 1) := by decide +kernel
theorem dX12_line_64 : decode cX12_line 64 = .ok (.getfield 47, 3) := by decide +kernel
theorem dX12_line_67 : decode cX12_line 67 = .ok (.iload_n 1, 1) := by decide +kernel
theorem dX12_line_68 : decode cX12_line 68 = .ok (.dup2, 1) := by decide +kernel
theorem dX12_line_69 : decode cX12_line 69 = .ok (.iaload, 1) := by decide +kernel
theorem dX12_line_70 : decode cX12_line 70 = .ok (.iconst 1, 1) := by decide +kernel
theorem dX12_line_71 : decode cX12_line 71 = .ok (.iadd, 1) := by decide +kernel
theorem dX12_line_72 : decode cX12_line 72 = .ok (.iastore, 1) := by decide +kernel
theorem dX12_line_73 : decode cX12_line 73 = .ok (.aload_n 0, 1) := by decide +kernel
theorem dX12_line_74 : decode cX12_line 74 = .ok (.getfield 47, 3) := by decide +kernel
theorem dX12_line_77 : decode cX12_line 77 = .ok (.iload_n 1, 1) := by decide +kernel
theorem dX12_line_78 : decode cX12_line 78 = .ok (.iaload, 1) := by decide +kernel
theorem dX12_line_79 : decode cX12_line 79 = .ok (.ireturn, 1) := by decide +kernel
theorem dX12_wipe_0 : decode cX12_wipe 0 = .ok (.aload_n 0, 1) := by decide +kernel
theorem dX12_wipe_1 : decode cX12_wipe 1 = .ok (.iload_n 1, 1) := by decide +kernel
theorem dX12_wipe_2 : decode cX12_wipe 2 = .ok (.invokevirtual 180, 3) := by decide +kernel
theorem dX12_wipe_5 : decode cX12_wipe 5 = .ok (.ifCond .eq 6, 3) := by decide +kernel
theorem dX12_wipe_8 : decode cX12_wipe 8 = .ok (.bipush (-101), 2) := by decide +kernel
theorem dX12_wipe_10 : decode cX12_wipe 10 = .ok (.ireturn, 1) := by decide +kernel
theorem dX12_wipe_11 : decode cX12_wipe 11 = .ok (.aload_n 0, 1) := by decide +kernel
theorem dX12_wipe_12 : decode cX12_wipe 12 = .ok (.getfield 47, 3) := by decide +kernel
theorem dX12_wipe_15 : decode cX12_wipe 15 = .ok (.iload_n 1, 1) := by decide +kernel
theorem dX12_wipe_16 : decode cX12_wipe 16 = .ok (.iaload, 1) := by decide +kernel
theorem dX12_wipe_17 : decode cX12_wipe 17 = .ok (.istore_n 2, 1) := by decide +kernel
theorem dX12_wipe_18 : decode cX12_wipe 18 = .ok (.aload_n 0, 1) := by decide +kernel
theorem dX12_wipe_19 : decode cX12_wipe 19 = .ok (.getfield 47, 3) := by decide +kernel
theorem dX12_wipe_22 : decode cX12_wipe 22 = .ok (.iload_n 1, 1) := by decide +kernel
theorem dX12_wipe_23 : decode cX12_wipe 23 = .ok (.iconst 0, 1) := by decide +kernel
theorem dX12_wipe_24 : decode cX12_wipe 24 = .ok (.iastore, 1) := by decide +kernel
theorem dX12_wipe_25 : decode cX12_wipe 25 = .ok (.iload_n 2, 1) := by decide +kernel
theorem dX12_wipe_26 : decode cX12_wipe 26 = .ok (.ireturn, 1) := by decide +kernel
theorem dX12_isSlot_0 : decode cX12_isSlot 0 = .ok (.iload_n 0, 1) := by decide +kernel
theorem dX12_isSlot_1 : decode cX12_isSlot 1 = .ok (.i2l, 1) := by decide +kernel
theorem dX12_isSlot_2 : decode cX12_isSlot 2 = .ok (.lconst 0, 1) := by decide +kernel
theorem dX12_isSlot_3 : decode cX12_isSlot 3 = .ok (.ldc2_w 183, 3) := by decide +kernel
theorem dX12_isSlot_6 : decode cX12_isSlot 6 = .ok (.invokestatic 147, 3) := by decide +kernel
theorem dX12_isSlot_9 : decode cX12_isSlot 9 = .ok (.ireturn, 1) := by decide +kernel
theorem dX12_isWrong_0 : decode cX12_isWrong 0 = .ok (.iload_n 0, 1) := by decide +kernel
theorem dX12_isWrong_1 : decode cX12_isWrong 1 = .ok (.tableswitch 244 0 14 #[75, 100, 75, 125, 125, 138, 158, 183, 208, 244, 244, 226, 244, 244, 208], 75) := by decide +kernel
theorem dX12_isWrong_76 : decode cX12_isWrong 76 = .ok (.iload_n 1, 1) := by decide +kernel
theorem dX12_isWrong_77 : decode cX12_isWrong 77 = .ok (.invokestatic 185, 3) := by decide +kernel
theorem dX12_isWrong_80 : decode cX12_isWrong 80 = .ok (.ifCond .eq 15, 3) := by decide +kernel
theorem dX12_isWrong_83 : decode cX12_isWrong 83 = .ok (.iload_n 2, 1) := by decide +kernel
theorem dX12_isWrong_84 : decode cX12_isWrong 84 = .ok (.i2l, 1) := by decide +kernel
theorem dX12_isWrong_85 : decode cX12_isWrong 85 = .ok (.lconst 0, 1) := by decide +kernel
theorem dX12_isWrong_86 : decode cX12_isWrong 86 = .ok (.ldc2_w 188, 3) := by decide +kernel
theorem dX12_isWrong_89 : decode cX12_isWrong 89 = .ok (.invokestatic 147, 3) := by decide +kernel
theorem dX12_isWrong_92 : decode cX12_isWrong 92 = .ok (.ifCond .ne 7, 3) := by decide +kernel
theorem dX12_isWrong_95 : decode cX12_isWrong 95 = .ok (.iconst 1, 1) := by decide +kernel
theorem dX12_isWrong_96 : decode cX12_isWrong 96 = .ok (.goto 4, 3) := by decide +kernel
theorem dX12_isWrong_99 : decode cX12_isWrong 99 = .ok (.iconst 0, 1) := by decide +kernel
theorem dX12_isWrong_100 : decode cX12_isWrong 100 = .ok (.ireturn, 1) := by decide +kernel
theorem dX12_isWrong_101 : decode cX12_isWrong 101 = .ok (.iload_n 1, 1) := by decide +kernel
theorem dX12_isWrong_102 : decode cX12_isWrong 102 = .ok (.invokestatic 185, 3) := by decide +kernel
theorem dX12_isWrong_105 : decode cX12_isWrong 105 = .ok (.ifCond .eq 15, 3) := by decide +kernel
theorem dX12_isWrong_108 : decode cX12_isWrong 108 = .ok (.iload_n 2, 1) := by decide +kernel
theorem dX12_isWrong_109 : decode cX12_isWrong 109 = .ok (.i2l, 1) := by decide +kernel
theorem dX12_isWrong_110 : decode cX12_isWrong 110 = .ok (.lconst 0, 1) := by decide +kernel
theorem dX12_isWrong_111 : decode cX12_isWrong 111 = .ok (.ldc2_w 145, 3) := by decide +kernel
theorem dX12_isWrong_114 : decode cX12_isWrong 114 = .ok (.invokestatic 147, 3) := by decide +kernel
theorem dX12_isWrong_117 : decode cX12_isWrong 117 = .ok (.ifCond .ne 7, 3) := by decide +kernel
theorem dX12_isWrong_120 : decode cX12_isWrong 120 = .ok (.iconst 1, 1) := by decide +kernel
theorem dX12_isWrong_121 : decode cX12_isWrong 121 = .ok (.goto 4, 3) := by decide +kernel
theorem dX12_isWrong_124 : decode cX12_isWrong 124 = .ok (.iconst 0, 1) := by decide +kernel
theorem dX12_isWrong_125 : decode cX12_isWrong 125 = .ok (.ireturn, 1) := by decide +kernel
theorem dX12_isWrong_126 : decode cX12_isWrong 126 = .ok (.iload_n 1, 1) := by decide +kernel
theorem dX12_isWrong_127 : decode cX12_isWrong 127 = .ok (.invokestatic 185, 3) := by decide +kernel
theorem dX12_isWrong_130 : decode cX12_isWrong 130 = .ok (.ifCond .ne 7, 3) := by decide +kernel
theorem dX12_isWrong_133 : decode cX12_isWrong 133 = .ok (.iconst 1, 1) := by decide +kernel
theorem dX12_isWrong_134 : decode cX12_isWrong 134 = .ok (.goto 4, 3) := by decide +kernel
theorem dX12_isWrong_137 : decode cX12_isWrong 137 = .ok (.iconst 0, 1) := by decide +kernel
theorem dX12_isWrong_138 : decode cX12_isWrong 138 = .ok (.ireturn, 1) := by decide +kernel
theorem dX12_isWrong_139 : decode cX12_isWrong 139 = .ok (.iload_n 1, 1) := by decide +kernel
theorem dX12_isWrong_140 : decode cX12_isWrong 140 = .ok (.invokestatic 185, 3) := by decide +kernel
theorem dX12_isWrong_143 : decode cX12_isWrong 143 = .ok (.ifCond .eq 10, 3) := by decide +kernel
theorem dX12_isWrong_146 : decode cX12_isWrong 146 = .ok (.iload_n 2, 1) := by decide +kernel
theorem dX12_isWrong_147 : decode cX12_isWrong 147 = .ok (.invokestatic 185, 3) := by decide +kernel
theorem dX12_isWrong_150 : decode cX12_isWrong 150 = .ok (.ifCond .ne 7, 3) := by decide +kernel
theorem dX12_isWrong_153 : decode cX12_isWrong 153 = .ok (.iconst 1, 1) := by decide +kernel
theorem dX12_isWrong_154 : decode cX12_isWrong 154 = .ok (.goto 4, 3) := by decide +kernel
theorem dX12_isWrong_157 : decode cX12_isWrong 157 = .ok (.iconst 0, 1) := by decide +kernel
theorem dX12_isWrong_158 : decode cX12_isWrong 158 = .ok (.ireturn, 1) := by decide +kernel
theorem dX12_isWrong_159 : decode cX12_isWrong 159 = .ok (.iload_n 1, 1) := by decide +kernel
theorem dX12_isWrong_160 : decode cX12_isWrong 160 = .ok (.invokestatic 185, 3) := by decide +kernel
theorem dX12_isWrong_163 : decode cX12_isWrong 163 = .ok (.ifCond .eq 15, 3) := by decide +kernel
theorem dX12_isWrong_166 : decode cX12_isWrong 166 = .ok (.iload_n 2, 1) := by decide +kernel
theorem dX12_isWrong_167 : decode cX12_isWrong 167 = .ok (.i2l, 1) := by decide +kernel
theorem dX12_isWrong_168 : decode cX12_isWrong 168 = .ok (.lconst 0, 1) := by decide +kernel
theorem dX12_isWrong_169 : decode cX12_isWrong 169 = .ok (.ldc2_w 190, 3) := by decide +kernel
theorem dX12_isWrong_172 : decode cX12_isWrong 172 = .ok (.invokestatic 147, 3) := by decide +kernel
theorem dX12_isWrong_175 : decode cX12_isWrong 175 = .ok (.ifCond .ne 7, 3) := by decide +kernel
theorem dX12_isWrong_178 : decode cX12_isWrong 178 = .ok (.iconst 1, 1) := by decide +kernel
theorem dX12_isWrong_179 : decode cX12_isWrong 179 = .ok (.goto 4, 3) := by decide +kernel
theorem dX12_isWrong_182 : decode cX12_isWrong 182 = .ok (.iconst 0, 1) := by decide +kernel
theorem dX12_isWrong_183 : decode cX12_isWrong 183 = .ok (.ireturn, 1) := by decide +kernel
theorem dX12_isWrong_184 : decode cX12_isWrong 184 = .ok (.iload_n 1, 1) := by decide +kernel
theorem dX12_isWrong_185 : decode cX12_isWrong 185 = .ok (.i2l, 1) := by decide +kernel
theorem dX12_isWrong_186 : decode cX12_isWrong 186 = .ok (.lconst 0, 1) := by decide +kernel
theorem dX12_isWrong_187 : decode cX12_isWrong 187 = .ok (.ldc2_w 192, 3) := by decide +kernel
theorem dX12_isWrong_190 : decode cX12_isWrong 190 = .ok (.invokestatic 147, 3) := by decide +kernel
theorem dX12_isWrong_193 : decode cX12_isWrong 193 = .ok (.ifCond .eq 10, 3) := by decide +kernel
theorem dX12_isWrong_196 : decode cX12_isWrong 196 = .ok (.iload_n 2, 1) := by decide +kernel
theorem dX12_isWrong_197 : decode cX12_isWrong 197 = .ok (.invokestatic 185, 3) := by decide +kernel
theorem dX12_isWrong_200 : decode cX12_isWrong 200 = .ok (.ifCond .ne 7, 3) := by decide +kernel
theorem dX12_isWrong_203 : decode cX12_isWrong 203 = .ok (.iconst 1, 1) := by decide +kernel
theorem dX12_isWrong_204 : decode cX12_isWrong 204 = .ok (.goto 4, 3) := by decide +kernel
theorem dX12_isWrong_207 : decode cX12_isWrong 207 = .ok (.iconst 0, 1) := by decide +kernel
theorem dX12_isWrong_208 : decode cX12_isWrong 208 = .ok (.ireturn, 1) := by decide +kernel
theorem dX12_isWrong_209 : decode cX12_isWrong 209 = .ok (.iload_n 1, 1) := by decide +kernel
theorem dX12_isWrong_210 : decode cX12_isWrong 210 = .ok (.i2l, 1) := by decide +kernel
theorem dX12_isWrong_211 : decode cX12_isWrong 211 = .ok (.lconst 0, 1) := by decide +kernel
theorem dX12_isWrong_212 : decode cX12_isWrong 212 = .ok (.ldc2_w 192, 3) := by decide +kernel
theorem dX12_isWrong_215 : decode cX12_isWrong 215 = .ok (.invokestatic 147, 3) := by decide +kernel
theorem dX12_isWrong_218 : decode cX12_isWrong 218 = .ok (.ifCond .ne 7, 3) := by decide +kernel
theorem dX12_isWrong_221 : decode cX12_isWrong 221 = .ok (.iconst 1, 1) := by decide +kernel
theorem dX12_isWrong_222 : decode cX12_isWrong 222 = .ok (.goto 4, 3) := by decide +kernel
theorem dX12_isWrong_225 : decode cX12_isWrong 225 = .ok (.iconst 0, 1) := by decide +kernel
theorem dX12_isWrong_226 : decode cX12_isWrong 226 = .ok (.ireturn, 1) := by decide +kernel
theorem dX12_isWrong_227 : decode cX12_isWrong 227 = .ok (.iload_n 1, 1) := by decide +kernel
theorem dX12_isWrong_228 : decode cX12_isWrong 228 = .ok (.i2l, 1) := by decide +kernel
theorem dX12_isWrong_229 : decode cX12_isWrong 229 = .ok (.lconst 0, 1) := by decide +kernel
theorem dX12_isWrong_230 : decode cX12_isWrong 230 = .ok (.ldc2_w 165, 3) := by decide +kernel
theorem dX12_isWrong_233 : decode cX12_isWrong 233 = .ok (.invokestatic 147, 3) := by decide +kernel
theorem dX12_isWrong_236 : decode cX12_isWrong 236 = .ok (.ifCond .ne 7, 3) := by decide +kernel
theorem dX12_isWrong_239 : decode cX12_isWrong 239 = .ok (.iconst 1, 1) := by decide +kernel
theorem dX12_isWrong_240 : decode cX12_isWrong 240 = .ok (.goto 4, 3) := by decide +kernel
theorem dX12_isWrong_243 : decode cX12_isWrong 243 = .ok (.iconst 0, 1) := by decide +kernel
theorem dX12_isWrong_244 : decode cX12_isWrong 244 = .ok (.ireturn, 1) := by decide +kernel
theorem dX12_isWrong_245 : decode cX12_isWrong 245 = .ok (.iload_n 0, 1) := by decide +kernel
theorem dX12_isWrong_246 : decode cX12_isWrong 246 = .ok (.i2l, 1) := by decide +kernel
theorem dX12_isWrong_247 : decode cX12_isWrong 247 = .ok (.lconst 0, 1) := by decide +kernel
theorem dX12_isWrong_248 : decode cX12_isWrong 248 = .ok (.ldc2_w 194, 3) := by decide +kernel
theorem dX12_isWrong_251 : decode cX12_isWrong 251 = .ok (.invokestatic 147, 3) := by decide +kernel
theorem dX12_isWrong_254 : decode cX12_isWrong 254 = .ok (.ifCond .ne 7, 3) := by decide +kernel
theorem dX12_isWrong_257 : decode cX12_isWrong 257 = .ok (.iconst 1, 1) := by decide +kernel
theorem dX12_isWrong_258 : decode cX12_isWrong 258 = .ok (.goto 4, 3) := by decide +kernel
theorem dX12_isWrong_261 : decode cX12_isWrong 261 = .ok (.iconst 0, 1) := by decide +kernel
theorem dX12_isWrong_262 : decode cX12_isWrong 262 = .ok (.ireturn, 1) := by decide +kernel
theorem dX12_begins_0 : decode cX12_begins 0 = .ok (.iload_n 0, 1) := by decide +kernel
theorem dX12_begins_1 : decode cX12_begins 1 = .ok (.bipush 11, 2) := by decide +kernel
theorem dX12_begins_3 : decode cX12_begins 3 = .ok (.if_icmp .eq 15, 3) := by decide +kernel
theorem dX12_begins_6 : decode cX12_begins 6 = .ok (.iload_n 0, 1) := by decide +kernel
theorem dX12_begins_7 : decode cX12_begins 7 = .ok (.bipush 12, 2) := by decide +kernel
theorem dX12_begins_9 : decode cX12_begins 9 = .ok (.if_icmp .eq 9, 3) := by decide +kernel
theorem dX12_begins_12 : decode cX12_begins 12 = .ok (.iload_n 0, 1) := by decide +kernel
theorem dX12_begins_13 : decode cX12_begins 13 = .ok (.bipush 13, 2) := by decide +kernel
theorem dX12_begins_15 : decode cX12_begins 15 = .ok (.if_icmp .ne 7, 3) := by decide +kernel
theorem dX12_begins_18 : decode cX12_begins 18 = .ok (.iconst 1, 1) := by decide +kernel
theorem dX12_begins_19 : decode cX12_begins 19 = .ok (.goto 4, 3) := by decide +kernel
theorem dX12_begins_22 : decode cX12_begins 22 = .ok (.iconst 0, 1) := by decide +kernel
theorem dX12_begins_23 : decode cX12_begins 23 = .ok (.ireturn, 1) := by decide +kernel
theorem dX12_judge_0 : decode cX12_judge 0 = .ok (.aload_n 0, 1) := by decide +kernel
theorem dX12_judge_1 : decode cX12_judge 1 = .ok (.iconst 0, 1) := by decide +kernel
theorem dX12_judge_2 : decode cX12_judge 2 = .ok (.putfield 196, 3) := by decide +kernel
theorem dX12_judge_5 : decode cX12_judge 5 = .ok (.aload_n 0, 1) := by decide +kernel
theorem dX12_judge_6 : decode cX12_judge 6 = .ok (.iconst (-1), 1) := by decide +kernel
theorem dX12_judge_7 : decode cX12_judge 7 = .ok (.putfield 199, 3) := by decide +kernel
theorem dX12_judge_10 : decode cX12_judge 10 = .ok (.iconst 0, 1) := by decide +kernel
theorem dX12_judge_11 : decode cX12_judge 11 = .ok (.istore_n 2, 1) := by decide +kernel
theorem dX12_judge_12 : decode cX12_judge 12 = .ok (.iconst 0, 1) := by decide +kernel
theorem dX12_judge_13 : decode cX12_judge 13 = .ok (.istore_n 3, 1) := by decide +kernel
theorem dX12_judge_14 : decode cX12_judge 14 = .ok (.iload_n 3, 1) := by decide +kernel
theorem dX12_judge_15 : decode cX12_judge 15 = .ok (.aload_n 0, 1) := by decide +kernel
theorem dX12_judge_16 : decode cX12_judge 16 = .ok (.getfield 47, 3) := by decide +kernel
theorem dX12_judge_19 : decode cX12_judge 19 = .ok (.iload_n 1, 1) := by decide +kernel
theorem dX12_judge_20 : decode cX12_judge 20 = .ok (.iaload, 1) := by decide +kernel
theorem dX12_judge_21 : decode cX12_judge 21 = .ok (.if_icmp .ge 317, 3) := by decide +kernel
theorem dX12_judge_24 : decode cX12_judge 24 = .ok (.aload_n 0, 1) := by decide +kernel
theorem dX12_judge_25 : decode cX12_judge 25 = .ok (.getfield 196, 3) := by decide +kernel
theorem dX12_judge_28 : decode cX12_judge 28 = .ok (.ifCond .ne 310, 3) := by decide +kernel
theorem dX12_judge_31 : decode cX12_judge 31 = .ok (.aload_n 0, 1) := by decide +kernel
theorem dX12_judge_32 : decode cX12_judge 32 = .ok (.getfield 50, 3) := by decide +kernel
theorem dX12_judge_35 : decode cX12_judge 35 = .ok (.bipush 40, 2) := by decide +kernel
theorem dX12_judge_37 : decode cX12_judge 37 = .ok (.iload_n 1, 1) := by decide +kernel
theorem dX12_judge_38 : decode cX12_judge 38 = .ok (.imul, 1) := by decide +kernel
theorem dX12_judge_39 : decode cX12_judge 39 = .ok (.iload_n 3, 1) := by decide +kernel
theorem dX12_judge_40 : decode cX12_judge 40 = .ok (.iadd, 1) := by decide +kernel
theorem dX12_judge_41 : decode cX12_judge 41 = .ok (.iaload, 1) := by decide +kernel
theorem dX12_judge_42 : decode cX12_judge 42 = .ok (.istore 4, 2) := by decide +kernel
theorem dX12_judge_44 : decode cX12_judge 44 = .ok (.iload 4, 2) := by decide +kernel
theorem dX12_judge_46 : decode cX12_judge 46 = .ok (.aload_n 0, 1) := by decide +kernel
theorem dX12_judge_47 : decode cX12_judge 47 = .ok (.getfield 53, 3) := by decide +kernel
theorem dX12_judge_50 : decode cX12_judge 50 = .ok (.bipush 40, 2) := by decide +kernel
theorem dX12_judge_52 : decode cX12_judge 52 = .ok (.iload_n 1, 1) := by decide +kernel
theorem dX12_judge_53 : decode cX12_judge 53 = .ok (.imul, 1) := by decide +kernel
theorem dX12_judge_54 : decode cX12_judge 54 = .ok (.iload_n 3, 1) := by decide +kernel
theorem dX12_judge_55 : decode cX12_judge 55 = .ok (.iadd, 1) := by decide +kernel
theorem dX12_judge_56 : decode cX12_judge 56 = .ok (.iaload, 1) := by decide +kernel
theorem dX12_judge_57 : decode cX12_judge 57 = .ok (.aload_n 0, 1) := by decide +kernel
theorem dX12_judge_58 : decode cX12_judge 58 = .ok (.getfield 56, 3) := by decide +kernel
theorem dX12_judge_61 : decode cX12_judge 61 = .ok (.bipush 40, 2) := by decide +kernel
theorem dX12_judge_63 : decode cX12_judge 63 = .ok (.iload_n 1, 1) := by decide +kernel
theorem dX12_judge_64 : decode cX12_judge 64 = .ok (.imul, 1) := by decide +kernel
theorem dX12_judge_65 : decode cX12_judge 65 = .ok (.iload_n 3, 1) := by decide +kernel
theorem dX12_judge_66 : decode cX12_judge 66 = .ok (.iadd, 1) := by decide +kernel
theorem dX12_judge_67 : decode cX12_judge 67 = .ok (.iaload, 1) := by decide +kernel
theorem dX12_judge_68 : decode cX12_judge 68 = .ok (.invokestatic 202, 3) := by decide +kernel
theorem dX12_judge_71 : decode cX12_judge 71 = .ok (.ifCond .eq 7, 3) := by decide +kernel
theorem dX12_judge_74 : decode cX12_judge 74 = .ok (.iconst 1, 1) := by decide +kernel
theorem dX12_judge_75 : decode cX12_judge 75 = .ok (.goto 4, 3) := by decide +kernel
theorem dX12_judge_78 : decode cX12_judge 78 = .ok (.iconst 0, 1) := by decide +kernel
theorem dX12_judge_79 : decode cX12_judge 79 = .ok (.istore 5, 2) := by decide +kernel
theorem dX12_judge_81 : decode cX12_judge 81 = .ok (.iload 5, 2) := by decide +kernel
theorem dX12_judge_83 : decode cX12_judge 83 = .ok (.ifCond .ne 37, 3) := by decide +kernel
theorem dX12_judge_86 : decode cX12_judge 86 = .ok (.iload 4, 2) := by decide +kernel
theorem dX12_judge_88 : decode cX12_judge 88 = .ok (.bipush 16, 2) := by decide +kernel
theorem dX12_judge_90 : decode cX12_judge 90 = .ok (.if_icmp .ne 30, 3) := by decide +kernel
theorem dX12_judge_93 : decode cX12_judge 93 = .ok (.iload_n 2, 1) := by decide +kernel
theorem dX12_judge_94 : decode cX12_judge 94 = .ok (.ifCond .ne 7, 3) := by decide +kernel
theorem dX12_judge_97 : decode cX12_judge 97 = .ok (.iconst 2, 1) := by decide +kernel
theorem dX12_judge_98 : decode cX12_judge 98 = .ok (.goto 4, 3) := by decide +kernel
theorem dX12_judge_101 : decode cX12_judge 101 = .ok (.iconst 0, 1) := by decide +kernel
theorem dX12_judge_102 : decode cX12_judge 102 = .ok (.istore 5, 2) := by decide +kernel
theorem dX12_judge_104 : decode cX12_judge 104 = .ok (.iload_n 2, 1) := by decide +kernel
theorem dX12_judge_105 : decode cX12_judge 105 = .ok (.iload 5, 2) := by decide +kernel
theorem dX12_judge_107 : decode cX12_judge 107 = .ok (.ifCond .ne 7, 3) := by decide +kernel
theorem dX12_judge_110 : decode cX12_judge 110 = .ok (.iconst 1, 1) := by decide +kernel
theorem dX12_judge_111 : decode cX12_judge 111 = .ok (.goto 4, 3) := by decide +kernel
theorem dX12_judge_114 : decode cX12_judge 114 = .ok (.iconst 0, 1) := by decide +kernel
theorem dX12_judge_115 : decode cX12_judge 115 = .ok (.isub, 1) := by decide +kernel
theorem dX12_judge_116 : decode cX12_judge 116 = .ok (.istore_n 2, 1) := by decide +kernel
theorem dX12_judge_117 : decode cX12_judge 117 = .ok (.goto 199, 3) := by decide +kernel
theorem dX12_judge_120 : decode cX12_judge 120 = .ok (.iload 5, 2) := by decide +kernel
theorem dX12_judge_122 : decode cX12_judge 122 = .ok (.ifCond .ne 76, 3) := by decide +kernel
theorem dX12_judge_125 : decode cX12_judge 125 = .ok (.iload 4, 2) := by decide +kernel
theorem dX12_judge_127 : decode cX12_judge 127 = .ok (.bipush 14, 2) := by decide +kernel
theorem dX12_judge_129 : decode cX12_judge 129 = .ok (.if_icmp .eq 10, 3) := by decide +kernel
theorem dX12_judge_132 : decode cX12_judge 132 = .ok (.iload 4, 2) := by decide +kernel
theorem dX12_judge_134 : decode cX12_judge 134 = .ok (.bipush 15, 2) := by decide +kernel
theorem dX12_judge_136 : decode cX12_judge 136 = .ok (.if_icmp .ne 62, 3) := by decide +kernel
theorem dX12_judge_139 : decode cX12_judge 139 = .ok (.iload_n 2, 1) := by decide +kernel
theorem dX12_judge_140 : decode cX12_judge 140 = .ok (.ifCond .eq 27, 3) := by decide +kernel
theorem dX12_judge_143 : decode cX12_judge 143 = .ok (.aload_n 0, 1) := by decide +kernel
theorem dX12_judge_144 : decode cX12_judge 144 = .ok (.getfield 59, 3) := by decide +kernel
theorem dX12_judge_147 : decode cX12_judge 147 = .ok (.iload_n 2, 1) := by decide +kernel
theorem dX12_judge_148 : decode cX12_judge 148 = .ok (.iconst 1, 1) := by decide +kernel
theorem dX12_judge_149 : decode cX12_judge 149 = .ok (.isub, 1) := by decide +kernel
theorem dX12_judge_150 : decode cX12_judge 150 = .ok (.iaload, 1) := by decide +kernel
theorem dX12_judge_151 : decode cX12_judge 151 = .ok (.bipush 13, 2) := by decide +kernel
theorem dX12_judge_153 : decode cX12_judge 153 = .ok (.if_icmp .ne 14, 3) := by decide +kernel
theorem dX12_judge_156 : decode cX12_judge 156 = .ok (.aload_n 0, 1) := by decide +kernel
theorem dX12_judge_157 : decode cX12_judge 157 = .ok (.getfield 62, 3) := by decide +kernel
theorem dX12_judge_160 : decode cX12_judge 160 = .ok (.iload_n 2, 1) := by decide +kernel
theorem dX12_judge_161 : decode cX12_judge 161 = .ok (.iconst 1, 1) := by decide +kernel
theorem dX12_judge_162 : decode cX12_judge 162 = .ok (.isub, 1) := by decide +kernel
theorem dX12_judge_163 : decode cX12_judge 163 = .ok (.baload, 1) := by decide +kernel
theorem dX12_judge_164 : decode cX12_judge 164 = .ok (.ifCond .eq 7, 3) := by decide +kernel
theorem dX12_judge_167 : decode cX12_judge 167 = .ok (.iconst 2, 1) := by decide +kernel
theorem dX12_judge_168 : decode cX12_judge 168 = .ok (.goto 4, 3) := by decide +kernel
theorem dX12_judge_171 : decode cX12_judge 171 = .ok (.iconst 0, 1) := by decide +kernel
theorem dX12_judge_172 : decode cX12_judge 172 = .ok (.istore 5, 2) := by decide +kernel
theorem dX12_judge_174 : decode cX12_judge 174 = .ok (.iload 5, 2) := by decide +kernel
theorem dX12_judge_176 : decode cX12_judge 176 = .ok (.ifCond .ne 140, 3) := by decide +kernel
theorem dX12_judge_179 : decode cX12_judge 179 = .ok (.iload 4, 2) := by decide +kernel
theorem dX12_judge_181 : decode cX12_judge 181 = .ok (.bipush 15, 2) := by decide +kernel
theorem dX12_judge_183 : decode cX12_judge 183 = .ok (.if_icmp .ne 133, 3) := by decide +kernel
theorem dX12_judge_186 : decode cX12_judge 186 = .ok (.aload_n 0, 1) := by decide +kernel
theorem dX12_judge_187 : decode cX12_judge 187 = .ok (.getfield 62, 3) := by decide +kernel
theorem dX12_judge_190 : decode cX12_judge 190 = .ok (.iload_n 2, 1) := by decide +kernel
theorem dX12_judge_191 : decode cX12_judge 191 = .ok (.iconst 1, 1) := by decide +kernel
theorem dX12_judge_192 : decode cX12_judge 192 = .ok (.isub, 1) := by decide +kernel
theorem dX12_judge_193 : decode cX12_judge 193 = .ok (.iconst 1, 1) := by decide +kernel
theorem dX12_judge_194 : decode cX12_judge 194 = .ok (.bastore, 1) := by decide +kernel
theorem dX12_judge_195 : decode cX12_judge 195 = .ok (.goto 121, 3) := by decide +kernel
theorem dX12_judge_198 : decode cX12_judge 198 = .ok (.iload 5, 2) := by decide +kernel
theorem dX12_judge_200 : decode cX12_judge 200 = .ok (.ifCond .ne 50, 3) := by decide +kernel
theorem dX12_judge_203 : decode cX12_judge 203 = .ok (.iload 4, 2) := by decide +kernel
theorem dX12_judge_205 : decode cX12_judge 205 = .ok (.invokestatic 206, 3) := by decide +kernel
theorem dX12_judge_208 : decode cX12_judge 208 = .ok (.ifCond .eq 42, 3) := by decide +kernel
theorem dX12_judge_211 : decode cX12_judge 211 = .ok (.iload_n 2, 1) := by decide +kernel
theorem dX12_judge_212 : decode cX12_judge 212 = .ok (.bipush 7, 2) := by decide +kernel
theorem dX12_judge_214 : decode cX12_judge 214 = .ok (.if_icmp .le 7, 3) := by decide +kernel
theorem dX12_judge_217 : decode cX12_judge 217 = .ok (.iconst 3, 1) := by decide +kernel
theorem dX12_judge_218 : decode cX12_judge 218 = .ok (.goto 4, 3) := by decide +kernel
theorem dX12_judge_221 : decode cX12_judge 221 = .ok (.iconst 0, 1) := by decide +kernel
theorem dX12_judge_222 : decode cX12_judge 222 = .ok (.istore 5, 2) := by decide +kernel
theorem dX12_judge_224 : decode cX12_judge 224 = .ok (.iload 5, 2) := by decide +kernel
theorem dX12_judge_226 : decode cX12_judge 226 = .ok (.ifCond .ne 90, 3) := by decide +kernel
theorem dX12_judge_229 : decode cX12_judge 229 = .ok (.aload_n 0, 1) := by decide +kernel
theorem dX12_judge_230 : decode cX12_judge 230 = .ok (.getfield 59, 3) := by decide +kernel
theorem dX12_judge_233 : decode cX12_judge 233 = .ok (.iload_n 2, 1) := by decide +kernel
theorem dX12_judge_234 : decode cX12_judge 234 = .ok (.iload 4, 2) := by decide +kernel
theorem dX12_judge_236 : decode cX12_judge 236 = .ok (.iastore, 1) := by decide +kernel
theorem dX12_judge_237 : decode cX12_judge 237 = .ok (.aload_n 0, 1) := by decide +kernel
theorem dX12_judge_238 : decode cX12_judge 238 = .ok (.getfield 62, 3) := by decide +kernel
theorem dX12_judge_241 : decode cX12_judge 241 = .ok (.iload_n 2, 1) := by decide +kernel
theorem dX12_judge_242 : decode cX12_judge 242 = .ok (.iconst 0, 1) := by decide +kernel
theorem dX12_judge_243 : decode cX12_judge 243 = .ok (.bastore, 1) := by decide +kernel
theorem dX12_judge_244 : decode cX12_judge 244 = .ok (.iinc 2 1, 3) := by decide +kernel
theorem dX12_judge_247 : decode cX12_judge 247 = .ok (.goto 69, 3) := by decide +kernel
theorem dX12_judge_250 : decode cX12_judge 250 = .ok (.iload 5, 2) := by decide +kernel
theorem dX12_judge_252 : decode cX12_judge 252 = .ok (.ifCond .ne 64, 3) := by decide +kernel
theorem dX12_judge_255 : decode cX12_judge 255 = .ok (.iload 4, 2) := by decide +kernel
theorem dX12_judge_257 : decode cX12_judge 257 = .ok (.bipush 10, 2) := by decide +kernel
theorem dX12_judge_259 : decode cX12_judge 259 = .ok (.if_icmp .ne 57, 3) := by decide +kernel
theorem dX12_judge_262 : decode cX12_judge 262 = .ok (.iconst 0, 1) := by decide +kernel
theorem dX12_judge_263 : decode cX12_judge 263 = .ok (.istore 6, 2) := by decide +kernel
theorem dX12_judge_265 : decode cX12_judge 265 = .ok (.iconst 0, 1) := by decide +kernel
theorem dX12_judge_266 : decode cX12_judge 266 = .ok (.istore 7, 2) := by decide +kernel
theorem dX12_judge_268 : decode cX12_judge 268 = .ok (.iload 7, 2) := by decide +kernel
theorem dX12_judge_270 : decode cX12_judge 270 = .ok (.iload_n 2, 1) := by decide +kernel
theorem dX12_judge_271 : decode cX12_judge 271 = .ok (.if_icmp .ge 33, 3) := by decide +kernel
theorem dX12_judge_274 : decode cX12_judge 274 = .ok (.iload 6, 2) := by decide +kernel
theorem dX12_judge_276 : decode cX12_judge 276 = .ok (.ifCond .ne 15, 3) := by decide +kernel
theorem dX12_judge_279 : decode cX12_judge 279 = .ok (.aload_n 0, 1) := by decide +kernel
theorem dX12_judge_280 : decode cX12_judge 280 = .ok (.getfield 59, 3) := by decide +kernel
theorem dX12_judge_283 : decode cX12_judge 283 = .ok (.iload 7, 2) := by decide +kernel
theorem dX12_judge_285 : decode cX12_judge 285 = .ok (.iaload, 1) := by decide +kernel
theorem dX12_judge_286 : decode cX12_judge 286 = .ok (.bipush 11, 2) := by decide +kernel
theorem dX12_judge_288 : decode cX12_judge 288 = .ok (.if_icmp .ne 7, 3) := by decide +kernel
theorem dX12_judge_291 : decode cX12_judge 291 = .ok (.iconst 1, 1) := by decide +kernel
theorem dX12_judge_292 : decode cX12_judge 292 = .ok (.goto 4, 3) := by decide +kernel
theorem dX12_judge_295 : decode cX12_judge 295 = .ok (.iconst 0, 1) := by decide +kernel
theorem dX12_judge_296 : decode cX12_judge 296 = .ok (.istore 6, 2) := by decide +kernel
theorem dX12_judge_298 : decode cX12_judge 298 = .ok (.iinc 7 1, 3) := by decide +kernel
theorem dX12_judge_301 : decode cX12_judge 301 = .ok (.goto (-33), 3) := by decide +kernel
theorem dX12_judge_304 : decode cX12_judge 304 = .ok (.iload 6, 2) := by decide +kernel
theorem dX12_judge_306 : decode cX12_judge 306 = .ok (.ifCond .eq 7, 3) := by decide +kernel
theorem dX12_judge_309 : decode cX12_judge 309 = .ok (.iconst 0, 1) := by decide +kernel
theorem dX12_judge_310 : decode cX12_judge 310 = .ok (.goto 4, 3) := by decide +kernel
theorem dX12_judge_313 : decode cX12_judge 313 = .ok (.iconst 4, 1) := by decide +kernel
theorem dX12_judge_314 : decode cX12_judge 314 = .ok (.istore 5, 2) := by decide +kernel
theorem dX12_judge_316 : decode cX12_judge 316 = .ok (.iload 5, 2) := by decide +kernel
theorem dX12_judge_318 : decode cX12_judge 318 = .ok (.ifCond .le 14, 3) := by decide +kernel
theorem dX12_judge_321 : decode cX12_judge 321 = .ok (.aload_n 0, 1) := by decide +kernel
theorem dX12_judge_322 : decode cX12_judge 322 = .ok (.iload 5, 2) := by decide +kernel
theorem dX12_judge_324 : decode cX12_judge 324 = .ok (.putfield 196, 3) := by decide +kernel
theorem dX12_judge_327 : decode cX12_judge 327 = .ok (.aload_n 0, 1) := by decide +kernel
theorem dX12_judge_328 : decode cX12_judge 328 = .ok (.iload_n 3, 1) := by decide +kernel
theorem dX12_judge_329 : decode cX12_judge 329 = .ok (.putfield 199, 3) := by decide +kernel
theorem dX12_judge_332 : decode cX12_judge 332 = .ok (.iinc 3 1, 3) := by decide +kernel
theorem dX12_judge_335 : decode cX12_judge 335 = .ok (.goto (-321), 3) := by decide +kernel
theorem dX12_judge_338 : decode cX12_judge 338 = .ok (.aload_n 0, 1) := by decide +kernel
theorem dX12_judge_339 : decode cX12_judge 339 = .ok (.getfield 196, 3) := by decide +kernel
theorem dX12_judge_342 : decode cX12_judge 342 = .ok (.ifCond .ne 22, 3) := by decide +kernel
theorem dX12_judge_345 : decode cX12_judge 345 = .ok (.iload_n 2, 1) := by decide +kernel
theorem dX12_judge_346 : decode cX12_judge 346 = .ok (.ifCond .le 18, 3) := by decide +kernel
theorem dX12_judge_349 : decode cX12_judge 349 = .ok (.aload_n 0, 1) := by decide +kernel
theorem dX12_judge_350 : decode cX12_judge 350 = .ok (.iconst 5, 1) := by decide +kernel
theorem dX12_judge_351 : decode cX12_judge 351 = .ok (.putfield 196, 3) := by decide +kernel
theorem dX12_judge_354 : decode cX12_judge 354 = .ok (.aload_n 0, 1) := by decide +kernel
theorem dX12_judge_355 : decode cX12_judge 355 = .ok (.aload_n 0, 1) := by decide +kernel
theorem dX12_judge_356 : decode cX12_judge 356 = .ok (.getfield 47, 3) := by decide +kernel
theorem dX12_judge_359 : decode cX12_judge 359 = .ok (.iload_n 1, 1) := by decide +kernel
theorem dX12_judge_360 : decode cX12_judge 360 = .ok (.iaload, 1) := by decide +kernel
theorem dX12_judge_361 : decode cX12_judge 361 = .ok (.putfield 199, 3) := by decide +kernel
theorem dX12_judge_364 : decode cX12_judge 364 = .ok (.return_, 1) := by decide +kernel
theorem dX12_fault_0 : decode cX12_fault 0 = .ok (.aload_n 0, 1) := by decide +kernel
theorem dX12_fault_1 : decode cX12_fault 1 = .ok (.iload_n 1, 1) := by decide +kernel
theorem dX12_fault_2 : decode cX12_fault 2 = .ok (.invokevirtual 180, 3) := by decide +kernel
theorem dX12_fault_5 : decode cX12_fault 5 = .ok (.ifCond .eq 6, 3) := by decide +kernel
theorem dX12_fault_8 : decode cX12_fault 8 = .ok (.bipush (-101), 2) := by decide +kernel
theorem dX12_fault_10 : decode cX12_fault 10 = .ok (.ireturn, 1) := by decide +kernel
theorem dX12_fault_11 : decode cX12_fault 11 = .ok (.iload_n 2, 1) := by decide +kernel
theorem dX12_fault_12 : decode cX12_fault 12 = .ok (.i2l, 1) := by decide +kernel
theorem dX12_fault_13 : decode cX12_fault 13 = .ok (.lconst 0, 1) := by decide +kernel
theorem dX12_fault_14 : decode cX12_fault 14 = .ok (.lconst 1, 1) := by decide +kernel
theorem dX12_fault_15 : decode cX12_fault 15 = .ok (.invokestatic 147, 3) := by decide +kernel
theorem dX12_fault_18 : decode cX12_fault 18 = .ok (.ifCond .ne 6, 3) := by decide +kernel
theorem dX12_fault_21 : decode cX12_fault 21 = .ok (.bipush (-102), 2) := by decide +kernel
theorem dX12_fault_23 : decode cX12_fault 23 = .ok (.ireturn, 1) := by decide +kernel
theorem dX12_fault_24 : decode cX12_fault 24 = .ok (.aload_n 0, 1) := by decide +kernel
theorem dX12_fault_25 : decode cX12_fault 25 = .ok (.iload_n 1, 1) := by decide +kernel
theorem dX12_fault_26 : decode cX12_fault 26 = .ok (.invokevirtual 209, 3) := by decide +kernel
theorem dX12_fault_29 : decode cX12_fault 29 = .ok (.iload_n 2, 1) := by decide +kernel
theorem dX12_fault_30 : decode cX12_fault 30 = .ok (.ifCond .ne 10, 3) := by decide +kernel
theorem dX12_fault_33 : decode cX12_fault 33 = .ok (.aload_n 0, 1) := by decide +kernel
theorem dX12_fault_34 : decode cX12_fault 34 = .ok (.getfield 196, 3) := by decide +kernel
theorem dX12_fault_37 : decode cX12_fault 37 = .ok (.goto 7, 3) := by decide +kernel
theorem dX12_fault_40 : decode cX12_fault 40 = .ok (.aload_n 0, 1) := by decide +kernel
theorem dX12_fault_41 : decode cX12_fault 41 = .ok (.getfield 199, 3) := by decide +kernel
theorem dX12_fault_44 : decode cX12_fault 44 = .ok (.ireturn, 1) := by decide +kernel
theorem dX12_behind_0 : decode cX12_behind 0 = .ok (.iconst 0, 1) := by decide +kernel
theorem dX12_behind_1 : decode cX12_behind 1 = .ok (.istore_n 3, 1) := by decide +kernel
theorem dX12_behind_2 : decode cX12_behind 2 = .ok (.iload_n 2, 1) := by decide +kernel
theorem dX12_behind_3 : decode cX12_behind 3 = .ok (.iconst 1, 1) := by decide +kernel
theorem dX12_behind_4 : decode cX12_behind 4 = .ok (.iadd, 1) := by decide +kernel
theorem dX12_behind_5 : decode cX12_behind 5 = .ok (.istore 4, 2) := by decide +kernel
theorem dX12_behind_7 : decode cX12_behind 7 = .ok (.iconst 1, 1) := by decide +kernel
theorem dX12_behind_8 : decode cX12_behind 8 = .ok (.istore 5, 2) := by decide +kernel
theorem dX12_behind_10 : decode cX12_behind 10 = .ok (.iload 5, 2) := by decide +kernel
theorem dX12_behind_12 : decode cX12_behind 12 = .ok (.ifCond .eq 81, 3) := by decide +kernel
theorem dX12_behind_15 : decode cX12_behind 15 = .ok (.aload_n 0, 1) := by decide +kernel
theorem dX12_behind_16 : decode cX12_behind 16 = .ok (.getfield 50, 3) := by decide +kernel
theorem dX12_behind_19 : decode cX12_behind 19 = .ok (.bipush 40, 2) := by decide +kernel
theorem dX12_behind_21 : decode cX12_behind 21 = .ok (.iload_n 1, 1) := by decide +kernel
theorem dX12_behind_22 : decode cX12_behind 22 = .ok (.imul, 1) := by decide +kernel
theorem dX12_behind_23 : decode cX12_behind 23 = .ok (.iload 4, 2) := by decide +kernel
theorem dX12_behind_25 : decode cX12_behind 25 = .ok (.iadd, 1) := by decide +kernel
theorem dX12_behind_26 : decode cX12_behind 26 = .ok (.iaload, 1) := by decide +kernel
theorem dX12_behind_27 : decode cX12_behind 27 = .ok (.istore 6, 2) := by decide +kernel
theorem dX12_behind_29 : decode cX12_behind 29 = .ok (.iload_n 3, 1) := by decide +kernel
theorem dX12_behind_30 : decode cX12_behind 30 = .ok (.ifCond .ne 30, 3) := by decide +kernel
theorem dX12_behind_33 : decode cX12_behind 33 = .ok (.iload 6, 2) := by decide +kernel
theorem dX12_behind_35 : decode cX12_behind 35 = .ok (.bipush 16, 2) := by decide +kernel
theorem dX12_behind_37 : decode cX12_behind 37 = .ok (.if_icmp .eq 17, 3) := by decide +kernel
theorem dX12_behind_40 : decode cX12_behind 40 = .ok (.iload 6, 2) := by decide +kernel
theorem dX12_behind_42 : decode cX12_behind 42 = .ok (.bipush 14, 2) := by decide +kernel
theorem dX12_behind_44 : decode cX12_behind 44 = .ok (.if_icmp .eq 10, 3) := by decide +kernel
theorem dX12_behind_47 : decode cX12_behind 47 = .ok (.iload 6, 2) := by decide +kernel
theorem dX12_behind_49 : decode cX12_behind 49 = .ok (.bipush 15, 2) := by decide +kernel
theorem dX12_behind_51 : decode cX12_behind 51 = .ok (.if_icmp .ne 9, 3) := by decide +kernel
theorem dX12_behind_54 : decode cX12_behind 54 = .ok (.iconst 0, 1) := by decide +kernel
theorem dX12_behind_55 : decode cX12_behind 55 = .ok (.istore 5, 2) := by decide +kernel
theorem dX12_behind_57 : decode cX12_behind 57 = .ok (.goto 33, 3) := by decide +kernel
theorem dX12_behind_60 : decode cX12_behind 60 = .ok (.iload_n 3, 1) := by decide +kernel
theorem dX12_behind_61 : decode cX12_behind 61 = .ok (.iload 6, 2) := by decide +kernel
theorem dX12_behind_63 : decode cX12_behind 63 = .ok (.invokestatic 206, 3) := by decide +kernel
theorem dX12_behind_66 : decode cX12_behind 66 = .ok (.ifCond .eq 7, 3) := by decide +kernel
theorem dX12_behind_69 : decode cX12_behind 69 = .ok (.iconst 1, 1) := by decide +kernel
theorem dX12_behind_70 : decode cX12_behind 70 = .ok (.goto 15, 3) := by decide +kernel
theorem dX12_behind_73 : decode cX12_behind 73 = .ok (.iload 6, 2) := by decide +kernel
theorem dX12_behind_75 : decode cX12_behind 75 = .ok (.bipush 16, 2) := by decide +kernel
theorem dX12_behind_77 : decode cX12_behind 77 = .ok (.if_icmp .ne 7, 3) := by decide +kernel
theorem dX12_behind_80 : decode cX12_behind 80 = .ok (.iconst (-1), 1) := by decide +kernel
theorem dX12_behind_81 : decode cX12_behind 81 = .ok (.goto 4, 3) := by decide +kernel
theorem dX12_behind_84 : decode cX12_behind 84 = .ok (.iconst 0, 1) := by decide +kernel
theorem dX12_behind_85 : decode cX12_behind 85 = .ok (.iadd, 1) := by decide +kernel
theorem dX12_behind_86 : decode cX12_behind 86 = .ok (.istore_n 3, 1) := by decide +kernel
theorem dX12_behind_87 : decode cX12_behind 87 = .ok (.iinc 4 1, 3) := by decide +kernel
theorem dX12_behind_90 : decode cX12_behind 90 = .ok (.goto (-80), 3) := by decide +kernel
theorem dX12_behind_93 : decode cX12_behind 93 = .ok (.iload 4, 2) := by decide +kernel
theorem dX12_behind_95 : decode cX12_behind 95 = .ok (.ireturn, 1) := by decide +kernel
theorem dX12_endOf_0 : decode cX12_endOf 0 = .ok (.aload_n 0, 1) := by decide +kernel
theorem dX12_endOf_1 : decode cX12_endOf 1 = .ok (.iload_n 1, 1) := by decide +kernel
theorem dX12_endOf_2 : decode cX12_endOf 2 = .ok (.iload_n 2, 1) := by decide +kernel
theorem dX12_endOf_3 : decode cX12_endOf 3 = .ok (.invokevirtual 213, 3) := by decide +kernel
theorem dX12_endOf_6 : decode cX12_endOf 6 = .ok (.istore_n 3, 1) := by decide +kernel
theorem dX12_endOf_7 : decode cX12_endOf 7 = .ok (.aload_n 0, 1) := by decide +kernel
theorem dX12_endOf_8 : decode cX12_endOf 8 = .ok (.getfield 50, 3) := by decide +kernel
theorem dX12_endOf_11 : decode cX12_endOf 11 = .ok (.bipush 40, 2) := by decide +kernel
theorem dX12_endOf_13 : decode cX12_endOf 13 = .ok (.iload_n 1, 1) := by decide +kernel
theorem dX12_endOf_14 : decode cX12_endOf 14 = .ok (.imul, 1) := by decide +kernel
theorem dX12_endOf_15 : decode cX12_endOf 15 = .ok (.iload_n 3, 1) := by decide +kernel
theorem dX12_endOf_16 : decode cX12_endOf 16 = .ok (.iadd, 1) := by decide +kernel
theorem dX12_endOf_17 : decode cX12_endOf 17 = .ok (.iaload, 1) := by decide +kernel
theorem dX12_endOf_18 : decode cX12_endOf 18 = .ok (.bipush 16, 2) := by decide +kernel
theorem dX12_endOf_20 : decode cX12_endOf 20 = .ok (.if_icmp .eq 13, 3) := by decide +kernel
theorem dX12_endOf_23 : decode cX12_endOf 23 = .ok (.aload_n 0, 1) := by decide +kernel
theorem dX12_endOf_24 : decode cX12_endOf 24 = .ok (.iload_n 1, 1) := by decide +kernel
theorem dX12_endOf_25 : decode cX12_endOf 25 = .ok (.iload_n 3, 1) := by decide +kernel
theorem dX12_endOf_26 : decode cX12_endOf 26 = .ok (.invokevirtual 213, 3) := by decide +kernel
theorem dX12_endOf_29 : decode cX12_endOf 29 = .ok (.istore_n 3, 1) := by decide +kernel
theorem dX12_endOf_30 : decode cX12_endOf 30 = .ok (.goto (-23), 3) := by decide +kernel
theorem dX12_endOf_33 : decode cX12_endOf 33 = .ok (.iload_n 3, 1) := by decide +kernel
theorem dX12_endOf_34 : decode cX12_endOf 34 = .ok (.ireturn, 1) := by decide +kernel
theorem dX12_finishOf_0 : decode cX12_finishOf 0 = .ok (.aload_n 0, 1) := by decide +kernel
theorem dX12_finishOf_1 : decode cX12_finishOf 1 = .ok (.iload_n 1, 1) := by decide +kernel
theorem dX12_finishOf_2 : decode cX12_finishOf 2 = .ok (.iload_n 2, 1) := by decide +kernel
theorem dX12_finishOf_3 : decode cX12_finishOf 3 = .ok (.invokevirtual 213, 3) := by decide +kernel
theorem dX12_finishOf_6 : decode cX12_finishOf 6 = .ok (.istore_n 3, 1) := by decide +kernel
theorem dX12_finishOf_7 : decode cX12_finishOf 7 = .ok (.aload_n 0, 1) := by decide +kernel
theorem dX12_finishOf_8 : decode cX12_finishOf 8 = .ok (.getfield 50, 3) := by decide +kernel
theorem dX12_finishOf_11 : decode cX12_finishOf 11 = .ok (.bipush 40, 2) := by decide +kernel
theorem dX12_finishOf_13 : decode cX12_finishOf 13 = .ok (.iload_n 1, 1) := by decide +kernel
theorem dX12_finishOf_14 : decode cX12_finishOf 14 = .ok (.imul, 1) := by decide +kernel
theorem dX12_finishOf_15 : decode cX12_finishOf 15 = .ok (.iload_n 3, 1) := by decide +kernel
theorem dX12_finishOf_16 : decode cX12_finishOf 16 = .ok (.iadd, 1) := by decide +kernel
theorem dX12_finishOf_17 : decode cX12_finishOf 17 = .ok (.iaload, 1) := by decide +kernel
theorem dX12_finishOf_18 : decode cX12_finishOf 18 = .ok (.bipush 14, 2) := by decide +kernel
theorem dX12_finishOf_20 : decode cX12_finishOf 20 = .ok (.if_icmp .ne 13, 3) := by decide +kernel
theorem dX12_finishOf_23 : decode cX12_finishOf 23 = .ok (.aload_n 0, 1) := by decide +kernel
theorem dX12_finishOf_24 : decode cX12_finishOf 24 = .ok (.iload_n 1, 1) := by decide +kernel
theorem dX12_finishOf_25 : decode cX12_finishOf 25 = .ok (.iload_n 3, 1) := by decide +kernel
theorem dX12_finishOf_26 : decode cX12_finishOf 26 = .ok (.invokevirtual 213, 3) := by decide +kernel
theorem dX12_finishOf_29 : decode cX12_finishOf 29 = .ok (.istore_n 3, 1) := by decide +kernel
theorem dX12_finishOf_30 : decode cX12_finishOf 30 = .ok (.goto (-23), 3) := by decide +kernel
theorem dX12_finishOf_33 : decode cX12_finishOf 33 = .ok (.aload_n 0, 1) := by decide +kernel
theorem dX12_finishOf_34 : decode cX12_finishOf 34 = .ok (.getfield 50, 3) := by decide +kernel
theorem dX12_finishOf_37 : decode cX12_finishOf 37 = .ok (.bipush 40, 2) := by decide +kernel
theorem dX12_finishOf_39 : decode cX12_finishOf 39 = .ok (.iload_n 1, 1) := by decide +kernel
theorem dX12_finishOf_40 : decode cX12_finishOf 40 = .ok (.imul, 1) := by decide +kernel
theorem dX12_finishOf_41 : decode cX12_finishOf 41 = .ok (.iload_n 3, 1) := by decide +kernel
theorem dX12_finishOf_42 : decode cX12_finishOf 42 = .ok (.iadd, 1) := by decide +kernel
theorem dX12_finishOf_43 : decode cX12_finishOf 43 = .ok (.iaload, 1) := by decide +kernel
theorem dX12_finishOf_44 : decode cX12_finishOf 44 = .ok (.bipush 15, 2) := by decide +kernel
theorem dX12_finishOf_46 : decode cX12_finishOf 46 = .ok (.if_icmp .ne 7, 3) := by decide +kernel
theorem dX12_finishOf_49 : decode cX12_finishOf 49 = .ok (.iload_n 3, 1) := by decide +kernel
theorem dX12_finishOf_50 : decode cX12_finishOf 50 = .ok (.goto 4, 3) := by decide +kernel
theorem dX12_finishOf_53 : decode cX12_finishOf 53 = .ok (.iconst (-1), 1) := by decide +kernel
theorem dX12_finishOf_54 : decode cX12_finishOf 54 = .ok (.ireturn, 1) := by decide +kernel
theorem dX12_begin_0 : decode cX12_begin 0 = .ok (.aload_n 0, 1) := by decide +kernel
theorem dX12_begin_1 : decode cX12_begin 1 = .ok (.getfield 66, 3) := by decide +kernel
theorem dX12_begin_4 : decode cX12_begin 4 = .ok (.aload_n 0, 1) := by decide +kernel
theorem dX12_begin_5 : decode cX12_begin 5 = .ok (.getfield 217, 3) := by decide +kernel
theorem dX12_begin_8 : decode cX12_begin 8 = .ok (.iload_n 1, 1) := by decide +kernel
theorem dX12_begin_9 : decode cX12_begin 9 = .ok (.iastore, 1) := by decide +kernel
theorem dX12_begin_10 : decode cX12_begin 10 = .ok (.aload_n 0, 1) := by decide +kernel
theorem dX12_begin_11 : decode cX12_begin 11 = .ok (.getfield 69, 3) := by decide +kernel
theorem dX12_begin_14 : decode cX12_begin 14 = .ok (.aload_n 0, 1) := by decide +kernel
theorem dX12_begin_15 : decode cX12_begin 15 = .ok (.getfield 217, 3) := by decide +kernel
theorem dX12_begin_18 : decode cX12_begin 18 = .ok (.iload_n 2, 1) := by decide +kernel
theorem dX12_begin_19 : decode cX12_begin 19 = .ok (.iastore, 1) := by decide +kernel
theorem dX12_begin_20 : decode cX12_begin 20 = .ok (.aload_n 0, 1) := by decide +kernel
theorem dX12_begin_21 : decode cX12_begin 21 = .ok (.getfield 72, 3) := by decide +kernel
theorem dX12_begin_24 : decode cX12_begin 24 = .ok (.aload_n 0, 1) := by decide +kernel
theorem dX12_begin_25 : decode cX12_begin 25 = .ok (.getfield 217, 3) := by decide +kernel
theorem dX12_begin_28 : decode cX12_begin 28 = .ok (.iload_n 3, 1) := by decide +kernel
theorem dX12_begin_29 : decode cX12_begin 29 = .ok (.iastore, 1) := by decide +kernel
theorem dX12_begin_30 : decode cX12_begin 30 = .ok (.aload_n 0, 1) := by decide +kernel
theorem dX12_begin_31 : decode cX12_begin 31 = .ok (.getfield 75, 3) := by decide +kernel
theorem dX12_begin_34 : decode cX12_begin 34 = .ok (.aload_n 0, 1) := by decide +kernel
theorem dX12_begin_35 : decode cX12_begin 35 = .ok (.getfield 217, 3) := by decide +kernel
theorem dX12_begin_38 : decode cX12_begin 38 = .ok (.iconst 0, 1) := by decide +kernel
theorem dX12_begin_39 : decode cX12_begin 39 = .ok (.iastore, 1) := by decide +kernel
theorem dX12_begin_40 : decode cX12_begin 40 = .ok (.aload_n 0, 1) := by decide +kernel
theorem dX12_begin_41 : decode cX12_begin 41 = .ok (.getfield 78, 3) := by decide +kernel
theorem dX12_begin_44 : decode cX12_begin 44 = .ok (.aload_n 0, 1) := by decide +kernel
theorem dX12_begin_45 : decode cX12_begin 45 = .ok (.getfield 217, 3) := by decide +kernel
theorem dX12_begin_48 : decode cX12_begin 48 = .ok (.iconst (-1), 1) := by decide +kernel
theorem dX12_begin_49 : decode cX12_begin 49 = .ok (.iastore, 1) := by decide +kernel
theorem dX12_begin_50 : decode cX12_begin 50 = .ok (.aload_n 0, 1) := by decide +kernel
theorem dX12_begin_51 : decode cX12_begin 51 = .ok (.getfield 81, 3) := by decide +kernel
theorem dX12_begin_54 : decode cX12_begin 54 = .ok (.aload_n 0, 1) := by decide +kernel
theorem dX12_begin_55 : decode cX12_begin 55 = .ok (.getfield 217, 3) := by decide +kernel
theorem dX12_begin_58 : decode cX12_begin 58 = .ok (.iconst (-1), 1) := by decide +kernel
theorem dX12_begin_59 : decode cX12_begin 59 = .ok (.iastore, 1) := by decide +kernel
theorem dX12_begin_60 : decode cX12_begin 60 = .ok (.aload_n 0, 1) := by decide +kernel
theorem dX12_begin_61 : decode cX12_begin 61 = .ok (.dup, 1) := by decide +kernel
theorem dX12_begin_62 : decode cX12_begin 62 = .ok (.getfield 217, 3) := by decide +kernel
theorem dX12_begin_65 : decode cX12_begin 65 = .ok (.iconst 1, 1) := by decide +kernel
theorem dX12_begin_66 : decode cX12_begin 66 = .ok (.iadd, 1) := by decide +kernel
theorem dX12_begin_67 : decode cX12_begin 67 = .ok (.putfield 217, 3) := by decide +kernel
theorem dX12_begin_70 : decode cX12_begin 70 = .ok (.return_, 1) := by decide +kernel
theorem dX12_findAct_0 : decode cX12_findAct 0 = .ok (.aload_n 0, 1) := by decide +kernel
theorem dX12_findAct_1 : decode cX12_findAct 1 = .ok (.aload_n 0, 1) := by decide +kernel
theorem dX12_findAct_2 : decode cX12_findAct 2 = .ok (.getfield 217, 3) := by decide +kernel
theorem dX12_findAct_5 : decode cX12_findAct 5 = .ok (.iconst 1, 1) := by decide +kernel
theorem dX12_findAct_6 : decode cX12_findAct 6 = .ok (.isub, 1) := by decide +kernel
theorem dX12_findAct_7 : decode cX12_findAct 7 = .ok (.putfield 220, 3) := by decide +kernel
theorem dX12_findAct_10 : decode cX12_findAct 10 = .ok (.aload_n 0, 1) := by decide +kernel
theorem dX12_findAct_11 : decode cX12_findAct 11 = .ok (.getfield 220, 3) := by decide +kernel
theorem dX12_findAct_14 : decode cX12_findAct 14 = .ok (.ifCond .lt 30, 3) := by decide +kernel
theorem dX12_findAct_17 : decode cX12_findAct 17 = .ok (.aload_n 0, 1) := by decide +kernel
theorem dX12_findAct_18 : decode cX12_findAct 18 = .ok (.getfield 66, 3) := by decide +kernel
theorem dX12_findAct_21 : decode cX12_findAct 21 = .ok (.aload_n 0, 1) := by decide +kernel
theorem dX12_findAct_22 : decode cX12_findAct 22 = .ok (.getfield 220, 3) := by decide +kernel
theorem dX12_findAct_25 : decode cX12_findAct 25 = .ok (.iaload, 1) := by decide +kernel
theorem dX12_findAct_26 : decode cX12_findAct 26 = .ok (.bipush 17, 2) := by decide +kernel
theorem dX12_findAct_28 : decode cX12_findAct 28 = .ok (.if_icmp .eq 16, 3) := by decide +kernel
theorem dX12_findAct_31 : decode cX12_findAct 31 = .ok (.aload_n 0, 1) := by decide +kernel
theorem dX12_findAct_32 : decode cX12_findAct 32 = .ok (.dup, 1) := by decide +kernel
theorem dX12_findAct_33 : decode cX12_findAct 33 = .ok (.getfield 220, 3) := by decide +kernel
theorem dX12_findAct_36 : decode cX12_findAct 36 = .ok (.iconst 1, 1) := by decide +kernel
theorem dX12_findAct_37 : decode cX12_findAct 37 = .ok (.isub, 1) := by decide +kernel
theorem dX12_findAct_38 : decode cX12_findAct 38 = .ok (.putfield 220, 3) := by decide +kernel
theorem dX12_findAct_41 : decode cX12_findAct 41 = .ok (.goto (-31), 3) := by decide +kernel
theorem dX12_findAct_44 : decode cX12_findAct 44 = .ok (.return_, 1) := by decide +kernel
theorem dX12_beginAct_0 : decode cX12_beginAct 0 = .ok (.iconst 0, 1) := by decide +kernel
theorem dX12_beginAct_1 : decode cX12_beginAct 1 = .ok (.istore_n 3, 1) := by decide +kernel
theorem dX12_beginAct_2 : decode cX12_beginAct 2 = .ok (.iload_n 3, 1) := by decide +kernel
theorem dX12_beginAct_3 : decode cX12_beginAct 3 = .ok (.bipush 8, 2) := by decide +kernel
theorem dX12_beginAct_5 : decode cX12_beginAct 5 = .ok (.if_icmp .ge 24, 3) := by decide +kernel
theorem dX12_beginAct_8 : decode cX12_beginAct 8 = .ok (.aload_n 0, 1) := by decide +kernel
theorem dX12_beginAct_9 : decode cX12_beginAct 9 = .ok (.getfield 84, 3) := by decide +kernel
theorem dX12_beginAct_12 : decode cX12_beginAct 12 = .ok (.bipush 8, 2) := by decide +kernel
theorem dX12_beginAct_14 : decode cX12_beginAct 14 = .ok (.aload_n 0, 1) := by decide +kernel
theorem dX12_beginAct_15 : decode cX12_beginAct 15 = .ok (.getfield 223, 3) := by decide +kernel
theorem dX12_beginAct_18 : decode cX12_beginAct 18 = .ok (.imul, 1) := by decide +kernel
theorem dX12_beginAct_19 : decode cX12_beginAct 19 = .ok (.iload_n 3, 1) := by decide +kernel
theorem dX12_beginAct_20 : decode cX12_beginAct 20 = .ok (.iadd, 1) := by decide +kernel
theorem dX12_beginAct_21 : decode cX12_beginAct 21 = .ok (.iconst (-1), 1) := by decide +kernel
theorem dX12_beginAct_22 : decode cX12_beginAct 22 = .ok (.iastore, 1) := by decide +kernel
theorem dX12_beginAct_23 : decode cX12_beginAct 23 = .ok (.iinc 3 1, 3) := by decide +kernel
theorem dX12_beginAct_26 : decode cX12_beginAct 26 = .ok (.goto (-24), 3) := by decide +kernel
theorem dX12_beginAct_29 : decode cX12_beginAct 29 = .ok (.aload_n 0, 1) := by decide +kernel
theorem dX12_beginAct_30 : decode cX12_beginAct 30 = .ok (.getfield 84, 3) := by decide +kernel
theorem dX12_beginAct_33 : decode cX12_beginAct 33 = .ok (.bipush 8, 2) := by decide +kernel
theorem dX12_beginAct_35 : decode cX12_beginAct 35 = .ok (.aload_n 0, 1) := by decide +kernel
theorem dX12_beginAct_36 : decode cX12_beginAct 36 = .ok (.getfield 223, 3) := by decide +kernel
theorem dX12_beginAct_39 : decode cX12_beginAct 39 = .ok (.imul, 1) := by decide +kernel
theorem dX12_beginAct_40 : decode cX12_beginAct 40 = .ok (.iload_n 2, 1) := by decide +kernel
theorem dX12_beginAct_41 : decode cX12_beginAct 41 = .ok (.iastore, 1) := by decide +kernel
theorem dX12_beginAct_42 : decode cX12_beginAct 42 = .ok (.aload_n 0, 1) := by decide +kernel
theorem dX12_beginAct_43 : decode cX12_beginAct 43 = .ok (.dup, 1) := by decide +kernel
theorem dX12_beginAct_44 : decode cX12_beginAct 44 = .ok (.getfield 223, 3) := by decide +kernel
theorem dX12_beginAct_47 : decode cX12_beginAct 47 = .ok (.iconst 1, 1) := by decide +kernel
theorem dX12_beginAct_48 : decode cX12_beginAct 48 = .ok (.iadd, 1) := by decide +kernel
theorem dX12_beginAct_49 : decode cX12_beginAct 49 = .ok (.putfield 223, 3) := by decide +kernel
theorem dX12_beginAct_52 : decode cX12_beginAct 52 = .ok (.aload_n 0, 1) := by decide +kernel
theorem dX12_beginAct_53 : decode cX12_beginAct 53 = .ok (.bipush 17, 2) := by decide +kernel
theorem dX12_beginAct_55 : decode cX12_beginAct 55 = .ok (.iconst (-1), 1) := by decide +kernel
theorem dX12_beginAct_56 : decode cX12_beginAct 56 = .ok (.iload_n 1, 1) := by decide +kernel
theorem dX12_beginAct_57 : decode cX12_beginAct 57 = .ok (.invokevirtual 226, 3) := by decide +kernel
theorem dX12_beginAct_60 : decode cX12_beginAct 60 = .ok (.aload_n 0, 1) := by decide +kernel
theorem dX12_beginAct_61 : decode cX12_beginAct 61 = .ok (.getfield 75, 3) := by decide +kernel
theorem dX12_beginAct_64 : decode cX12_beginAct 64 = .ok (.aload_n 0, 1) := by decide +kernel
theorem dX12_beginAct_65 : decode cX12_beginAct 65 = .ok (.getfield 217, 3) := by decide +kernel
theorem dX12_beginAct_68 : decode cX12_beginAct 68 = .ok (.iconst 1, 1) := by decide +kernel
theorem dX12_beginAct_69 : decode cX12_beginAct 69 = .ok (.isub, 1) := by decide +kernel
theorem dX12_beginAct_70 : decode cX12_beginAct 70 = .ok (.iconst 0, 1) := by decide +kernel
theorem dX12_beginAct_71 : decode cX12_beginAct 71 = .ok (.iastore, 1) := by decide +kernel
theorem dX12_beginAct_72 : decode cX12_beginAct 72 = .ok (.aload_n 0, 1) := by decide +kernel
theorem dX12_beginAct_73 : decode cX12_beginAct 73 = .ok (.aload_n 0, 1) := by decide +kernel
theorem dX12_beginAct_74 : decode cX12_beginAct 74 = .ok (.getfield 217, 3) := by decide +kernel
theorem dX12_beginAct_77 : decode cX12_beginAct 77 = .ok (.iconst 1, 1) := by decide +kernel
theorem dX12_beginAct_78 : decode cX12_beginAct 78 = .ok (.isub, 1) := by decide +kernel
theorem dX12_beginAct_79 : decode cX12_beginAct 79 = .ok (.putfield 220, 3) := by decide +kernel
theorem dX12_beginAct_82 : decode cX12_beginAct 82 = .ok (.aload_n 0, 1) := by decide +kernel
theorem dX12_beginAct_83 : decode cX12_beginAct 83 = .ok (.iconst 0, 1) := by decide +kernel
theorem dX12_beginAct_84 : decode cX12_beginAct 84 = .ok (.invokevirtual 230, 3) := by decide +kernel
theorem dX12_beginAct_87 : decode cX12_beginAct 87 = .ok (.aload_n 0, 1) := by decide +kernel
theorem dX12_beginAct_88 : decode cX12_beginAct 88 = .ok (.iconst (-1), 1) := by decide +kernel
theorem dX12_beginAct_89 : decode cX12_beginAct 89 = .ok (.invokevirtual 233, 3) := by decide +kernel
theorem dX12_beginAct_92 : decode cX12_beginAct 92 = .ok (.return_, 1) := by decide +kernel
theorem dX12_beginScope_0 : decode cX12_beginScope 0 = .ok (.aload_n 0, 1) := by decide +kernel
theorem dX12_beginScope_1 : decode cX12_beginScope 1 = .ok (.bipush 12, 2) := by decide +kernel
theorem dX12_beginScope_3 : decode cX12_beginScope 3 = .ok (.iload_n 1, 1) := by decide +kernel
theorem dX12_beginScope_4 : decode cX12_beginScope 4 = .ok (.aload_n 0, 1) := by decide +kernel
theorem dX12_beginScope_5 : decode cX12_beginScope 5 = .ok (.getfield 236, 3) := by decide +kernel
theorem dX12_beginScope_8 : decode cX12_beginScope 8 = .ok (.invokevirtual 226, 3) := by decide +kernel
theorem dX12_beginScope_11 : decode cX12_beginScope 11 = .ok (.aload_n 0, 1) := by decide +kernel
theorem dX12_beginScope_12 : decode cX12_beginScope 12 = .ok (.dup, 1) := by decide +kernel
theorem dX12_beginScope_13 : decode cX12_beginScope 13 = .ok (.getfield 236, 3) := by decide +kernel
theorem dX12_beginScope_16 : decode cX12_beginScope 16 = .ok (.iconst 1, 1) := by decide +kernel
theorem dX12_beginScope_17 : decode cX12_beginScope 17 = .ok (.iadd, 1) := by decide +kernel
theorem dX12_beginScope_18 : decode cX12_beginScope 18 = .ok (.putfield 236, 3) := by decide +kernel
theorem dX12_beginScope_21 : decode cX12_beginScope 21 = .ok (.return_, 1) := by decide +kernel
theorem dX12_step_0 : decode cX12_step 0 = .ok (.aload_n 0, 1) := by decide +kernel
theorem dX12_step_1 : decode cX12_step 1 = .ok (.getfield 239, 3) := by decide +kernel
theorem dX12_step_4 : decode cX12_step 4 = .ok (.sipush 160, 3) := by decide +kernel
theorem dX12_step_7 : decode cX12_step 7 = .ok (.if_icmp .ne 9, 3) := by decide +kernel
theorem dX12_step_10 : decode cX12_step 10 = .ok (.aload_n 0, 1) := by decide +kernel
theorem dX12_step_11 : decode cX12_step 11 = .ok (.invokevirtual 242, 3) := by decide +kernel
theorem dX12_step_14 : decode cX12_step 14 = .ok (.iconst 0, 1) := by decide +kernel
theorem dX12_step_15 : decode cX12_step 15 = .ok (.ireturn, 1) := by decide +kernel
theorem dX12_step_16 : decode cX12_step 16 = .ok (.aload_n 0, 1) := by decide +kernel
theorem dX12_step_17 : decode cX12_step 17 = .ok (.dup, 1) := by decide +kernel
theorem dX12_step_18 : decode cX12_step 18 = .ok (.getfield 239, 3) := by decide +kernel
theorem dX12_step_21 : decode cX12_step 21 = .ok (.iconst 1, 1) := by decide +kernel
theorem dX12_step_22 : decode cX12_step 22 = .ok (.iadd, 1) := by decide +kernel
theorem dX12_step_23 : decode cX12_step 23 = .ok (.putfield 239, 3) := by decide +kernel
theorem dX12_step_26 : decode cX12_step 26 = .ok (.iconst 1, 1) := by decide +kernel
theorem dX12_step_27 : decode cX12_step 27 = .ok (.ireturn, 1) := by decide +kernel
theorem dX12_newFailure_0 : decode cX12_newFailure 0 = .ok (.aload_n 0, 1) := by decide +kernel
theorem dX12_newFailure_1 : decode cX12_newFailure 1 = .ok (.getfield 245, 3) := by decide +kernel
theorem dX12_newFailure_4 : decode cX12_newFailure 4 = .ok (.istore 4, 2) := by decide +kernel
theorem dX12_newFailure_6 : decode cX12_newFailure 6 = .ok (.aload_n 0, 1) := by decide +kernel
theorem dX12_newFailure_7 : decode cX12_newFailure 7 = .ok (.getfield 111, 3) := by decide +kernel
theorem dX12_newFailure_10 : decode cX12_newFailure 10 = .ok (.iload 4, 2) := by decide +kernel
theorem dX12_newFailure_12 : decode cX12_newFailure 12 = .ok (.iload_n 1, 1) := by decide +kernel
theorem dX12_newFailure_13 : decode cX12_newFailure 13 = .ok (.iastore, 1) := by decide +kernel
theorem dX12_newFailure_14 : decode cX12_newFailure 14 = .ok (.aload_n 0, 1) := by decide +kernel
theorem dX12_newFailure_15 : decode cX12_newFailure 15 = .ok (.getfield 114, 3) := by decide +kernel
theorem dX12_newFailure_18 : decode cX12_newFailure 18 = .ok (.iload 4, 2) := by decide +kernel
theorem dX12_newFailure_20 : decode cX12_newFailure 20 = .ok (.aload_n 0, 1) := by decide +kernel
theorem dX12_newFailure_21 : decode cX12_newFailure 21 = .ok (.getfield 72, 3) := by decide +kernel
theorem dX12_newFailure_24 : decode cX12_newFailure 24 = .ok (.aload_n 0, 1) := by decide +kernel
theorem dX12_newFailure_25 : decode cX12_newFailure 25 = .ok (.getfield 220, 3) := by decide +kernel
theorem dX12_newFailure_28 : decode cX12_newFailure 28 = .ok (.iaload, 1) := by decide +kernel
theorem dX12_newFailure_29 : decode cX12_newFailure 29 = .ok (.iastore, 1) := by decide +kernel
theorem dX12_newFailure_30 : decode cX12_newFailure 30 = .ok (.aload_n 0, 1) := by decide +kernel
theorem dX12_newFailure_31 : decode cX12_newFailure 31 = .ok (.getfield 117, 3) := by decide +kernel
theorem dX12_newFailure_34 : decode cX12_newFailure 34 = .ok (.iload 4, 2) := by decide +kernel
theorem dX12_newFailure_36 : decode cX12_newFailure 36 = .ok (.iload_n 2, 1) := by decide +kernel
theorem dX12_newFailure_37 : decode cX12_newFailure 37 = .ok (.iastore, 1) := by decide +kernel
theorem dX12_newFailure_38 : decode cX12_newFailure 38 = .ok (.aload_n 0, 1) := by decide +kernel
theorem dX12_newFailure_39 : decode cX12_newFailure 39 = .ok (.getfield 120, 3) := by decide +kernel
theorem dX12_newFailure_42 : decode cX12_newFailure 42 = .ok (.iload 4, 2) := by decide +kernel
theorem dX12_newFailure_44 : decode cX12_newFailure 44 = .ok (.iload_n 3, 1) := by decide +kernel
theorem dX12_newFailure_45 : decode cX12_newFailure 45 = .ok (.iastore, 1) := by decide +kernel
theorem dX12_newFailure_46 : decode cX12_newFailure 46 = .ok (.aload_n 0, 1) := by decide +kernel
theorem dX12_newFailure_47 : decode cX12_newFailure 47 = .ok (.getfield 123, 3) := by decide +kernel
theorem dX12_newFailure_50 : decode cX12_newFailure 50 = .ok (.iload 4, 2) := by decide +kernel
theorem dX12_newFailure_52 : decode cX12_newFailure 52 = .ok (.iconst (-1), 1) := by decide +kernel
theorem dX12_newFailure_53 : decode cX12_newFailure 53 = .ok (.iastore, 1) := by decide +kernel
theorem dX12_newFailure_54 : decode cX12_newFailure 54 = .ok (.aload_n 0, 1) := by decide +kernel
theorem dX12_newFailure_55 : decode cX12_newFailure 55 = .ok (.getfield 126, 3) := by decide +kernel
theorem dX12_newFailure_58 : decode cX12_newFailure 58 = .ok (.iload 4, 2) := by decide +kernel
theorem dX12_newFailure_60 : decode cX12_newFailure 60 = .ok (.iconst (-1), 1) := by decide +kernel
theorem dX12_newFailure_61 : decode cX12_newFailure 61 = .ok (.iastore, 1) := by decide +kernel
theorem dX12_newFailure_62 : decode cX12_newFailure 62 = .ok (.aload_n 0, 1) := by decide +kernel
theorem dX12_newFailure_63 : decode cX12_newFailure 63 = .ok (.dup, 1) := by decide +kernel
theorem dX12_newFailure_64 : decode cX12_newFailure 64 = .ok (.getfield 245, 3) := by decide +kernel
theorem dX12_newFailure_67 : decode cX12_newFailure 67 = .ok (.iconst 1, 1) := by decide +kernel
theorem dX12_newFailure_68 : decode cX12_newFailure 68 = .ok (.iadd, 1) := by decide +kernel
theorem dX12_newFailure_69 : decode cX12_newFailure 69 = .ok (.putfield 245, 3) := by decide +kernel
theorem dX12_newFailure_72 : decode cX12_newFailure 72 = .ok (.iload 4, 2) := by decide +kernel
theorem dX12_newFailure_74 : decode cX12_newFailure 74 = .ok (.ireturn, 1) := by decide +kernel
theorem dX12_fail_0 : decode cX12_fail 0 = .ok (.aload_n 0, 1) := by decide +kernel
theorem dX12_fail_1 : decode cX12_fail 1 = .ok (.getfield 245, 3) := by decide +kernel
theorem dX12_fail_4 : decode cX12_fail 4 = .ok (.bipush 16, 2) := by decide +kernel
theorem dX12_fail_6 : decode cX12_fail 6 = .ok (.if_icmp .ne 8, 3) := by decide +kernel
theorem dX12_fail_9 : decode cX12_fail 9 = .ok (.aload_n 0, 1) := by decide +kernel
theorem dX12_fail_10 : decode cX12_fail 10 = .ok (.invokevirtual 242, 3) := by decide +kernel
theorem dX12_fail_13 : decode cX12_fail 13 = .ok (.return_, 1) := by decide +kernel
theorem dX12_fail_14 : decode cX12_fail 14 = .ok (.aload_n 0, 1) := by decide +kernel
theorem dX12_fail_15 : decode cX12_fail 15 = .ok (.aload_n 0, 1) := by decide +kernel
theorem dX12_fail_16 : decode cX12_fail 16 = .ok (.iload_n 1, 1) := by decide +kernel
theorem dX12_fail_17 : decode cX12_fail 17 = .ok (.iload_n 2, 1) := by decide +kernel
theorem dX12_fail_18 : decode cX12_fail 18 = .ok (.iload_n 3, 1) := by decide +kernel
theorem dX12_fail_19 : decode cX12_fail 19 = .ok (.invokevirtual 248, 3) := by decide +kernel
theorem dX12_fail_22 : decode cX12_fail 22 = .ok (.putfield 252, 3) := by decide +kernel
theorem dX12_fail_25 : decode cX12_fail 25 = .ok (.aload_n 0, 1) := by decide +kernel
theorem dX12_fail_26 : decode cX12_fail 26 = .ok (.iconst 3, 1) := by decide +kernel
theorem dX12_fail_27 : decode cX12_fail 27 = .ok (.putfield 255, 3) := by decide +kernel
theorem dX12_fail_30 : decode cX12_fail 30 = .ok (.return_, 1) := by decide +kernel
theorem dX12_hasOpen_0 : decode cX12_hasOpen 0 = .ok (.iconst 0, 1) := by decide +kernel
theorem dX12_hasOpen_1 : decode cX12_hasOpen 1 = .ok (.istore_n 2, 1) := by decide +kernel
theorem dX12_hasOpen_2 : decode cX12_hasOpen 2 = .ok (.iload_n 1, 1) := by decide +kernel
theorem dX12_hasOpen_3 : decode cX12_hasOpen 3 = .ok (.iconst 1, 1) := by decide +kernel
theorem dX12_hasOpen_4 : decode cX12_hasOpen 4 = .ok (.iadd, 1) := by decide +kernel
theorem dX12_hasOpen_5 : decode cX12_hasOpen 5 = .ok (.istore_n 3, 1) := by decide +kernel
theorem dX12_hasOpen_6 : decode cX12_hasOpen 6 = .ok (.iload_n 3, 1) := by decide +kernel
theorem dX12_hasOpen_7 : decode cX12_hasOpen 7 = .ok (.aload_n 0, 1) := by decide +kernel
theorem dX12_hasOpen_8 : decode cX12_hasOpen 8 = .ok (.getfield 258, 3) := by decide +kernel
theorem dX12_hasOpen_11 : decode cX12_hasOpen 11 = .ok (.if_icmp .ge 48, 3) := by decide +kernel
theorem dX12_hasOpen_14 : decode cX12_hasOpen 14 = .ok (.iload_n 2, 1) := by decide +kernel
theorem dX12_hasOpen_15 : decode cX12_hasOpen 15 = .ok (.ifCond .ne 32, 3) := by decide +kernel
theorem dX12_hasOpen_18 : decode cX12_hasOpen 18 = .ok (.aload_n 0, 1) := by decide +kernel
theorem dX12_hasOpen_19 : decode cX12_hasOpen 19 = .ok (.getfield 102, 3) := by decide +kernel
theorem dX12_hasOpen_22 : decode cX12_hasOpen 22 = .ok (.iload_n 3, 1) := by decide +kernel
theorem dX12_hasOpen_23 : decode cX12_hasOpen 23 = .ok (.baload, 1) := by decide +kernel
theorem dX12_hasOpen_24 : decode cX12_hasOpen 24 = .ok (.ifCond .eq 27, 3) := by decide +kernel
theorem dX12_hasOpen_27 : decode cX12_hasOpen 27 = .ok (.aload_n 0, 1) := by decide +kernel
theorem dX12_hasOpen_28 : decode cX12_hasOpen 28 = .ok (.getfield 90, 3) := by decide +kernel
theorem dX12_hasOpen_31 : decode cX12_hasOpen 31 = .ok (.iload_n 3, 1) := by decide +kernel
theorem dX12_hasOpen_32 : decode cX12_hasOpen 32 = .ok (.iaload, 1) := by decide +kernel
theorem dX12_hasOpen_33 : decode cX12_hasOpen 33 = .ok (.iconst 2, 1) := by decide +kernel
theorem dX12_hasOpen_34 : decode cX12_hasOpen 34 = .ok (.if_icmp .ne 17, 3) := by decide +kernel
theorem dX12_hasOpen_37 : decode cX12_hasOpen 37 = .ok (.aload_n 0, 1) := by decide +kernel
theorem dX12_hasOpen_38 : decode cX12_hasOpen 38 = .ok (.getfield 93, 3) := by decide +kernel
theorem dX12_hasOpen_41 : decode cX12_hasOpen 41 = .ok (.iload_n 3, 1) := by decide +kernel
theorem dX12_hasOpen_42 : decode cX12_hasOpen 42 = .ok (.iaload, 1) := by decide +kernel
theorem dX12_hasOpen_43 : decode cX12_hasOpen 43 = .ok (.iload_n 1, 1) := by decide +kernel
theorem dX12_hasOpen_44 : decode cX12_hasOpen 44 = .ok (.if_icmp .ne 7, 3) := by decide +kernel
theorem dX12_hasOpen_47 : decode cX12_hasOpen 47 = .ok (.iconst 1, 1) := by decide +kernel
theorem dX12_hasOpen_48 : decode cX12_hasOpen 48 = .ok (.goto 4, 3) := by decide +kernel
theorem dX12_hasOpen_51 : decode cX12_hasOpen 51 = .ok (.iconst 0, 1) := by decide +kernel
theorem dX12_hasOpen_52 : decode cX12_hasOpen 52 = .ok (.istore_n 2, 1) := by decide +kernel
theorem dX12_hasOpen_53 : decode cX12_hasOpen 53 = .ok (.iinc 3 1, 3) := by decide +kernel
theorem dX12_hasOpen_56 : decode cX12_hasOpen 56 = .ok (.goto (-50), 3) := by decide +kernel
theorem dX12_hasOpen_59 : decode cX12_hasOpen 59 = .ok (.iload_n 2, 1) := by decide +kernel
theorem dX12_hasOpen_60 : decode cX12_hasOpen 60 = .ok (.ireturn, 1) := by decide +kernel
theorem dX12_giveBack_0 : decode cX12_giveBack 0 = .ok (.aload_n 0, 1) := by decide +kernel
theorem dX12_giveBack_1 : decode cX12_giveBack 1 = .ok (.getfield 102, 3) := by decide +kernel
theorem dX12_giveBack_4 : decode cX12_giveBack 4 = .ok (.iload_n 1, 1) := by decide +kernel
theorem dX12_giveBack_5 : decode cX12_giveBack 5 = .ok (.iconst 0, 1) := by decide +kernel
theorem dX12_giveBack_6 : decode cX12_giveBack 6 = .ok (.bastore, 1) := by decide +kernel
theorem dX12_giveBack_7 : decode cX12_giveBack 7 = .ok (.iload_n 1, 1) := by decide +kernel
theorem dX12_giveBack_8 : decode cX12_giveBack 8 = .ok (.iconst 1, 1) := by decide +kernel
theorem dX12_giveBack_9 : decode cX12_giveBack 9 = .ok (.iadd, 1) := by decide +kernel
theorem dX12_giveBack_10 : decode cX12_giveBack 10 = .ok (.istore_n 3, 1) := by decide +kernel
theorem dX12_giveBack_11 : decode cX12_giveBack 11 = .ok (.iload_n 3, 1) := by decide +kernel
theorem dX12_giveBack_12 : decode cX12_giveBack 12 = .ok (.aload_n 0, 1) := by decide +kernel
theorem dX12_giveBack_13 : decode cX12_giveBack 13 = .ok (.getfield 258, 3) := by decide +kernel
theorem dX12_giveBack_16 : decode cX12_giveBack 16 = .ok (.if_icmp .ge 40, 3) := by decide +kernel
theorem dX12_giveBack_19 : decode cX12_giveBack 19 = .ok (.aload_n 0, 1) := by decide +kernel
theorem dX12_giveBack_20 : decode cX12_giveBack 20 = .ok (.getfield 90, 3) := by decide +kernel
theorem dX12_giveBack_23 : decode cX12_giveBack 23 = .ok (.iload_n 3, 1) := by decide +kernel
theorem dX12_giveBack_24 : decode cX12_giveBack 24 = .ok (.iaload, 1) := by decide +kernel
theorem dX12_giveBack_25 : decode cX12_giveBack 25 = .ok (.iconst 2, 1) := by decide +kernel
theorem dX12_giveBack_26 : decode cX12_giveBack 26 = .ok (.if_icmp .ne 24, 3) := by decide +kernel
theorem dX12_giveBack_29 : decode cX12_giveBack 29 = .ok (.aload_n 0, 1) := by decide +kernel
theorem dX12_giveBack_30 : decode cX12_giveBack 30 = .ok (.getfield 102, 3) := by decide +kernel
theorem dX12_giveBack_33 : decode cX12_giveBack 33 = .ok (.aload_n 0, 1) := by decide +kernel
theorem dX12_giveBack_34 : decode cX12_giveBack 34 = .ok (.getfield 93, 3) := by decide +kernel
theorem dX12_giveBack_37 : decode cX12_giveBack 37 = .ok (.iload_n 3, 1) := by decide +kernel
theorem dX12_giveBack_38 : decode cX12_giveBack 38 = .ok (.iaload, 1) := by decide +kernel
theorem dX12_giveBack_39 : decode cX12_giveBack 39 = .ok (.baload, 1) := by decide +kernel
theorem dX12_giveBack_40 : decode cX12_giveBack 40 = .ok (.ifCond .ne 10, 3) := by decide +kernel
theorem dX12_giveBack_43 : decode cX12_giveBack 43 = .ok (.aload_n 0, 1) := by decide +kernel
theorem dX12_giveBack_44 : decode cX12_giveBack 44 = .ok (.getfield 102, 3) := by decide +kernel
theorem dX12_giveBack_47 : decode cX12_giveBack 47 = .ok (.iload_n 3, 1) := by decide +kernel
theorem dX12_giveBack_48 : decode cX12_giveBack 48 = .ok (.iconst 0, 1) := by decide +kernel
theorem dX12_giveBack_49 : decode cX12_giveBack 49 = .ok (.bastore, 1) := by decide +kernel
theorem dX12_giveBack_50 : decode cX12_giveBack 50 = .ok (.iinc 3 1, 3) := by decide +kernel
theorem dX12_giveBack_53 : decode cX12_giveBack 53 = .ok (.goto (-42), 3) := by decide +kernel
theorem dX12_giveBack_56 : decode cX12_giveBack 56 = .ok (.aload_n 0, 1) := by decide +kernel
theorem dX12_giveBack_57 : decode cX12_giveBack 57 = .ok (.getfield 90, 3) := by decide +kernel
theorem dX12_giveBack_60 : decode cX12_giveBack 60 = .ok (.iload_n 1, 1) := by decide +kernel
theorem dX12_giveBack_61 : decode cX12_giveBack 61 = .ok (.iaload, 1) := by decide +kernel
theorem dX12_giveBack_62 : decode cX12_giveBack 62 = .ok (.iconst 2, 1) := by decide +kernel
theorem dX12_giveBack_63 : decode cX12_giveBack 63 = .ok (.if_icmp .eq 25, 3) := by decide +kernel
theorem dX12_giveBack_66 : decode cX12_giveBack 66 = .ok (.aload_n 0, 1) := by decide +kernel
theorem dX12_giveBack_67 : decode cX12_giveBack 67 = .ok (.aload_n 0, 1) := by decide +kernel
theorem dX12_giveBack_68 : decode cX12_giveBack 68 = .ok (.getfield 87, 3) := by decide +kernel
theorem dX12_giveBack_71 : decode cX12_giveBack 71 = .ok (.iload_n 1, 1) := by decide +kernel
theorem dX12_giveBack_72 : decode cX12_giveBack 72 = .ok (.iaload, 1) := by decide +kernel
theorem dX12_giveBack_73 : decode cX12_giveBack 73 = .ok (.iload_n 2, 1) := by decide +kernel
theorem dX12_giveBack_74 : decode cX12_giveBack 74 = .ok (.aload_n 0, 1) := by decide +kernel
theorem dX12_giveBack_75 : decode cX12_giveBack 75 = .ok (.getfield 261, 3) := by decide +kernel
theorem dX12_giveBack_78 : decode cX12_giveBack 78 = .ok (.invokevirtual 264, 3) := by decide +kernel
theorem dX12_giveBack_81 : decode cX12_giveBack 81 = .ok (.ifCond .eq 7, 3) := by decide +kernel
theorem dX12_giveBack_84 : decode cX12_giveBack 84 = .ok (.iconst 1, 1) := by decide +kernel
theorem dX12_giveBack_85 : decode cX12_giveBack 85 = .ok (.goto 4, 3) := by decide +kernel
theorem dX12_giveBack_88 : decode cX12_giveBack 88 = .ok (.iconst 0, 1) := by decide +kernel
theorem dX12_giveBack_89 : decode cX12_giveBack 89 = .ok (.ireturn, 1) := by decide +kernel
theorem dX12_lastOf_0 : decode cX12_lastOf 0 = .ok (.iconst (-1), 1) := by decide +kernel
theorem dX12_lastOf_1 : decode cX12_lastOf 1 = .ok (.istore_n 2, 1) := by decide +kernel
theorem dX12_lastOf_2 : decode cX12_lastOf 2 = .ok (.iconst 0, 1) := by decide +kernel
theorem dX12_lastOf_3 : decode cX12_lastOf 3 = .ok (.istore_n 3, 1) := by decide +kernel
theorem dX12_lastOf_4 : decode cX12_lastOf 4 = .ok (.iload_n 3, 1) := by decide +kernel
theorem dX12_lastOf_5 : decode cX12_lastOf 5 = .ok (.aload_n 0, 1) := by decide +kernel
theorem dX12_lastOf_6 : decode cX12_lastOf 6 = .ok (.getfield 258, 3) := by decide +kernel
theorem dX12_lastOf_9 : decode cX12_lastOf 9 = .ok (.if_icmp .ge 59, 3) := by decide +kernel
theorem dX12_lastOf_12 : decode cX12_lastOf 12 = .ok (.aload_n 0, 1) := by decide +kernel
theorem dX12_lastOf_13 : decode cX12_lastOf 13 = .ok (.getfield 102, 3) := by decide +kernel
theorem dX12_lastOf_16 : decode cX12_lastOf 16 = .ok (.iload_n 3, 1) := by decide +kernel
theorem dX12_lastOf_17 : decode cX12_lastOf 17 = .ok (.baload, 1) := by decide +kernel
theorem dX12_lastOf_18 : decode cX12_lastOf 18 = .ok (.ifCond .eq 44, 3) := by decide +kernel
theorem dX12_lastOf_21 : decode cX12_lastOf 21 = .ok (.aload_n 0, 1) := by decide +kernel
theorem dX12_lastOf_22 : decode cX12_lastOf 22 = .ok (.getfield 90, 3) := by decide +kernel
theorem dX12_lastOf_25 : decode cX12_lastOf 25 = .ok (.iload_n 3, 1) := by decide +kernel
theorem dX12_lastOf_26 : decode cX12_lastOf 26 = .ok (.iaload, 1) := by decide +kernel
theorem dX12_lastOf_27 : decode cX12_lastOf 27 = .ok (.iconst 1, 1) := by decide +kernel
theorem dX12_lastOf_28 : decode cX12_lastOf 28 = .ok (.if_icmp .eq 34, 3) := by decide +kernel
theorem dX12_lastOf_31 : decode cX12_lastOf 31 = .ok (.aload_n 0, 1) := by decide +kernel
theorem dX12_lastOf_32 : decode cX12_lastOf 32 = .ok (.getfield 96, 3) := by decide +kernel
theorem dX12_lastOf_35 : decode cX12_lastOf 35 = .ok (.iload_n 3, 1) := by decide +kernel
theorem dX12_lastOf_36 : decode cX12_lastOf 36 = .ok (.iaload, 1) := by decide +kernel
theorem dX12_lastOf_37 : decode cX12_lastOf 37 = .ok (.iload_n 1, 1) := by decide +kernel
theorem dX12_lastOf_38 : decode cX12_lastOf 38 = .ok (.if_icmp .ne 24, 3) := by decide +kernel
theorem dX12_lastOf_41 : decode cX12_lastOf 41 = .ok (.iload_n 2, 1) := by decide +kernel
theorem dX12_lastOf_42 : decode cX12_lastOf 42 = .ok (.ifCond .lt 18, 3) := by decide +kernel
theorem dX12_lastOf_45 : decode cX12_lastOf 45 = .ok (.aload_n 0, 1) := by decide +kernel
theorem dX12_lastOf_46 : decode cX12_lastOf 46 = .ok (.getfield 99, 3) := by decide +kernel
theorem dX12_lastOf_49 : decode cX12_lastOf 49 = .ok (.iload_n 3, 1) := by decide +kernel
theorem dX12_lastOf_50 : decode cX12_lastOf 50 = .ok (.iaload, 1) := by decide +kernel
theorem dX12_lastOf_51 : decode cX12_lastOf 51 = .ok (.aload_n 0, 1) := by decide +kernel
theorem dX12_lastOf_52 : decode cX12_lastOf 52 = .ok (.getfield 99, 3) := by decide +kernel
theorem dX12_lastOf_55 : decode cX12_lastOf 55 = .ok (.iload_n 2, 1) := by decide +kernel
theorem dX12_lastOf_56 : decode cX12_lastOf 56 = .ok (.iaload, 1) := by decide +kernel
theorem dX12_lastOf_57 : decode cX12_lastOf 57 = .ok (.if_icmp .le 5, 3) := by decide +kernel
theorem dX12_lastOf_60 : decode cX12_lastOf 60 = .ok (.iload_n 3, 1) := by decide +kernel
theorem dX12_lastOf_61 : decode cX12_lastOf 61 = .ok (.istore_n 2, 1) := by decide +kernel
theorem dX12_lastOf_62 : decode cX12_lastOf 62 = .ok (.iinc 3 1, 3) := by decide +kernel
theorem dX12_lastOf_65 : decode cX12_lastOf 65 = .ok (.goto (-61), 3) := by decide +kernel
theorem dX12_lastOf_68 : decode cX12_lastOf 68 = .ok (.iload_n 2, 1) := by decide +kernel
theorem dX12_lastOf_69 : decode cX12_lastOf 69 = .ok (.ireturn, 1) := by decide +kernel
theorem dX12_spend_0 : decode cX12_spend 0 = .ok (.aload_n 0, 1) := by decide +kernel
theorem dX12_spend_1 : decode cX12_spend 1 = .ok (.iconst 2, 1) := by decide +kernel
theorem dX12_spend_2 : decode cX12_spend 2 = .ok (.putfield 267, 3) := by decide +kernel
theorem dX12_spend_5 : decode cX12_spend 5 = .ok (.aload_n 0, 1) := by decide +kernel
theorem dX12_spend_6 : decode cX12_spend 6 = .ok (.iconst 1, 1) := by decide +kernel
theorem dX12_spend_7 : decode cX12_spend 7 = .ok (.putfield 270, 3) := by decide +kernel
theorem dX12_spend_10 : decode cX12_spend 10 = .ok (.aload_n 0, 1) := by decide +kernel
theorem dX12_spend_11 : decode cX12_spend 11 = .ok (.getfield 217, 3) := by decide +kernel
theorem dX12_spend_14 : decode cX12_spend 14 = .ok (.iconst 1, 1) := by decide +kernel
theorem dX12_spend_15 : decode cX12_spend 15 = .ok (.isub, 1) := by decide +kernel
theorem dX12_spend_16 : decode cX12_spend 16 = .ok (.istore_n 1, 1) := by decide +kernel
theorem dX12_spend_17 : decode cX12_spend 17 = .ok (.iload_n 1, 1) := by decide +kernel
theorem dX12_spend_18 : decode cX12_spend 18 = .ok (.ifCond .lt 56, 3) := by decide +kernel
theorem dX12_spend_21 : decode cX12_spend 21 = .ok (.aload_n 0, 1) := by decide +kernel
theorem dX12_spend_22 : decode cX12_spend 22 = .ok (.getfield 66, 3) := by decide +kernel
theorem dX12_spend_25 : decode cX12_spend 25 = .ok (.iload_n 1, 1) := by decide +kernel
theorem dX12_spend_26 : decode cX12_spend 26 = .ok (.iaload, 1) := by decide +kernel
theorem dX12_spend_27 : decode cX12_spend 27 = .ok (.bipush 12, 2) := by decide +kernel
theorem dX12_spend_29 : decode cX12_spend 29 = .ok (.if_icmp .ne 39, 3) := by decide +kernel
theorem dX12_spend_32 : decode cX12_spend 32 = .ok (.aload_n 0, 1) := by decide +kernel
theorem dX12_spend_33 : decode cX12_spend 33 = .ok (.aload_n 0, 1) := by decide +kernel
theorem dX12_spend_34 : decode cX12_spend 34 = .ok (.getfield 72, 3) := by decide +kernel
theorem dX12_spend_37 : decode cX12_spend 37 = .ok (.iload_n 1, 1) := by decide +kernel
theorem dX12_spend_38 : decode cX12_spend 38 = .ok (.iaload, 1) := by decide +kernel
theorem dX12_spend_39 : decode cX12_spend 39 = .ok (.invokevirtual 274, 3) := by decide +kernel
theorem dX12_spend_42 : decode cX12_spend 42 = .ok (.istore_n 2, 1) := by decide +kernel
theorem dX12_spend_43 : decode cX12_spend 43 = .ok (.iload_n 2, 1) := by decide +kernel
theorem dX12_spend_44 : decode cX12_spend 44 = .ok (.ifCond .lt 24, 3) := by decide +kernel
theorem dX12_spend_47 : decode cX12_spend 47 = .ok (.aload_n 0, 1) := by decide +kernel
theorem dX12_spend_48 : decode cX12_spend 48 = .ok (.iload_n 2, 1) := by decide +kernel
theorem dX12_spend_49 : decode cX12_spend 49 = .ok (.iconst 2, 1) := by decide +kernel
theorem dX12_spend_50 : decode cX12_spend 50 = .ok (.invokevirtual 278, 3) := by decide +kernel
theorem dX12_spend_53 : decode cX12_spend 53 = .ok (.istore_n 3, 1) := by decide +kernel
theorem dX12_spend_54 : decode cX12_spend 54 = .ok (.aload_n 0, 1) := by decide +kernel
theorem dX12_spend_55 : decode cX12_spend 55 = .ok (.aload_n 0, 1) := by decide +kernel
theorem dX12_spend_56 : decode cX12_spend 56 = .ok (.getfield 72, 3) := by decide +kernel
theorem dX12_spend_59 : decode cX12_spend 59 = .ok (.iload_n 1, 1) := by decide +kernel
theorem dX12_spend_60 : decode cX12_spend 60 = .ok (.iaload, 1) := by decide +kernel
theorem dX12_spend_61 : decode cX12_spend 61 = .ok (.invokevirtual 274, 3) := by decide +kernel
theorem dX12_spend_64 : decode cX12_spend 64 = .ok (.istore_n 2, 1) := by decide +kernel
theorem dX12_spend_65 : decode cX12_spend 65 = .ok (.goto (-22), 3) := by decide +kernel
theorem dX12_spend_68 : decode cX12_spend 68 = .ok (.iinc 1 (-1), 3) := by decide +kernel
theorem dX12_spend_71 : decode cX12_spend 71 = .ok (.goto (-54), 3) := by decide +kernel
theorem dX12_spend_74 : decode cX12_spend 74 = .ok (.aload_n 0, 1) := by decide +kernel
theorem dX12_spend_75 : decode cX12_spend 75 = .ok (.iconst 0, 1) := by decide +kernel
theorem dX12_spend_76 : decode cX12_spend 76 = .ok (.putfield 217, 3) := by decide +kernel
theorem dX12_spend_79 : decode cX12_spend 79 = .ok (.return_, 1) := by decide +kernel
theorem dX12_endScope_0 : decode cX12_endScope 0 = .ok (.aload_n 0, 1) := by decide +kernel
theorem dX12_endScope_1 : decode cX12_endScope 1 = .ok (.getfield 72, 3) := by decide +kernel
theorem dX12_endScope_4 : decode cX12_endScope 4 = .ok (.aload_n 0, 1) := by decide +kernel
theorem dX12_endScope_5 : decode cX12_endScope 5 = .ok (.getfield 217, 3) := by decide +kernel
theorem dX12_endScope_8 : decode cX12_endScope 8 = .ok (.iconst 1, 1) := by decide +kernel
theorem dX12_endScope_9 : decode cX12_endScope 9 = .ok (.isub, 1) := by decide +kernel
theorem dX12_endScope_10 : decode cX12_endScope 10 = .ok (.iaload, 1) := by decide +kernel
theorem dX12_endScope_11 : decode cX12_endScope 11 = .ok (.istore_n 1, 1) := by decide +kernel
theorem dX12_endScope_12 : decode cX12_endScope 12 = .ok (.aload_n 0, 1) := by decide +kernel
theorem dX12_endScope_13 : decode cX12_endScope 13 = .ok (.dup, 1) := by decide +kernel
theorem dX12_endScope_14 : decode cX12_endScope 14 = .ok (.getfield 281, 3) := by decide +kernel
theorem dX12_endScope_17 : decode cX12_endScope 17 = .ok (.iconst 1, 1) := by decide +kernel
theorem dX12_endScope_18 : decode cX12_endScope 18 = .ok (.iadd, 1) := by decide +kernel
theorem dX12_endScope_19 : decode cX12_endScope 19 = .ok (.putfield 281, 3) := by decide +kernel
theorem dX12_endScope_22 : decode cX12_endScope 22 = .ok (.aload_n 0, 1) := by decide +kernel
theorem dX12_endScope_23 : decode cX12_endScope 23 = .ok (.iload_n 1, 1) := by decide +kernel
theorem dX12_endScope_24 : decode cX12_endScope 24 = .ok (.invokevirtual 274, 3) := by decide +kernel
theorem dX12_endScope_27 : decode cX12_endScope 27 = .ok (.istore_n 2, 1) := by decide +kernel
theorem dX12_endScope_28 : decode cX12_endScope 28 = .ok (.iload_n 2, 1) := by decide +kernel
theorem dX12_endScope_29 : decode cX12_endScope 29 = .ok (.ifCond .lt 110, 3) := by decide +kernel
theorem dX12_endScope_32 : decode cX12_endScope 32 = .ok (.aload_n 0, 1) := by decide +kernel
theorem dX12_endScope_33 : decode cX12_endScope 33 = .ok (.getfield 270, 3) := by decide +kernel
theorem dX12_endScope_36 : decode cX12_endScope 36 = .ok (.ifCond .ne 103, 3) := by decide +kernel
theorem dX12_endScope_39 : decode cX12_endScope 39 = .ok (.aload_n 0, 1) := by decide +kernel
theorem dX12_endScope_40 : decode cX12_endScope 40 = .ok (.iload_n 2, 1) := by decide +kernel
theorem dX12_endScope_41 : decode cX12_endScope 41 = .ok (.iconst 1, 1) := by decide +kernel
theorem dX12_endScope_42 : decode cX12_endScope 42 = .ok (.invokevirtual 278, 3) := by decide +kernel
theorem dX12_endScope_45 : decode cX12_endScope 45 = .ok (.ifCond .eq 74, 3) := by decide +kernel
theorem dX12_endScope_48 : decode cX12_endScope 48 = .ok (.aload_n 0, 1) := by decide +kernel
theorem dX12_endScope_49 : decode cX12_endScope 49 = .ok (.getfield 245, 3) := by decide +kernel
theorem dX12_endScope_52 : decode cX12_endScope 52 = .ok (.bipush 16, 2) := by decide +kernel
theorem dX12_endScope_54 : decode cX12_endScope 54 = .ok (.if_icmp .ne 10, 3) := by decide +kernel
theorem dX12_endScope_57 : decode cX12_endScope 57 = .ok (.aload_n 0, 1) := by decide +kernel
theorem dX12_endScope_58 : decode cX12_endScope 58 = .ok (.invokevirtual 242, 3) := by decide +kernel
theorem dX12_endScope_61 : decode cX12_endScope 61 = .ok (.goto 58, 3) := by decide +kernel
theorem dX12_endScope_64 : decode cX12_endScope 64 = .ok (.aload_n 0, 1) := by decide +kernel
theorem dX12_endScope_65 : decode cX12_endScope 65 = .ok (.bipush 6, 2) := by decide +kernel
theorem dX12_endScope_67 : decode cX12_endScope 67 = .ok (.aload_n 0, 1) := by decide +kernel
theorem dX12_endScope_68 : decode cX12_endScope 68 = .ok (.getfield 69, 3) := by decide +kernel
theorem dX12_endScope_71 : decode cX12_endScope 71 = .ok (.aload_n 0, 1) := by decide +kernel
theorem dX12_endScope_72 : decode cX12_endScope 72 = .ok (.getfield 217, 3) := by decide +kernel
theorem dX12_endScope_75 : decode cX12_endScope 75 = .ok (.iconst 1, 1) := by decide +kernel
theorem dX12_endScope_76 : decode cX12_endScope 76 = .ok (.isub, 1) := by decide +kernel
theorem dX12_endScope_77 : decode cX12_endScope 77 = .ok (.iaload, 1) := by decide +kernel
theorem dX12_endScope_78 : decode cX12_endScope 78 = .ok (.aload_n 0, 1) := by decide +kernel
theorem dX12_endScope_79 : decode cX12_endScope 79 = .ok (.getfield 87, 3) := by decide +kernel
theorem dX12_endScope_82 : decode cX12_endScope 82 = .ok (.iload_n 2, 1) := by decide +kernel
theorem dX12_endScope_83 : decode cX12_endScope 83 = .ok (.iaload, 1) := by decide +kernel
theorem dX12_endScope_84 : decode cX12_endScope 84 = .ok (.invokevirtual 248, 3) := by decide +kernel
theorem dX12_endScope_87 : decode cX12_endScope 87 = .ok (.istore_n 3, 1) := by decide +kernel
theorem dX12_endScope_88 : decode cX12_endScope 88 = .ok (.aload_n 0, 1) := by decide +kernel
theorem dX12_endScope_89 : decode cX12_endScope 89 = .ok (.getfield 255, 3) := by decide +kernel
theorem dX12_endScope_92 : decode cX12_endScope 92 = .ok (.iconst 3, 1) := by decide +kernel
theorem dX12_endScope_93 : decode cX12_endScope 93 = .ok (.if_icmp .ne 16, 3) := by decide +kernel
theorem dX12_endScope_96 : decode cX12_endScope 96 = .ok (.aload_n 0, 1) := by decide +kernel
theorem dX12_endScope_97 : decode cX12_endScope 97 = .ok (.getfield 126, 3) := by decide +kernel
theorem dX12_endScope_100 : decode cX12_endScope 100 = .ok (.iload_n 3, 1) := by decide +kernel
theorem dX12_endScope_101 : decode cX12_endScope 101 = .ok (.aload_n 0, 1) := by decide +kernel
theorem dX12_endScope_102 : decode cX12_endScope 102 = .ok (.getfield 252, 3) := by decide +kernel
theorem dX12_endScope_105 : decode cX12_endScope 105 = .ok (.iastore, 1) := by decide +kernel
theorem dX12_endScope_106 : decode cX12_endScope 106 = .ok (.goto 13, 3) := by decide +kernel
theorem dX12_endScope_109 : decode cX12_endScope 109 = .ok (.aload_n 0, 1) := by decide +kernel
theorem dX12_endScope_110 : decode cX12_endScope 110 = .ok (.iconst 3, 1) := by decide +kernel
theorem dX12_endScope_111 : decode cX12_endScope 111 = .ok (.putfield 255, 3) := by decide +kernel
theorem dX12_endScope_114 : decode cX12_endScope 114 = .ok (.aload_n 0, 1) := by decide +kernel
theorem dX12_endScope_115 : decode cX12_endScope 115 = .ok (.iload_n 3, 1) := by decide +kernel
theorem dX12_endScope_116 : decode cX12_endScope 116 = .ok (.putfield 252, 3) := by decide +kernel
theorem dX12_endScope_119 : decode cX12_endScope 119 = .ok (.aload_n 0, 1) := by decide +kernel
theorem dX12_endScope_120 : decode cX12_endScope 120 = .ok (.getfield 270, 3) := by decide +kernel
theorem dX12_endScope_123 : decode cX12_endScope 123 = .ok (.ifCond .eq 7, 3) := by decide +kernel
theorem dX12_endScope_126 : decode cX12_endScope 126 = .ok (.iconst (-1), 1) := by decide +kernel
theorem dX12_endScope_127 : decode cX12_endScope 127 = .ok (.goto 8, 3) := by decide +kernel
theorem dX12_endScope_130 : decode cX12_endScope 130 = .ok (.aload_n 0, 1) := by decide +kernel
theorem dX12_endScope_131 : decode cX12_endScope 131 = .ok (.iload_n 1, 1) := by decide +kernel
theorem dX12_endScope_132 : decode cX12_endScope 132 = .ok (.invokevirtual 274, 3) := by decide +kernel
theorem dX12_endScope_135 : decode cX12_endScope 135 = .ok (.istore_n 2, 1) := by decide +kernel
theorem dX12_endScope_136 : decode cX12_endScope 136 = .ok (.goto (-108), 3) := by decide +kernel
theorem dX12_endScope_139 : decode cX12_endScope 139 = .ok (.aload_n 0, 1) := by decide +kernel
theorem dX12_endScope_140 : decode cX12_endScope 140 = .ok (.getfield 270, 3) := by decide +kernel
theorem dX12_endScope_143 : decode cX12_endScope 143 = .ok (.ifCond .ne 13, 3) := by decide +kernel
theorem dX12_endScope_146 : decode cX12_endScope 146 = .ok (.aload_n 0, 1) := by decide +kernel
theorem dX12_endScope_147 : decode cX12_endScope 147 = .ok (.dup, 1) := by decide +kernel
theorem dX12_endScope_148 : decode cX12_endScope 148 = .ok (.getfield 217, 3) := by decide +kernel
theorem dX12_endScope_151 : decode cX12_endScope 151 = .ok (.iconst 1, 1) := by decide +kernel
theorem dX12_endScope_152 : decode cX12_endScope 152 = .ok (.isub, 1) := by decide +kernel
theorem dX12_endScope_153 : decode cX12_endScope 153 = .ok (.putfield 217, 3) := by decide +kernel
theorem dX12_endScope_156 : decode cX12_endScope 156 = .ok (.return_, 1) := by decide +kernel
theorem dX12_above_0 : decode cX12_above 0 = .ok (.iload_n 0, 1) := by decide +kernel
theorem dX12_above_1 : decode cX12_above 1 = .ok (.tableswitch 72 0 11 #[70, 72, 63, 63, 63, 72, 65, 72, 72, 72, 67, 65], 63) := by decide +kernel
theorem dX12_above_64 : decode cX12_above 64 = .ok (.iconst 1, 1) := by decide +kernel
theorem dX12_above_65 : decode cX12_above 65 = .ok (.ireturn, 1) := by decide +kernel
theorem dX12_above_66 : decode cX12_above 66 = .ok (.iconst 5, 1) := by decide +kernel
theorem dX12_above_67 : decode cX12_above 67 = .ok (.ireturn, 1) := by decide +kernel
theorem dX12_above_68 : decode cX12_above 68 = .ok (.bipush 9, 2) := by decide +kernel
theorem dX12_above_70 : decode cX12_above 70 = .ok (.ireturn, 1) := by decide +kernel
theorem dX12_above_71 : decode cX12_above 71 = .ok (.iconst (-1), 1) := by decide +kernel
theorem dX12_above_72 : decode cX12_above 72 = .ok (.ireturn, 1) := by decide +kernel
theorem dX12_above_73 : decode cX12_above 73 = .ok (.iconst 0, 1) := by decide +kernel
theorem dX12_above_74 : decode cX12_above 74 = .ok (.ireturn, 1) := by decide +kernel
theorem dX12_isUnder_0 : decode cX12_isUnder 0 = .ok (.iload_n 0, 1) := by decide +kernel
theorem dX12_isUnder_1 : decode cX12_isUnder 1 = .ok (.istore_n 2, 1) := by decide +kernel
theorem dX12_isUnder_2 : decode cX12_isUnder 2 = .ok (.iload_n 2, 1) := by decide +kernel
theorem dX12_isUnder_3 : decode cX12_isUnder 3 = .ok (.ifCond .lt 16, 3) := by decide +kernel
theorem dX12_isUnder_6 : decode cX12_isUnder 6 = .ok (.iload_n 2, 1) := by decide +kernel
theorem dX12_isUnder_7 : decode cX12_isUnder 7 = .ok (.iload_n 1, 1) := by decide +kernel
theorem dX12_isUnder_8 : decode cX12_isUnder 8 = .ok (.if_icmp .eq 11, 3) := by decide +kernel
theorem dX12_isUnder_11 : decode cX12_isUnder 11 = .ok (.iload_n 2, 1) := by decide +kernel
theorem dX12_isUnder_12 : decode cX12_isUnder 12 = .ok (.invokestatic 284, 3) := by decide +kernel
theorem dX12_isUnder_15 : decode cX12_isUnder 15 = .ok (.istore_n 2, 1) := by decide +kernel
theorem dX12_isUnder_16 : decode cX12_isUnder 16 = .ok (.goto (-14), 3) := by decide +kernel
theorem dX12_isUnder_19 : decode cX12_isUnder 19 = .ok (.iload_n 2, 1) := by decide +kernel
theorem dX12_isUnder_20 : decode cX12_isUnder 20 = .ok (.iload_n 1, 1) := by decide +kernel
theorem dX12_isUnder_21 : decode cX12_isUnder 21 = .ok (.if_icmp .ne 7, 3) := by decide +kernel
theorem dX12_isUnder_24 : decode cX12_isUnder 24 = .ok (.iconst 1, 1) := by decide +kernel
theorem dX12_isUnder_25 : decode cX12_isUnder 25 = .ok (.goto 4, 3) := by decide +kernel
theorem dX12_isUnder_28 : decode cX12_isUnder 28 = .ok (.iconst 0, 1) := by decide +kernel
theorem dX12_isUnder_29 : decode cX12_isUnder 29 = .ok (.ireturn, 1) := by decide +kernel
theorem dX12_guardOf_0 : decode cX12_guardOf 0 = .ok (.aload_n 0, 1) := by decide +kernel
theorem dX12_guardOf_1 : decode cX12_guardOf 1 = .ok (.iload_n 1, 1) := by decide +kernel
theorem dX12_guardOf_2 : decode cX12_guardOf 2 = .ok (.iload_n 2, 1) := by decide +kernel
theorem dX12_guardOf_3 : decode cX12_guardOf 3 = .ok (.invokevirtual 213, 3) := by decide +kernel
theorem dX12_guardOf_6 : decode cX12_guardOf 6 = .ok (.istore_n 3, 1) := by decide +kernel
theorem dX12_guardOf_7 : decode cX12_guardOf 7 = .ok (.aload_n 0, 1) := by decide +kernel
theorem dX12_guardOf_8 : decode cX12_guardOf 8 = .ok (.getfield 50, 3) := by decide +kernel
theorem dX12_guardOf_11 : decode cX12_guardOf 11 = .ok (.bipush 40, 2) := by decide +kernel
theorem dX12_guardOf_13 : decode cX12_guardOf 13 = .ok (.iload_n 1, 1) := by decide +kernel
theorem dX12_guardOf_14 : decode cX12_guardOf 14 = .ok (.imul, 1) := by decide +kernel
theorem dX12_guardOf_15 : decode cX12_guardOf 15 = .ok (.iload_n 3, 1) := by decide +kernel
theorem dX12_guardOf_16 : decode cX12_guardOf 16 = .ok (.iadd, 1) := by decide +kernel
theorem dX12_guardOf_17 : decode cX12_guardOf 17 = .ok (.iaload, 1) := by decide +kernel
theorem dX12_guardOf_18 : decode cX12_guardOf 18 = .ok (.bipush 14, 2) := by decide +kernel
theorem dX12_guardOf_20 : decode cX12_guardOf 20 = .ok (.if_icmp .ne 39, 3) := by decide +kernel
theorem dX12_guardOf_23 : decode cX12_guardOf 23 = .ok (.aload_n 0, 1) := by decide +kernel
theorem dX12_guardOf_24 : decode cX12_guardOf 24 = .ok (.getfield 111, 3) := by decide +kernel
theorem dX12_guardOf_27 : decode cX12_guardOf 27 = .ok (.aload_n 0, 1) := by decide +kernel
theorem dX12_guardOf_28 : decode cX12_guardOf 28 = .ok (.getfield 252, 3) := by decide +kernel
theorem dX12_guardOf_31 : decode cX12_guardOf 31 = .ok (.iaload, 1) := by decide +kernel
theorem dX12_guardOf_32 : decode cX12_guardOf 32 = .ok (.aload_n 0, 1) := by decide +kernel
theorem dX12_guardOf_33 : decode cX12_guardOf 33 = .ok (.getfield 53, 3) := by decide +kernel
theorem dX12_guardOf_36 : decode cX12_guardOf 36 = .ok (.bipush 40, 2) := by decide +kernel
theorem dX12_guardOf_38 : decode cX12_guardOf 38 = .ok (.iload_n 1, 1) := by decide +kernel
theorem dX12_guardOf_39 : decode cX12_guardOf 39 = .ok (.imul, 1) := by decide +kernel
theorem dX12_guardOf_40 : decode cX12_guardOf 40 = .ok (.iload_n 3, 1) := by decide +kernel
theorem dX12_guardOf_41 : decode cX12_guardOf 41 = .ok (.iadd, 1) := by decide +kernel
theorem dX12_guardOf_42 : decode cX12_guardOf 42 = .ok (.iaload, 1) := by decide +kernel
theorem dX12_guardOf_43 : decode cX12_guardOf 43 = .ok (.invokestatic 287, 3) := by decide +kernel
theorem dX12_guardOf_46 : decode cX12_guardOf 46 = .ok (.ifCond .ne 13, 3) := by decide +kernel
theorem dX12_guardOf_49 : decode cX12_guardOf 49 = .ok (.aload_n 0, 1) := by decide +kernel
theorem dX12_guardOf_50 : decode cX12_guardOf 50 = .ok (.iload_n 1, 1) := by decide +kernel
theorem dX12_guardOf_51 : decode cX12_guardOf 51 = .ok (.iload_n 3, 1) := by decide +kernel
theorem dX12_guardOf_52 : decode cX12_guardOf 52 = .ok (.invokevirtual 213, 3) := by decide +kernel
theorem dX12_guardOf_55 : decode cX12_guardOf 55 = .ok (.istore_n 3, 1) := by decide +kernel
theorem dX12_guardOf_56 : decode cX12_guardOf 56 = .ok (.goto (-49), 3) := by decide +kernel
theorem dX12_guardOf_59 : decode cX12_guardOf 59 = .ok (.aload_n 0, 1) := by decide +kernel
theorem dX12_guardOf_60 : decode cX12_guardOf 60 = .ok (.getfield 50, 3) := by decide +kernel
theorem dX12_guardOf_63 : decode cX12_guardOf 63 = .ok (.bipush 40, 2) := by decide +kernel
theorem dX12_guardOf_65 : decode cX12_guardOf 65 = .ok (.iload_n 1, 1) := by decide +kernel
theorem dX12_guardOf_66 : decode cX12_guardOf 66 = .ok (.imul, 1) := by decide +kernel
theorem dX12_guardOf_67 : decode cX12_guardOf 67 = .ok (.iload_n 3, 1) := by decide +kernel
theorem dX12_guardOf_68 : decode cX12_guardOf 68 = .ok (.iadd, 1) := by decide +kernel
theorem dX12_guardOf_69 : decode cX12_guardOf 69 = .ok (.iaload, 1) := by decide +kernel
theorem dX12_guardOf_70 : decode cX12_guardOf 70 = .ok (.bipush 14, 2) := by decide +kernel
theorem dX12_guardOf_72 : decode cX12_guardOf 72 = .ok (.if_icmp .ne 7, 3) := by decide +kernel
theorem dX12_guardOf_75 : decode cX12_guardOf 75 = .ok (.iload_n 3, 1) := by decide +kernel
theorem dX12_guardOf_76 : decode cX12_guardOf 76 = .ok (.goto 4, 3) := by decide +kernel
theorem dX12_guardOf_79 : decode cX12_guardOf 79 = .ok (.iconst (-1), 1) := by decide +kernel
theorem dX12_guardOf_80 : decode cX12_guardOf 80 = .ok (.ireturn, 1) := by decide +kernel
theorem dX12_goTo_0 : decode cX12_goTo 0 = .ok (.aload_n 0, 1) := by decide +kernel
theorem dX12_goTo_1 : decode cX12_goTo 1 = .ok (.getfield 78, 3) := by decide +kernel
theorem dX12_goTo_4 : decode cX12_goTo 4 = .ok (.aload_n 0, 1) := by decide +kernel
theorem dX12_goTo_5 : decode cX12_goTo 5 = .ok (.getfield 220, 3) := by decide +kernel
theorem dX12_goTo_8 : decode cX12_goTo 8 = .ok (.iload_n 1, 1) := by decide +kernel
theorem dX12_goTo_9 : decode cX12_goTo 9 = .ok (.iastore, 1) := by decide +kernel
theorem dX12_goTo_10 : decode cX12_goTo 10 = .ok (.return_, 1) := by decide +kernel
theorem dX12_leaveTry_0 : decode cX12_leaveTry 0 = .ok (.aload_n 0, 1) := by decide +kernel
theorem dX12_leaveTry_1 : decode cX12_leaveTry 1 = .ok (.getfield 217, 3) := by decide +kernel
theorem dX12_leaveTry_4 : decode cX12_leaveTry 4 = .ok (.iconst 1, 1) := by decide +kernel
theorem dX12_leaveTry_5 : decode cX12_leaveTry 5 = .ok (.isub, 1) := by decide +kernel
theorem dX12_leaveTry_6 : decode cX12_leaveTry 6 = .ok (.istore_n 1, 1) := by decide +kernel
theorem dX12_leaveTry_7 : decode cX12_leaveTry 7 = .ok (.aload_n 0, 1) := by decide +kernel
theorem dX12_leaveTry_8 : decode cX12_leaveTry 8 = .ok (.getfield 72, 3) := by decide +kernel
theorem dX12_leaveTry_11 : decode cX12_leaveTry 11 = .ok (.aload_n 0, 1) := by decide +kernel
theorem dX12_leaveTry_12 : decode cX12_leaveTry 12 = .ok (.getfield 220, 3) := by decide +kernel
theorem dX12_leaveTry_15 : decode cX12_leaveTry 15 = .ok (.iaload, 1) := by decide +kernel
theorem dX12_leaveTry_16 : decode cX12_leaveTry 16 = .ok (.istore_n 2, 1) := by decide +kernel
theorem dX12_leaveTry_17 : decode cX12_leaveTry 17 = .ok (.aload_n 0, 1) := by decide +kernel
theorem dX12_leaveTry_18 : decode cX12_leaveTry 18 = .ok (.iload_n 2, 1) := by decide +kernel
theorem dX12_leaveTry_19 : decode cX12_leaveTry 19 = .ok (.aload_n 0, 1) := by decide +kernel
theorem dX12_leaveTry_20 : decode cX12_leaveTry 20 = .ok (.getfield 69, 3) := by decide +kernel
theorem dX12_leaveTry_23 : decode cX12_leaveTry 23 = .ok (.iload_n 1, 1) := by decide +kernel
theorem dX12_leaveTry_24 : decode cX12_leaveTry 24 = .ok (.iaload, 1) := by decide +kernel
theorem dX12_leaveTry_25 : decode cX12_leaveTry 25 = .ok (.invokevirtual 290, 3) := by decide +kernel
theorem dX12_leaveTry_28 : decode cX12_leaveTry 28 = .ok (.istore_n 3, 1) := by decide +kernel
theorem dX12_leaveTry_29 : decode cX12_leaveTry 29 = .ok (.aload_n 0, 1) := by decide +kernel
theorem dX12_leaveTry_30 : decode cX12_leaveTry 30 = .ok (.getfield 72, 3) := by decide +kernel
theorem dX12_leaveTry_33 : decode cX12_leaveTry 33 = .ok (.iload_n 1, 1) := by decide +kernel
theorem dX12_leaveTry_34 : decode cX12_leaveTry 34 = .ok (.iaload, 1) := by decide +kernel
theorem dX12_leaveTry_35 : decode cX12_leaveTry 35 = .ok (.iconst 2, 1) := by decide +kernel
theorem dX12_leaveTry_36 : decode cX12_leaveTry 36 = .ok (.if_icmp .ge 64, 3) := by decide +kernel
theorem dX12_leaveTry_39 : decode cX12_leaveTry 39 = .ok (.iload_n 3, 1) := by decide +kernel
theorem dX12_leaveTry_40 : decode cX12_leaveTry 40 = .ok (.ifCond .lt 60, 3) := by decide +kernel
theorem dX12_leaveTry_43 : decode cX12_leaveTry 43 = .ok (.aload_n 0, 1) := by decide +kernel
theorem dX12_leaveTry_44 : decode cX12_leaveTry 44 = .ok (.getfield 75, 3) := by decide +kernel
theorem dX12_leaveTry_47 : decode cX12_leaveTry 47 = .ok (.iload_n 1, 1) := by decide +kernel
theorem dX12_leaveTry_48 : decode cX12_leaveTry 48 = .ok (.aload_n 0, 1) := by decide +kernel
theorem dX12_leaveTry_49 : decode cX12_leaveTry 49 = .ok (.getfield 255, 3) := by decide +kernel
theorem dX12_leaveTry_52 : decode cX12_leaveTry 52 = .ok (.iastore, 1) := by decide +kernel
theorem dX12_leaveTry_53 : decode cX12_leaveTry 53 = .ok (.aload_n 0, 1) := by decide +kernel
theorem dX12_leaveTry_54 : decode cX12_leaveTry 54 = .ok (.getfield 81, 3) := by decide +kernel
theorem dX12_leaveTry_57 : decode cX12_leaveTry 57 = .ok (.iload_n 1, 1) := by decide +kernel
theorem dX12_leaveTry_58 : decode cX12_leaveTry 58 = .ok (.aload_n 0, 1) := by decide +kernel
theorem dX12_leaveTry_59 : decode cX12_leaveTry 59 = .ok (.getfield 252, 3) := by decide +kernel
theorem dX12_leaveTry_62 : decode cX12_leaveTry 62 = .ok (.iastore, 1) := by decide +kernel
theorem dX12_leaveTry_63 : decode cX12_leaveTry 63 = .ok (.aload_n 0, 1) := by decide +kernel
theorem dX12_leaveTry_64 : decode cX12_leaveTry 64 = .ok (.getfield 72, 3) := by decide +kernel
theorem dX12_leaveTry_67 : decode cX12_leaveTry 67 = .ok (.iload_n 1, 1) := by decide +kernel
theorem dX12_leaveTry_68 : decode cX12_leaveTry 68 = .ok (.iconst 2, 1) := by decide +kernel
theorem dX12_leaveTry_69 : decode cX12_leaveTry 69 = .ok (.iastore, 1) := by decide +kernel
theorem dX12_leaveTry_70 : decode cX12_leaveTry 70 = .ok (.aload_n 0, 1) := by decide +kernel
theorem dX12_leaveTry_71 : decode cX12_leaveTry 71 = .ok (.iconst 0, 1) := by decide +kernel
theorem dX12_leaveTry_72 : decode cX12_leaveTry 72 = .ok (.putfield 255, 3) := by decide +kernel
theorem dX12_leaveTry_75 : decode cX12_leaveTry 75 = .ok (.aload_n 0, 1) := by decide +kernel
theorem dX12_leaveTry_76 : decode cX12_leaveTry 76 = .ok (.invokevirtual 293, 3) := by decide +kernel
theorem dX12_leaveTry_79 : decode cX12_leaveTry 79 = .ok (.ifCond .eq 20, 3) := by decide +kernel
theorem dX12_leaveTry_82 : decode cX12_leaveTry 82 = .ok (.aload_n 0, 1) := by decide +kernel
theorem dX12_leaveTry_83 : decode cX12_leaveTry 83 = .ok (.getfield 81, 3) := by decide +kernel
theorem dX12_leaveTry_86 : decode cX12_leaveTry 86 = .ok (.aload_n 0, 1) := by decide +kernel
theorem dX12_leaveTry_87 : decode cX12_leaveTry 87 = .ok (.getfield 220, 3) := by decide +kernel
theorem dX12_leaveTry_90 : decode cX12_leaveTry 90 = .ok (.iload_n 3, 1) := by decide +kernel
theorem dX12_leaveTry_91 : decode cX12_leaveTry 91 = .ok (.iastore, 1) := by decide +kernel
theorem dX12_leaveTry_92 : decode cX12_leaveTry 92 = .ok (.aload_n 0, 1) := by decide +kernel
theorem dX12_leaveTry_93 : decode cX12_leaveTry 93 = .ok (.iload_n 3, 1) := by decide +kernel
theorem dX12_leaveTry_94 : decode cX12_leaveTry 94 = .ok (.iconst 1, 1) := by decide +kernel
theorem dX12_leaveTry_95 : decode cX12_leaveTry 95 = .ok (.iadd, 1) := by decide +kernel
theorem dX12_leaveTry_96 : decode cX12_leaveTry 96 = .ok (.invokevirtual 230, 3) := by decide +kernel
theorem dX12_leaveTry_99 : decode cX12_leaveTry 99 = .ok (.return_, 1) := by decide +kernel
theorem dX12_leaveTry_100 : decode cX12_leaveTry 100 = .ok (.aload_n 0, 1) := by decide +kernel
theorem dX12_leaveTry_101 : decode cX12_leaveTry 101 = .ok (.dup, 1) := by decide +kernel
theorem dX12_leaveTry_102 : decode cX12_leaveTry 102 = .ok (.getfield 217, 3) := by decide +kernel
theorem dX12_leaveTry_105 : decode cX12_leaveTry 105 = .ok (.iconst 1, 1) := by decide +kernel
theorem dX12_leaveTry_106 : decode cX12_leaveTry 106 = .ok (.isub, 1) := by decide +kernel
theorem dX12_leaveTry_107 : decode cX12_leaveTry 107 = .ok (.putfield 217, 3) := by decide +kernel
theorem dX12_leaveTry_110 : decode cX12_leaveTry 110 = .ok (.aload_n 0, 1) := by decide +kernel
theorem dX12_leaveTry_111 : decode cX12_leaveTry 111 = .ok (.getfield 255, 3) := by decide +kernel
theorem dX12_leaveTry_114 : decode cX12_leaveTry 114 = .ok (.ifCond .ne 20, 3) := by decide +kernel
theorem dX12_leaveTry_117 : decode cX12_leaveTry 117 = .ok (.aload_n 0, 1) := by decide +kernel
theorem dX12_leaveTry_118 : decode cX12_leaveTry 118 = .ok (.aload_n 0, 1) := by decide +kernel
theorem dX12_leaveTry_119 : decode cX12_leaveTry 119 = .ok (.iload_n 2, 1) := by decide +kernel
theorem dX12_leaveTry_120 : decode cX12_leaveTry 120 = .ok (.aload_n 0, 1) := by decide +kernel
theorem dX12_leaveTry_121 : decode cX12_leaveTry 121 = .ok (.getfield 69, 3) := by decide +kernel
theorem dX12_leaveTry_124 : decode cX12_leaveTry 124 = .ok (.iload_n 1, 1) := by decide +kernel
theorem dX12_leaveTry_125 : decode cX12_leaveTry 125 = .ok (.iaload, 1) := by decide +kernel
theorem dX12_leaveTry_126 : decode cX12_leaveTry 126 = .ok (.invokevirtual 297, 3) := by decide +kernel
theorem dX12_leaveTry_129 : decode cX12_leaveTry 129 = .ok (.iconst 1, 1) := by decide +kernel
theorem dX12_leaveTry_130 : decode cX12_leaveTry 130 = .ok (.iadd, 1) := by decide +kernel
theorem dX12_leaveTry_131 : decode cX12_leaveTry 131 = .ok (.invokevirtual 230, 3) := by decide +kernel
theorem dX12_leaveTry_134 : decode cX12_leaveTry 134 = .ok (.return_, 1) := by decide +kernel
theorem dX12_outOfTry_0 : decode cX12_outOfTry 0 = .ok (.aload_n 0, 1) := by decide +kernel
theorem dX12_outOfTry_1 : decode cX12_outOfTry 1 = .ok (.getfield 217, 3) := by decide +kernel
theorem dX12_outOfTry_4 : decode cX12_outOfTry 4 = .ok (.iconst 1, 1) := by decide +kernel
theorem dX12_outOfTry_5 : decode cX12_outOfTry 5 = .ok (.isub, 1) := by decide +kernel
theorem dX12_outOfTry_6 : decode cX12_outOfTry 6 = .ok (.istore_n 1, 1) := by decide +kernel
theorem dX12_outOfTry_7 : decode cX12_outOfTry 7 = .ok (.aload_n 0, 1) := by decide +kernel
theorem dX12_outOfTry_8 : decode cX12_outOfTry 8 = .ok (.getfield 72, 3) := by decide +kernel
theorem dX12_outOfTry_11 : decode cX12_outOfTry 11 = .ok (.aload_n 0, 1) := by decide +kernel
theorem dX12_outOfTry_12 : decode cX12_outOfTry 12 = .ok (.getfield 220, 3) := by decide +kernel
theorem dX12_outOfTry_15 : decode cX12_outOfTry 15 = .ok (.iaload, 1) := by decide +kernel
theorem dX12_outOfTry_16 : decode cX12_outOfTry 16 = .ok (.istore_n 2, 1) := by decide +kernel
theorem dX12_outOfTry_17 : decode cX12_outOfTry 17 = .ok (.aload_n 0, 1) := by decide +kernel
theorem dX12_outOfTry_18 : decode cX12_outOfTry 18 = .ok (.getfield 72, 3) := by decide +kernel
theorem dX12_outOfTry_21 : decode cX12_outOfTry 21 = .ok (.iload_n 1, 1) := by decide +kernel
theorem dX12_outOfTry_22 : decode cX12_outOfTry 22 = .ok (.iaload, 1) := by decide +kernel
theorem dX12_outOfTry_23 : decode cX12_outOfTry 23 = .ok (.iconst 2, 1) := by decide +kernel
theorem dX12_outOfTry_24 : decode cX12_outOfTry 24 = .ok (.if_icmp .ne 60, 3) := by decide +kernel
theorem dX12_outOfTry_27 : decode cX12_outOfTry 27 = .ok (.aload_n 0, 1) := by decide +kernel
theorem dX12_outOfTry_28 : decode cX12_outOfTry 28 = .ok (.getfield 75, 3) := by decide +kernel
theorem dX12_outOfTry_31 : decode cX12_outOfTry 31 = .ok (.iload_n 1, 1) := by decide +kernel
theorem dX12_outOfTry_32 : decode cX12_outOfTry 32 = .ok (.iaload, 1) := by decide +kernel
theorem dX12_outOfTry_33 : decode cX12_outOfTry 33 = .ok (.iconst 3, 1) := by decide +kernel
theorem dX12_outOfTry_34 : decode cX12_outOfTry 34 = .ok (.if_icmp .ne 39, 3) := by decide +kernel
theorem dX12_outOfTry_37 : decode cX12_outOfTry 37 = .ok (.aload_n 0, 1) := by decide +kernel
theorem dX12_outOfTry_38 : decode cX12_outOfTry 38 = .ok (.getfield 255, 3) := by decide +kernel
theorem dX12_outOfTry_41 : decode cX12_outOfTry 41 = .ok (.iconst 3, 1) := by decide +kernel
theorem dX12_outOfTry_42 : decode cX12_outOfTry 42 = .ok (.if_icmp .ne 21, 3) := by decide +kernel
theorem dX12_outOfTry_45 : decode cX12_outOfTry 45 = .ok (.aload_n 0, 1) := by decide +kernel
theorem dX12_outOfTry_46 : decode cX12_outOfTry 46 = .ok (.getfield 126, 3) := by decide +kernel
theorem dX12_outOfTry_49 : decode cX12_outOfTry 49 = .ok (.aload_n 0, 1) := by decide +kernel
theorem dX12_outOfTry_50 : decode cX12_outOfTry 50 = .ok (.getfield 81, 3) := by decide +kernel
theorem dX12_outOfTry_53 : decode cX12_outOfTry 53 = .ok (.iload_n 1, 1) := by decide +kernel
theorem dX12_outOfTry_54 : decode cX12_outOfTry 54 = .ok (.iaload, 1) := by decide +kernel
theorem dX12_outOfTry_55 : decode cX12_outOfTry 55 = .ok (.aload_n 0, 1) := by decide +kernel
theorem dX12_outOfTry_56 : decode cX12_outOfTry 56 = .ok (.getfield 252, 3) := by decide +kernel
theorem dX12_outOfTry_59 : decode cX12_outOfTry 59 = .ok (.iastore, 1) := by decide +kernel
theorem dX12_outOfTry_60 : decode cX12_outOfTry 60 = .ok (.goto 13, 3) := by decide +kernel
theorem dX12_outOfTry_63 : decode cX12_outOfTry 63 = .ok (.aload_n 0, 1) := by decide +kernel
theorem dX12_outOfTry_64 : decode cX12_outOfTry 64 = .ok (.dup, 1) := by decide +kernel
theorem dX12_outOfTry_65 : decode cX12_outOfTry 65 = .ok (.getfield 300, 3) := by decide +kernel
theorem dX12_outOfTry_68 : decode cX12_outOfTry 68 = .ok (.iconst 1, 1) := by decide +kernel
theorem dX12_outOfTry_69 : decode cX12_outOfTry 69 = .ok (.iadd, 1) := by decide +kernel
theorem dX12_outOfTry_70 : decode cX12_outOfTry 70 = .ok (.putfield 300, 3) := by decide +kernel
theorem dX12_outOfTry_73 : decode cX12_outOfTry 73 = .ok (.aload_n 0, 1) := by decide +kernel
theorem dX12_outOfTry_74 : decode cX12_outOfTry 74 = .ok (.dup, 1) := by decide +kernel
theorem dX12_outOfTry_75 : decode cX12_outOfTry 75 = .ok (.getfield 217, 3) := by decide +kernel
theorem dX12_outOfTry_78 : decode cX12_outOfTry 78 = .ok (.iconst 1, 1) := by decide +kernel
theorem dX12_outOfTry_79 : decode cX12_outOfTry 79 = .ok (.isub, 1) := by decide +kernel
theorem dX12_outOfTry_80 : decode cX12_outOfTry 80 = .ok (.putfield 217, 3) := by decide +kernel
theorem dX12_outOfTry_83 : decode cX12_outOfTry 83 = .ok (.return_, 1) := by decide +kernel
theorem dX12_outOfTry_84 : decode cX12_outOfTry 84 = .ok (.aload_n 0, 1) := by decide +kernel
theorem dX12_outOfTry_85 : decode cX12_outOfTry 85 = .ok (.getfield 72, 3) := by decide +kernel
theorem dX12_outOfTry_88 : decode cX12_outOfTry 88 = .ok (.iload_n 1, 1) := by decide +kernel
theorem dX12_outOfTry_89 : decode cX12_outOfTry 89 = .ok (.iaload, 1) := by decide +kernel
theorem dX12_outOfTry_90 : decode cX12_outOfTry 90 = .ok (.ifCond .ne 77, 3) := by decide +kernel
theorem dX12_outOfTry_93 : decode cX12_outOfTry 93 = .ok (.aload_n 0, 1) := by decide +kernel
theorem dX12_outOfTry_94 : decode cX12_outOfTry 94 = .ok (.getfield 255, 3) := by decide +kernel
theorem dX12_outOfTry_97 : decode cX12_outOfTry 97 = .ok (.iconst 3, 1) := by decide +kernel
theorem dX12_outOfTry_98 : decode cX12_outOfTry 98 = .ok (.if_icmp .ne 69, 3) := by decide +kernel
theorem dX12_outOfTry_101 : decode cX12_outOfTry 101 = .ok (.aload_n 0, 1) := by decide +kernel
theorem dX12_outOfTry_102 : decode cX12_outOfTry 102 = .ok (.iload_n 2, 1) := by decide +kernel
theorem dX12_outOfTry_103 : decode cX12_outOfTry 103 = .ok (.aload_n 0, 1) := by decide +kernel
theorem dX12_outOfTry_104 : decode cX12_outOfTry 104 = .ok (.getfield 69, 3) := by decide +kernel
theorem dX12_outOfTry_107 : decode cX12_outOfTry 107 = .ok (.iload_n 1, 1) := by decide +kernel
theorem dX12_outOfTry_108 : decode cX12_outOfTry 108 = .ok (.iaload, 1) := by decide +kernel
theorem dX12_outOfTry_109 : decode cX12_outOfTry 109 = .ok (.invokevirtual 303, 3) := by decide +kernel
theorem dX12_outOfTry_112 : decode cX12_outOfTry 112 = .ok (.istore_n 3, 1) := by decide +kernel
theorem dX12_outOfTry_113 : decode cX12_outOfTry 113 = .ok (.iload_n 3, 1) := by decide +kernel
theorem dX12_outOfTry_114 : decode cX12_outOfTry 114 = .ok (.ifCond .lt 50, 3) := by decide +kernel
theorem dX12_outOfTry_117 : decode cX12_outOfTry 117 = .ok (.aload_n 0, 1) := by decide +kernel
theorem dX12_outOfTry_118 : decode cX12_outOfTry 118 = .ok (.getfield 72, 3) := by decide +kernel
theorem dX12_outOfTry_121 : decode cX12_outOfTry 121 = .ok (.iload_n 1, 1) := by decide +kernel
theorem dX12_outOfTry_122 : decode cX12_outOfTry 122 = .ok (.iconst 1, 1) := by decide +kernel
theorem dX12_outOfTry_123 : decode cX12_outOfTry 123 = .ok (.iastore, 1) := by decide +kernel
theorem dX12_outOfTry_124 : decode cX12_outOfTry 124 = .ok (.aload_n 0, 1) := by decide +kernel
theorem dX12_outOfTry_125 : decode cX12_outOfTry 125 = .ok (.getfield 78, 3) := by decide +kernel
theorem dX12_outOfTry_128 : decode cX12_outOfTry 128 = .ok (.iload_n 1, 1) := by decide +kernel
theorem dX12_outOfTry_129 : decode cX12_outOfTry 129 = .ok (.aload_n 0, 1) := by decide +kernel
theorem dX12_outOfTry_130 : decode cX12_outOfTry 130 = .ok (.getfield 252, 3) := by decide +kernel
theorem dX12_outOfTry_133 : decode cX12_outOfTry 133 = .ok (.iastore, 1) := by decide +kernel
theorem dX12_outOfTry_134 : decode cX12_outOfTry 134 = .ok (.aload_n 0, 1) := by decide +kernel
theorem dX12_outOfTry_135 : decode cX12_outOfTry 135 = .ok (.iconst 0, 1) := by decide +kernel
theorem dX12_outOfTry_136 : decode cX12_outOfTry 136 = .ok (.putfield 255, 3) := by decide +kernel
theorem dX12_outOfTry_139 : decode cX12_outOfTry 139 = .ok (.aload_n 0, 1) := by decide +kernel
theorem dX12_outOfTry_140 : decode cX12_outOfTry 140 = .ok (.invokevirtual 293, 3) := by decide +kernel
theorem dX12_outOfTry_143 : decode cX12_outOfTry 143 = .ok (.ifCond .eq 20, 3) := by decide +kernel
theorem dX12_outOfTry_146 : decode cX12_outOfTry 146 = .ok (.aload_n 0, 1) := by decide +kernel
theorem dX12_outOfTry_147 : decode cX12_outOfTry 147 = .ok (.getfield 81, 3) := by decide +kernel
theorem dX12_outOfTry_150 : decode cX12_outOfTry 150 = .ok (.aload_n 0, 1) := by decide +kernel
theorem dX12_outOfTry_151 : decode cX12_outOfTry 151 = .ok (.getfield 220, 3) := by decide +kernel
theorem dX12_outOfTry_154 : decode cX12_outOfTry 154 = .ok (.iload_n 3, 1) := by decide +kernel
theorem dX12_outOfTry_155 : decode cX12_outOfTry 155 = .ok (.iastore, 1) := by decide +kernel
theorem dX12_outOfTry_156 : decode cX12_outOfTry 156 = .ok (.aload_n 0, 1) := by decide +kernel
theorem dX12_outOfTry_157 : decode cX12_outOfTry 157 = .ok (.iload_n 3, 1) := by decide +kernel
theorem dX12_outOfTry_158 : decode cX12_outOfTry 158 = .ok (.iconst 1, 1) := by decide +kernel
theorem dX12_outOfTry_159 : decode cX12_outOfTry 159 = .ok (.iadd, 1) := by decide +kernel
theorem dX12_outOfTry_160 : decode cX12_outOfTry 160 = .ok (.invokevirtual 230, 3) := by decide +kernel
theorem dX12_outOfTry_163 : decode cX12_outOfTry 163 = .ok (.return_, 1) := by decide +kernel
theorem dX12_outOfTry_164 : decode cX12_outOfTry 164 = .ok (.goto 48, 3) := by decide +kernel
theorem dX12_outOfTry_167 : decode cX12_outOfTry 167 = .ok (.aload_n 0, 1) := by decide +kernel
theorem dX12_outOfTry_168 : decode cX12_outOfTry 168 = .ok (.getfield 72, 3) := by decide +kernel
theorem dX12_outOfTry_171 : decode cX12_outOfTry 171 = .ok (.iload_n 1, 1) := by decide +kernel
theorem dX12_outOfTry_172 : decode cX12_outOfTry 172 = .ok (.iaload, 1) := by decide +kernel
theorem dX12_outOfTry_173 : decode cX12_outOfTry 173 = .ok (.iconst 1, 1) := by decide +kernel
theorem dX12_outOfTry_174 : decode cX12_outOfTry 174 = .ok (.if_icmp .ne 38, 3) := by decide +kernel
theorem dX12_outOfTry_177 : decode cX12_outOfTry 177 = .ok (.aload_n 0, 1) := by decide +kernel
theorem dX12_outOfTry_178 : decode cX12_outOfTry 178 = .ok (.getfield 255, 3) := by decide +kernel
theorem dX12_outOfTry_181 : decode cX12_outOfTry 181 = .ok (.iconst 3, 1) := by decide +kernel
theorem dX12_outOfTry_182 : decode cX12_outOfTry 182 = .ok (.if_icmp .ne 30, 3) := by decide +kernel
theorem dX12_outOfTry_185 : decode cX12_outOfTry 185 = .ok (.aload_n 0, 1) := by decide +kernel
theorem dX12_outOfTry_186 : decode cX12_outOfTry 186 = .ok (.getfield 123, 3) := by decide +kernel
theorem dX12_outOfTry_189 : decode cX12_outOfTry 189 = .ok (.aload_n 0, 1) := by decide +kernel
theorem dX12_outOfTry_190 : decode cX12_outOfTry 190 = .ok (.getfield 252, 3) := by decide +kernel
theorem dX12_outOfTry_193 : decode cX12_outOfTry 193 = .ok (.iaload, 1) := by decide +kernel
theorem dX12_outOfTry_194 : decode cX12_outOfTry 194 = .ok (.ifCond .ge 18, 3) := by decide +kernel
theorem dX12_outOfTry_197 : decode cX12_outOfTry 197 = .ok (.aload_n 0, 1) := by decide +kernel
theorem dX12_outOfTry_198 : decode cX12_outOfTry 198 = .ok (.getfield 123, 3) := by decide +kernel
theorem dX12_outOfTry_201 : decode cX12_outOfTry 201 = .ok (.aload_n 0, 1) := by decide +kernel
theorem dX12_outOfTry_202 : decode cX12_outOfTry 202 = .ok (.getfield 252, 3) := by decide +kernel
theorem dX12_outOfTry_205 : decode cX12_outOfTry 205 = .ok (.aload_n 0, 1) := by decide +kernel
theorem dX12_outOfTry_206 : decode cX12_outOfTry 206 = .ok (.getfield 78, 3) := by decide +kernel
theorem dX12_outOfTry_209 : decode cX12_outOfTry 209 = .ok (.iload_n 1, 1) := by decide +kernel
theorem dX12_outOfTry_210 : decode cX12_outOfTry 210 = .ok (.iaload, 1) := by decide +kernel
theorem dX12_outOfTry_211 : decode cX12_outOfTry 211 = .ok (.iastore, 1) := by decide +kernel
theorem dX12_outOfTry_212 : decode cX12_outOfTry 212 = .ok (.aload_n 0, 1) := by decide +kernel
theorem dX12_outOfTry_213 : decode cX12_outOfTry 213 = .ok (.invokevirtual 306, 3) := by decide +kernel
theorem dX12_outOfTry_216 : decode cX12_outOfTry 216 = .ok (.return_, 1) := by decide +kernel
theorem dX12_unwind_0 : decode cX12_unwind 0 = .ok (.aload_n 0, 1) := by decide +kernel
theorem dX12_unwind_1 : decode cX12_unwind 1 = .ok (.getfield 217, 3) := by decide +kernel
theorem dX12_unwind_4 : decode cX12_unwind 4 = .ok (.iconst 1, 1) := by decide +kernel
theorem dX12_unwind_5 : decode cX12_unwind 5 = .ok (.isub, 1) := by decide +kernel
theorem dX12_unwind_6 : decode cX12_unwind 6 = .ok (.istore_n 1, 1) := by decide +kernel
theorem dX12_unwind_7 : decode cX12_unwind 7 = .ok (.aload_n 0, 1) := by decide +kernel
theorem dX12_unwind_8 : decode cX12_unwind 8 = .ok (.getfield 66, 3) := by decide +kernel
theorem dX12_unwind_11 : decode cX12_unwind 11 = .ok (.iload_n 1, 1) := by decide +kernel
theorem dX12_unwind_12 : decode cX12_unwind 12 = .ok (.iaload, 1) := by decide +kernel
theorem dX12_unwind_13 : decode cX12_unwind 13 = .ok (.tableswitch 92 11 13 #[41, 27, 34], 27) := by decide +kernel
theorem dX12_unwind_40 : decode cX12_unwind 40 = .ok (.aload_n 0, 1) := by decide +kernel
theorem dX12_unwind_41 : decode cX12_unwind 41 = .ok (.invokevirtual 309, 3) := by decide +kernel
theorem dX12_unwind_44 : decode cX12_unwind 44 = .ok (.goto 65, 3) := by decide +kernel
theorem dX12_unwind_47 : decode cX12_unwind 47 = .ok (.aload_n 0, 1) := by decide +kernel
theorem dX12_unwind_48 : decode cX12_unwind 48 = .ok (.invokevirtual 312, 3) := by decide +kernel
theorem dX12_unwind_51 : decode cX12_unwind 51 = .ok (.goto 58, 3) := by decide +kernel
theorem dX12_unwind_54 : decode cX12_unwind 54 = .ok (.aload_n 0, 1) := by decide +kernel
theorem dX12_unwind_55 : decode cX12_unwind 55 = .ok (.dup, 1) := by decide +kernel
theorem dX12_unwind_56 : decode cX12_unwind 56 = .ok (.getfield 217, 3) := by decide +kernel
theorem dX12_unwind_59 : decode cX12_unwind 59 = .ok (.iconst 1, 1) := by decide +kernel
theorem dX12_unwind_60 : decode cX12_unwind 60 = .ok (.isub, 1) := by decide +kernel
theorem dX12_unwind_61 : decode cX12_unwind 61 = .ok (.putfield 217, 3) := by decide +kernel
theorem dX12_unwind_64 : decode cX12_unwind 64 = .ok (.aload_n 0, 1) := by decide +kernel
theorem dX12_unwind_65 : decode cX12_unwind 65 = .ok (.getfield 255, 3) := by decide +kernel
theorem dX12_unwind_68 : decode cX12_unwind 68 = .ok (.iconst 2, 1) := by decide +kernel
theorem dX12_unwind_69 : decode cX12_unwind 69 = .ok (.if_icmp .ne 40, 3) := by decide +kernel
theorem dX12_unwind_72 : decode cX12_unwind 72 = .ok (.aload_n 0, 1) := by decide +kernel
theorem dX12_unwind_73 : decode cX12_unwind 73 = .ok (.iconst 0, 1) := by decide +kernel
theorem dX12_unwind_74 : decode cX12_unwind 74 = .ok (.putfield 255, 3) := by decide +kernel
theorem dX12_unwind_77 : decode cX12_unwind 77 = .ok (.aload_n 0, 1) := by decide +kernel
theorem dX12_unwind_78 : decode cX12_unwind 78 = .ok (.aload_n 0, 1) := by decide +kernel
theorem dX12_unwind_79 : decode cX12_unwind 79 = .ok (.aload_n 0, 1) := by decide +kernel
theorem dX12_unwind_80 : decode cX12_unwind 80 = .ok (.getfield 72, 3) := by decide +kernel
theorem dX12_unwind_83 : decode cX12_unwind 83 = .ok (.aload_n 0, 1) := by decide +kernel
theorem dX12_unwind_84 : decode cX12_unwind 84 = .ok (.getfield 220, 3) := by decide +kernel
theorem dX12_unwind_87 : decode cX12_unwind 87 = .ok (.iaload, 1) := by decide +kernel
theorem dX12_unwind_88 : decode cX12_unwind 88 = .ok (.aload_n 0, 1) := by decide +kernel
theorem dX12_unwind_89 : decode cX12_unwind 89 = .ok (.getfield 69, 3) := by decide +kernel
theorem dX12_unwind_92 : decode cX12_unwind 92 = .ok (.iload_n 1, 1) := by decide +kernel
theorem dX12_unwind_93 : decode cX12_unwind 93 = .ok (.iaload, 1) := by decide +kernel
theorem dX12_unwind_94 : decode cX12_unwind 94 = .ok (.invokevirtual 297, 3) := by decide +kernel
theorem dX12_unwind_97 : decode cX12_unwind 97 = .ok (.iconst 1, 1) := by decide +kernel
theorem dX12_unwind_98 : decode cX12_unwind 98 = .ok (.iadd, 1) := by decide +kernel
theorem dX12_unwind_99 : decode cX12_unwind 99 = .ok (.invokevirtual 230, 3) := by decide +kernel
theorem dX12_unwind_102 : decode cX12_unwind 102 = .ok (.goto 7, 3) := by decide +kernel
theorem dX12_unwind_105 : decode cX12_unwind 105 = .ok (.aload_n 0, 1) := by decide +kernel
theorem dX12_unwind_106 : decode cX12_unwind 106 = .ok (.invokevirtual 315, 3) := by decide +kernel
theorem dX12_unwind_109 : decode cX12_unwind 109 = .ok (.return_, 1) := by decide +kernel
theorem dX12_endAct_0 : decode cX12_endAct 0 = .ok (.aload_n 0, 1) := by decide +kernel
theorem dX12_endAct_1 : decode cX12_endAct 1 = .ok (.dup, 1) := by decide +kernel
theorem dX12_endAct_2 : decode cX12_endAct 2 = .ok (.getfield 217, 3) := by decide +kernel
theorem dX12_endAct_5 : decode cX12_endAct 5 = .ok (.iconst 1, 1) := by decide +kernel
theorem dX12_endAct_6 : decode cX12_endAct 6 = .ok (.isub, 1) := by decide +kernel
theorem dX12_endAct_7 : decode cX12_endAct 7 = .ok (.putfield 217, 3) := by decide +kernel
theorem dX12_endAct_10 : decode cX12_endAct 10 = .ok (.aload_n 0, 1) := by decide +kernel
theorem dX12_endAct_11 : decode cX12_endAct 11 = .ok (.dup, 1) := by decide +kernel
theorem dX12_endAct_12 : decode cX12_endAct 12 = .ok (.getfield 223, 3) := by decide +kernel
theorem dX12_endAct_15 : decode cX12_endAct 15 = .ok (.iconst 1, 1) := by decide +kernel
theorem dX12_endAct_16 : decode cX12_endAct 16 = .ok (.isub, 1) := by decide +kernel
theorem dX12_endAct_17 : decode cX12_endAct 17 = .ok (.putfield 223, 3) := by decide +kernel
theorem dX12_endAct_20 : decode cX12_endAct 20 = .ok (.aload_n 0, 1) := by decide +kernel
theorem dX12_endAct_21 : decode cX12_endAct 21 = .ok (.invokevirtual 318, 3) := by decide +kernel
theorem dX12_endAct_24 : decode cX12_endAct 24 = .ok (.aload_n 0, 1) := by decide +kernel
theorem dX12_endAct_25 : decode cX12_endAct 25 = .ok (.getfield 220, 3) := by decide +kernel
end
section
theorem dX12_endAct_28 : decode cX12_endAct 28 = .ok (.ifCond .ge 48, 3) := by decide +kernel
theorem dX12_endAct_31 : decode cX12_endAct 31 = .ok (.aload_n 0, 1) := by decide +kernel
theorem dX12_endAct_32 : decode cX12_endAct 32 = .ok (.iconst 1, 1) := by decide +kernel
theorem dX12_endAct_33 : decode cX12_endAct 33 = .ok (.putfield 270, 3) := by decide +kernel
theorem dX12_endAct_36 : decode cX12_endAct 36 = .ok (.aload_n 0, 1) := by decide +kernel
theorem dX12_endAct_37 : decode cX12_endAct 37 = .ok (.aload_n 0, 1) := by decide +kernel
theorem dX12_endAct_38 : decode cX12_endAct 38 = .ok (.getfield 255, 3) := by decide +kernel
theorem dX12_endAct_41 : decode cX12_endAct 41 = .ok (.iconst 3, 1) := by decide +kernel
theorem dX12_endAct_42 : decode cX12_endAct 42 = .ok (.if_icmp .ne 7, 3) := by decide +kernel
theorem dX12_endAct_45 : decode cX12_endAct 45 = .ok (.iconst 1, 1) := by decide +kernel
theorem dX12_endAct_46 : decode cX12_endAct 46 = .ok (.goto 4, 3) := by decide +kernel
theorem dX12_endAct_49 : decode cX12_endAct 49 = .ok (.iconst 0, 1) := by decide +kernel
theorem dX12_endAct_50 : decode cX12_endAct 50 = .ok (.putfield 267, 3) := by decide +kernel
theorem dX12_endAct_53 : decode cX12_endAct 53 = .ok (.aload_n 0, 1) := by decide +kernel
theorem dX12_endAct_54 : decode cX12_endAct 54 = .ok (.aload_n 0, 1) := by decide +kernel
theorem dX12_endAct_55 : decode cX12_endAct 55 = .ok (.getfield 255, 3) := by decide +kernel
theorem dX12_endAct_58 : decode cX12_endAct 58 = .ok (.iconst 3, 1) := by decide +kernel
theorem dX12_endAct_59 : decode cX12_endAct 59 = .ok (.if_icmp .ne 10, 3) := by decide +kernel
theorem dX12_endAct_62 : decode cX12_endAct 62 = .ok (.aload_n 0, 1) := by decide +kernel
theorem dX12_endAct_63 : decode cX12_endAct 63 = .ok (.getfield 252, 3) := by decide +kernel
theorem dX12_endAct_66 : decode cX12_endAct 66 = .ok (.goto 4, 3) := by decide +kernel
theorem dX12_endAct_69 : decode cX12_endAct 69 = .ok (.iconst (-1), 1) := by decide +kernel
theorem dX12_endAct_70 : decode cX12_endAct 70 = .ok (.putfield 129, 3) := by decide +kernel
theorem dX12_endAct_73 : decode cX12_endAct 73 = .ok (.goto 16, 3) := by decide +kernel
theorem dX12_endAct_76 : decode cX12_endAct 76 = .ok (.aload_n 0, 1) := by decide +kernel
theorem dX12_endAct_77 : decode cX12_endAct 77 = .ok (.getfield 255, 3) := by decide +kernel
theorem dX12_endAct_80 : decode cX12_endAct 80 = .ok (.iconst 1, 1) := by decide +kernel
theorem dX12_endAct_81 : decode cX12_endAct 81 = .ok (.if_icmp .ne 8, 3) := by decide +kernel
theorem dX12_endAct_84 : decode cX12_endAct 84 = .ok (.aload_n 0, 1) := by decide +kernel
theorem dX12_endAct_85 : decode cX12_endAct 85 = .ok (.iconst 0, 1) := by decide +kernel
theorem dX12_endAct_86 : decode cX12_endAct 86 = .ok (.putfield 255, 3) := by decide +kernel
theorem dX12_endAct_89 : decode cX12_endAct 89 = .ok (.return_, 1) := by decide +kernel
theorem dX12_newLoan_0 : decode cX12_newLoan 0 = .ok (.aload_n 0, 1) := by decide +kernel
theorem dX12_newLoan_1 : decode cX12_newLoan 1 = .ok (.getfield 258, 3) := by decide +kernel
theorem dX12_newLoan_4 : decode cX12_newLoan 4 = .ok (.istore 4, 2) := by decide +kernel
theorem dX12_newLoan_6 : decode cX12_newLoan 6 = .ok (.aload_n 0, 1) := by decide +kernel
theorem dX12_newLoan_7 : decode cX12_newLoan 7 = .ok (.getfield 87, 3) := by decide +kernel
theorem dX12_newLoan_10 : decode cX12_newLoan 10 = .ok (.iload 4, 2) := by decide +kernel
theorem dX12_newLoan_12 : decode cX12_newLoan 12 = .ok (.iload_n 1, 1) := by decide +kernel
theorem dX12_newLoan_13 : decode cX12_newLoan 13 = .ok (.iastore, 1) := by decide +kernel
theorem dX12_newLoan_14 : decode cX12_newLoan 14 = .ok (.aload_n 0, 1) := by decide +kernel
theorem dX12_newLoan_15 : decode cX12_newLoan 15 = .ok (.getfield 90, 3) := by decide +kernel
theorem dX12_newLoan_18 : decode cX12_newLoan 18 = .ok (.iload 4, 2) := by decide +kernel
theorem dX12_newLoan_20 : decode cX12_newLoan 20 = .ok (.iload_n 2, 1) := by decide +kernel
theorem dX12_newLoan_21 : decode cX12_newLoan 21 = .ok (.iastore, 1) := by decide +kernel
theorem dX12_newLoan_22 : decode cX12_newLoan 22 = .ok (.aload_n 0, 1) := by decide +kernel
theorem dX12_newLoan_23 : decode cX12_newLoan 23 = .ok (.getfield 93, 3) := by decide +kernel
theorem dX12_newLoan_26 : decode cX12_newLoan 26 = .ok (.iload 4, 2) := by decide +kernel
theorem dX12_newLoan_28 : decode cX12_newLoan 28 = .ok (.iload_n 3, 1) := by decide +kernel
theorem dX12_newLoan_29 : decode cX12_newLoan 29 = .ok (.iastore, 1) := by decide +kernel
theorem dX12_newLoan_30 : decode cX12_newLoan 30 = .ok (.aload_n 0, 1) := by decide +kernel
theorem dX12_newLoan_31 : decode cX12_newLoan 31 = .ok (.getfield 102, 3) := by decide +kernel
theorem dX12_newLoan_34 : decode cX12_newLoan 34 = .ok (.iload 4, 2) := by decide +kernel
theorem dX12_newLoan_36 : decode cX12_newLoan 36 = .ok (.iconst 1, 1) := by decide +kernel
theorem dX12_newLoan_37 : decode cX12_newLoan 37 = .ok (.bastore, 1) := by decide +kernel
theorem dX12_newLoan_38 : decode cX12_newLoan 38 = .ok (.aload_n 0, 1) := by decide +kernel
theorem dX12_newLoan_39 : decode cX12_newLoan 39 = .ok (.getfield 96, 3) := by decide +kernel
theorem dX12_newLoan_42 : decode cX12_newLoan 42 = .ok (.iload 4, 2) := by decide +kernel
theorem dX12_newLoan_44 : decode cX12_newLoan 44 = .ok (.aload_n 0, 1) := by decide +kernel
theorem dX12_newLoan_45 : decode cX12_newLoan 45 = .ok (.iconst 0, 1) := by decide +kernel
theorem dX12_newLoan_46 : decode cX12_newLoan 46 = .ok (.invokevirtual 321, 3) := by decide +kernel
theorem dX12_newLoan_49 : decode cX12_newLoan 49 = .ok (.iastore, 1) := by decide +kernel
theorem dX12_newLoan_50 : decode cX12_newLoan 50 = .ok (.aload_n 0, 1) := by decide +kernel
theorem dX12_newLoan_51 : decode cX12_newLoan 51 = .ok (.getfield 99, 3) := by decide +kernel
theorem dX12_newLoan_54 : decode cX12_newLoan 54 = .ok (.iload 4, 2) := by decide +kernel
theorem dX12_newLoan_56 : decode cX12_newLoan 56 = .ok (.aload_n 0, 1) := by decide +kernel
theorem dX12_newLoan_57 : decode cX12_newLoan 57 = .ok (.getfield 324, 3) := by decide +kernel
theorem dX12_newLoan_60 : decode cX12_newLoan 60 = .ok (.iastore, 1) := by decide +kernel
theorem dX12_newLoan_61 : decode cX12_newLoan 61 = .ok (.aload_n 0, 1) := by decide +kernel
theorem dX12_newLoan_62 : decode cX12_newLoan 62 = .ok (.dup, 1) := by decide +kernel
theorem dX12_newLoan_63 : decode cX12_newLoan 63 = .ok (.getfield 324, 3) := by decide +kernel
theorem dX12_newLoan_66 : decode cX12_newLoan 66 = .ok (.iconst 1, 1) := by decide +kernel
theorem dX12_newLoan_67 : decode cX12_newLoan 67 = .ok (.iadd, 1) := by decide +kernel
theorem dX12_newLoan_68 : decode cX12_newLoan 68 = .ok (.putfield 324, 3) := by decide +kernel
theorem dX12_newLoan_71 : decode cX12_newLoan 71 = .ok (.aload_n 0, 1) := by decide +kernel
theorem dX12_newLoan_72 : decode cX12_newLoan 72 = .ok (.dup, 1) := by decide +kernel
theorem dX12_newLoan_73 : decode cX12_newLoan 73 = .ok (.getfield 258, 3) := by decide +kernel
theorem dX12_newLoan_76 : decode cX12_newLoan 76 = .ok (.iconst 1, 1) := by decide +kernel
theorem dX12_newLoan_77 : decode cX12_newLoan 77 = .ok (.iadd, 1) := by decide +kernel
theorem dX12_newLoan_78 : decode cX12_newLoan 78 = .ok (.putfield 258, 3) := by decide +kernel
theorem dX12_newLoan_81 : decode cX12_newLoan 81 = .ok (.aload_n 0, 1) := by decide +kernel
theorem dX12_newLoan_82 : decode cX12_newLoan 82 = .ok (.dup, 1) := by decide +kernel
theorem dX12_newLoan_83 : decode cX12_newLoan 83 = .ok (.getfield 327, 3) := by decide +kernel
theorem dX12_newLoan_86 : decode cX12_newLoan 86 = .ok (.iconst 1, 1) := by decide +kernel
theorem dX12_newLoan_87 : decode cX12_newLoan 87 = .ok (.iadd, 1) := by decide +kernel
theorem dX12_newLoan_88 : decode cX12_newLoan 88 = .ok (.putfield 327, 3) := by decide +kernel
theorem dX12_newLoan_91 : decode cX12_newLoan 91 = .ok (.iload_n 2, 1) := by decide +kernel
theorem dX12_newLoan_92 : decode cX12_newLoan 92 = .ok (.iconst 2, 1) := by decide +kernel
theorem dX12_newLoan_93 : decode cX12_newLoan 93 = .ok (.if_icmp .eq 10, 3) := by decide +kernel
theorem dX12_newLoan_96 : decode cX12_newLoan 96 = .ok (.aload_n 0, 1) := by decide +kernel
theorem dX12_newLoan_97 : decode cX12_newLoan 97 = .ok (.getfield 16, 3) := by decide +kernel
theorem dX12_newLoan_100 : decode cX12_newLoan 100 = .ok (.iload_n 1, 1) := by decide +kernel
theorem dX12_newLoan_101 : decode cX12_newLoan 101 = .ok (.iconst 1, 1) := by decide +kernel
theorem dX12_newLoan_102 : decode cX12_newLoan 102 = .ok (.iastore, 1) := by decide +kernel
theorem dX12_newLoan_103 : decode cX12_newLoan 103 = .ok (.iload 4, 2) := by decide +kernel
theorem dX12_newLoan_105 : decode cX12_newLoan 105 = .ok (.ireturn, 1) := by decide +kernel
theorem dX12_innermost_0 : decode cX12_innermost 0 = .ok (.iload_n 1, 1) := by decide +kernel
theorem dX12_innermost_1 : decode cX12_innermost 1 = .ok (.istore_n 2, 1) := by decide +kernel
theorem dX12_innermost_2 : decode cX12_innermost 2 = .ok (.aload_n 0, 1) := by decide +kernel
theorem dX12_innermost_3 : decode cX12_innermost 3 = .ok (.getfield 217, 3) := by decide +kernel
theorem dX12_innermost_6 : decode cX12_innermost 6 = .ok (.iconst 1, 1) := by decide +kernel
theorem dX12_innermost_7 : decode cX12_innermost 7 = .ok (.isub, 1) := by decide +kernel
theorem dX12_innermost_8 : decode cX12_innermost 8 = .ok (.istore_n 3, 1) := by decide +kernel
theorem dX12_innermost_9 : decode cX12_innermost 9 = .ok (.iload_n 3, 1) := by decide +kernel
theorem dX12_innermost_10 : decode cX12_innermost 10 = .ok (.ifCond .lt 34, 3) := by decide +kernel
theorem dX12_innermost_13 : decode cX12_innermost 13 = .ok (.aload_n 0, 1) := by decide +kernel
theorem dX12_innermost_14 : decode cX12_innermost 14 = .ok (.getfield 66, 3) := by decide +kernel
theorem dX12_innermost_17 : decode cX12_innermost 17 = .ok (.iload_n 3, 1) := by decide +kernel
theorem dX12_innermost_18 : decode cX12_innermost 18 = .ok (.iaload, 1) := by decide +kernel
theorem dX12_innermost_19 : decode cX12_innermost 19 = .ok (.bipush 12, 2) := by decide +kernel
theorem dX12_innermost_21 : decode cX12_innermost 21 = .ok (.if_icmp .ne 17, 3) := by decide +kernel
theorem dX12_innermost_24 : decode cX12_innermost 24 = .ok (.iload_n 2, 1) := by decide +kernel
theorem dX12_innermost_25 : decode cX12_innermost 25 = .ok (.ifCond .ne 10, 3) := by decide +kernel
theorem dX12_innermost_28 : decode cX12_innermost 28 = .ok (.aload_n 0, 1) := by decide +kernel
theorem dX12_innermost_29 : decode cX12_innermost 29 = .ok (.getfield 72, 3) := by decide +kernel
theorem dX12_innermost_32 : decode cX12_innermost 32 = .ok (.iload_n 3, 1) := by decide +kernel
theorem dX12_innermost_33 : decode cX12_innermost 33 = .ok (.iaload, 1) := by decide +kernel
theorem dX12_innermost_34 : decode cX12_innermost 34 = .ok (.ireturn, 1) := by decide +kernel
theorem dX12_innermost_35 : decode cX12_innermost 35 = .ok (.iinc 2 (-1), 3) := by decide +kernel
theorem dX12_innermost_38 : decode cX12_innermost 38 = .ok (.iinc 3 (-1), 3) := by decide +kernel
theorem dX12_innermost_41 : decode cX12_innermost 41 = .ok (.goto (-32), 3) := by decide +kernel
theorem dX12_innermost_44 : decode cX12_innermost 44 = .ok (.iconst (-1), 1) := by decide +kernel
theorem dX12_innermost_45 : decode cX12_innermost 45 = .ok (.ireturn, 1) := by decide +kernel
theorem dX12_trace_0 : decode cX12_trace 0 = .ok (.iconst 0, 1) := by decide +kernel
theorem dX12_trace_1 : decode cX12_trace 1 = .ok (.istore_n 2, 1) := by decide +kernel
theorem dX12_trace_2 : decode cX12_trace 2 = .ok (.iconst 0, 1) := by decide +kernel
theorem dX12_trace_3 : decode cX12_trace 3 = .ok (.istore_n 3, 1) := by decide +kernel
theorem dX12_trace_4 : decode cX12_trace 4 = .ok (.iload_n 3, 1) := by decide +kernel
theorem dX12_trace_5 : decode cX12_trace 5 = .ok (.aload_n 0, 1) := by decide +kernel
theorem dX12_trace_6 : decode cX12_trace 6 = .ok (.getfield 217, 3) := by decide +kernel
theorem dX12_trace_9 : decode cX12_trace 9 = .ok (.if_icmp .ge 63, 3) := by decide +kernel
theorem dX12_trace_12 : decode cX12_trace 12 = .ok (.aload_n 0, 1) := by decide +kernel
theorem dX12_trace_13 : decode cX12_trace 13 = .ok (.getfield 66, 3) := by decide +kernel
theorem dX12_trace_16 : decode cX12_trace 16 = .ok (.iload_n 3, 1) := by decide +kernel
theorem dX12_trace_17 : decode cX12_trace 17 = .ok (.iaload, 1) := by decide +kernel
theorem dX12_trace_18 : decode cX12_trace 18 = .ok (.bipush 17, 2) := by decide +kernel
theorem dX12_trace_20 : decode cX12_trace 20 = .ok (.if_icmp .ne 46, 3) := by decide +kernel
theorem dX12_trace_23 : decode cX12_trace 23 = .ok (.aload_n 0, 1) := by decide +kernel
theorem dX12_trace_24 : decode cX12_trace 24 = .ok (.getfield 108, 3) := by decide +kernel
theorem dX12_trace_27 : decode cX12_trace 27 = .ok (.bipush 20, 2) := by decide +kernel
theorem dX12_trace_29 : decode cX12_trace 29 = .ok (.iload_n 1, 1) := by decide +kernel
theorem dX12_trace_30 : decode cX12_trace 30 = .ok (.imul, 1) := by decide +kernel
theorem dX12_trace_31 : decode cX12_trace 31 = .ok (.iconst 2, 1) := by decide +kernel
theorem dX12_trace_32 : decode cX12_trace 32 = .ok (.iload_n 2, 1) := by decide +kernel
theorem dX12_trace_33 : decode cX12_trace 33 = .ok (.imul, 1) := by decide +kernel
theorem dX12_trace_34 : decode cX12_trace 34 = .ok (.iadd, 1) := by decide +kernel
theorem dX12_trace_35 : decode cX12_trace 35 = .ok (.aload_n 0, 1) := by decide +kernel
theorem dX12_trace_36 : decode cX12_trace 36 = .ok (.getfield 72, 3) := by decide +kernel
theorem dX12_trace_39 : decode cX12_trace 39 = .ok (.iload_n 3, 1) := by decide +kernel
theorem dX12_trace_40 : decode cX12_trace 40 = .ok (.iaload, 1) := by decide +kernel
theorem dX12_trace_41 : decode cX12_trace 41 = .ok (.iastore, 1) := by decide +kernel
theorem dX12_trace_42 : decode cX12_trace 42 = .ok (.aload_n 0, 1) := by decide +kernel
theorem dX12_trace_43 : decode cX12_trace 43 = .ok (.getfield 108, 3) := by decide +kernel
theorem dX12_trace_46 : decode cX12_trace 46 = .ok (.bipush 20, 2) := by decide +kernel
theorem dX12_trace_48 : decode cX12_trace 48 = .ok (.iload_n 1, 1) := by decide +kernel
theorem dX12_trace_49 : decode cX12_trace 49 = .ok (.imul, 1) := by decide +kernel
theorem dX12_trace_50 : decode cX12_trace 50 = .ok (.iconst 2, 1) := by decide +kernel
theorem dX12_trace_51 : decode cX12_trace 51 = .ok (.iload_n 2, 1) := by decide +kernel
theorem dX12_trace_52 : decode cX12_trace 52 = .ok (.imul, 1) := by decide +kernel
theorem dX12_trace_53 : decode cX12_trace 53 = .ok (.iadd, 1) := by decide +kernel
theorem dX12_trace_54 : decode cX12_trace 54 = .ok (.iconst 1, 1) := by decide +kernel
theorem dX12_trace_55 : decode cX12_trace 55 = .ok (.iadd, 1) := by decide +kernel
theorem dX12_trace_56 : decode cX12_trace 56 = .ok (.aload_n 0, 1) := by decide +kernel
theorem dX12_trace_57 : decode cX12_trace 57 = .ok (.getfield 81, 3) := by decide +kernel
theorem dX12_trace_60 : decode cX12_trace 60 = .ok (.iload_n 3, 1) := by decide +kernel
theorem dX12_trace_61 : decode cX12_trace 61 = .ok (.iaload, 1) := by decide +kernel
theorem dX12_trace_62 : decode cX12_trace 62 = .ok (.iastore, 1) := by decide +kernel
theorem dX12_trace_63 : decode cX12_trace 63 = .ok (.iinc 2 1, 3) := by decide +kernel
theorem dX12_trace_66 : decode cX12_trace 66 = .ok (.iinc 3 1, 3) := by decide +kernel
theorem dX12_trace_69 : decode cX12_trace 69 = .ok (.goto (-65), 3) := by decide +kernel
theorem dX12_trace_72 : decode cX12_trace 72 = .ok (.aload_n 0, 1) := by decide +kernel
theorem dX12_trace_73 : decode cX12_trace 73 = .ok (.getfield 105, 3) := by decide +kernel
theorem dX12_trace_76 : decode cX12_trace 76 = .ok (.iload_n 1, 1) := by decide +kernel
theorem dX12_trace_77 : decode cX12_trace 77 = .ok (.iload_n 2, 1) := by decide +kernel
theorem dX12_trace_78 : decode cX12_trace 78 = .ok (.iastore, 1) := by decide +kernel
theorem dX12_trace_79 : decode cX12_trace 79 = .ok (.return_, 1) := by decide +kernel
theorem dX12_doLine_0 : decode cX12_doLine 0 = .ok (.aload_n 0, 1) := by decide +kernel
theorem dX12_doLine_1 : decode cX12_doLine 1 = .ok (.getfield 50, 3) := by decide +kernel
theorem dX12_doLine_4 : decode cX12_doLine 4 = .ok (.bipush 40, 2) := by decide +kernel
theorem dX12_doLine_6 : decode cX12_doLine 6 = .ok (.iload_n 1, 1) := by decide +kernel
theorem dX12_doLine_7 : decode cX12_doLine 7 = .ok (.imul, 1) := by decide +kernel
theorem dX12_doLine_8 : decode cX12_doLine 8 = .ok (.iload_n 2, 1) := by decide +kernel
theorem dX12_doLine_9 : decode cX12_doLine 9 = .ok (.iadd, 1) := by decide +kernel
theorem dX12_doLine_10 : decode cX12_doLine 10 = .ok (.iaload, 1) := by decide +kernel
theorem dX12_doLine_11 : decode cX12_doLine 11 = .ok (.istore_n 3, 1) := by decide +kernel
theorem dX12_doLine_12 : decode cX12_doLine 12 = .ok (.aload_n 0, 1) := by decide +kernel
theorem dX12_doLine_13 : decode cX12_doLine 13 = .ok (.getfield 53, 3) := by decide +kernel
theorem dX12_doLine_16 : decode cX12_doLine 16 = .ok (.bipush 40, 2) := by decide +kernel
theorem dX12_doLine_18 : decode cX12_doLine 18 = .ok (.iload_n 1, 1) := by decide +kernel
theorem dX12_doLine_19 : decode cX12_doLine 19 = .ok (.imul, 1) := by decide +kernel
theorem dX12_doLine_20 : decode cX12_doLine 20 = .ok (.iload_n 2, 1) := by decide +kernel
theorem dX12_doLine_21 : decode cX12_doLine 21 = .ok (.iadd, 1) := by decide +kernel
theorem dX12_doLine_22 : decode cX12_doLine 22 = .ok (.iaload, 1) := by decide +kernel
theorem dX12_doLine_23 : decode cX12_doLine 23 = .ok (.istore 4, 2) := by decide +kernel
theorem dX12_doLine_25 : decode cX12_doLine 25 = .ok (.aload_n 0, 1) := by decide +kernel
theorem dX12_doLine_26 : decode cX12_doLine 26 = .ok (.getfield 56, 3) := by decide +kernel
theorem dX12_doLine_29 : decode cX12_doLine 29 = .ok (.bipush 40, 2) := by decide +kernel
theorem dX12_doLine_31 : decode cX12_doLine 31 = .ok (.iload_n 1, 1) := by decide +kernel
theorem dX12_doLine_32 : decode cX12_doLine 32 = .ok (.imul, 1) := by decide +kernel
theorem dX12_doLine_33 : decode cX12_doLine 33 = .ok (.iload_n 2, 1) := by decide +kernel
theorem dX12_doLine_34 : decode cX12_doLine 34 = .ok (.iadd, 1) := by decide +kernel
theorem dX12_doLine_35 : decode cX12_doLine 35 = .ok (.iaload, 1) := by decide +kernel
theorem dX12_doLine_36 : decode cX12_doLine 36 = .ok (.istore 5, 2) := by decide +kernel
theorem dX12_doLine_38 : decode cX12_doLine 38 = .ok (.bipush 8, 2) := by decide +kernel
theorem dX12_doLine_40 : decode cX12_doLine 40 = .ok (.aload_n 0, 1) := by decide +kernel
theorem dX12_doLine_41 : decode cX12_doLine 41 = .ok (.getfield 223, 3) := by decide +kernel
theorem dX12_doLine_44 : decode cX12_doLine 44 = .ok (.iconst 1, 1) := by decide +kernel
theorem dX12_doLine_45 : decode cX12_doLine 45 = .ok (.isub, 1) := by decide +kernel
theorem dX12_doLine_46 : decode cX12_doLine 46 = .ok (.imul, 1) := by decide +kernel
theorem dX12_doLine_47 : decode cX12_doLine 47 = .ok (.istore 6, 2) := by decide +kernel
theorem dX12_doLine_49 : decode cX12_doLine 49 = .ok (.aload_n 0, 1) := by decide +kernel
theorem dX12_doLine_50 : decode cX12_doLine 50 = .ok (.iload_n 2, 1) := by decide +kernel
theorem dX12_doLine_51 : decode cX12_doLine 51 = .ok (.iconst 1, 1) := by decide +kernel
theorem dX12_doLine_52 : decode cX12_doLine 52 = .ok (.iadd, 1) := by decide +kernel
theorem dX12_doLine_53 : decode cX12_doLine 53 = .ok (.invokevirtual 230, 3) := by decide +kernel
theorem dX12_doLine_56 : decode cX12_doLine 56 = .ok (.iload_n 3, 1) := by decide +kernel
theorem dX12_doLine_57 : decode cX12_doLine 57 = .ok (.tableswitch 418 0 12 #[67, 146, 67, 227, 227, 227, 227, 250, 349, 360, 368, 376, 410], 67) := by decide +kernel
theorem dX12_doLine_124 : decode cX12_doLine 124 = .ok (.aload_n 0, 1) := by decide +kernel
theorem dX12_doLine_125 : decode cX12_doLine 125 = .ok (.iload 5, 2) := by decide +kernel
theorem dX12_doLine_127 : decode cX12_doLine 127 = .ok (.invokevirtual 156, 3) := by decide +kernel
theorem dX12_doLine_130 : decode cX12_doLine 130 = .ok (.ifCond .ne 13, 3) := by decide +kernel
theorem dX12_doLine_133 : decode cX12_doLine 133 = .ok (.aload_n 0, 1) := by decide +kernel
theorem dX12_doLine_134 : decode cX12_doLine 134 = .ok (.getfield 16, 3) := by decide +kernel
theorem dX12_doLine_137 : decode cX12_doLine 137 = .ok (.iload 5, 2) := by decide +kernel
theorem dX12_doLine_139 : decode cX12_doLine 139 = .ok (.iaload, 1) := by decide +kernel
theorem dX12_doLine_140 : decode cX12_doLine 140 = .ok (.ifCond .eq 14, 3) := by decide +kernel
theorem dX12_doLine_143 : decode cX12_doLine 143 = .ok (.aload_n 0, 1) := by decide +kernel
theorem dX12_doLine_144 : decode cX12_doLine 144 = .ok (.iconst 2, 1) := by decide +kernel
theorem dX12_doLine_145 : decode cX12_doLine 145 = .ok (.iload_n 2, 1) := by decide +kernel
theorem dX12_doLine_146 : decode cX12_doLine 146 = .ok (.iload 5, 2) := by decide +kernel
theorem dX12_doLine_148 : decode cX12_doLine 148 = .ok (.invokevirtual 330, 3) := by decide +kernel
theorem dX12_doLine_151 : decode cX12_doLine 151 = .ok (.goto 332, 3) := by decide +kernel
theorem dX12_doLine_154 : decode cX12_doLine 154 = .ok (.aload_n 0, 1) := by decide +kernel
theorem dX12_doLine_155 : decode cX12_doLine 155 = .ok (.getfield 84, 3) := by decide +kernel
theorem dX12_doLine_158 : decode cX12_doLine 158 = .ok (.iload 6, 2) := by decide +kernel
theorem dX12_doLine_160 : decode cX12_doLine 160 = .ok (.iload 4, 2) := by decide +kernel
theorem dX12_doLine_162 : decode cX12_doLine 162 = .ok (.iadd, 1) := by decide +kernel
theorem dX12_doLine_163 : decode cX12_doLine 163 = .ok (.aload_n 0, 1) := by decide +kernel
theorem dX12_doLine_164 : decode cX12_doLine 164 = .ok (.iload 5, 2) := by decide +kernel
theorem dX12_doLine_166 : decode cX12_doLine 166 = .ok (.iload_n 3, 1) := by decide +kernel
theorem dX12_doLine_167 : decode cX12_doLine 167 = .ok (.iconst 2, 1) := by decide +kernel
theorem dX12_doLine_168 : decode cX12_doLine 168 = .ok (.if_icmp .ne 7, 3) := by decide +kernel
theorem dX12_doLine_171 : decode cX12_doLine 171 = .ok (.iconst 1, 1) := by decide +kernel
theorem dX12_doLine_172 : decode cX12_doLine 172 = .ok (.goto 4, 3) := by decide +kernel
theorem dX12_doLine_175 : decode cX12_doLine 175 = .ok (.iconst 0, 1) := by decide +kernel
theorem dX12_doLine_176 : decode cX12_doLine 176 = .ok (.iconst (-1), 1) := by decide +kernel
theorem dX12_doLine_177 : decode cX12_doLine 177 = .ok (.invokevirtual 333, 3) := by decide +kernel
theorem dX12_doLine_180 : decode cX12_doLine 180 = .ok (.iastore, 1) := by decide +kernel
theorem dX12_doLine_181 : decode cX12_doLine 181 = .ok (.iload_n 3, 1) := by decide +kernel
theorem dX12_doLine_182 : decode cX12_doLine 182 = .ok (.iconst 2, 1) := by decide +kernel
theorem dX12_doLine_183 : decode cX12_doLine 183 = .ok (.if_icmp .ne 300, 3) := by decide +kernel
theorem dX12_doLine_186 : decode cX12_doLine 186 = .ok (.aload_n 0, 1) := by decide +kernel
theorem dX12_doLine_187 : decode cX12_doLine 187 = .ok (.aload_n 0, 1) := by decide +kernel
theorem dX12_doLine_188 : decode cX12_doLine 188 = .ok (.getfield 84, 3) := by decide +kernel
theorem dX12_doLine_191 : decode cX12_doLine 191 = .ok (.iload 6, 2) := by decide +kernel
theorem dX12_doLine_193 : decode cX12_doLine 193 = .ok (.iload 4, 2) := by decide +kernel
theorem dX12_doLine_195 : decode cX12_doLine 195 = .ok (.iadd, 1) := by decide +kernel
theorem dX12_doLine_196 : decode cX12_doLine 196 = .ok (.iaload, 1) := by decide +kernel
theorem dX12_doLine_197 : decode cX12_doLine 197 = .ok (.invokevirtual 336, 3) := by decide +kernel
theorem dX12_doLine_200 : decode cX12_doLine 200 = .ok (.goto 283, 3) := by decide +kernel
theorem dX12_doLine_203 : decode cX12_doLine 203 = .ok (.iconst 0, 1) := by decide +kernel
theorem dX12_doLine_204 : decode cX12_doLine 204 = .ok (.istore 7, 2) := by decide +kernel
theorem dX12_doLine_206 : decode cX12_doLine 206 = .ok (.iload 7, 2) := by decide +kernel
theorem dX12_doLine_208 : decode cX12_doLine 208 = .ok (.aload_n 0, 1) := by decide +kernel
theorem dX12_doLine_209 : decode cX12_doLine 209 = .ok (.getfield 153, 3) := by decide +kernel
theorem dX12_doLine_212 : decode cX12_doLine 212 = .ok (.if_icmp .ge 31, 3) := by decide +kernel
theorem dX12_doLine_215 : decode cX12_doLine 215 = .ok (.aload_n 0, 1) := by decide +kernel
theorem dX12_doLine_216 : decode cX12_doLine 216 = .ok (.getfield 7, 3) := by decide +kernel
theorem dX12_doLine_219 : decode cX12_doLine 219 = .ok (.iload 7, 2) := by decide +kernel
theorem dX12_doLine_221 : decode cX12_doLine 221 = .ok (.iaload, 1) := by decide +kernel
theorem dX12_doLine_222 : decode cX12_doLine 222 = .ok (.iload 5, 2) := by decide +kernel
theorem dX12_doLine_224 : decode cX12_doLine 224 = .ok (.if_icmp .ne 13, 3) := by decide +kernel
theorem dX12_doLine_227 : decode cX12_doLine 227 = .ok (.aload_n 0, 1) := by decide +kernel
theorem dX12_doLine_228 : decode cX12_doLine 228 = .ok (.getfield 16, 3) := by decide +kernel
theorem dX12_doLine_231 : decode cX12_doLine 231 = .ok (.iload 7, 2) := by decide +kernel
theorem dX12_doLine_233 : decode cX12_doLine 233 = .ok (.iaload, 1) := by decide +kernel
theorem dX12_doLine_234 : decode cX12_doLine 234 = .ok (.ifCond .eq 9, 3) := by decide +kernel
theorem dX12_doLine_237 : decode cX12_doLine 237 = .ok (.iinc 7 1, 3) := by decide +kernel
theorem dX12_doLine_240 : decode cX12_doLine 240 = .ok (.goto (-34), 3) := by decide +kernel
theorem dX12_doLine_243 : decode cX12_doLine 243 = .ok (.iload 7, 2) := by decide +kernel
theorem dX12_doLine_245 : decode cX12_doLine 245 = .ok (.aload_n 0, 1) := by decide +kernel
theorem dX12_doLine_246 : decode cX12_doLine 246 = .ok (.getfield 153, 3) := by decide +kernel
theorem dX12_doLine_249 : decode cX12_doLine 249 = .ok (.if_icmp .ne 14, 3) := by decide +kernel
theorem dX12_doLine_252 : decode cX12_doLine 252 = .ok (.aload_n 0, 1) := by decide +kernel
theorem dX12_doLine_253 : decode cX12_doLine 253 = .ok (.bipush 7, 2) := by decide +kernel
theorem dX12_doLine_255 : decode cX12_doLine 255 = .ok (.iload_n 2, 1) := by decide +kernel
theorem dX12_doLine_256 : decode cX12_doLine 256 = .ok (.iconst (-1), 1) := by decide +kernel
theorem dX12_doLine_257 : decode cX12_doLine 257 = .ok (.invokevirtual 330, 3) := by decide +kernel
theorem dX12_doLine_260 : decode cX12_doLine 260 = .ok (.goto 223, 3) := by decide +kernel
theorem dX12_doLine_263 : decode cX12_doLine 263 = .ok (.aload_n 0, 1) := by decide +kernel
theorem dX12_doLine_264 : decode cX12_doLine 264 = .ok (.getfield 84, 3) := by decide +kernel
theorem dX12_doLine_267 : decode cX12_doLine 267 = .ok (.iload 6, 2) := by decide +kernel
theorem dX12_doLine_269 : decode cX12_doLine 269 = .ok (.iload 4, 2) := by decide +kernel
theorem dX12_doLine_271 : decode cX12_doLine 271 = .ok (.iadd, 1) := by decide +kernel
theorem dX12_doLine_272 : decode cX12_doLine 272 = .ok (.aload_n 0, 1) := by decide +kernel
theorem dX12_doLine_273 : decode cX12_doLine 273 = .ok (.iload 7, 2) := by decide +kernel
theorem dX12_doLine_275 : decode cX12_doLine 275 = .ok (.iconst 0, 1) := by decide +kernel
theorem dX12_doLine_276 : decode cX12_doLine 276 = .ok (.iconst (-1), 1) := by decide +kernel
theorem dX12_doLine_277 : decode cX12_doLine 277 = .ok (.invokevirtual 333, 3) := by decide +kernel
theorem dX12_doLine_280 : decode cX12_doLine 280 = .ok (.iastore, 1) := by decide +kernel
theorem dX12_doLine_281 : decode cX12_doLine 281 = .ok (.goto 202, 3) := by decide +kernel
theorem dX12_doLine_284 : decode cX12_doLine 284 = .ok (.aload_n 0, 1) := by decide +kernel
theorem dX12_doLine_285 : decode cX12_doLine 285 = .ok (.iload_n 3, 1) := by decide +kernel
theorem dX12_doLine_286 : decode cX12_doLine 286 = .ok (.iload_n 2, 1) := by decide +kernel
theorem dX12_doLine_287 : decode cX12_doLine 287 = .ok (.aload_n 0, 1) := by decide +kernel
theorem dX12_doLine_288 : decode cX12_doLine 288 = .ok (.getfield 84, 3) := by decide +kernel
theorem dX12_doLine_291 : decode cX12_doLine 291 = .ok (.iload 6, 2) := by decide +kernel
theorem dX12_doLine_293 : decode cX12_doLine 293 = .ok (.iload 4, 2) := by decide +kernel
theorem dX12_doLine_295 : decode cX12_doLine 295 = .ok (.iadd, 1) := by decide +kernel
theorem dX12_doLine_296 : decode cX12_doLine 296 = .ok (.iaload, 1) := by decide +kernel
theorem dX12_doLine_297 : decode cX12_doLine 297 = .ok (.iload 5, 2) := by decide +kernel
theorem dX12_doLine_299 : decode cX12_doLine 299 = .ok (.iload 6, 2) := by decide +kernel
theorem dX12_doLine_301 : decode cX12_doLine 301 = .ok (.invokevirtual 339, 3) := by decide +kernel
theorem dX12_doLine_304 : decode cX12_doLine 304 = .ok (.goto 179, 3) := by decide +kernel
theorem dX12_doLine_307 : decode cX12_doLine 307 = .ok (.aload_n 0, 1) := by decide +kernel
theorem dX12_doLine_308 : decode cX12_doLine 308 = .ok (.getfield 223, 3) := by decide +kernel
theorem dX12_doLine_311 : decode cX12_doLine 311 = .ok (.bipush 10, 2) := by decide +kernel
theorem dX12_doLine_313 : decode cX12_doLine 313 = .ok (.if_icmp .ne 14, 3) := by decide +kernel
theorem dX12_doLine_316 : decode cX12_doLine 316 = .ok (.aload_n 0, 1) := by decide +kernel
theorem dX12_doLine_317 : decode cX12_doLine 317 = .ok (.bipush 8, 2) := by decide +kernel
theorem dX12_doLine_319 : decode cX12_doLine 319 = .ok (.iload_n 2, 1) := by decide +kernel
theorem dX12_doLine_320 : decode cX12_doLine 320 = .ok (.iconst (-1), 1) := by decide +kernel
theorem dX12_doLine_321 : decode cX12_doLine 321 = .ok (.invokevirtual 330, 3) := by decide +kernel
theorem dX12_doLine_324 : decode cX12_doLine 324 = .ok (.goto 159, 3) := by decide +kernel
theorem dX12_doLine_327 : decode cX12_doLine 327 = .ok (.aload_n 0, 1) := by decide +kernel
theorem dX12_doLine_328 : decode cX12_doLine 328 = .ok (.getfield 84, 3) := by decide +kernel
theorem dX12_doLine_331 : decode cX12_doLine 331 = .ok (.iload 6, 2) := by decide +kernel
theorem dX12_doLine_333 : decode cX12_doLine 333 = .ok (.iload 5, 2) := by decide +kernel
theorem dX12_doLine_335 : decode cX12_doLine 335 = .ok (.iadd, 1) := by decide +kernel
theorem dX12_doLine_336 : decode cX12_doLine 336 = .ok (.iaload, 1) := by decide +kernel
theorem dX12_doLine_337 : decode cX12_doLine 337 = .ok (.istore 7, 2) := by decide +kernel
theorem dX12_doLine_339 : decode cX12_doLine 339 = .ok (.aload_n 0, 1) := by decide +kernel
theorem dX12_doLine_340 : decode cX12_doLine 340 = .ok (.iload 4, 2) := by decide +kernel
theorem dX12_doLine_342 : decode cX12_doLine 342 = .ok (.invokevirtual 180, 3) := by decide +kernel
theorem dX12_doLine_345 : decode cX12_doLine 345 = .ok (.ifCond .ne 7, 3) := by decide +kernel
theorem dX12_doLine_348 : decode cX12_doLine 348 = .ok (.iconst 1, 1) := by decide +kernel
theorem dX12_doLine_349 : decode cX12_doLine 349 = .ok (.goto 4, 3) := by decide +kernel
theorem dX12_doLine_352 : decode cX12_doLine 352 = .ok (.iconst 0, 1) := by decide +kernel
theorem dX12_doLine_353 : decode cX12_doLine 353 = .ok (.istore 8, 2) := by decide +kernel
theorem dX12_doLine_355 : decode cX12_doLine 355 = .ok (.iload 8, 2) := by decide +kernel
theorem dX12_doLine_357 : decode cX12_doLine 357 = .ok (.ifCond .eq 23, 3) := by decide +kernel
theorem dX12_doLine_360 : decode cX12_doLine 360 = .ok (.aload_n 0, 1) := by decide +kernel
theorem dX12_doLine_361 : decode cX12_doLine 361 = .ok (.iload 4, 2) := by decide +kernel
theorem dX12_doLine_363 : decode cX12_doLine 363 = .ok (.invokevirtual 209, 3) := by decide +kernel
theorem dX12_doLine_366 : decode cX12_doLine 366 = .ok (.aload_n 0, 1) := by decide +kernel
theorem dX12_doLine_367 : decode cX12_doLine 367 = .ok (.getfield 196, 3) := by decide +kernel
theorem dX12_doLine_370 : decode cX12_doLine 370 = .ok (.ifCond .ne 7, 3) := by decide +kernel
theorem dX12_doLine_373 : decode cX12_doLine 373 = .ok (.iconst 1, 1) := by decide +kernel
theorem dX12_doLine_374 : decode cX12_doLine 374 = .ok (.goto 4, 3) := by decide +kernel
theorem dX12_doLine_377 : decode cX12_doLine 377 = .ok (.iconst 0, 1) := by decide +kernel
theorem dX12_doLine_378 : decode cX12_doLine 378 = .ok (.istore 8, 2) := by decide +kernel
theorem dX12_doLine_380 : decode cX12_doLine 380 = .ok (.iload 8, 2) := by decide +kernel
theorem dX12_doLine_382 : decode cX12_doLine 382 = .ok (.ifCond .eq 14, 3) := by decide +kernel
theorem dX12_doLine_385 : decode cX12_doLine 385 = .ok (.aload_n 0, 1) := by decide +kernel
theorem dX12_doLine_386 : decode cX12_doLine 386 = .ok (.iload 4, 2) := by decide +kernel
theorem dX12_doLine_388 : decode cX12_doLine 388 = .ok (.iload 7, 2) := by decide +kernel
theorem dX12_doLine_390 : decode cX12_doLine 390 = .ok (.invokevirtual 343, 3) := by decide +kernel
theorem dX12_doLine_393 : decode cX12_doLine 393 = .ok (.goto 10, 3) := by decide +kernel
theorem dX12_doLine_396 : decode cX12_doLine 396 = .ok (.aload_n 0, 1) := by decide +kernel
theorem dX12_doLine_397 : decode cX12_doLine 397 = .ok (.iconst 4, 1) := by decide +kernel
theorem dX12_doLine_398 : decode cX12_doLine 398 = .ok (.iload_n 2, 1) := by decide +kernel
theorem dX12_doLine_399 : decode cX12_doLine 399 = .ok (.iconst (-1), 1) := by decide +kernel
theorem dX12_doLine_400 : decode cX12_doLine 400 = .ok (.invokevirtual 330, 3) := by decide +kernel
theorem dX12_doLine_403 : decode cX12_doLine 403 = .ok (.goto 80, 3) := by decide +kernel
theorem dX12_doLine_406 : decode cX12_doLine 406 = .ok (.aload_n 0, 1) := by decide +kernel
theorem dX12_doLine_407 : decode cX12_doLine 407 = .ok (.iload 4, 2) := by decide +kernel
theorem dX12_doLine_409 : decode cX12_doLine 409 = .ok (.iload_n 2, 1) := by decide +kernel
theorem dX12_doLine_410 : decode cX12_doLine 410 = .ok (.iconst (-1), 1) := by decide +kernel
theorem dX12_doLine_411 : decode cX12_doLine 411 = .ok (.invokevirtual 330, 3) := by decide +kernel
theorem dX12_doLine_414 : decode cX12_doLine 414 = .ok (.goto 69, 3) := by decide +kernel
theorem dX12_doLine_417 : decode cX12_doLine 417 = .ok (.aload_n 0, 1) := by decide +kernel
theorem dX12_doLine_418 : decode cX12_doLine 418 = .ok (.iconst 1, 1) := by decide +kernel
theorem dX12_doLine_419 : decode cX12_doLine 419 = .ok (.putfield 255, 3) := by decide +kernel
theorem dX12_doLine_422 : decode cX12_doLine 422 = .ok (.goto 61, 3) := by decide +kernel
theorem dX12_doLine_425 : decode cX12_doLine 425 = .ok (.aload_n 0, 1) := by decide +kernel
theorem dX12_doLine_426 : decode cX12_doLine 426 = .ok (.iconst 2, 1) := by decide +kernel
theorem dX12_doLine_427 : decode cX12_doLine 427 = .ok (.putfield 255, 3) := by decide +kernel
theorem dX12_doLine_430 : decode cX12_doLine 430 = .ok (.goto 53, 3) := by decide +kernel
theorem dX12_doLine_433 : decode cX12_doLine 433 = .ok (.iload 4, 2) := by decide +kernel
theorem dX12_doLine_435 : decode cX12_doLine 435 = .ok (.ifCond .ne 18, 3) := by decide +kernel
theorem dX12_doLine_438 : decode cX12_doLine 438 = .ok (.aload_n 0, 1) := by decide +kernel
theorem dX12_doLine_439 : decode cX12_doLine 439 = .ok (.aload_n 0, 1) := by decide +kernel
theorem dX12_doLine_440 : decode cX12_doLine 440 = .ok (.iload_n 1, 1) := by decide +kernel
theorem dX12_doLine_441 : decode cX12_doLine 441 = .ok (.iload_n 2, 1) := by decide +kernel
theorem dX12_doLine_442 : decode cX12_doLine 442 = .ok (.invokevirtual 297, 3) := by decide +kernel
theorem dX12_doLine_445 : decode cX12_doLine 445 = .ok (.iconst 1, 1) := by decide +kernel
theorem dX12_doLine_446 : decode cX12_doLine 446 = .ok (.iadd, 1) := by decide +kernel
theorem dX12_doLine_447 : decode cX12_doLine 447 = .ok (.invokevirtual 230, 3) := by decide +kernel
theorem dX12_doLine_450 : decode cX12_doLine 450 = .ok (.goto 33, 3) := by decide +kernel
theorem dX12_doLine_453 : decode cX12_doLine 453 = .ok (.aload_n 0, 1) := by decide +kernel
theorem dX12_doLine_454 : decode cX12_doLine 454 = .ok (.bipush 11, 2) := by decide +kernel
theorem dX12_doLine_456 : decode cX12_doLine 456 = .ok (.iload_n 2, 1) := by decide +kernel
theorem dX12_doLine_457 : decode cX12_doLine 457 = .ok (.iload 4, 2) := by decide +kernel
theorem dX12_doLine_459 : decode cX12_doLine 459 = .ok (.iconst 1, 1) := by decide +kernel
theorem dX12_doLine_460 : decode cX12_doLine 460 = .ok (.isub, 1) := by decide +kernel
theorem dX12_doLine_461 : decode cX12_doLine 461 = .ok (.invokevirtual 226, 3) := by decide +kernel
theorem dX12_doLine_464 : decode cX12_doLine 464 = .ok (.goto 19, 3) := by decide +kernel
theorem dX12_doLine_467 : decode cX12_doLine 467 = .ok (.aload_n 0, 1) := by decide +kernel
theorem dX12_doLine_468 : decode cX12_doLine 468 = .ok (.iload_n 2, 1) := by decide +kernel
theorem dX12_doLine_469 : decode cX12_doLine 469 = .ok (.invokevirtual 233, 3) := by decide +kernel
theorem dX12_doLine_472 : decode cX12_doLine 472 = .ok (.goto 11, 3) := by decide +kernel
theorem dX12_doLine_475 : decode cX12_doLine 475 = .ok (.aload_n 0, 1) := by decide +kernel
theorem dX12_doLine_476 : decode cX12_doLine 476 = .ok (.bipush 13, 2) := by decide +kernel
theorem dX12_doLine_478 : decode cX12_doLine 478 = .ok (.iload_n 2, 1) := by decide +kernel
theorem dX12_doLine_479 : decode cX12_doLine 479 = .ok (.iconst 0, 1) := by decide +kernel
theorem dX12_doLine_480 : decode cX12_doLine 480 = .ok (.invokevirtual 226, 3) := by decide +kernel
theorem dX12_doLine_483 : decode cX12_doLine 483 = .ok (.return_, 1) := by decide +kernel
theorem dX12_doSlot_0 : decode cX12_doSlot 0 = .ok (.iload_n 3, 1) := by decide +kernel
theorem dX12_doSlot_1 : decode cX12_doSlot 1 = .ok (.ifCond .lt 12, 3) := by decide +kernel
theorem dX12_doSlot_4 : decode cX12_doSlot 4 = .ok (.aload_n 0, 1) := by decide +kernel
theorem dX12_doSlot_5 : decode cX12_doSlot 5 = .ok (.getfield 102, 3) := by decide +kernel
theorem dX12_doSlot_8 : decode cX12_doSlot 8 = .ok (.iload_n 3, 1) := by decide +kernel
theorem dX12_doSlot_9 : decode cX12_doSlot 9 = .ok (.baload, 1) := by decide +kernel
theorem dX12_doSlot_10 : decode cX12_doSlot 10 = .ok (.ifCond .ne 24, 3) := by decide +kernel
theorem dX12_doSlot_13 : decode cX12_doSlot 13 = .ok (.aload_n 0, 1) := by decide +kernel
theorem dX12_doSlot_14 : decode cX12_doSlot 14 = .ok (.iconst 3, 1) := by decide +kernel
theorem dX12_doSlot_15 : decode cX12_doSlot 15 = .ok (.iload_n 2, 1) := by decide +kernel
theorem dX12_doSlot_16 : decode cX12_doSlot 16 = .ok (.iload_n 3, 1) := by decide +kernel
theorem dX12_doSlot_17 : decode cX12_doSlot 17 = .ok (.ifCond .ge 7, 3) := by decide +kernel
theorem dX12_doSlot_20 : decode cX12_doSlot 20 = .ok (.iconst (-1), 1) := by decide +kernel
theorem dX12_doSlot_21 : decode cX12_doSlot 21 = .ok (.goto 9, 3) := by decide +kernel
theorem dX12_doSlot_24 : decode cX12_doSlot 24 = .ok (.aload_n 0, 1) := by decide +kernel
theorem dX12_doSlot_25 : decode cX12_doSlot 25 = .ok (.getfield 87, 3) := by decide +kernel
theorem dX12_doSlot_28 : decode cX12_doSlot 28 = .ok (.iload_n 3, 1) := by decide +kernel
theorem dX12_doSlot_29 : decode cX12_doSlot 29 = .ok (.iaload, 1) := by decide +kernel
theorem dX12_doSlot_30 : decode cX12_doSlot 30 = .ok (.invokevirtual 330, 3) := by decide +kernel
theorem dX12_doSlot_33 : decode cX12_doSlot 33 = .ok (.return_, 1) := by decide +kernel
theorem dX12_doSlot_34 : decode cX12_doSlot 34 = .ok (.aload_n 0, 1) := by decide +kernel
theorem dX12_doSlot_35 : decode cX12_doSlot 35 = .ok (.getfield 87, 3) := by decide +kernel
theorem dX12_doSlot_38 : decode cX12_doSlot 38 = .ok (.iload_n 3, 1) := by decide +kernel
theorem dX12_doSlot_39 : decode cX12_doSlot 39 = .ok (.iaload, 1) := by decide +kernel
theorem dX12_doSlot_40 : decode cX12_doSlot 40 = .ok (.istore 6, 2) := by decide +kernel
theorem dX12_doSlot_42 : decode cX12_doSlot 42 = .ok (.iload_n 1, 1) := by decide +kernel
theorem dX12_doSlot_43 : decode cX12_doSlot 43 = .ok (.iconst 4, 1) := by decide +kernel
theorem dX12_doSlot_44 : decode cX12_doSlot 44 = .ok (.if_icmp .ne 24, 3) := by decide +kernel
theorem dX12_doSlot_47 : decode cX12_doSlot 47 = .ok (.aload_n 0, 1) := by decide +kernel
theorem dX12_doSlot_48 : decode cX12_doSlot 48 = .ok (.iload_n 3, 1) := by decide +kernel
theorem dX12_doSlot_49 : decode cX12_doSlot 49 = .ok (.iconst 0, 1) := by decide +kernel
theorem dX12_doSlot_50 : decode cX12_doSlot 50 = .ok (.invokevirtual 278, 3) := by decide +kernel
theorem dX12_doSlot_53 : decode cX12_doSlot 53 = .ok (.ifCond .eq 149, 3) := by decide +kernel
theorem dX12_doSlot_56 : decode cX12_doSlot 56 = .ok (.aload_n 0, 1) := by decide +kernel
theorem dX12_doSlot_57 : decode cX12_doSlot 57 = .ok (.bipush 6, 2) := by decide +kernel
theorem dX12_doSlot_59 : decode cX12_doSlot 59 = .ok (.iload_n 2, 1) := by decide +kernel
theorem dX12_doSlot_60 : decode cX12_doSlot 60 = .ok (.iload 6, 2) := by decide +kernel
theorem dX12_doSlot_62 : decode cX12_doSlot 62 = .ok (.invokevirtual 330, 3) := by decide +kernel
theorem dX12_doSlot_65 : decode cX12_doSlot 65 = .ok (.goto 137, 3) := by decide +kernel
theorem dX12_doSlot_68 : decode cX12_doSlot 68 = .ok (.iload_n 1, 1) := by decide +kernel
theorem dX12_doSlot_69 : decode cX12_doSlot 69 = .ok (.bipush 6, 2) := by decide +kernel
theorem dX12_doSlot_71 : decode cX12_doSlot 71 = .ok (.if_icmp .ne 68, 3) := by decide +kernel
theorem dX12_doSlot_74 : decode cX12_doSlot 74 = .ok (.aload_n 0, 1) := by decide +kernel
theorem dX12_doSlot_75 : decode cX12_doSlot 75 = .ok (.iload 4, 2) := by decide +kernel
theorem dX12_doSlot_77 : decode cX12_doSlot 77 = .ok (.invokevirtual 321, 3) := by decide +kernel
theorem dX12_doSlot_80 : decode cX12_doSlot 80 = .ok (.istore 7, 2) := by decide +kernel
theorem dX12_doSlot_82 : decode cX12_doSlot 82 = .ok (.iload 7, 2) := by decide +kernel
theorem dX12_doSlot_84 : decode cX12_doSlot 84 = .ok (.ifCond .lt 13, 3) := by decide +kernel
theorem dX12_doSlot_87 : decode cX12_doSlot 87 = .ok (.aload_n 0, 1) := by decide +kernel
theorem dX12_doSlot_88 : decode cX12_doSlot 88 = .ok (.getfield 90, 3) := by decide +kernel
theorem dX12_doSlot_91 : decode cX12_doSlot 91 = .ok (.iload_n 3, 1) := by decide +kernel
theorem dX12_doSlot_92 : decode cX12_doSlot 92 = .ok (.iaload, 1) := by decide +kernel
theorem dX12_doSlot_93 : decode cX12_doSlot 93 = .ok (.iconst 1, 1) := by decide +kernel
theorem dX12_doSlot_94 : decode cX12_doSlot 94 = .ok (.if_icmp .ne 14, 3) := by decide +kernel
theorem dX12_doSlot_97 : decode cX12_doSlot 97 = .ok (.aload_n 0, 1) := by decide +kernel
theorem dX12_doSlot_98 : decode cX12_doSlot 98 = .ok (.iconst 4, 1) := by decide +kernel
theorem dX12_doSlot_99 : decode cX12_doSlot 99 = .ok (.iload_n 2, 1) := by decide +kernel
theorem dX12_doSlot_100 : decode cX12_doSlot 100 = .ok (.iload 6, 2) := by decide +kernel
theorem dX12_doSlot_102 : decode cX12_doSlot 102 = .ok (.invokevirtual 330, 3) := by decide +kernel
theorem dX12_doSlot_105 : decode cX12_doSlot 105 = .ok (.goto 31, 3) := by decide +kernel
theorem dX12_doSlot_108 : decode cX12_doSlot 108 = .ok (.aload_n 0, 1) := by decide +kernel
theorem dX12_doSlot_109 : decode cX12_doSlot 109 = .ok (.getfield 96, 3) := by decide +kernel
theorem dX12_doSlot_112 : decode cX12_doSlot 112 = .ok (.iload_n 3, 1) := by decide +kernel
theorem dX12_doSlot_113 : decode cX12_doSlot 113 = .ok (.iload 7, 2) := by decide +kernel
theorem dX12_doSlot_115 : decode cX12_doSlot 115 = .ok (.iastore, 1) := by decide +kernel
theorem dX12_doSlot_116 : decode cX12_doSlot 116 = .ok (.aload_n 0, 1) := by decide +kernel
theorem dX12_doSlot_117 : decode cX12_doSlot 117 = .ok (.getfield 99, 3) := by decide +kernel
theorem dX12_doSlot_120 : decode cX12_doSlot 120 = .ok (.iload_n 3, 1) := by decide +kernel
theorem dX12_doSlot_121 : decode cX12_doSlot 121 = .ok (.aload_n 0, 1) := by decide +kernel
theorem dX12_doSlot_122 : decode cX12_doSlot 122 = .ok (.getfield 324, 3) := by decide +kernel
theorem dX12_doSlot_125 : decode cX12_doSlot 125 = .ok (.iastore, 1) := by decide +kernel
theorem dX12_doSlot_126 : decode cX12_doSlot 126 = .ok (.aload_n 0, 1) := by decide +kernel
theorem dX12_doSlot_127 : decode cX12_doSlot 127 = .ok (.dup, 1) := by decide +kernel
theorem dX12_doSlot_128 : decode cX12_doSlot 128 = .ok (.getfield 324, 3) := by decide +kernel
theorem dX12_doSlot_131 : decode cX12_doSlot 131 = .ok (.iconst 1, 1) := by decide +kernel
theorem dX12_doSlot_132 : decode cX12_doSlot 132 = .ok (.iadd, 1) := by decide +kernel
theorem dX12_doSlot_133 : decode cX12_doSlot 133 = .ok (.putfield 324, 3) := by decide +kernel
theorem dX12_doSlot_136 : decode cX12_doSlot 136 = .ok (.goto 66, 3) := by decide +kernel
theorem dX12_doSlot_139 : decode cX12_doSlot 139 = .ok (.aload_n 0, 1) := by decide +kernel
theorem dX12_doSlot_140 : decode cX12_doSlot 140 = .ok (.iload_n 3, 1) := by decide +kernel
theorem dX12_doSlot_141 : decode cX12_doSlot 141 = .ok (.invokevirtual 347, 3) := by decide +kernel
theorem dX12_doSlot_144 : decode cX12_doSlot 144 = .ok (.ifCond .eq 14, 3) := by decide +kernel
theorem dX12_doSlot_147 : decode cX12_doSlot 147 = .ok (.aload_n 0, 1) := by decide +kernel
theorem dX12_doSlot_148 : decode cX12_doSlot 148 = .ok (.iconst 2, 1) := by decide +kernel
theorem dX12_doSlot_149 : decode cX12_doSlot 149 = .ok (.iload_n 2, 1) := by decide +kernel
theorem dX12_doSlot_150 : decode cX12_doSlot 150 = .ok (.iload 6, 2) := by decide +kernel
theorem dX12_doSlot_152 : decode cX12_doSlot 152 = .ok (.invokevirtual 330, 3) := by decide +kernel
theorem dX12_doSlot_155 : decode cX12_doSlot 155 = .ok (.goto 47, 3) := by decide +kernel
theorem dX12_doSlot_158 : decode cX12_doSlot 158 = .ok (.iload_n 1, 1) := by decide +kernel
theorem dX12_doSlot_159 : decode cX12_doSlot 159 = .ok (.iconst 5, 1) := by decide +kernel
theorem dX12_doSlot_160 : decode cX12_doSlot 160 = .ok (.if_icmp .ne 24, 3) := by decide +kernel
theorem dX12_doSlot_163 : decode cX12_doSlot 163 = .ok (.aload_n 0, 1) := by decide +kernel
theorem dX12_doSlot_164 : decode cX12_doSlot 164 = .ok (.getfield 84, 3) := by decide +kernel
theorem dX12_doSlot_167 : decode cX12_doSlot 167 = .ok (.iload 5, 2) := by decide +kernel
theorem dX12_doSlot_169 : decode cX12_doSlot 169 = .ok (.iload 4, 2) := by decide +kernel
theorem dX12_doSlot_171 : decode cX12_doSlot 171 = .ok (.iadd, 1) := by decide +kernel
theorem dX12_doSlot_172 : decode cX12_doSlot 172 = .ok (.aload_n 0, 1) := by decide +kernel
theorem dX12_doSlot_173 : decode cX12_doSlot 173 = .ok (.iload 6, 2) := by decide +kernel
theorem dX12_doSlot_175 : decode cX12_doSlot 175 = .ok (.iconst 2, 1) := by decide +kernel
theorem dX12_doSlot_176 : decode cX12_doSlot 176 = .ok (.iload_n 3, 1) := by decide +kernel
theorem dX12_doSlot_177 : decode cX12_doSlot 177 = .ok (.invokevirtual 333, 3) := by decide +kernel
theorem dX12_doSlot_180 : decode cX12_doSlot 180 = .ok (.iastore, 1) := by decide +kernel
theorem dX12_doSlot_181 : decode cX12_doSlot 181 = .ok (.goto 21, 3) := by decide +kernel
theorem dX12_doSlot_184 : decode cX12_doSlot 184 = .ok (.aload_n 0, 1) := by decide +kernel
theorem dX12_doSlot_185 : decode cX12_doSlot 185 = .ok (.iload 6, 2) := by decide +kernel
theorem dX12_doSlot_187 : decode cX12_doSlot 187 = .ok (.iconst 0, 1) := by decide +kernel
theorem dX12_doSlot_188 : decode cX12_doSlot 188 = .ok (.invokevirtual 170, 3) := by decide +kernel
theorem dX12_doSlot_191 : decode cX12_doSlot 191 = .ok (.ifCond .eq 11, 3) := by decide +kernel
theorem dX12_doSlot_194 : decode cX12_doSlot 194 = .ok (.aload_n 0, 1) := by decide +kernel
theorem dX12_doSlot_195 : decode cX12_doSlot 195 = .ok (.iconst 5, 1) := by decide +kernel
theorem dX12_doSlot_196 : decode cX12_doSlot 196 = .ok (.iload_n 2, 1) := by decide +kernel
theorem dX12_doSlot_197 : decode cX12_doSlot 197 = .ok (.iload 6, 2) := by decide +kernel
theorem dX12_doSlot_199 : decode cX12_doSlot 199 = .ok (.invokevirtual 330, 3) := by decide +kernel
theorem dX12_doSlot_202 : decode cX12_doSlot 202 = .ok (.return_, 1) := by decide +kernel
theorem dX12_goOn_0 : decode cX12_goOn 0 = .ok (.aload_n 0, 1) := by decide +kernel
theorem dX12_goOn_1 : decode cX12_goOn 1 = .ok (.getfield 72, 3) := by decide +kernel
theorem dX12_goOn_4 : decode cX12_goOn 4 = .ok (.aload_n 0, 1) := by decide +kernel
theorem dX12_goOn_5 : decode cX12_goOn 5 = .ok (.getfield 220, 3) := by decide +kernel
theorem dX12_goOn_8 : decode cX12_goOn 8 = .ok (.iaload, 1) := by decide +kernel
theorem dX12_goOn_9 : decode cX12_goOn 9 = .ok (.istore_n 1, 1) := by decide +kernel
theorem dX12_goOn_10 : decode cX12_goOn 10 = .ok (.aload_n 0, 1) := by decide +kernel
theorem dX12_goOn_11 : decode cX12_goOn 11 = .ok (.getfield 78, 3) := by decide +kernel
theorem dX12_goOn_14 : decode cX12_goOn 14 = .ok (.aload_n 0, 1) := by decide +kernel
theorem dX12_goOn_15 : decode cX12_goOn 15 = .ok (.getfield 220, 3) := by decide +kernel
theorem dX12_goOn_18 : decode cX12_goOn 18 = .ok (.iaload, 1) := by decide +kernel
theorem dX12_goOn_19 : decode cX12_goOn 19 = .ok (.istore_n 2, 1) := by decide +kernel
theorem dX12_goOn_20 : decode cX12_goOn 20 = .ok (.iload_n 2, 1) := by decide +kernel
theorem dX12_goOn_21 : decode cX12_goOn 21 = .ok (.aload_n 0, 1) := by decide +kernel
theorem dX12_goOn_22 : decode cX12_goOn 22 = .ok (.getfield 47, 3) := by decide +kernel
theorem dX12_goOn_25 : decode cX12_goOn 25 = .ok (.iload_n 1, 1) := by decide +kernel
theorem dX12_goOn_26 : decode cX12_goOn 26 = .ok (.iaload, 1) := by decide +kernel
theorem dX12_goOn_27 : decode cX12_goOn 27 = .ok (.if_icmp .ne 9, 3) := by decide +kernel
theorem dX12_goOn_30 : decode cX12_goOn 30 = .ok (.aload_n 0, 1) := by decide +kernel
theorem dX12_goOn_31 : decode cX12_goOn 31 = .ok (.iconst 1, 1) := by decide +kernel
theorem dX12_goOn_32 : decode cX12_goOn 32 = .ok (.putfield 255, 3) := by decide +kernel
theorem dX12_goOn_35 : decode cX12_goOn 35 = .ok (.return_, 1) := by decide +kernel
theorem dX12_goOn_36 : decode cX12_goOn 36 = .ok (.aload_n 0, 1) := by decide +kernel
theorem dX12_goOn_37 : decode cX12_goOn 37 = .ok (.getfield 50, 3) := by decide +kernel
theorem dX12_goOn_40 : decode cX12_goOn 40 = .ok (.bipush 40, 2) := by decide +kernel
theorem dX12_goOn_42 : decode cX12_goOn 42 = .ok (.iload_n 1, 1) := by decide +kernel
theorem dX12_goOn_43 : decode cX12_goOn 43 = .ok (.imul, 1) := by decide +kernel
theorem dX12_goOn_44 : decode cX12_goOn 44 = .ok (.iload_n 2, 1) := by decide +kernel
theorem dX12_goOn_45 : decode cX12_goOn 45 = .ok (.iadd, 1) := by decide +kernel
theorem dX12_goOn_46 : decode cX12_goOn 46 = .ok (.iaload, 1) := by decide +kernel
theorem dX12_goOn_47 : decode cX12_goOn 47 = .ok (.istore_n 3, 1) := by decide +kernel
theorem dX12_goOn_48 : decode cX12_goOn 48 = .ok (.iload_n 3, 1) := by decide +kernel
theorem dX12_goOn_49 : decode cX12_goOn 49 = .ok (.bipush 16, 2) := by decide +kernel
theorem dX12_goOn_51 : decode cX12_goOn 51 = .ok (.if_icmp .ne 11, 3) := by decide +kernel
theorem dX12_goOn_54 : decode cX12_goOn 54 = .ok (.aload_n 0, 1) := by decide +kernel
theorem dX12_goOn_55 : decode cX12_goOn 55 = .ok (.iload_n 2, 1) := by decide +kernel
theorem dX12_goOn_56 : decode cX12_goOn 56 = .ok (.invokevirtual 350, 3) := by decide +kernel
theorem dX12_goOn_59 : decode cX12_goOn 59 = .ok (.goto 45, 3) := by decide +kernel
theorem dX12_goOn_62 : decode cX12_goOn 62 = .ok (.iload_n 3, 1) := by decide +kernel
theorem dX12_goOn_63 : decode cX12_goOn 63 = .ok (.bipush 14, 2) := by decide +kernel
theorem dX12_goOn_65 : decode cX12_goOn 65 = .ok (.if_icmp .eq 9, 3) := by decide +kernel
theorem dX12_goOn_68 : decode cX12_goOn 68 = .ok (.iload_n 3, 1) := by decide +kernel
theorem dX12_goOn_69 : decode cX12_goOn 69 = .ok (.bipush 15, 2) := by decide +kernel
theorem dX12_goOn_71 : decode cX12_goOn 71 = .ok (.if_icmp .ne 10, 3) := by decide +kernel
theorem dX12_goOn_74 : decode cX12_goOn 74 = .ok (.aload_n 0, 1) := by decide +kernel
theorem dX12_goOn_75 : decode cX12_goOn 75 = .ok (.invokevirtual 306, 3) := by decide +kernel
theorem dX12_goOn_78 : decode cX12_goOn 78 = .ok (.goto 26, 3) := by decide +kernel
theorem dX12_goOn_81 : decode cX12_goOn 81 = .ok (.aload_n 0, 1) := by decide +kernel
theorem dX12_goOn_82 : decode cX12_goOn 82 = .ok (.invokevirtual 293, 3) := by decide +kernel
theorem dX12_goOn_85 : decode cX12_goOn 85 = .ok (.ifCond .eq 19, 3) := by decide +kernel
theorem dX12_goOn_88 : decode cX12_goOn 88 = .ok (.aload_n 0, 1) := by decide +kernel
theorem dX12_goOn_89 : decode cX12_goOn 89 = .ok (.getfield 81, 3) := by decide +kernel
theorem dX12_goOn_92 : decode cX12_goOn 92 = .ok (.aload_n 0, 1) := by decide +kernel
theorem dX12_goOn_93 : decode cX12_goOn 93 = .ok (.getfield 220, 3) := by decide +kernel
theorem dX12_goOn_96 : decode cX12_goOn 96 = .ok (.iload_n 2, 1) := by decide +kernel
theorem dX12_goOn_97 : decode cX12_goOn 97 = .ok (.iastore, 1) := by decide +kernel
theorem dX12_goOn_98 : decode cX12_goOn 98 = .ok (.aload_n 0, 1) := by decide +kernel
theorem dX12_goOn_99 : decode cX12_goOn 99 = .ok (.iload_n 1, 1) := by decide +kernel
theorem dX12_goOn_100 : decode cX12_goOn 100 = .ok (.iload_n 2, 1) := by decide +kernel
theorem dX12_goOn_101 : decode cX12_goOn 101 = .ok (.invokevirtual 353, 3) := by decide +kernel
theorem dX12_goOn_104 : decode cX12_goOn 104 = .ok (.return_, 1) := by decide +kernel
theorem dX12_endBlock_0 : decode cX12_endBlock 0 = .ok (.aload_n 0, 1) := by decide +kernel
theorem dX12_endBlock_1 : decode cX12_endBlock 1 = .ok (.getfield 217, 3) := by decide +kernel
theorem dX12_endBlock_4 : decode cX12_endBlock 4 = .ok (.iconst 1, 1) := by decide +kernel
theorem dX12_endBlock_5 : decode cX12_endBlock 5 = .ok (.isub, 1) := by decide +kernel
theorem dX12_endBlock_6 : decode cX12_endBlock 6 = .ok (.istore_n 2, 1) := by decide +kernel
theorem dX12_endBlock_7 : decode cX12_endBlock 7 = .ok (.aload_n 0, 1) := by decide +kernel
theorem dX12_endBlock_8 : decode cX12_endBlock 8 = .ok (.iload_n 1, 1) := by decide +kernel
theorem dX12_endBlock_9 : decode cX12_endBlock 9 = .ok (.iconst 1, 1) := by decide +kernel
theorem dX12_endBlock_10 : decode cX12_endBlock 10 = .ok (.iadd, 1) := by decide +kernel
theorem dX12_endBlock_11 : decode cX12_endBlock 11 = .ok (.invokevirtual 230, 3) := by decide +kernel
theorem dX12_endBlock_14 : decode cX12_endBlock 14 = .ok (.aload_n 0, 1) := by decide +kernel
theorem dX12_endBlock_15 : decode cX12_endBlock 15 = .ok (.getfield 66, 3) := by decide +kernel
theorem dX12_endBlock_18 : decode cX12_endBlock 18 = .ok (.iload_n 2, 1) := by decide +kernel
theorem dX12_endBlock_19 : decode cX12_endBlock 19 = .ok (.iaload, 1) := by decide +kernel
theorem dX12_endBlock_20 : decode cX12_endBlock 20 = .ok (.bipush 12, 2) := by decide +kernel
theorem dX12_endBlock_22 : decode cX12_endBlock 22 = .ok (.if_icmp .ne 10, 3) := by decide +kernel
theorem dX12_endBlock_25 : decode cX12_endBlock 25 = .ok (.aload_n 0, 1) := by decide +kernel
theorem dX12_endBlock_26 : decode cX12_endBlock 26 = .ok (.invokevirtual 309, 3) := by decide +kernel
theorem dX12_endBlock_29 : decode cX12_endBlock 29 = .ok (.goto 129, 3) := by decide +kernel
theorem dX12_endBlock_32 : decode cX12_endBlock 32 = .ok (.aload_n 0, 1) := by decide +kernel
theorem dX12_endBlock_33 : decode cX12_endBlock 33 = .ok (.getfield 66, 3) := by decide +kernel
theorem dX12_endBlock_36 : decode cX12_endBlock 36 = .ok (.iload_n 2, 1) := by decide +kernel
theorem dX12_endBlock_37 : decode cX12_endBlock 37 = .ok (.iaload, 1) := by decide +kernel
theorem dX12_endBlock_38 : decode cX12_endBlock 38 = .ok (.bipush 11, 2) := by decide +kernel
theorem dX12_endBlock_40 : decode cX12_endBlock 40 = .ok (.if_icmp .ne 57, 3) := by decide +kernel
theorem dX12_endBlock_43 : decode cX12_endBlock 43 = .ok (.aload_n 0, 1) := by decide +kernel
theorem dX12_endBlock_44 : decode cX12_endBlock 44 = .ok (.getfield 72, 3) := by decide +kernel
theorem dX12_endBlock_47 : decode cX12_endBlock 47 = .ok (.iload_n 2, 1) := by decide +kernel
theorem dX12_endBlock_48 : decode cX12_endBlock 48 = .ok (.iaload, 1) := by decide +kernel
theorem dX12_endBlock_49 : decode cX12_endBlock 49 = .ok (.ifCond .le 35, 3) := by decide +kernel
theorem dX12_endBlock_52 : decode cX12_endBlock 52 = .ok (.aload_n 0, 1) := by decide +kernel
theorem dX12_endBlock_53 : decode cX12_endBlock 53 = .ok (.getfield 72, 3) := by decide +kernel
theorem dX12_endBlock_56 : decode cX12_endBlock 56 = .ok (.iload_n 2, 1) := by decide +kernel
theorem dX12_endBlock_57 : decode cX12_endBlock 57 = .ok (.dup2, 1) := by decide +kernel
theorem dX12_endBlock_58 : decode cX12_endBlock 58 = .ok (.iaload, 1) := by decide +kernel
theorem dX12_endBlock_59 : decode cX12_endBlock 59 = .ok (.iconst 1, 1) := by decide +kernel
theorem dX12_endBlock_60 : decode cX12_endBlock 60 = .ok (.isub, 1) := by decide +kernel
theorem dX12_endBlock_61 : decode cX12_endBlock 61 = .ok (.iastore, 1) := by decide +kernel
theorem dX12_endBlock_62 : decode cX12_endBlock 62 = .ok (.aload_n 0, 1) := by decide +kernel
theorem dX12_endBlock_63 : decode cX12_endBlock 63 = .ok (.invokevirtual 293, 3) := by decide +kernel
theorem dX12_endBlock_66 : decode cX12_endBlock 66 = .ok (.ifCond .eq 92, 3) := by decide +kernel
theorem dX12_endBlock_69 : decode cX12_endBlock 69 = .ok (.aload_n 0, 1) := by decide +kernel
theorem dX12_endBlock_70 : decode cX12_endBlock 70 = .ok (.aload_n 0, 1) := by decide +kernel
theorem dX12_endBlock_71 : decode cX12_endBlock 71 = .ok (.getfield 69, 3) := by decide +kernel
theorem dX12_endBlock_74 : decode cX12_endBlock 74 = .ok (.iload_n 2, 1) := by decide +kernel
theorem dX12_endBlock_75 : decode cX12_endBlock 75 = .ok (.iaload, 1) := by decide +kernel
theorem dX12_endBlock_76 : decode cX12_endBlock 76 = .ok (.iconst 1, 1) := by decide +kernel
theorem dX12_endBlock_77 : decode cX12_endBlock 77 = .ok (.iadd, 1) := by decide +kernel
theorem dX12_endBlock_78 : decode cX12_endBlock 78 = .ok (.invokevirtual 230, 3) := by decide +kernel
theorem dX12_endBlock_81 : decode cX12_endBlock 81 = .ok (.goto 77, 3) := by decide +kernel
theorem dX12_endBlock_84 : decode cX12_endBlock 84 = .ok (.aload_n 0, 1) := by decide +kernel
theorem dX12_endBlock_85 : decode cX12_endBlock 85 = .ok (.dup, 1) := by decide +kernel
theorem dX12_endBlock_86 : decode cX12_endBlock 86 = .ok (.getfield 217, 3) := by decide +kernel
theorem dX12_endBlock_89 : decode cX12_endBlock 89 = .ok (.iconst 1, 1) := by decide +kernel
theorem dX12_endBlock_90 : decode cX12_endBlock 90 = .ok (.isub, 1) := by decide +kernel
theorem dX12_endBlock_91 : decode cX12_endBlock 91 = .ok (.putfield 217, 3) := by decide +kernel
theorem dX12_endBlock_94 : decode cX12_endBlock 94 = .ok (.goto 64, 3) := by decide +kernel
theorem dX12_endBlock_97 : decode cX12_endBlock 97 = .ok (.aload_n 0, 1) := by decide +kernel
theorem dX12_endBlock_98 : decode cX12_endBlock 98 = .ok (.aload_n 0, 1) := by decide +kernel
theorem dX12_endBlock_99 : decode cX12_endBlock 99 = .ok (.getfield 72, 3) := by decide +kernel
theorem dX12_endBlock_102 : decode cX12_endBlock 102 = .ok (.iload_n 2, 1) := by decide +kernel
theorem dX12_endBlock_103 : decode cX12_endBlock 103 = .ok (.iaload, 1) := by decide +kernel
theorem dX12_endBlock_104 : decode cX12_endBlock 104 = .ok (.iconst 2, 1) := by decide +kernel
theorem dX12_endBlock_105 : decode cX12_endBlock 105 = .ok (.if_icmp .ne 12, 3) := by decide +kernel
theorem dX12_endBlock_108 : decode cX12_endBlock 108 = .ok (.aload_n 0, 1) := by decide +kernel
theorem dX12_endBlock_109 : decode cX12_endBlock 109 = .ok (.getfield 75, 3) := by decide +kernel
theorem dX12_endBlock_112 : decode cX12_endBlock 112 = .ok (.iload_n 2, 1) := by decide +kernel
theorem dX12_endBlock_113 : decode cX12_endBlock 113 = .ok (.iaload, 1) := by decide +kernel
theorem dX12_endBlock_114 : decode cX12_endBlock 114 = .ok (.goto 4, 3) := by decide +kernel
theorem dX12_endBlock_117 : decode cX12_endBlock 117 = .ok (.iconst 0, 1) := by decide +kernel
theorem dX12_endBlock_118 : decode cX12_endBlock 118 = .ok (.putfield 255, 3) := by decide +kernel
theorem dX12_endBlock_121 : decode cX12_endBlock 121 = .ok (.aload_n 0, 1) := by decide +kernel
theorem dX12_endBlock_122 : decode cX12_endBlock 122 = .ok (.aload_n 0, 1) := by decide +kernel
theorem dX12_endBlock_123 : decode cX12_endBlock 123 = .ok (.getfield 72, 3) := by decide +kernel
theorem dX12_endBlock_126 : decode cX12_endBlock 126 = .ok (.iload_n 2, 1) := by decide +kernel
theorem dX12_endBlock_127 : decode cX12_endBlock 127 = .ok (.iaload, 1) := by decide +kernel
theorem dX12_endBlock_128 : decode cX12_endBlock 128 = .ok (.iconst 2, 1) := by decide +kernel
theorem dX12_endBlock_129 : decode cX12_endBlock 129 = .ok (.if_icmp .ne 12, 3) := by decide +kernel
theorem dX12_endBlock_132 : decode cX12_endBlock 132 = .ok (.aload_n 0, 1) := by decide +kernel
theorem dX12_endBlock_133 : decode cX12_endBlock 133 = .ok (.getfield 81, 3) := by decide +kernel
theorem dX12_endBlock_136 : decode cX12_endBlock 136 = .ok (.iload_n 2, 1) := by decide +kernel
theorem dX12_endBlock_137 : decode cX12_endBlock 137 = .ok (.iaload, 1) := by decide +kernel
theorem dX12_endBlock_138 : decode cX12_endBlock 138 = .ok (.goto 7, 3) := by decide +kernel
theorem dX12_endBlock_141 : decode cX12_endBlock 141 = .ok (.aload_n 0, 1) := by decide +kernel
theorem dX12_endBlock_142 : decode cX12_endBlock 142 = .ok (.getfield 252, 3) := by decide +kernel
theorem dX12_endBlock_145 : decode cX12_endBlock 145 = .ok (.putfield 252, 3) := by decide +kernel
theorem dX12_endBlock_148 : decode cX12_endBlock 148 = .ok (.aload_n 0, 1) := by decide +kernel
theorem dX12_endBlock_149 : decode cX12_endBlock 149 = .ok (.dup, 1) := by decide +kernel
theorem dX12_endBlock_150 : decode cX12_endBlock 150 = .ok (.getfield 217, 3) := by decide +kernel
theorem dX12_endBlock_153 : decode cX12_endBlock 153 = .ok (.iconst 1, 1) := by decide +kernel
theorem dX12_endBlock_154 : decode cX12_endBlock 154 = .ok (.isub, 1) := by decide +kernel
theorem dX12_endBlock_155 : decode cX12_endBlock 155 = .ok (.putfield 217, 3) := by decide +kernel
theorem dX12_endBlock_158 : decode cX12_endBlock 158 = .ok (.return_, 1) := by decide +kernel
theorem dX12_run_0 : decode cX12_run 0 = .ok (.aload_n 0, 1) := by decide +kernel
theorem dX12_run_1 : decode cX12_run 1 = .ok (.iload_n 1, 1) := by decide +kernel
theorem dX12_run_2 : decode cX12_run 2 = .ok (.invokevirtual 180, 3) := by decide +kernel
theorem dX12_run_5 : decode cX12_run 5 = .ok (.ifCond .ne 15, 3) := by decide +kernel
theorem dX12_run_8 : decode cX12_run 8 = .ok (.iload_n 2, 1) := by decide +kernel
theorem dX12_run_9 : decode cX12_run 9 = .ok (.i2l, 1) := by decide +kernel
theorem dX12_run_10 : decode cX12_run 10 = .ok (.lconst 0, 1) := by decide +kernel
theorem dX12_run_11 : decode cX12_run 11 = .ok (.ldc2_w 183, 3) := by decide +kernel
theorem dX12_run_14 : decode cX12_run 14 = .ok (.invokestatic 147, 3) := by decide +kernel
theorem dX12_run_17 : decode cX12_run 17 = .ok (.ifCond .ne 6, 3) := by decide +kernel
theorem dX12_run_20 : decode cX12_run 20 = .ok (.bipush (-101), 2) := by decide +kernel
theorem dX12_run_22 : decode cX12_run 22 = .ok (.ireturn, 1) := by decide +kernel
theorem dX12_run_23 : decode cX12_run 23 = .ok (.aload_n 0, 1) := by decide +kernel
theorem dX12_run_24 : decode cX12_run 24 = .ok (.iload_n 1, 1) := by decide +kernel
theorem dX12_run_25 : decode cX12_run 25 = .ok (.invokevirtual 209, 3) := by decide +kernel
theorem dX12_run_28 : decode cX12_run 28 = .ok (.aload_n 0, 1) := by decide +kernel
theorem dX12_run_29 : decode cX12_run 29 = .ok (.getfield 196, 3) := by decide +kernel
theorem dX12_run_32 : decode cX12_run 32 = .ok (.ifCond .le 6, 3) := by decide +kernel
theorem dX12_run_35 : decode cX12_run 35 = .ok (.bipush (-103), 2) := by decide +kernel
theorem dX12_run_37 : decode cX12_run 37 = .ok (.ireturn, 1) := by decide +kernel
theorem dX12_run_38 : decode cX12_run 38 = .ok (.aload_n 0, 1) := by decide +kernel
theorem dX12_run_39 : decode cX12_run 39 = .ok (.iconst 0, 1) := by decide +kernel
theorem dX12_run_40 : decode cX12_run 40 = .ok (.putfield 217, 3) := by decide +kernel
theorem dX12_run_43 : decode cX12_run 43 = .ok (.aload_n 0, 1) := by decide +kernel
theorem dX12_run_44 : decode cX12_run 44 = .ok (.iconst 0, 1) := by decide +kernel
theorem dX12_run_45 : decode cX12_run 45 = .ok (.putfield 223, 3) := by decide +kernel
theorem dX12_run_48 : decode cX12_run 48 = .ok (.aload_n 0, 1) := by decide +kernel
theorem dX12_run_49 : decode cX12_run 49 = .ok (.iconst 0, 1) := by decide +kernel
theorem dX12_run_50 : decode cX12_run 50 = .ok (.putfield 258, 3) := by decide +kernel
theorem dX12_run_53 : decode cX12_run 53 = .ok (.aload_n 0, 1) := by decide +kernel
theorem dX12_run_54 : decode cX12_run 54 = .ok (.iconst 0, 1) := by decide +kernel
theorem dX12_run_55 : decode cX12_run 55 = .ok (.putfield 324, 3) := by decide +kernel
theorem dX12_run_58 : decode cX12_run 58 = .ok (.aload_n 0, 1) := by decide +kernel
theorem dX12_run_59 : decode cX12_run 59 = .ok (.iconst 0, 1) := by decide +kernel
theorem dX12_run_60 : decode cX12_run 60 = .ok (.putfield 236, 3) := by decide +kernel
theorem dX12_run_63 : decode cX12_run 63 = .ok (.aload_n 0, 1) := by decide +kernel
theorem dX12_run_64 : decode cX12_run 64 = .ok (.iconst 0, 1) := by decide +kernel
theorem dX12_run_65 : decode cX12_run 65 = .ok (.putfield 245, 3) := by decide +kernel
theorem dX12_run_68 : decode cX12_run 68 = .ok (.aload_n 0, 1) := by decide +kernel
theorem dX12_run_69 : decode cX12_run 69 = .ok (.iconst 0, 1) := by decide +kernel
theorem dX12_run_70 : decode cX12_run 70 = .ok (.putfield 255, 3) := by decide +kernel
theorem dX12_run_73 : decode cX12_run 73 = .ok (.aload_n 0, 1) := by decide +kernel
theorem dX12_run_74 : decode cX12_run 74 = .ok (.iconst (-1), 1) := by decide +kernel
theorem dX12_run_75 : decode cX12_run 75 = .ok (.putfield 252, 3) := by decide +kernel
theorem dX12_run_78 : decode cX12_run 78 = .ok (.aload_n 0, 1) := by decide +kernel
theorem dX12_run_79 : decode cX12_run 79 = .ok (.iconst 0, 1) := by decide +kernel
theorem dX12_run_80 : decode cX12_run 80 = .ok (.putfield 267, 3) := by decide +kernel
theorem dX12_run_83 : decode cX12_run 83 = .ok (.aload_n 0, 1) := by decide +kernel
theorem dX12_run_84 : decode cX12_run 84 = .ok (.iconst 0, 1) := by decide +kernel
theorem dX12_run_85 : decode cX12_run 85 = .ok (.putfield 239, 3) := by decide +kernel
theorem dX12_run_88 : decode cX12_run 88 = .ok (.aload_n 0, 1) := by decide +kernel
theorem dX12_run_89 : decode cX12_run 89 = .ok (.iconst 0, 1) := by decide +kernel
theorem dX12_run_90 : decode cX12_run 90 = .ok (.putfield 327, 3) := by decide +kernel
theorem dX12_run_93 : decode cX12_run 93 = .ok (.aload_n 0, 1) := by decide +kernel
theorem dX12_run_94 : decode cX12_run 94 = .ok (.iconst 0, 1) := by decide +kernel
theorem dX12_run_95 : decode cX12_run 95 = .ok (.putfield 281, 3) := by decide +kernel
theorem dX12_run_98 : decode cX12_run 98 = .ok (.aload_n 0, 1) := by decide +kernel
theorem dX12_run_99 : decode cX12_run 99 = .ok (.iconst 0, 1) := by decide +kernel
theorem dX12_run_100 : decode cX12_run 100 = .ok (.putfield 300, 3) := by decide +kernel
theorem dX12_run_103 : decode cX12_run 103 = .ok (.aload_n 0, 1) := by decide +kernel
theorem dX12_run_104 : decode cX12_run 104 = .ok (.iconst (-1), 1) := by decide +kernel
theorem dX12_run_105 : decode cX12_run 105 = .ok (.putfield 129, 3) := by decide +kernel
theorem dX12_run_108 : decode cX12_run 108 = .ok (.aload_n 0, 1) := by decide +kernel
theorem dX12_run_109 : decode cX12_run 109 = .ok (.iconst 0, 1) := by decide +kernel
theorem dX12_run_110 : decode cX12_run 110 = .ok (.putfield 270, 3) := by decide +kernel
theorem dX12_run_113 : decode cX12_run 113 = .ok (.aload_n 0, 1) := by decide +kernel
theorem dX12_run_114 : decode cX12_run 114 = .ok (.iload_n 2, 1) := by decide +kernel
theorem dX12_run_115 : decode cX12_run 115 = .ok (.putfield 261, 3) := by decide +kernel
theorem dX12_run_118 : decode cX12_run 118 = .ok (.aload_n 0, 1) := by decide +kernel
theorem dX12_run_119 : decode cX12_run 119 = .ok (.iload_n 1, 1) := by decide +kernel
theorem dX12_run_120 : decode cX12_run 120 = .ok (.iconst (-1), 1) := by decide +kernel
theorem dX12_run_121 : decode cX12_run 121 = .ok (.invokevirtual 343, 3) := by decide +kernel
theorem dX12_run_124 : decode cX12_run 124 = .ok (.aload_n 0, 1) := by decide +kernel
theorem dX12_run_125 : decode cX12_run 125 = .ok (.iconst 0, 1) := by decide +kernel
theorem dX12_run_126 : decode cX12_run 126 = .ok (.invokevirtual 230, 3) := by decide +kernel
theorem dX12_run_129 : decode cX12_run 129 = .ok (.aload_n 0, 1) := by decide +kernel
theorem dX12_run_130 : decode cX12_run 130 = .ok (.getfield 270, 3) := by decide +kernel
theorem dX12_run_133 : decode cX12_run 133 = .ok (.ifCond .ne 24, 3) := by decide +kernel
theorem dX12_run_136 : decode cX12_run 136 = .ok (.aload_n 0, 1) := by decide +kernel
theorem dX12_run_137 : decode cX12_run 137 = .ok (.getfield 255, 3) := by decide +kernel
theorem dX12_run_140 : decode cX12_run 140 = .ok (.ifCond .ne 10, 3) := by decide +kernel
theorem dX12_run_143 : decode cX12_run 143 = .ok (.aload_n 0, 1) := by decide +kernel
theorem dX12_run_144 : decode cX12_run 144 = .ok (.invokevirtual 356, 3) := by decide +kernel
theorem dX12_run_147 : decode cX12_run 147 = .ok (.goto (-18), 3) := by decide +kernel
theorem dX12_run_150 : decode cX12_run 150 = .ok (.aload_n 0, 1) := by decide +kernel
theorem dX12_run_151 : decode cX12_run 151 = .ok (.invokevirtual 359, 3) := by decide +kernel
theorem dX12_run_154 : decode cX12_run 154 = .ok (.goto (-25), 3) := by decide +kernel
theorem dX12_run_157 : decode cX12_run 157 = .ok (.iconst 0, 1) := by decide +kernel
theorem dX12_run_158 : decode cX12_run 158 = .ok (.istore_n 3, 1) := by decide +kernel
theorem dX12_run_159 : decode cX12_run 159 = .ok (.iload_n 3, 1) := by decide +kernel
theorem dX12_run_160 : decode cX12_run 160 = .ok (.aload_n 0, 1) := by decide +kernel
theorem dX12_run_161 : decode cX12_run 161 = .ok (.getfield 258, 3) := by decide +kernel
theorem dX12_run_164 : decode cX12_run 164 = .ok (.if_icmp .ge 121, 3) := by decide +kernel
theorem dX12_run_167 : decode cX12_run 167 = .ok (.aload_n 0, 1) := by decide +kernel
theorem dX12_run_168 : decode cX12_run 168 = .ok (.getfield 102, 3) := by decide +kernel
theorem dX12_run_171 : decode cX12_run 171 = .ok (.iload_n 3, 1) := by decide +kernel
theorem dX12_run_172 : decode cX12_run 172 = .ok (.baload, 1) := by decide +kernel
theorem dX12_run_173 : decode cX12_run 173 = .ok (.ifCond .eq 106, 3) := by decide +kernel
theorem dX12_run_176 : decode cX12_run 176 = .ok (.aload_n 0, 1) := by decide +kernel
theorem dX12_run_177 : decode cX12_run 177 = .ok (.getfield 90, 3) := by decide +kernel
theorem dX12_run_180 : decode cX12_run 180 = .ok (.iload_n 3, 1) := by decide +kernel
theorem dX12_run_181 : decode cX12_run 181 = .ok (.iaload, 1) := by decide +kernel
theorem dX12_run_182 : decode cX12_run 182 = .ok (.iconst 1, 1) := by decide +kernel
theorem dX12_run_183 : decode cX12_run 183 = .ok (.if_icmp .ne 96, 3) := by decide +kernel
theorem dX12_run_186 : decode cX12_run 186 = .ok (.aload_n 0, 1) := by decide +kernel
theorem dX12_run_187 : decode cX12_run 187 = .ok (.getfield 133, 3) := by decide +kernel
theorem dX12_run_190 : decode cX12_run 190 = .ok (.aload_n 0, 1) := by decide +kernel
theorem dX12_run_191 : decode cX12_run 191 = .ok (.getfield 362, 3) := by decide +kernel
theorem dX12_run_194 : decode cX12_run 194 = .ok (.aload_n 0, 1) := by decide +kernel
theorem dX12_run_195 : decode cX12_run 195 = .ok (.getfield 87, 3) := by decide +kernel
theorem dX12_run_198 : decode cX12_run 198 = .ok (.iload_n 3, 1) := by decide +kernel
theorem dX12_run_199 : decode cX12_run 199 = .ok (.iaload, 1) := by decide +kernel
theorem dX12_run_200 : decode cX12_run 200 = .ok (.iastore, 1) := by decide +kernel
theorem dX12_run_201 : decode cX12_run 201 = .ok (.aload_n 0, 1) := by decide +kernel
theorem dX12_run_202 : decode cX12_run 202 = .ok (.getfield 136, 3) := by decide +kernel
theorem dX12_run_205 : decode cX12_run 205 = .ok (.aload_n 0, 1) := by decide +kernel
theorem dX12_run_206 : decode cX12_run 206 = .ok (.getfield 362, 3) := by decide +kernel
theorem dX12_run_209 : decode cX12_run 209 = .ok (.iload_n 2, 1) := by decide +kernel
theorem dX12_run_210 : decode cX12_run 210 = .ok (.iastore, 1) := by decide +kernel
theorem dX12_run_211 : decode cX12_run 211 = .ok (.aload_n 0, 1) := by decide +kernel
theorem dX12_run_212 : decode cX12_run 212 = .ok (.getfield 139, 3) := by decide +kernel
theorem dX12_run_215 : decode cX12_run 215 = .ok (.aload_n 0, 1) := by decide +kernel
theorem dX12_run_216 : decode cX12_run 216 = .ok (.getfield 362, 3) := by decide +kernel
theorem dX12_run_219 : decode cX12_run 219 = .ok (.aload_n 0, 1) := by decide +kernel
theorem dX12_run_220 : decode cX12_run 220 = .ok (.getfield 105, 3) := by decide +kernel
theorem dX12_run_223 : decode cX12_run 223 = .ok (.iload_n 3, 1) := by decide +kernel
theorem dX12_run_224 : decode cX12_run 224 = .ok (.iaload, 1) := by decide +kernel
theorem dX12_run_225 : decode cX12_run 225 = .ok (.iastore, 1) := by decide +kernel
theorem dX12_run_226 : decode cX12_run 226 = .ok (.iconst 0, 1) := by decide +kernel
theorem dX12_run_227 : decode cX12_run 227 = .ok (.istore 4, 2) := by decide +kernel
theorem dX12_run_229 : decode cX12_run 229 = .ok (.iload 4, 2) := by decide +kernel
theorem dX12_run_231 : decode cX12_run 231 = .ok (.bipush 20, 2) := by decide +kernel
theorem dX12_run_233 : decode cX12_run 233 = .ok (.if_icmp .ge 36, 3) := by decide +kernel
theorem dX12_run_236 : decode cX12_run 236 = .ok (.aload_n 0, 1) := by decide +kernel
theorem dX12_run_237 : decode cX12_run 237 = .ok (.getfield 142, 3) := by decide +kernel
theorem dX12_run_240 : decode cX12_run 240 = .ok (.bipush 20, 2) := by decide +kernel
theorem dX12_run_242 : decode cX12_run 242 = .ok (.aload_n 0, 1) := by decide +kernel
theorem dX12_run_243 : decode cX12_run 243 = .ok (.getfield 362, 3) := by decide +kernel
theorem dX12_run_246 : decode cX12_run 246 = .ok (.imul, 1) := by decide +kernel
theorem dX12_run_247 : decode cX12_run 247 = .ok (.iload 4, 2) := by decide +kernel
theorem dX12_run_249 : decode cX12_run 249 = .ok (.iadd, 1) := by decide +kernel
theorem dX12_run_250 : decode cX12_run 250 = .ok (.aload_n 0, 1) := by decide +kernel
theorem dX12_run_251 : decode cX12_run 251 = .ok (.getfield 108, 3) := by decide +kernel
theorem dX12_run_254 : decode cX12_run 254 = .ok (.bipush 20, 2) := by decide +kernel
theorem dX12_run_256 : decode cX12_run 256 = .ok (.iload_n 3, 1) := by decide +kernel
theorem dX12_run_257 : decode cX12_run 257 = .ok (.imul, 1) := by decide +kernel
theorem dX12_run_258 : decode cX12_run 258 = .ok (.iload 4, 2) := by decide +kernel
theorem dX12_run_260 : decode cX12_run 260 = .ok (.iadd, 1) := by decide +kernel
theorem dX12_run_261 : decode cX12_run 261 = .ok (.iaload, 1) := by decide +kernel
theorem dX12_run_262 : decode cX12_run 262 = .ok (.iastore, 1) := by decide +kernel
theorem dX12_run_263 : decode cX12_run 263 = .ok (.iinc 4 1, 3) := by decide +kernel
theorem dX12_run_266 : decode cX12_run 266 = .ok (.goto (-37), 3) := by decide +kernel
theorem dX12_run_269 : decode cX12_run 269 = .ok (.aload_n 0, 1) := by decide +kernel
theorem dX12_run_270 : decode cX12_run 270 = .ok (.dup, 1) := by decide +kernel
theorem dX12_run_271 : decode cX12_run 271 = .ok (.getfield 362, 3) := by decide +kernel
theorem dX12_run_274 : decode cX12_run 274 = .ok (.iconst 1, 1) := by decide +kernel
theorem dX12_run_275 : decode cX12_run 275 = .ok (.iadd, 1) := by decide +kernel
theorem dX12_run_276 : decode cX12_run 276 = .ok (.putfield 362, 3) := by decide +kernel
theorem dX12_run_279 : decode cX12_run 279 = .ok (.iinc 3 1, 3) := by decide +kernel
theorem dX12_run_282 : decode cX12_run 282 = .ok (.goto (-123), 3) := by decide +kernel
theorem dX12_run_285 : decode cX12_run 285 = .ok (.aload_n 0, 1) := by decide +kernel
theorem dX12_run_286 : decode cX12_run 286 = .ok (.getfield 267, 3) := by decide +kernel
theorem dX12_run_289 : decode cX12_run 289 = .ok (.ireturn, 1) := by decide +kernel
theorem dX12_ran_0 : decode cX12_ran 0 = .ok (.iload_n 1, 1) := by decide +kernel
theorem dX12_ran_1 : decode cX12_ran 1 = .ok (.tableswitch 78 0 6 #[43, 48, 53, 58, 63, 68, 73], 43) := by decide +kernel
theorem dX12_ran_44 : decode cX12_ran 44 = .ok (.aload_n 0, 1) := by decide +kernel
theorem dX12_ran_45 : decode cX12_ran 45 = .ok (.getfield 267, 3) := by decide +kernel
theorem dX12_ran_48 : decode cX12_ran 48 = .ok (.ireturn, 1) := by decide +kernel
theorem dX12_ran_49 : decode cX12_ran 49 = .ok (.aload_n 0, 1) := by decide +kernel
theorem dX12_ran_50 : decode cX12_ran 50 = .ok (.getfield 239, 3) := by decide +kernel
theorem dX12_ran_53 : decode cX12_ran 53 = .ok (.ireturn, 1) := by decide +kernel
theorem dX12_ran_54 : decode cX12_ran 54 = .ok (.aload_n 0, 1) := by decide +kernel
theorem dX12_ran_55 : decode cX12_ran 55 = .ok (.getfield 245, 3) := by decide +kernel
theorem dX12_ran_58 : decode cX12_ran 58 = .ok (.ireturn, 1) := by decide +kernel
theorem dX12_ran_59 : decode cX12_ran 59 = .ok (.aload_n 0, 1) := by decide +kernel
theorem dX12_ran_60 : decode cX12_ran 60 = .ok (.getfield 327, 3) := by decide +kernel
theorem dX12_ran_63 : decode cX12_ran 63 = .ok (.ireturn, 1) := by decide +kernel
theorem dX12_ran_64 : decode cX12_ran 64 = .ok (.aload_n 0, 1) := by decide +kernel
theorem dX12_ran_65 : decode cX12_ran 65 = .ok (.getfield 236, 3) := by decide +kernel
theorem dX12_ran_68 : decode cX12_ran 68 = .ok (.ireturn, 1) := by decide +kernel
theorem dX12_ran_69 : decode cX12_ran 69 = .ok (.aload_n 0, 1) := by decide +kernel
theorem dX12_ran_70 : decode cX12_ran 70 = .ok (.getfield 300, 3) := by decide +kernel
theorem dX12_ran_73 : decode cX12_ran 73 = .ok (.ireturn, 1) := by decide +kernel
theorem dX12_ran_74 : decode cX12_ran 74 = .ok (.aload_n 0, 1) := by decide +kernel
theorem dX12_ran_75 : decode cX12_ran 75 = .ok (.getfield 129, 3) := by decide +kernel
theorem dX12_ran_78 : decode cX12_ran 78 = .ok (.ireturn, 1) := by decide +kernel
theorem dX12_ran_79 : decode cX12_ran 79 = .ok (.bipush (-102), 2) := by decide +kernel
theorem dX12_ran_81 : decode cX12_ran 81 = .ok (.ireturn, 1) := by decide +kernel
theorem dX12_failure_0 : decode cX12_failure 0 = .ok (.iload_n 1, 1) := by decide +kernel
theorem dX12_failure_1 : decode cX12_failure 1 = .ok (.i2l, 1) := by decide +kernel
theorem dX12_failure_2 : decode cX12_failure 2 = .ok (.lconst 0, 1) := by decide +kernel
theorem dX12_failure_3 : decode cX12_failure 3 = .ok (.aload_n 0, 1) := by decide +kernel
theorem dX12_failure_4 : decode cX12_failure 4 = .ok (.getfield 245, 3) := by decide +kernel
theorem dX12_failure_7 : decode cX12_failure 7 = .ok (.iconst 1, 1) := by decide +kernel
theorem dX12_failure_8 : decode cX12_failure 8 = .ok (.isub, 1) := by decide +kernel
theorem dX12_failure_9 : decode cX12_failure 9 = .ok (.i2l, 1) := by decide +kernel
theorem dX12_failure_10 : decode cX12_failure 10 = .ok (.invokestatic 147, 3) := by decide +kernel
theorem dX12_failure_13 : decode cX12_failure 13 = .ok (.ifCond .ne 6, 3) := by decide +kernel
theorem dX12_failure_16 : decode cX12_failure 16 = .ok (.bipush (-101), 2) := by decide +kernel
theorem dX12_failure_18 : decode cX12_failure 18 = .ok (.ireturn, 1) := by decide +kernel
theorem dX12_failure_19 : decode cX12_failure 19 = .ok (.iload_n 2, 1) := by decide +kernel
theorem dX12_failure_20 : decode cX12_failure 20 = .ok (.tableswitch 82 0 5 #[40, 47, 54, 61, 68, 75], 40) := by decide +kernel
theorem dX12_failure_60 : decode cX12_failure 60 = .ok (.aload_n 0, 1) := by decide +kernel
theorem dX12_failure_61 : decode cX12_failure 61 = .ok (.getfield 111, 3) := by decide +kernel
theorem dX12_failure_64 : decode cX12_failure 64 = .ok (.iload_n 1, 1) := by decide +kernel
theorem dX12_failure_65 : decode cX12_failure 65 = .ok (.iaload, 1) := by decide +kernel
theorem dX12_failure_66 : decode cX12_failure 66 = .ok (.ireturn, 1) := by decide +kernel
theorem dX12_failure_67 : decode cX12_failure 67 = .ok (.aload_n 0, 1) := by decide +kernel
theorem dX12_failure_68 : decode cX12_failure 68 = .ok (.getfield 114, 3) := by decide +kernel
theorem dX12_failure_71 : decode cX12_failure 71 = .ok (.iload_n 1, 1) := by decide +kernel
theorem dX12_failure_72 : decode cX12_failure 72 = .ok (.iaload, 1) := by decide +kernel
theorem dX12_failure_73 : decode cX12_failure 73 = .ok (.ireturn, 1) := by decide +kernel
theorem dX12_failure_74 : decode cX12_failure 74 = .ok (.aload_n 0, 1) := by decide +kernel
theorem dX12_failure_75 : decode cX12_failure 75 = .ok (.getfield 117, 3) := by decide +kernel
theorem dX12_failure_78 : decode cX12_failure 78 = .ok (.iload_n 1, 1) := by decide +kernel
theorem dX12_failure_79 : decode cX12_failure 79 = .ok (.iaload, 1) := by decide +kernel
theorem dX12_failure_80 : decode cX12_failure 80 = .ok (.ireturn, 1) := by decide +kernel
theorem dX12_failure_81 : decode cX12_failure 81 = .ok (.aload_n 0, 1) := by decide +kernel
theorem dX12_failure_82 : decode cX12_failure 82 = .ok (.getfield 120, 3) := by decide +kernel
theorem dX12_failure_85 : decode cX12_failure 85 = .ok (.iload_n 1, 1) := by decide +kernel
theorem dX12_failure_86 : decode cX12_failure 86 = .ok (.iaload, 1) := by decide +kernel
theorem dX12_failure_87 : decode cX12_failure 87 = .ok (.ireturn, 1) := by decide +kernel
theorem dX12_failure_88 : decode cX12_failure 88 = .ok (.aload_n 0, 1) := by decide +kernel
theorem dX12_failure_89 : decode cX12_failure 89 = .ok (.getfield 123, 3) := by decide +kernel
theorem dX12_failure_92 : decode cX12_failure 92 = .ok (.iload_n 1, 1) := by decide +kernel
theorem dX12_failure_93 : decode cX12_failure 93 = .ok (.iaload, 1) := by decide +kernel
theorem dX12_failure_94 : decode cX12_failure 94 = .ok (.ireturn, 1) := by decide +kernel
theorem dX12_failure_95 : decode cX12_failure 95 = .ok (.aload_n 0, 1) := by decide +kernel
theorem dX12_failure_96 : decode cX12_failure 96 = .ok (.getfield 126, 3) := by decide +kernel
theorem dX12_failure_99 : decode cX12_failure 99 = .ok (.iload_n 1, 1) := by decide +kernel
theorem dX12_failure_100 : decode cX12_failure 100 = .ok (.iaload, 1) := by decide +kernel
theorem dX12_failure_101 : decode cX12_failure 101 = .ok (.ireturn, 1) := by decide +kernel
theorem dX12_failure_102 : decode cX12_failure 102 = .ok (.bipush (-102), 2) := by decide +kernel
theorem dX12_failure_104 : decode cX12_failure 104 = .ok (.ireturn, 1) := by decide +kernel
theorem dX12_leaks_0 : decode cX12_leaks 0 = .ok (.aload_n 0, 1) := by decide +kernel
theorem dX12_leaks_1 : decode cX12_leaks 1 = .ok (.getfield 362, 3) := by decide +kernel
theorem dX12_leaks_4 : decode cX12_leaks 4 = .ok (.ireturn, 1) := by decide +kernel
theorem dX12_leak_0 : decode cX12_leak 0 = .ok (.iload_n 1, 1) := by decide +kernel
theorem dX12_leak_1 : decode cX12_leak 1 = .ok (.i2l, 1) := by decide +kernel
theorem dX12_leak_2 : decode cX12_leak 2 = .ok (.lconst 0, 1) := by decide +kernel
theorem dX12_leak_3 : decode cX12_leak 3 = .ok (.aload_n 0, 1) := by decide +kernel
theorem dX12_leak_4 : decode cX12_leak 4 = .ok (.getfield 362, 3) := by decide +kernel
theorem dX12_leak_7 : decode cX12_leak 7 = .ok (.iconst 1, 1) := by decide +kernel
theorem dX12_leak_8 : decode cX12_leak 8 = .ok (.isub, 1) := by decide +kernel
theorem dX12_leak_9 : decode cX12_leak 9 = .ok (.i2l, 1) := by decide +kernel
theorem dX12_leak_10 : decode cX12_leak 10 = .ok (.invokestatic 147, 3) := by decide +kernel
theorem dX12_leak_13 : decode cX12_leak 13 = .ok (.ifCond .ne 6, 3) := by decide +kernel
theorem dX12_leak_16 : decode cX12_leak 16 = .ok (.bipush (-101), 2) := by decide +kernel
theorem dX12_leak_18 : decode cX12_leak 18 = .ok (.ireturn, 1) := by decide +kernel
theorem dX12_leak_19 : decode cX12_leak 19 = .ok (.iload_n 2, 1) := by decide +kernel
theorem dX12_leak_20 : decode cX12_leak 20 = .ok (.ifCond .ne 12, 3) := by decide +kernel
theorem dX12_leak_23 : decode cX12_leak 23 = .ok (.aload_n 0, 1) := by decide +kernel
theorem dX12_leak_24 : decode cX12_leak 24 = .ok (.getfield 133, 3) := by decide +kernel
theorem dX12_leak_27 : decode cX12_leak 27 = .ok (.iload_n 1, 1) := by decide +kernel
theorem dX12_leak_28 : decode cX12_leak 28 = .ok (.iaload, 1) := by decide +kernel
theorem dX12_leak_29 : decode cX12_leak 29 = .ok (.goto 33, 3) := by decide +kernel
theorem dX12_leak_32 : decode cX12_leak 32 = .ok (.iload_n 2, 1) := by decide +kernel
theorem dX12_leak_33 : decode cX12_leak 33 = .ok (.iconst 1, 1) := by decide +kernel
theorem dX12_leak_34 : decode cX12_leak 34 = .ok (.if_icmp .ne 12, 3) := by decide +kernel
theorem dX12_leak_37 : decode cX12_leak 37 = .ok (.aload_n 0, 1) := by decide +kernel
theorem dX12_leak_38 : decode cX12_leak 38 = .ok (.getfield 136, 3) := by decide +kernel
theorem dX12_leak_41 : decode cX12_leak 41 = .ok (.iload_n 1, 1) := by decide +kernel
theorem dX12_leak_42 : decode cX12_leak 42 = .ok (.iaload, 1) := by decide +kernel
theorem dX12_leak_43 : decode cX12_leak 43 = .ok (.goto 19, 3) := by decide +kernel
theorem dX12_leak_46 : decode cX12_leak 46 = .ok (.iload_n 2, 1) := by decide +kernel
theorem dX12_leak_47 : decode cX12_leak 47 = .ok (.iconst 2, 1) := by decide +kernel
theorem dX12_leak_48 : decode cX12_leak 48 = .ok (.if_icmp .ne 12, 3) := by decide +kernel
theorem dX12_leak_51 : decode cX12_leak 51 = .ok (.aload_n 0, 1) := by decide +kernel
theorem dX12_leak_52 : decode cX12_leak 52 = .ok (.getfield 139, 3) := by decide +kernel
theorem dX12_leak_55 : decode cX12_leak 55 = .ok (.iload_n 1, 1) := by decide +kernel
theorem dX12_leak_56 : decode cX12_leak 56 = .ok (.iaload, 1) := by decide +kernel
theorem dX12_leak_57 : decode cX12_leak 57 = .ok (.goto 5, 3) := by decide +kernel
theorem dX12_leak_60 : decode cX12_leak 60 = .ok (.bipush (-102), 2) := by decide +kernel
theorem dX12_leak_62 : decode cX12_leak 62 = .ok (.ireturn, 1) := by decide +kernel
theorem dX12_trace__0 : decode cX12_trace_ 0 = .ok (.iload_n 1, 1) := by decide +kernel
theorem dX12_trace__1 : decode cX12_trace_ 1 = .ok (.i2l, 1) := by decide +kernel
theorem dX12_trace__2 : decode cX12_trace_ 2 = .ok (.lconst 0, 1) := by decide +kernel
theorem dX12_trace__3 : decode cX12_trace_ 3 = .ok (.aload_n 0, 1) := by decide +kernel
theorem dX12_trace__4 : decode cX12_trace_ 4 = .ok (.getfield 362, 3) := by decide +kernel
theorem dX12_trace__7 : decode cX12_trace_ 7 = .ok (.iconst 1, 1) := by decide +kernel
theorem dX12_trace__8 : decode cX12_trace_ 8 = .ok (.isub, 1) := by decide +kernel
theorem dX12_trace__9 : decode cX12_trace_ 9 = .ok (.i2l, 1) := by decide +kernel
theorem dX12_trace__10 : decode cX12_trace_ 10 = .ok (.invokestatic 147, 3) := by decide +kernel
theorem dX12_trace__13 : decode cX12_trace_ 13 = .ok (.ifCond .eq 21, 3) := by decide +kernel
theorem dX12_trace__16 : decode cX12_trace_ 16 = .ok (.iload_n 2, 1) := by decide +kernel
theorem dX12_trace__17 : decode cX12_trace_ 17 = .ok (.i2l, 1) := by decide +kernel
theorem dX12_trace__18 : decode cX12_trace_ 18 = .ok (.lconst 0, 1) := by decide +kernel
theorem dX12_trace__19 : decode cX12_trace_ 19 = .ok (.aload_n 0, 1) := by decide +kernel
theorem dX12_trace__20 : decode cX12_trace_ 20 = .ok (.getfield 139, 3) := by decide +kernel
theorem dX12_trace__23 : decode cX12_trace_ 23 = .ok (.iload_n 1, 1) := by decide +kernel
theorem dX12_trace__24 : decode cX12_trace_ 24 = .ok (.iaload, 1) := by decide +kernel
theorem dX12_trace__25 : decode cX12_trace_ 25 = .ok (.iconst 1, 1) := by decide +kernel
theorem dX12_trace__26 : decode cX12_trace_ 26 = .ok (.isub, 1) := by decide +kernel
theorem dX12_trace__27 : decode cX12_trace_ 27 = .ok (.i2l, 1) := by decide +kernel
theorem dX12_trace__28 : decode cX12_trace_ 28 = .ok (.invokestatic 147, 3) := by decide +kernel
theorem dX12_trace__31 : decode cX12_trace_ 31 = .ok (.ifCond .ne 6, 3) := by decide +kernel
theorem dX12_trace__34 : decode cX12_trace_ 34 = .ok (.bipush (-101), 2) := by decide +kernel
theorem dX12_trace__36 : decode cX12_trace_ 36 = .ok (.ireturn, 1) := by decide +kernel
theorem dX12_trace__37 : decode cX12_trace_ 37 = .ok (.iload_n 3, 1) := by decide +kernel
theorem dX12_trace__38 : decode cX12_trace_ 38 = .ok (.i2l, 1) := by decide +kernel
theorem dX12_trace__39 : decode cX12_trace_ 39 = .ok (.lconst 0, 1) := by decide +kernel
theorem dX12_trace__40 : decode cX12_trace_ 40 = .ok (.lconst 1, 1) := by decide +kernel
theorem dX12_trace__41 : decode cX12_trace_ 41 = .ok (.invokestatic 147, 3) := by decide +kernel
theorem dX12_trace__44 : decode cX12_trace_ 44 = .ok (.ifCond .eq 21, 3) := by decide +kernel
theorem dX12_trace__47 : decode cX12_trace_ 47 = .ok (.aload_n 0, 1) := by decide +kernel
theorem dX12_trace__48 : decode cX12_trace_ 48 = .ok (.getfield 142, 3) := by decide +kernel
theorem dX12_trace__51 : decode cX12_trace_ 51 = .ok (.bipush 20, 2) := by decide +kernel
theorem dX12_trace__53 : decode cX12_trace_ 53 = .ok (.iload_n 1, 1) := by decide +kernel
theorem dX12_trace__54 : decode cX12_trace_ 54 = .ok (.imul, 1) := by decide +kernel
theorem dX12_trace__55 : decode cX12_trace_ 55 = .ok (.iconst 2, 1) := by decide +kernel
theorem dX12_trace__56 : decode cX12_trace_ 56 = .ok (.iload_n 2, 1) := by decide +kernel
theorem dX12_trace__57 : decode cX12_trace_ 57 = .ok (.imul, 1) := by decide +kernel
theorem dX12_trace__58 : decode cX12_trace_ 58 = .ok (.iadd, 1) := by decide +kernel
theorem dX12_trace__59 : decode cX12_trace_ 59 = .ok (.iload_n 3, 1) := by decide +kernel
theorem dX12_trace__60 : decode cX12_trace_ 60 = .ok (.iadd, 1) := by decide +kernel
theorem dX12_trace__61 : decode cX12_trace_ 61 = .ok (.iaload, 1) := by decide +kernel
theorem dX12_trace__62 : decode cX12_trace_ 62 = .ok (.goto 5, 3) := by decide +kernel
theorem dX12_trace__65 : decode cX12_trace_ 65 = .ok (.bipush (-102), 2) := by decide +kernel
theorem dX12_trace__67 : decode cX12_trace_ 67 = .ok (.ireturn, 1) := by decide +kernel
theorem dX12_giveBack__0 : decode cX12_giveBack_ 0 = .ok (.iload_n 1, 1) := by decide +kernel
theorem dX12_giveBack__1 : decode cX12_giveBack_ 1 = .ok (.i2l, 1) := by decide +kernel
theorem dX12_giveBack__2 : decode cX12_giveBack_ 2 = .ok (.lconst 0, 1) := by decide +kernel
theorem dX12_giveBack__3 : decode cX12_giveBack_ 3 = .ok (.aload_n 0, 1) := by decide +kernel
theorem dX12_giveBack__4 : decode cX12_giveBack_ 4 = .ok (.getfield 362, 3) := by decide +kernel
theorem dX12_giveBack__7 : decode cX12_giveBack_ 7 = .ok (.iconst 1, 1) := by decide +kernel
theorem dX12_giveBack__8 : decode cX12_giveBack_ 8 = .ok (.isub, 1) := by decide +kernel
theorem dX12_giveBack__9 : decode cX12_giveBack_ 9 = .ok (.i2l, 1) := by decide +kernel
theorem dX12_giveBack__10 : decode cX12_giveBack_ 10 = .ok (.invokestatic 147, 3) := by decide +kernel
theorem dX12_giveBack__13 : decode cX12_giveBack_ 13 = .ok (.ifCond .ne 6, 3) := by decide +kernel
theorem dX12_giveBack__16 : decode cX12_giveBack_ 16 = .ok (.bipush (-101), 2) := by decide +kernel
theorem dX12_giveBack__18 : decode cX12_giveBack_ 18 = .ok (.ireturn, 1) := by decide +kernel
theorem dX12_giveBack__19 : decode cX12_giveBack_ 19 = .ok (.aload_n 0, 1) := by decide +kernel
theorem dX12_giveBack__20 : decode cX12_giveBack_ 20 = .ok (.aload_n 0, 1) := by decide +kernel
theorem dX12_giveBack__21 : decode cX12_giveBack_ 21 = .ok (.getfield 133, 3) := by decide +kernel
theorem dX12_giveBack__24 : decode cX12_giveBack_ 24 = .ok (.iload_n 1, 1) := by decide +kernel
theorem dX12_giveBack__25 : decode cX12_giveBack_ 25 = .ok (.iaload, 1) := by decide +kernel
theorem dX12_giveBack__26 : decode cX12_giveBack_ 26 = .ok (.iconst 3, 1) := by decide +kernel
theorem dX12_giveBack__27 : decode cX12_giveBack_ 27 = .ok (.aload_n 0, 1) := by decide +kernel
theorem dX12_giveBack__28 : decode cX12_giveBack_ 28 = .ok (.getfield 136, 3) := by decide +kernel
theorem dX12_giveBack__31 : decode cX12_giveBack_ 31 = .ok (.iload_n 1, 1) := by decide +kernel
theorem dX12_giveBack__32 : decode cX12_giveBack_ 32 = .ok (.iaload, 1) := by decide +kernel
theorem dX12_giveBack__33 : decode cX12_giveBack_ 33 = .ok (.invokevirtual 264, 3) := by decide +kernel
theorem dX12_giveBack__36 : decode cX12_giveBack_ 36 = .ok (.istore_n 2, 1) := by decide +kernel
theorem dX12_giveBack__37 : decode cX12_giveBack_ 37 = .ok (.aload_n 0, 1) := by decide +kernel
theorem dX12_giveBack__38 : decode cX12_giveBack_ 38 = .ok (.dup, 1) := by decide +kernel
theorem dX12_giveBack__39 : decode cX12_giveBack_ 39 = .ok (.getfield 362, 3) := by decide +kernel
theorem dX12_giveBack__42 : decode cX12_giveBack_ 42 = .ok (.iconst 1, 1) := by decide +kernel
theorem dX12_giveBack__43 : decode cX12_giveBack_ 43 = .ok (.isub, 1) := by decide +kernel
theorem dX12_giveBack__44 : decode cX12_giveBack_ 44 = .ok (.putfield 362, 3) := by decide +kernel
theorem dX12_giveBack__47 : decode cX12_giveBack_ 47 = .ok (.iload_n 1, 1) := by decide +kernel
theorem dX12_giveBack__48 : decode cX12_giveBack_ 48 = .ok (.istore_n 3, 1) := by decide +kernel
theorem dX12_giveBack__49 : decode cX12_giveBack_ 49 = .ok (.iload_n 3, 1) := by decide +kernel
theorem dX12_giveBack__50 : decode cX12_giveBack_ 50 = .ok (.aload_n 0, 1) := by decide +kernel
theorem dX12_giveBack__51 : decode cX12_giveBack_ 51 = .ok (.getfield 362, 3) := by decide +kernel
theorem dX12_giveBack__54 : decode cX12_giveBack_ 54 = .ok (.if_icmp .ge 94, 3) := by decide +kernel
theorem dX12_giveBack__57 : decode cX12_giveBack_ 57 = .ok (.aload_n 0, 1) := by decide +kernel
theorem dX12_giveBack__58 : decode cX12_giveBack_ 58 = .ok (.getfield 133, 3) := by decide +kernel
theorem dX12_giveBack__61 : decode cX12_giveBack_ 61 = .ok (.iload_n 3, 1) := by decide +kernel
theorem dX12_giveBack__62 : decode cX12_giveBack_ 62 = .ok (.aload_n 0, 1) := by decide +kernel
theorem dX12_giveBack__63 : decode cX12_giveBack_ 63 = .ok (.getfield 133, 3) := by decide +kernel
theorem dX12_giveBack__66 : decode cX12_giveBack_ 66 = .ok (.iload_n 3, 1) := by decide +kernel
theorem dX12_giveBack__67 : decode cX12_giveBack_ 67 = .ok (.iconst 1, 1) := by decide +kernel
theorem dX12_giveBack__68 : decode cX12_giveBack_ 68 = .ok (.iadd, 1) := by decide +kernel
theorem dX12_giveBack__69 : decode cX12_giveBack_ 69 = .ok (.iaload, 1) := by decide +kernel
theorem dX12_giveBack__70 : decode cX12_giveBack_ 70 = .ok (.iastore, 1) := by decide +kernel
theorem dX12_giveBack__71 : decode cX12_giveBack_ 71 = .ok (.aload_n 0, 1) := by decide +kernel
theorem dX12_giveBack__72 : decode cX12_giveBack_ 72 = .ok (.getfield 136, 3) := by decide +kernel
theorem dX12_giveBack__75 : decode cX12_giveBack_ 75 = .ok (.iload_n 3, 1) := by decide +kernel
theorem dX12_giveBack__76 : decode cX12_giveBack_ 76 = .ok (.aload_n 0, 1) := by decide +kernel
theorem dX12_giveBack__77 : decode cX12_giveBack_ 77 = .ok (.getfield 136, 3) := by decide +kernel
theorem dX12_giveBack__80 : decode cX12_giveBack_ 80 = .ok (.iload_n 3, 1) := by decide +kernel
theorem dX12_giveBack__81 : decode cX12_giveBack_ 81 = .ok (.iconst 1, 1) := by decide +kernel
theorem dX12_giveBack__82 : decode cX12_giveBack_ 82 = .ok (.iadd, 1) := by decide +kernel
theorem dX12_giveBack__83 : decode cX12_giveBack_ 83 = .ok (.iaload, 1) := by decide +kernel
theorem dX12_giveBack__84 : decode cX12_giveBack_ 84 = .ok (.iastore, 1) := by decide +kernel
theorem dX12_giveBack__85 : decode cX12_giveBack_ 85 = .ok (.aload_n 0, 1) := by decide +kernel
theorem dX12_giveBack__86 : decode cX12_giveBack_ 86 = .ok (.getfield 139, 3) := by decide +kernel
theorem dX12_giveBack__89 : decode cX12_giveBack_ 89 = .ok (.iload_n 3, 1) := by decide +kernel
theorem dX12_giveBack__90 : decode cX12_giveBack_ 90 = .ok (.aload_n 0, 1) := by decide +kernel
theorem dX12_giveBack__91 : decode cX12_giveBack_ 91 = .ok (.getfield 139, 3) := by decide +kernel
theorem dX12_giveBack__94 : decode cX12_giveBack_ 94 = .ok (.iload_n 3, 1) := by decide +kernel
theorem dX12_giveBack__95 : decode cX12_giveBack_ 95 = .ok (.iconst 1, 1) := by decide +kernel
theorem dX12_giveBack__96 : decode cX12_giveBack_ 96 = .ok (.iadd, 1) := by decide +kernel
theorem dX12_giveBack__97 : decode cX12_giveBack_ 97 = .ok (.iaload, 1) := by decide +kernel
theorem dX12_giveBack__98 : decode cX12_giveBack_ 98 = .ok (.iastore, 1) := by decide +kernel
theorem dX12_giveBack__99 : decode cX12_giveBack_ 99 = .ok (.iconst 0, 1) := by decide +kernel
theorem dX12_giveBack__100 : decode cX12_giveBack_ 100 = .ok (.istore 4, 2) := by decide +kernel
theorem dX12_giveBack__102 : decode cX12_giveBack_ 102 = .ok (.iload 4, 2) := by decide +kernel
theorem dX12_giveBack__104 : decode cX12_giveBack_ 104 = .ok (.bipush 20, 2) := by decide +kernel
theorem dX12_giveBack__106 : decode cX12_giveBack_ 106 = .ok (.if_icmp .ge 36, 3) := by decide +kernel
theorem dX12_giveBack__109 : decode cX12_giveBack_ 109 = .ok (.aload_n 0, 1) := by decide +kernel
theorem dX12_giveBack__110 : decode cX12_giveBack_ 110 = .ok (.getfield 142, 3) := by decide +kernel
theorem dX12_giveBack__113 : decode cX12_giveBack_ 113 = .ok (.bipush 20, 2) := by decide +kernel
theorem dX12_giveBack__115 : decode cX12_giveBack_ 115 = .ok (.iload_n 3, 1) := by decide +kernel
theorem dX12_giveBack__116 : decode cX12_giveBack_ 116 = .ok (.imul, 1) := by decide +kernel
theorem dX12_giveBack__117 : decode cX12_giveBack_ 117 = .ok (.iload 4, 2) := by decide +kernel
theorem dX12_giveBack__119 : decode cX12_giveBack_ 119 = .ok (.iadd, 1) := by decide +kernel
theorem dX12_giveBack__120 : decode cX12_giveBack_ 120 = .ok (.aload_n 0, 1) := by decide +kernel
theorem dX12_giveBack__121 : decode cX12_giveBack_ 121 = .ok (.getfield 142, 3) := by decide +kernel
theorem dX12_giveBack__124 : decode cX12_giveBack_ 124 = .ok (.bipush 20, 2) := by decide +kernel
theorem dX12_giveBack__126 : decode cX12_giveBack_ 126 = .ok (.iload_n 3, 1) := by decide +kernel
theorem dX12_giveBack__127 : decode cX12_giveBack_ 127 = .ok (.imul, 1) := by decide +kernel
theorem dX12_giveBack__128 : decode cX12_giveBack_ 128 = .ok (.bipush 20, 2) := by decide +kernel
theorem dX12_giveBack__130 : decode cX12_giveBack_ 130 = .ok (.iadd, 1) := by decide +kernel
theorem dX12_giveBack__131 : decode cX12_giveBack_ 131 = .ok (.iload 4, 2) := by decide +kernel
theorem dX12_giveBack__133 : decode cX12_giveBack_ 133 = .ok (.iadd, 1) := by decide +kernel
theorem dX12_giveBack__134 : decode cX12_giveBack_ 134 = .ok (.iaload, 1) := by decide +kernel
theorem dX12_giveBack__135 : decode cX12_giveBack_ 135 = .ok (.iastore, 1) := by decide +kernel
theorem dX12_giveBack__136 : decode cX12_giveBack_ 136 = .ok (.iinc 4 1, 3) := by decide +kernel
theorem dX12_giveBack__139 : decode cX12_giveBack_ 139 = .ok (.goto (-37), 3) := by decide +kernel
theorem dX12_giveBack__142 : decode cX12_giveBack_ 142 = .ok (.iinc 3 1, 3) := by decide +kernel
theorem dX12_giveBack__145 : decode cX12_giveBack_ 145 = .ok (.goto (-96), 3) := by decide +kernel
theorem dX12_giveBack__148 : decode cX12_giveBack_ 148 = .ok (.iload_n 2, 1) := by decide +kernel
theorem dX12_giveBack__149 : decode cX12_giveBack_ 149 = .ok (.ifCond .eq 7, 3) := by decide +kernel
theorem dX12_giveBack__152 : decode cX12_giveBack_ 152 = .ok (.iconst 0, 1) := by decide +kernel
theorem dX12_giveBack__153 : decode cX12_giveBack_ 153 = .ok (.goto 4, 3) := by decide +kernel
theorem dX12_giveBack__156 : decode cX12_giveBack_ 156 = .ok (.iconst 1, 1) := by decide +kernel
theorem dX12_giveBack__157 : decode cX12_giveBack_ 157 = .ok (.ireturn, 1) := by decide +kernel
theorem dX12_cents_0 : decode cX12_cents 0 = .ok (.iload_n 1, 1) := by decide +kernel
theorem dX12_cents_1 : decode cX12_cents 1 = .ok (.i2l, 1) := by decide +kernel
theorem dX12_cents_2 : decode cX12_cents 2 = .ok (.lconst 0, 1) := by decide +kernel
theorem dX12_cents_3 : decode cX12_cents 3 = .ok (.ldc2_w 183, 3) := by decide +kernel
theorem dX12_cents_6 : decode cX12_cents 6 = .ok (.invokestatic 147, 3) := by decide +kernel
theorem dX12_cents_9 : decode cX12_cents 9 = .ok (.ifCond .ne 7, 3) := by decide +kernel
theorem dX12_cents_12 : decode cX12_cents 12 = .ok (.ldc2_w 365, 3) := by decide +kernel
theorem dX12_cents_15 : decode cX12_cents 15 = .ok (.lreturn, 1) := by decide +kernel
theorem dX12_cents_16 : decode cX12_cents 16 = .ok (.iload_n 2, 1) := by decide +kernel
theorem dX12_cents_17 : decode cX12_cents 17 = .ok (.i2l, 1) := by decide +kernel
theorem dX12_cents_18 : decode cX12_cents 18 = .ok (.lconst 0, 1) := by decide +kernel
theorem dX12_cents_19 : decode cX12_cents 19 = .ok (.lconst 1, 1) := by decide +kernel
theorem dX12_cents_20 : decode cX12_cents 20 = .ok (.invokestatic 147, 3) := by decide +kernel
theorem dX12_cents_23 : decode cX12_cents 23 = .ok (.ifCond .ne 7, 3) := by decide +kernel
theorem dX12_cents_26 : decode cX12_cents 26 = .ok (.ldc2_w 367, 3) := by decide +kernel
theorem dX12_cents_29 : decode cX12_cents 29 = .ok (.lreturn, 1) := by decide +kernel
theorem dX12_cents_30 : decode cX12_cents 30 = .ok (.lconst 0, 1) := by decide +kernel
theorem dX12_cents_31 : decode cX12_cents 31 = .ok (.lstore_n 3, 1) := by decide +kernel
theorem dX12_cents_32 : decode cX12_cents 32 = .ok (.iconst 0, 1) := by decide +kernel
theorem dX12_cents_33 : decode cX12_cents 33 = .ok (.istore 5, 2) := by decide +kernel
theorem dX12_cents_35 : decode cX12_cents 35 = .ok (.iload 5, 2) := by decide +kernel
theorem dX12_cents_37 : decode cX12_cents 37 = .ok (.aload_n 0, 1) := by decide +kernel
theorem dX12_cents_38 : decode cX12_cents 38 = .ok (.getfield 362, 3) := by decide +kernel
theorem dX12_cents_41 : decode cX12_cents 41 = .ok (.if_icmp .ge 40, 3) := by decide +kernel
theorem dX12_cents_44 : decode cX12_cents 44 = .ok (.lload_n 3, 1) := by decide +kernel
theorem dX12_cents_45 : decode cX12_cents 45 = .ok (.aload_n 0, 1) := by decide +kernel
theorem dX12_cents_46 : decode cX12_cents 46 = .ok (.getfield 136, 3) := by decide +kernel
theorem dX12_cents_49 : decode cX12_cents 49 = .ok (.iload 5, 2) := by decide +kernel
theorem dX12_cents_51 : decode cX12_cents 51 = .ok (.iaload, 1) := by decide +kernel
theorem dX12_cents_52 : decode cX12_cents 52 = .ok (.iload_n 1, 1) := by decide +kernel
theorem dX12_cents_53 : decode cX12_cents 53 = .ok (.if_icmp .ne 19, 3) := by decide +kernel
theorem dX12_cents_56 : decode cX12_cents 56 = .ok (.aload_n 0, 1) := by decide +kernel
theorem dX12_cents_57 : decode cX12_cents 57 = .ok (.getfield 13, 3) := by decide +kernel
theorem dX12_cents_60 : decode cX12_cents 60 = .ok (.aload_n 0, 1) := by decide +kernel
theorem dX12_cents_61 : decode cX12_cents 61 = .ok (.getfield 133, 3) := by decide +kernel
theorem dX12_cents_64 : decode cX12_cents 64 = .ok (.iload 5, 2) := by decide +kernel
theorem dX12_cents_66 : decode cX12_cents 66 = .ok (.iaload, 1) := by decide +kernel
theorem dX12_cents_67 : decode cX12_cents 67 = .ok (.iaload, 1) := by decide +kernel
theorem dX12_cents_68 : decode cX12_cents 68 = .ok (.i2l, 1) := by decide +kernel
theorem dX12_cents_69 : decode cX12_cents 69 = .ok (.goto 4, 3) := by decide +kernel
theorem dX12_cents_72 : decode cX12_cents 72 = .ok (.lconst 0, 1) := by decide +kernel
theorem dX12_cents_73 : decode cX12_cents 73 = .ok (.ladd, 1) := by decide +kernel
theorem dX12_cents_74 : decode cX12_cents 74 = .ok (.lstore_n 3, 1) := by decide +kernel
theorem dX12_cents_75 : decode cX12_cents 75 = .ok (.iinc 5 1, 3) := by decide +kernel
theorem dX12_cents_78 : decode cX12_cents 78 = .ok (.goto (-43), 3) := by decide +kernel
theorem dX12_cents_81 : decode cX12_cents 81 = .ok (.iload_n 2, 1) := by decide +kernel
theorem dX12_cents_82 : decode cX12_cents 82 = .ok (.ifCond .ne 7, 3) := by decide +kernel
theorem dX12_cents_85 : decode cX12_cents 85 = .ok (.lload_n 3, 1) := by decide +kernel
theorem dX12_cents_86 : decode cX12_cents 86 = .ok (.goto 9, 3) := by decide +kernel
theorem dX12_cents_89 : decode cX12_cents 89 = .ok (.aload_n 0, 1) := by decide +kernel
theorem dX12_cents_90 : decode cX12_cents 90 = .ok (.getfield 34, 3) := by decide +kernel
theorem dX12_cents_93 : decode cX12_cents 93 = .ok (.iload_n 1, 1) := by decide +kernel
theorem dX12_cents_94 : decode cX12_cents 94 = .ok (.laload, 1) := by decide +kernel
theorem dX12_cents_95 : decode cX12_cents 95 = .ok (.lreturn, 1) := by decide +kernel
theorem dX12_log_0 : decode cX12_log 0 = .ok (.iload_n 2, 1) := by decide +kernel
theorem dX12_log_1 : decode cX12_log 1 = .ok (.i2l, 1) := by decide +kernel
theorem dX12_log_2 : decode cX12_log 2 = .ok (.lconst 0, 1) := by decide +kernel
theorem dX12_log_3 : decode cX12_log 3 = .ok (.ldc2_w 369, 3) := by decide +kernel
theorem dX12_log_6 : decode cX12_log 6 = .ok (.invokestatic 147, 3) := by decide +kernel
theorem dX12_log_9 : decode cX12_log 9 = .ok (.ifCond .ne 6, 3) := by decide +kernel
theorem dX12_log_12 : decode cX12_log 12 = .ok (.bipush (-102), 2) := by decide +kernel
theorem dX12_log_14 : decode cX12_log 14 = .ok (.ireturn, 1) := by decide +kernel
theorem dX12_log_15 : decode cX12_log 15 = .ok (.aload_n 0, 1) := by decide +kernel
theorem dX12_log_16 : decode cX12_log 16 = .ok (.getfield 174, 3) := by decide +kernel
theorem dX12_log_19 : decode cX12_log 19 = .ok (.bipush 60, 2) := by decide +kernel
theorem dX12_log_21 : decode cX12_log 21 = .ok (.if_icmp .ge 10, 3) := by decide +kernel
theorem dX12_log_24 : decode cX12_log 24 = .ok (.aload_n 0, 1) := by decide +kernel
theorem dX12_log_25 : decode cX12_log 25 = .ok (.getfield 174, 3) := by decide +kernel
theorem dX12_log_28 : decode cX12_log 28 = .ok (.goto 5, 3) := by decide +kernel
theorem dX12_log_31 : decode cX12_log 31 = .ok (.bipush 60, 2) := by decide +kernel
theorem dX12_log_33 : decode cX12_log 33 = .ok (.istore_n 3, 1) := by decide +kernel
theorem dX12_log_34 : decode cX12_log 34 = .ok (.iload_n 1, 1) := by decide +kernel
theorem dX12_log_35 : decode cX12_log 35 = .ok (.i2l, 1) := by decide +kernel
theorem dX12_log_36 : decode cX12_log 36 = .ok (.lconst 0, 1) := by decide +kernel
theorem dX12_log_37 : decode cX12_log 37 = .ok (.iload_n 3, 1) := by decide +kernel
theorem dX12_log_38 : decode cX12_log 38 = .ok (.iconst 1, 1) := by decide +kernel
theorem dX12_log_39 : decode cX12_log 39 = .ok (.isub, 1) := by decide +kernel
theorem dX12_log_40 : decode cX12_log 40 = .ok (.i2l, 1) := by decide +kernel
theorem dX12_log_41 : decode cX12_log 41 = .ok (.invokestatic 147, 3) := by decide +kernel
theorem dX12_log_44 : decode cX12_log 44 = .ok (.ifCond .ne 5, 3) := by decide +kernel
theorem dX12_log_47 : decode cX12_log 47 = .ok (.iconst (-1), 1) := by decide +kernel
theorem dX12_log_48 : decode cX12_log 48 = .ok (.ireturn, 1) := by decide +kernel
theorem dX12_log_49 : decode cX12_log 49 = .ok (.aload_n 0, 1) := by decide +kernel
theorem dX12_log_50 : decode cX12_log 50 = .ok (.getfield 174, 3) := by decide +kernel
theorem dX12_log_53 : decode cX12_log 53 = .ok (.iconst 1, 1) := by decide +kernel
theorem dX12_log_54 : decode cX12_log 54 = .ok (.isub, 1) := by decide +kernel
theorem dX12_log_55 : decode cX12_log 55 = .ok (.iload_n 1, 1) := by decide +kernel
theorem dX12_log_56 : decode cX12_log 56 = .ok (.isub, 1) := by decide +kernel
theorem dX12_log_57 : decode cX12_log 57 = .ok (.bipush 60, 2) := by decide +kernel
theorem dX12_log_59 : decode cX12_log 59 = .ok (.irem, 1) := by decide +kernel
theorem dX12_log_60 : decode cX12_log 60 = .ok (.istore 4, 2) := by decide +kernel
theorem dX12_log_62 : decode cX12_log 62 = .ok (.iload_n 2, 1) := by decide +kernel
theorem dX12_log_63 : decode cX12_log 63 = .ok (.ifCond .ne 13, 3) := by decide +kernel
theorem dX12_log_66 : decode cX12_log 66 = .ok (.aload_n 0, 1) := by decide +kernel
theorem dX12_log_67 : decode cX12_log 67 = .ok (.getfield 38, 3) := by decide +kernel
theorem dX12_log_70 : decode cX12_log 70 = .ok (.iload 4, 2) := by decide +kernel
theorem dX12_log_72 : decode cX12_log 72 = .ok (.iaload, 1) := by decide +kernel
theorem dX12_log_73 : decode cX12_log 73 = .ok (.goto 25, 3) := by decide +kernel
theorem dX12_log_76 : decode cX12_log 76 = .ok (.iload_n 2, 1) := by decide +kernel
theorem dX12_log_77 : decode cX12_log 77 = .ok (.iconst 1, 1) := by decide +kernel
theorem dX12_log_78 : decode cX12_log 78 = .ok (.if_icmp .ne 13, 3) := by decide +kernel
theorem dX12_log_81 : decode cX12_log 81 = .ok (.aload_n 0, 1) := by decide +kernel
theorem dX12_log_82 : decode cX12_log 82 = .ok (.getfield 41, 3) := by decide +kernel
theorem dX12_log_85 : decode cX12_log 85 = .ok (.iload 4, 2) := by decide +kernel
theorem dX12_log_87 : decode cX12_log 87 = .ok (.iaload, 1) := by decide +kernel
theorem dX12_log_88 : decode cX12_log 88 = .ok (.goto 10, 3) := by decide +kernel
theorem dX12_log_91 : decode cX12_log 91 = .ok (.aload_n 0, 1) := by decide +kernel
theorem dX12_log_92 : decode cX12_log 92 = .ok (.getfield 44, 3) := by decide +kernel
theorem dX12_log_95 : decode cX12_log 95 = .ok (.iload 4, 2) := by decide +kernel
theorem dX12_log_97 : decode cX12_log 97 = .ok (.iaload, 1) := by decide +kernel
theorem dX12_log_98 : decode cX12_log 98 = .ok (.ireturn, 1) := by decide +kernel
theorem dJ9_min_7cf53_0 : decode cJ9_min_7cf53 0 = .ok (.iload_n 0, 1) := by decide +kernel
theorem dJ9_min_7cf53_1 : decode cJ9_min_7cf53 1 = .ok (.iload_n 1, 1) := by decide +kernel
theorem dJ9_min_7cf53_2 : decode cJ9_min_7cf53 2 = .ok (.if_icmp .gt 7, 3) := by decide +kernel
theorem dJ9_min_7cf53_5 : decode cJ9_min_7cf53 5 = .ok (.iload_n 0, 1) := by decide +kernel
theorem dJ9_min_7cf53_6 : decode cJ9_min_7cf53 6 = .ok (.goto 4, 3) := by decide +kernel
theorem dJ9_min_7cf53_9 : decode cJ9_min_7cf53 9 = .ok (.iload_n 1, 1) := by decide +kernel
theorem dJ9_min_7cf53_10 : decode cJ9_min_7cf53 10 = .ok (.ireturn, 1) := by decide +kernel
theorem dL_law_0 : decode cL_law 0 = .ok (.new 7, 3) := by decide +kernel
theorem dL_law_3 : decode cL_law 3 = .ok (.dup, 1) := by decide +kernel
theorem dL_law_4 : decode cL_law 4 = .ok (.invokespecial 9, 3) := by decide +kernel
theorem dL_law_7 : decode cL_law 7 = .ok (.astore_n 1, 1) := by decide +kernel
theorem dL_law_8 : decode cL_law 8 = .ok (.new 10, 3) := by decide +kernel
theorem dL_law_11 : decode cL_law 11 = .ok (.dup, 1) := by decide +kernel
theorem dL_law_12 : decode cL_law 12 = .ok (.invokespecial 12, 3) := by decide +kernel
theorem dL_law_15 : decode cL_law 15 = .ok (.astore_n 2, 1) := by decide +kernel
theorem dL_law_16 : decode cL_law 16 = .ok (.iconst 0, 1) := by decide +kernel
theorem dL_law_17 : decode cL_law 17 = .ok (.istore_n 3, 1) := by decide +kernel
theorem dL_law_18 : decode cL_law 18 = .ok (.iload_n 3, 1) := by decide +kernel
theorem dL_law_19 : decode cL_law 19 = .ok (.aload_n 0, 1) := by decide +kernel
theorem dL_law_20 : decode cL_law 20 = .ok (.arraylength, 1) := by decide +kernel
theorem dL_law_21 : decode cL_law 21 = .ok (.iconst 5, 1) := by decide +kernel
theorem dL_law_22 : decode cL_law 22 = .ok (.isub, 1) := by decide +kernel
theorem dL_law_23 : decode cL_law 23 = .ok (.if_icmp .gt 681, 3) := by decide +kernel
theorem dL_law_26 : decode cL_law 26 = .ok (.aload_n 0, 1) := by decide +kernel
theorem dL_law_27 : decode cL_law 27 = .ok (.iload_n 3, 1) := by decide +kernel
theorem dL_law_28 : decode cL_law 28 = .ok (.iaload, 1) := by decide +kernel
theorem dL_law_29 : decode cL_law 29 = .ok (.bipush 31, 2) := by decide +kernel
theorem dL_law_31 : decode cL_law 31 = .ok (.iand, 1) := by decide +kernel
theorem dL_law_32 : decode cL_law 32 = .ok (.tableswitch 666 0 18 #[92, 125, 148, 171, 194, 237, 276, 289, 342, 365, 398, 431, 454, 487, 500, 533, 576, 599, 633], 92) := by decide +kernel
theorem dL_law_124 : decode cL_law 124 = .ok (.aload_n 1, 1) := by decide +kernel
theorem dL_law_125 : decode cL_law 125 = .ok (.aload_n 0, 1) := by decide +kernel
theorem dL_law_126 : decode cL_law 126 = .ok (.iload_n 3, 1) := by decide +kernel
theorem dL_law_127 : decode cL_law 127 = .ok (.iconst 1, 1) := by decide +kernel
theorem dL_law_128 : decode cL_law 128 = .ok (.iadd, 1) := by decide +kernel
theorem dL_law_129 : decode cL_law 129 = .ok (.iaload, 1) := by decide +kernel
theorem dL_law_130 : decode cL_law 130 = .ok (.aload_n 0, 1) := by decide +kernel
theorem dL_law_131 : decode cL_law 131 = .ok (.iload_n 3, 1) := by decide +kernel
theorem dL_law_132 : decode cL_law 132 = .ok (.iconst 2, 1) := by decide +kernel
theorem dL_law_133 : decode cL_law 133 = .ok (.iadd, 1) := by decide +kernel
theorem dL_law_134 : decode cL_law 134 = .ok (.iaload, 1) := by decide +kernel
theorem dL_law_135 : decode cL_law 135 = .ok (.invokevirtual 13, 3) := by decide +kernel
theorem dL_law_138 : decode cL_law 138 = .ok (.aload_n 2, 1) := by decide +kernel
theorem dL_law_139 : decode cL_law 139 = .ok (.aload_n 0, 1) := by decide +kernel
theorem dL_law_140 : decode cL_law 140 = .ok (.iload_n 3, 1) := by decide +kernel
theorem dL_law_141 : decode cL_law 141 = .ok (.iconst 1, 1) := by decide +kernel
theorem dL_law_142 : decode cL_law 142 = .ok (.iadd, 1) := by decide +kernel
theorem dL_law_143 : decode cL_law 143 = .ok (.iaload, 1) := by decide +kernel
theorem dL_law_144 : decode cL_law 144 = .ok (.aload_n 0, 1) := by decide +kernel
theorem dL_law_145 : decode cL_law 145 = .ok (.iload_n 3, 1) := by decide +kernel
theorem dL_law_146 : decode cL_law 146 = .ok (.iconst 2, 1) := by decide +kernel
theorem dL_law_147 : decode cL_law 147 = .ok (.iadd, 1) := by decide +kernel
theorem dL_law_148 : decode cL_law 148 = .ok (.iaload, 1) := by decide +kernel
theorem dL_law_149 : decode cL_law 149 = .ok (.invokevirtual 17, 3) := by decide +kernel
theorem dL_law_152 : decode cL_law 152 = .ok (.if_icmp .eq 546, 3) := by decide +kernel
theorem dL_law_155 : decode cL_law 155 = .ok (.iconst 0, 1) := by decide +kernel
theorem dL_law_156 : decode cL_law 156 = .ok (.ireturn, 1) := by decide +kernel
theorem dL_law_157 : decode cL_law 157 = .ok (.aload_n 1, 1) := by decide +kernel
theorem dL_law_158 : decode cL_law 158 = .ok (.aload_n 0, 1) := by decide +kernel
theorem dL_law_159 : decode cL_law 159 = .ok (.iload_n 3, 1) := by decide +kernel
theorem dL_law_160 : decode cL_law 160 = .ok (.iconst 1, 1) := by decide +kernel
theorem dL_law_161 : decode cL_law 161 = .ok (.iadd, 1) := by decide +kernel
theorem dL_law_162 : decode cL_law 162 = .ok (.iaload, 1) := by decide +kernel
theorem dL_law_163 : decode cL_law 163 = .ok (.invokevirtual 18, 3) := by decide +kernel
theorem dL_law_166 : decode cL_law 166 = .ok (.aload_n 2, 1) := by decide +kernel
theorem dL_law_167 : decode cL_law 167 = .ok (.aload_n 0, 1) := by decide +kernel
theorem dL_law_168 : decode cL_law 168 = .ok (.iload_n 3, 1) := by decide +kernel
theorem dL_law_169 : decode cL_law 169 = .ok (.iconst 1, 1) := by decide +kernel
theorem dL_law_170 : decode cL_law 170 = .ok (.iadd, 1) := by decide +kernel
theorem dL_law_171 : decode cL_law 171 = .ok (.iaload, 1) := by decide +kernel
theorem dL_law_172 : decode cL_law 172 = .ok (.invokevirtual 22, 3) := by decide +kernel
theorem dL_law_175 : decode cL_law 175 = .ok (.if_icmp .eq 523, 3) := by decide +kernel
theorem dL_law_178 : decode cL_law 178 = .ok (.iconst 0, 1) := by decide +kernel
theorem dL_law_179 : decode cL_law 179 = .ok (.ireturn, 1) := by decide +kernel
theorem dL_law_180 : decode cL_law 180 = .ok (.aload_n 1, 1) := by decide +kernel
theorem dL_law_181 : decode cL_law 181 = .ok (.aload_n 0, 1) := by decide +kernel
theorem dL_law_182 : decode cL_law 182 = .ok (.iload_n 3, 1) := by decide +kernel
theorem dL_law_183 : decode cL_law 183 = .ok (.iconst 1, 1) := by decide +kernel
theorem dL_law_184 : decode cL_law 184 = .ok (.iadd, 1) := by decide +kernel
theorem dL_law_185 : decode cL_law 185 = .ok (.iaload, 1) := by decide +kernel
theorem dL_law_186 : decode cL_law 186 = .ok (.invokevirtual 23, 3) := by decide +kernel
theorem dL_law_189 : decode cL_law 189 = .ok (.aload_n 2, 1) := by decide +kernel
theorem dL_law_190 : decode cL_law 190 = .ok (.aload_n 0, 1) := by decide +kernel
theorem dL_law_191 : decode cL_law 191 = .ok (.iload_n 3, 1) := by decide +kernel
theorem dL_law_192 : decode cL_law 192 = .ok (.iconst 1, 1) := by decide +kernel
theorem dL_law_193 : decode cL_law 193 = .ok (.iadd, 1) := by decide +kernel
theorem dL_law_194 : decode cL_law 194 = .ok (.iaload, 1) := by decide +kernel
theorem dL_law_195 : decode cL_law 195 = .ok (.invokevirtual 26, 3) := by decide +kernel
theorem dL_law_198 : decode cL_law 198 = .ok (.if_icmp .eq 500, 3) := by decide +kernel
theorem dL_law_201 : decode cL_law 201 = .ok (.iconst 0, 1) := by decide +kernel
theorem dL_law_202 : decode cL_law 202 = .ok (.ireturn, 1) := by decide +kernel
theorem dL_law_203 : decode cL_law 203 = .ok (.aload_n 1, 1) := by decide +kernel
theorem dL_law_204 : decode cL_law 204 = .ok (.aload_n 0, 1) := by decide +kernel
theorem dL_law_205 : decode cL_law 205 = .ok (.iload_n 3, 1) := by decide +kernel
theorem dL_law_206 : decode cL_law 206 = .ok (.iconst 1, 1) := by decide +kernel
theorem dL_law_207 : decode cL_law 207 = .ok (.iadd, 1) := by decide +kernel
theorem dL_law_208 : decode cL_law 208 = .ok (.iaload, 1) := by decide +kernel
theorem dL_law_209 : decode cL_law 209 = .ok (.invokevirtual 27, 3) := by decide +kernel
theorem dL_law_212 : decode cL_law 212 = .ok (.aload_n 2, 1) := by decide +kernel
theorem dL_law_213 : decode cL_law 213 = .ok (.aload_n 0, 1) := by decide +kernel
theorem dL_law_214 : decode cL_law 214 = .ok (.iload_n 3, 1) := by decide +kernel
theorem dL_law_215 : decode cL_law 215 = .ok (.iconst 1, 1) := by decide +kernel
theorem dL_law_216 : decode cL_law 216 = .ok (.iadd, 1) := by decide +kernel
theorem dL_law_217 : decode cL_law 217 = .ok (.iaload, 1) := by decide +kernel
theorem dL_law_218 : decode cL_law 218 = .ok (.invokevirtual 30, 3) := by decide +kernel
theorem dL_law_221 : decode cL_law 221 = .ok (.if_icmp .eq 477, 3) := by decide +kernel
theorem dL_law_224 : decode cL_law 224 = .ok (.iconst 0, 1) := by decide +kernel
theorem dL_law_225 : decode cL_law 225 = .ok (.ireturn, 1) := by decide +kernel
theorem dL_law_226 : decode cL_law 226 = .ok (.aload_n 1, 1) := by decide +kernel
theorem dL_law_227 : decode cL_law 227 = .ok (.aload_n 0, 1) := by decide +kernel
theorem dL_law_228 : decode cL_law 228 = .ok (.iload_n 3, 1) := by decide +kernel
theorem dL_law_229 : decode cL_law 229 = .ok (.iconst 1, 1) := by decide +kernel
theorem dL_law_230 : decode cL_law 230 = .ok (.iadd, 1) := by decide +kernel
theorem dL_law_231 : decode cL_law 231 = .ok (.iaload, 1) := by decide +kernel
theorem dL_law_232 : decode cL_law 232 = .ok (.aload_n 0, 1) := by decide +kernel
theorem dL_law_233 : decode cL_law 233 = .ok (.iload_n 3, 1) := by decide +kernel
theorem dL_law_234 : decode cL_law 234 = .ok (.iconst 2, 1) := by decide +kernel
theorem dL_law_235 : decode cL_law 235 = .ok (.iadd, 1) := by decide +kernel
theorem dL_law_236 : decode cL_law 236 = .ok (.iaload, 1) := by decide +kernel
theorem dL_law_237 : decode cL_law 237 = .ok (.aload_n 0, 1) := by decide +kernel
theorem dL_law_238 : decode cL_law 238 = .ok (.iload_n 3, 1) := by decide +kernel
theorem dL_law_239 : decode cL_law 239 = .ok (.iconst 3, 1) := by decide +kernel
theorem dL_law_240 : decode cL_law 240 = .ok (.iadd, 1) := by decide +kernel
theorem dL_law_241 : decode cL_law 241 = .ok (.iaload, 1) := by decide +kernel
theorem dL_law_242 : decode cL_law 242 = .ok (.invokevirtual 31, 3) := by decide +kernel
theorem dL_law_245 : decode cL_law 245 = .ok (.aload_n 2, 1) := by decide +kernel
theorem dL_law_246 : decode cL_law 246 = .ok (.aload_n 0, 1) := by decide +kernel
theorem dL_law_247 : decode cL_law 247 = .ok (.iload_n 3, 1) := by decide +kernel
theorem dL_law_248 : decode cL_law 248 = .ok (.iconst 1, 1) := by decide +kernel
theorem dL_law_249 : decode cL_law 249 = .ok (.iadd, 1) := by decide +kernel
theorem dL_law_250 : decode cL_law 250 = .ok (.iaload, 1) := by decide +kernel
theorem dL_law_251 : decode cL_law 251 = .ok (.aload_n 0, 1) := by decide +kernel
theorem dL_law_252 : decode cL_law 252 = .ok (.iload_n 3, 1) := by decide +kernel
theorem dL_law_253 : decode cL_law 253 = .ok (.iconst 2, 1) := by decide +kernel
theorem dL_law_254 : decode cL_law 254 = .ok (.iadd, 1) := by decide +kernel
theorem dL_law_255 : decode cL_law 255 = .ok (.iaload, 1) := by decide +kernel
theorem dL_law_256 : decode cL_law 256 = .ok (.aload_n 0, 1) := by decide +kernel
theorem dL_law_257 : decode cL_law 257 = .ok (.iload_n 3, 1) := by decide +kernel
theorem dL_law_258 : decode cL_law 258 = .ok (.iconst 3, 1) := by decide +kernel
theorem dL_law_259 : decode cL_law 259 = .ok (.iadd, 1) := by decide +kernel
theorem dL_law_260 : decode cL_law 260 = .ok (.iaload, 1) := by decide +kernel
theorem dL_law_261 : decode cL_law 261 = .ok (.invokevirtual 35, 3) := by decide +kernel
theorem dL_law_264 : decode cL_law 264 = .ok (.if_icmp .eq 434, 3) := by decide +kernel
theorem dL_law_267 : decode cL_law 267 = .ok (.iconst 0, 1) := by decide +kernel
theorem dL_law_268 : decode cL_law 268 = .ok (.ireturn, 1) := by decide +kernel
theorem dL_law_269 : decode cL_law 269 = .ok (.aload_n 1, 1) := by decide +kernel
theorem dL_law_270 : decode cL_law 270 = .ok (.aload_n 0, 1) := by decide +kernel
theorem dL_law_271 : decode cL_law 271 = .ok (.iload_n 3, 1) := by decide +kernel
theorem dL_law_272 : decode cL_law 272 = .ok (.iconst 1, 1) := by decide +kernel
theorem dL_law_273 : decode cL_law 273 = .ok (.iadd, 1) := by decide +kernel
theorem dL_law_274 : decode cL_law 274 = .ok (.iaload, 1) := by decide +kernel
theorem dL_law_275 : decode cL_law 275 = .ok (.ifCond .eq 7, 3) := by decide +kernel
theorem dL_law_278 : decode cL_law 278 = .ok (.iconst 1, 1) := by decide +kernel
theorem dL_law_279 : decode cL_law 279 = .ok (.goto 4, 3) := by decide +kernel
theorem dL_law_282 : decode cL_law 282 = .ok (.iconst 0, 1) := by decide +kernel
theorem dL_law_283 : decode cL_law 283 = .ok (.invokevirtual 36, 3) := by decide +kernel
theorem dL_law_286 : decode cL_law 286 = .ok (.aload_n 2, 1) := by decide +kernel
theorem dL_law_287 : decode cL_law 287 = .ok (.aload_n 0, 1) := by decide +kernel
theorem dL_law_288 : decode cL_law 288 = .ok (.iload_n 3, 1) := by decide +kernel
theorem dL_law_289 : decode cL_law 289 = .ok (.iconst 1, 1) := by decide +kernel
theorem dL_law_290 : decode cL_law 290 = .ok (.iadd, 1) := by decide +kernel
theorem dL_law_291 : decode cL_law 291 = .ok (.iaload, 1) := by decide +kernel
theorem dL_law_292 : decode cL_law 292 = .ok (.ifCond .eq 7, 3) := by decide +kernel
theorem dL_law_295 : decode cL_law 295 = .ok (.iconst 1, 1) := by decide +kernel
theorem dL_law_296 : decode cL_law 296 = .ok (.goto 4, 3) := by decide +kernel
theorem dL_law_299 : decode cL_law 299 = .ok (.iconst 0, 1) := by decide +kernel
theorem dL_law_300 : decode cL_law 300 = .ok (.invokevirtual 40, 3) := by decide +kernel
theorem dL_law_303 : decode cL_law 303 = .ok (.if_icmp .eq 395, 3) := by decide +kernel
theorem dL_law_306 : decode cL_law 306 = .ok (.iconst 0, 1) := by decide +kernel
theorem dL_law_307 : decode cL_law 307 = .ok (.ireturn, 1) := by decide +kernel
theorem dL_law_308 : decode cL_law 308 = .ok (.aload_n 1, 1) := by decide +kernel
theorem dL_law_309 : decode cL_law 309 = .ok (.invokevirtual 41, 3) := by decide +kernel
theorem dL_law_312 : decode cL_law 312 = .ok (.aload_n 2, 1) := by decide +kernel
theorem dL_law_313 : decode cL_law 313 = .ok (.invokevirtual 45, 3) := by decide +kernel
theorem dL_law_316 : decode cL_law 316 = .ok (.if_icmp .eq 382, 3) := by decide +kernel
theorem dL_law_319 : decode cL_law 319 = .ok (.iconst 0, 1) := by decide +kernel
theorem dL_law_320 : decode cL_law 320 = .ok (.ireturn, 1) := by decide +kernel
theorem dL_law_321 : decode cL_law 321 = .ok (.aload_n 1, 1) := by decide +kernel
theorem dL_law_322 : decode cL_law 322 = .ok (.aload_n 0, 1) := by decide +kernel
theorem dL_law_323 : decode cL_law 323 = .ok (.iload_n 3, 1) := by decide +kernel
theorem dL_law_324 : decode cL_law 324 = .ok (.iconst 1, 1) := by decide +kernel
theorem dL_law_325 : decode cL_law 325 = .ok (.iadd, 1) := by decide +kernel
theorem dL_law_326 : decode cL_law 326 = .ok (.iaload, 1) := by decide +kernel
theorem dL_law_327 : decode cL_law 327 = .ok (.aload_n 0, 1) := by decide +kernel
theorem dL_law_328 : decode cL_law 328 = .ok (.iload_n 3, 1) := by decide +kernel
theorem dL_law_329 : decode cL_law 329 = .ok (.iconst 2, 1) := by decide +kernel
theorem dL_law_330 : decode cL_law 330 = .ok (.iadd, 1) := by decide +kernel
theorem dL_law_331 : decode cL_law 331 = .ok (.iaload, 1) := by decide +kernel
theorem dL_law_332 : decode cL_law 332 = .ok (.aload_n 0, 1) := by decide +kernel
theorem dL_law_333 : decode cL_law 333 = .ok (.iload_n 3, 1) := by decide +kernel
theorem dL_law_334 : decode cL_law 334 = .ok (.iconst 3, 1) := by decide +kernel
theorem dL_law_335 : decode cL_law 335 = .ok (.iadd, 1) := by decide +kernel
theorem dL_law_336 : decode cL_law 336 = .ok (.iaload, 1) := by decide +kernel
theorem dL_law_337 : decode cL_law 337 = .ok (.aload_n 0, 1) := by decide +kernel
theorem dL_law_338 : decode cL_law 338 = .ok (.iload_n 3, 1) := by decide +kernel
theorem dL_law_339 : decode cL_law 339 = .ok (.iconst 4, 1) := by decide +kernel
theorem dL_law_340 : decode cL_law 340 = .ok (.iadd, 1) := by decide +kernel
theorem dL_law_341 : decode cL_law 341 = .ok (.iaload, 1) := by decide +kernel
theorem dL_law_342 : decode cL_law 342 = .ok (.invokevirtual 46, 3) := by decide +kernel
theorem dL_law_345 : decode cL_law 345 = .ok (.aload_n 2, 1) := by decide +kernel
theorem dL_law_346 : decode cL_law 346 = .ok (.aload_n 0, 1) := by decide +kernel
theorem dL_law_347 : decode cL_law 347 = .ok (.iload_n 3, 1) := by decide +kernel
theorem dL_law_348 : decode cL_law 348 = .ok (.iconst 1, 1) := by decide +kernel
theorem dL_law_349 : decode cL_law 349 = .ok (.iadd, 1) := by decide +kernel
theorem dL_law_350 : decode cL_law 350 = .ok (.iaload, 1) := by decide +kernel
theorem dL_law_351 : decode cL_law 351 = .ok (.aload_n 0, 1) := by decide +kernel
theorem dL_law_352 : decode cL_law 352 = .ok (.iload_n 3, 1) := by decide +kernel
theorem dL_law_353 : decode cL_law 353 = .ok (.iconst 2, 1) := by decide +kernel
theorem dL_law_354 : decode cL_law 354 = .ok (.iadd, 1) := by decide +kernel
theorem dL_law_355 : decode cL_law 355 = .ok (.iaload, 1) := by decide +kernel
theorem dL_law_356 : decode cL_law 356 = .ok (.aload_n 0, 1) := by decide +kernel
theorem dL_law_357 : decode cL_law 357 = .ok (.iload_n 3, 1) := by decide +kernel
theorem dL_law_358 : decode cL_law 358 = .ok (.iconst 3, 1) := by decide +kernel
theorem dL_law_359 : decode cL_law 359 = .ok (.iadd, 1) := by decide +kernel
theorem dL_law_360 : decode cL_law 360 = .ok (.iaload, 1) := by decide +kernel
theorem dL_law_361 : decode cL_law 361 = .ok (.aload_n 0, 1) := by decide +kernel
theorem dL_law_362 : decode cL_law 362 = .ok (.iload_n 3, 1) := by decide +kernel
theorem dL_law_363 : decode cL_law 363 = .ok (.iconst 4, 1) := by decide +kernel
theorem dL_law_364 : decode cL_law 364 = .ok (.iadd, 1) := by decide +kernel
theorem dL_law_365 : decode cL_law 365 = .ok (.iaload, 1) := by decide +kernel
theorem dL_law_366 : decode cL_law 366 = .ok (.invokevirtual 50, 3) := by decide +kernel
theorem dL_law_369 : decode cL_law 369 = .ok (.if_icmp .eq 329, 3) := by decide +kernel
theorem dL_law_372 : decode cL_law 372 = .ok (.iconst 0, 1) := by decide +kernel
theorem dL_law_373 : decode cL_law 373 = .ok (.ireturn, 1) := by decide +kernel
theorem dL_law_374 : decode cL_law 374 = .ok (.aload_n 1, 1) := by decide +kernel
theorem dL_law_375 : decode cL_law 375 = .ok (.aload_n 0, 1) := by decide +kernel
theorem dL_law_376 : decode cL_law 376 = .ok (.iload_n 3, 1) := by decide +kernel
theorem dL_law_377 : decode cL_law 377 = .ok (.iconst 1, 1) := by decide +kernel
theorem dL_law_378 : decode cL_law 378 = .ok (.iadd, 1) := by decide +kernel
theorem dL_law_379 : decode cL_law 379 = .ok (.iaload, 1) := by decide +kernel
theorem dL_law_380 : decode cL_law 380 = .ok (.invokevirtual 51, 3) := by decide +kernel
theorem dL_law_383 : decode cL_law 383 = .ok (.aload_n 2, 1) := by decide +kernel
theorem dL_law_384 : decode cL_law 384 = .ok (.aload_n 0, 1) := by decide +kernel
theorem dL_law_385 : decode cL_law 385 = .ok (.iload_n 3, 1) := by decide +kernel
theorem dL_law_386 : decode cL_law 386 = .ok (.iconst 1, 1) := by decide +kernel
theorem dL_law_387 : decode cL_law 387 = .ok (.iadd, 1) := by decide +kernel
theorem dL_law_388 : decode cL_law 388 = .ok (.iaload, 1) := by decide +kernel
theorem dL_law_389 : decode cL_law 389 = .ok (.invokevirtual 54, 3) := by decide +kernel
theorem dL_law_392 : decode cL_law 392 = .ok (.if_icmp .eq 306, 3) := by decide +kernel
theorem dL_law_395 : decode cL_law 395 = .ok (.iconst 0, 1) := by decide +kernel
theorem dL_law_396 : decode cL_law 396 = .ok (.ireturn, 1) := by decide +kernel
theorem dL_law_397 : decode cL_law 397 = .ok (.aload_n 1, 1) := by decide +kernel
theorem dL_law_398 : decode cL_law 398 = .ok (.aload_n 0, 1) := by decide +kernel
theorem dL_law_399 : decode cL_law 399 = .ok (.iload_n 3, 1) := by decide +kernel
theorem dL_law_400 : decode cL_law 400 = .ok (.iconst 1, 1) := by decide +kernel
theorem dL_law_401 : decode cL_law 401 = .ok (.iadd, 1) := by decide +kernel
theorem dL_law_402 : decode cL_law 402 = .ok (.iaload, 1) := by decide +kernel
theorem dL_law_403 : decode cL_law 403 = .ok (.aload_n 0, 1) := by decide +kernel
theorem dL_law_404 : decode cL_law 404 = .ok (.iload_n 3, 1) := by decide +kernel
theorem dL_law_405 : decode cL_law 405 = .ok (.iconst 2, 1) := by decide +kernel
theorem dL_law_406 : decode cL_law 406 = .ok (.iadd, 1) := by decide +kernel
theorem dL_law_407 : decode cL_law 407 = .ok (.iaload, 1) := by decide +kernel
theorem dL_law_408 : decode cL_law 408 = .ok (.invokevirtual 55, 3) := by decide +kernel
theorem dL_law_411 : decode cL_law 411 = .ok (.aload_n 2, 1) := by decide +kernel
theorem dL_law_412 : decode cL_law 412 = .ok (.aload_n 0, 1) := by decide +kernel
theorem dL_law_413 : decode cL_law 413 = .ok (.iload_n 3, 1) := by decide +kernel
theorem dL_law_414 : decode cL_law 414 = .ok (.iconst 1, 1) := by decide +kernel
theorem dL_law_415 : decode cL_law 415 = .ok (.iadd, 1) := by decide +kernel
theorem dL_law_416 : decode cL_law 416 = .ok (.iaload, 1) := by decide +kernel
theorem dL_law_417 : decode cL_law 417 = .ok (.aload_n 0, 1) := by decide +kernel
theorem dL_law_418 : decode cL_law 418 = .ok (.iload_n 3, 1) := by decide +kernel
theorem dL_law_419 : decode cL_law 419 = .ok (.iconst 2, 1) := by decide +kernel
theorem dL_law_420 : decode cL_law 420 = .ok (.iadd, 1) := by decide +kernel
theorem dL_law_421 : decode cL_law 421 = .ok (.iaload, 1) := by decide +kernel
theorem dL_law_422 : decode cL_law 422 = .ok (.invokevirtual 58, 3) := by decide +kernel
theorem dL_law_425 : decode cL_law 425 = .ok (.if_icmp .eq 273, 3) := by decide +kernel
theorem dL_law_428 : decode cL_law 428 = .ok (.iconst 0, 1) := by decide +kernel
theorem dL_law_429 : decode cL_law 429 = .ok (.ireturn, 1) := by decide +kernel
theorem dL_law_430 : decode cL_law 430 = .ok (.aload_n 1, 1) := by decide +kernel
theorem dL_law_431 : decode cL_law 431 = .ok (.aload_n 0, 1) := by decide +kernel
theorem dL_law_432 : decode cL_law 432 = .ok (.iload_n 3, 1) := by decide +kernel
theorem dL_law_433 : decode cL_law 433 = .ok (.iconst 1, 1) := by decide +kernel
theorem dL_law_434 : decode cL_law 434 = .ok (.iadd, 1) := by decide +kernel
theorem dL_law_435 : decode cL_law 435 = .ok (.iaload, 1) := by decide +kernel
theorem dL_law_436 : decode cL_law 436 = .ok (.aload_n 0, 1) := by decide +kernel
theorem dL_law_437 : decode cL_law 437 = .ok (.iload_n 3, 1) := by decide +kernel
theorem dL_law_438 : decode cL_law 438 = .ok (.iconst 2, 1) := by decide +kernel
theorem dL_law_439 : decode cL_law 439 = .ok (.iadd, 1) := by decide +kernel
theorem dL_law_440 : decode cL_law 440 = .ok (.iaload, 1) := by decide +kernel
theorem dL_law_441 : decode cL_law 441 = .ok (.invokevirtual 59, 3) := by decide +kernel
theorem dL_law_444 : decode cL_law 444 = .ok (.aload_n 2, 1) := by decide +kernel
theorem dL_law_445 : decode cL_law 445 = .ok (.aload_n 0, 1) := by decide +kernel
theorem dL_law_446 : decode cL_law 446 = .ok (.iload_n 3, 1) := by decide +kernel
theorem dL_law_447 : decode cL_law 447 = .ok (.iconst 1, 1) := by decide +kernel
theorem dL_law_448 : decode cL_law 448 = .ok (.iadd, 1) := by decide +kernel
theorem dL_law_449 : decode cL_law 449 = .ok (.iaload, 1) := by decide +kernel
theorem dL_law_450 : decode cL_law 450 = .ok (.aload_n 0, 1) := by decide +kernel
theorem dL_law_451 : decode cL_law 451 = .ok (.iload_n 3, 1) := by decide +kernel
theorem dL_law_452 : decode cL_law 452 = .ok (.iconst 2, 1) := by decide +kernel
theorem dL_law_453 : decode cL_law 453 = .ok (.iadd, 1) := by decide +kernel
theorem dL_law_454 : decode cL_law 454 = .ok (.iaload, 1) := by decide +kernel
theorem dL_law_455 : decode cL_law 455 = .ok (.invokevirtual 62, 3) := by decide +kernel
theorem dL_law_458 : decode cL_law 458 = .ok (.if_icmp .eq 240, 3) := by decide +kernel
theorem dL_law_461 : decode cL_law 461 = .ok (.iconst 0, 1) := by decide +kernel
theorem dL_law_462 : decode cL_law 462 = .ok (.ireturn, 1) := by decide +kernel
theorem dL_law_463 : decode cL_law 463 = .ok (.aload_n 1, 1) := by decide +kernel
theorem dL_law_464 : decode cL_law 464 = .ok (.aload_n 0, 1) := by decide +kernel
theorem dL_law_465 : decode cL_law 465 = .ok (.iload_n 3, 1) := by decide +kernel
theorem dL_law_466 : decode cL_law 466 = .ok (.iconst 1, 1) := by decide +kernel
theorem dL_law_467 : decode cL_law 467 = .ok (.iadd, 1) := by decide +kernel
theorem dL_law_468 : decode cL_law 468 = .ok (.iaload, 1) := by decide +kernel
theorem dL_law_469 : decode cL_law 469 = .ok (.invokevirtual 63, 3) := by decide +kernel
theorem dL_law_472 : decode cL_law 472 = .ok (.aload_n 2, 1) := by decide +kernel
theorem dL_law_473 : decode cL_law 473 = .ok (.aload_n 0, 1) := by decide +kernel
theorem dL_law_474 : decode cL_law 474 = .ok (.iload_n 3, 1) := by decide +kernel
theorem dL_law_475 : decode cL_law 475 = .ok (.iconst 1, 1) := by decide +kernel
theorem dL_law_476 : decode cL_law 476 = .ok (.iadd, 1) := by decide +kernel
theorem dL_law_477 : decode cL_law 477 = .ok (.iaload, 1) := by decide +kernel
theorem dL_law_478 : decode cL_law 478 = .ok (.invokevirtual 66, 3) := by decide +kernel
theorem dL_law_481 : decode cL_law 481 = .ok (.if_icmp .eq 217, 3) := by decide +kernel
theorem dL_law_484 : decode cL_law 484 = .ok (.iconst 0, 1) := by decide +kernel
theorem dL_law_485 : decode cL_law 485 = .ok (.ireturn, 1) := by decide +kernel
theorem dL_law_486 : decode cL_law 486 = .ok (.aload_n 1, 1) := by decide +kernel
theorem dL_law_487 : decode cL_law 487 = .ok (.aload_n 0, 1) := by decide +kernel
theorem dL_law_488 : decode cL_law 488 = .ok (.iload_n 3, 1) := by decide +kernel
theorem dL_law_489 : decode cL_law 489 = .ok (.iconst 1, 1) := by decide +kernel
theorem dL_law_490 : decode cL_law 490 = .ok (.iadd, 1) := by decide +kernel
theorem dL_law_491 : decode cL_law 491 = .ok (.iaload, 1) := by decide +kernel
theorem dL_law_492 : decode cL_law 492 = .ok (.aload_n 0, 1) := by decide +kernel
theorem dL_law_493 : decode cL_law 493 = .ok (.iload_n 3, 1) := by decide +kernel
theorem dL_law_494 : decode cL_law 494 = .ok (.iconst 2, 1) := by decide +kernel
theorem dL_law_495 : decode cL_law 495 = .ok (.iadd, 1) := by decide +kernel
theorem dL_law_496 : decode cL_law 496 = .ok (.iaload, 1) := by decide +kernel
theorem dL_law_497 : decode cL_law 497 = .ok (.invokevirtual 67, 3) := by decide +kernel
theorem dL_law_500 : decode cL_law 500 = .ok (.aload_n 2, 1) := by decide +kernel
theorem dL_law_501 : decode cL_law 501 = .ok (.aload_n 0, 1) := by decide +kernel
theorem dL_law_502 : decode cL_law 502 = .ok (.iload_n 3, 1) := by decide +kernel
theorem dL_law_503 : decode cL_law 503 = .ok (.iconst 1, 1) := by decide +kernel
theorem dL_law_504 : decode cL_law 504 = .ok (.iadd, 1) := by decide +kernel
theorem dL_law_505 : decode cL_law 505 = .ok (.iaload, 1) := by decide +kernel
theorem dL_law_506 : decode cL_law 506 = .ok (.aload_n 0, 1) := by decide +kernel
theorem dL_law_507 : decode cL_law 507 = .ok (.iload_n 3, 1) := by decide +kernel
theorem dL_law_508 : decode cL_law 508 = .ok (.iconst 2, 1) := by decide +kernel
theorem dL_law_509 : decode cL_law 509 = .ok (.iadd, 1) := by decide +kernel
theorem dL_law_510 : decode cL_law 510 = .ok (.iaload, 1) := by decide +kernel
theorem dL_law_511 : decode cL_law 511 = .ok (.invokevirtual 70, 3) := by decide +kernel
theorem dL_law_514 : decode cL_law 514 = .ok (.if_icmp .eq 184, 3) := by decide +kernel
theorem dL_law_517 : decode cL_law 517 = .ok (.iconst 0, 1) := by decide +kernel
theorem dL_law_518 : decode cL_law 518 = .ok (.ireturn, 1) := by decide +kernel
theorem dL_law_519 : decode cL_law 519 = .ok (.aload_n 1, 1) := by decide +kernel
theorem dL_law_520 : decode cL_law 520 = .ok (.invokevirtual 71, 3) := by decide +kernel
theorem dL_law_523 : decode cL_law 523 = .ok (.aload_n 2, 1) := by decide +kernel
theorem dL_law_524 : decode cL_law 524 = .ok (.invokevirtual 74, 3) := by decide +kernel
theorem dL_law_527 : decode cL_law 527 = .ok (.if_icmp .eq 171, 3) := by decide +kernel
theorem dL_law_530 : decode cL_law 530 = .ok (.iconst 0, 1) := by decide +kernel
theorem dL_law_531 : decode cL_law 531 = .ok (.ireturn, 1) := by decide +kernel
theorem dL_law_532 : decode cL_law 532 = .ok (.aload_n 1, 1) := by decide +kernel
theorem dL_law_533 : decode cL_law 533 = .ok (.aload_n 0, 1) := by decide +kernel
theorem dL_law_534 : decode cL_law 534 = .ok (.iload_n 3, 1) := by decide +kernel
theorem dL_law_535 : decode cL_law 535 = .ok (.iconst 1, 1) := by decide +kernel
theorem dL_law_536 : decode cL_law 536 = .ok (.iadd, 1) := by decide +kernel
theorem dL_law_537 : decode cL_law 537 = .ok (.iaload, 1) := by decide +kernel
theorem dL_law_538 : decode cL_law 538 = .ok (.aload_n 0, 1) := by decide +kernel
theorem dL_law_539 : decode cL_law 539 = .ok (.iload_n 3, 1) := by decide +kernel
theorem dL_law_540 : decode cL_law 540 = .ok (.iconst 2, 1) := by decide +kernel
theorem dL_law_541 : decode cL_law 541 = .ok (.iadd, 1) := by decide +kernel
theorem dL_law_542 : decode cL_law 542 = .ok (.iaload, 1) := by decide +kernel
theorem dL_law_543 : decode cL_law 543 = .ok (.invokevirtual 75, 3) := by decide +kernel
theorem dL_law_546 : decode cL_law 546 = .ok (.aload_n 2, 1) := by decide +kernel
theorem dL_law_547 : decode cL_law 547 = .ok (.aload_n 0, 1) := by decide +kernel
theorem dL_law_548 : decode cL_law 548 = .ok (.iload_n 3, 1) := by decide +kernel
theorem dL_law_549 : decode cL_law 549 = .ok (.iconst 1, 1) := by decide +kernel
theorem dL_law_550 : decode cL_law 550 = .ok (.iadd, 1) := by decide +kernel
theorem dL_law_551 : decode cL_law 551 = .ok (.iaload, 1) := by decide +kernel
theorem dL_law_552 : decode cL_law 552 = .ok (.aload_n 0, 1) := by decide +kernel
theorem dL_law_553 : decode cL_law 553 = .ok (.iload_n 3, 1) := by decide +kernel
theorem dL_law_554 : decode cL_law 554 = .ok (.iconst 2, 1) := by decide +kernel
theorem dL_law_555 : decode cL_law 555 = .ok (.iadd, 1) := by decide +kernel
theorem dL_law_556 : decode cL_law 556 = .ok (.iaload, 1) := by decide +kernel
theorem dL_law_557 : decode cL_law 557 = .ok (.invokevirtual 78, 3) := by decide +kernel
theorem dL_law_560 : decode cL_law 560 = .ok (.if_icmp .eq 138, 3) := by decide +kernel
theorem dL_law_563 : decode cL_law 563 = .ok (.iconst 0, 1) := by decide +kernel
theorem dL_law_564 : decode cL_law 564 = .ok (.ireturn, 1) := by decide +kernel
theorem dL_law_565 : decode cL_law 565 = .ok (.aload_n 1, 1) := by decide +kernel
theorem dL_law_566 : decode cL_law 566 = .ok (.aload_n 0, 1) := by decide +kernel
theorem dL_law_567 : decode cL_law 567 = .ok (.iload_n 3, 1) := by decide +kernel
theorem dL_law_568 : decode cL_law 568 = .ok (.iconst 1, 1) := by decide +kernel
theorem dL_law_569 : decode cL_law 569 = .ok (.iadd, 1) := by decide +kernel
theorem dL_law_570 : decode cL_law 570 = .ok (.iaload, 1) := by decide +kernel
theorem dL_law_571 : decode cL_law 571 = .ok (.aload_n 0, 1) := by decide +kernel
theorem dL_law_572 : decode cL_law 572 = .ok (.iload_n 3, 1) := by decide +kernel
theorem dL_law_573 : decode cL_law 573 = .ok (.iconst 2, 1) := by decide +kernel
theorem dL_law_574 : decode cL_law 574 = .ok (.iadd, 1) := by decide +kernel
theorem dL_law_575 : decode cL_law 575 = .ok (.iaload, 1) := by decide +kernel
theorem dL_law_576 : decode cL_law 576 = .ok (.aload_n 0, 1) := by decide +kernel
theorem dL_law_577 : decode cL_law 577 = .ok (.iload_n 3, 1) := by decide +kernel
theorem dL_law_578 : decode cL_law 578 = .ok (.iconst 3, 1) := by decide +kernel
theorem dL_law_579 : decode cL_law 579 = .ok (.iadd, 1) := by decide +kernel
theorem dL_law_580 : decode cL_law 580 = .ok (.iaload, 1) := by decide +kernel
theorem dL_law_581 : decode cL_law 581 = .ok (.invokevirtual 79, 3) := by decide +kernel
theorem dL_law_584 : decode cL_law 584 = .ok (.aload_n 2, 1) := by decide +kernel
theorem dL_law_585 : decode cL_law 585 = .ok (.aload_n 0, 1) := by decide +kernel
theorem dL_law_586 : decode cL_law 586 = .ok (.iload_n 3, 1) := by decide +kernel
theorem dL_law_587 : decode cL_law 587 = .ok (.iconst 1, 1) := by decide +kernel
theorem dL_law_588 : decode cL_law 588 = .ok (.iadd, 1) := by decide +kernel
theorem dL_law_589 : decode cL_law 589 = .ok (.iaload, 1) := by decide +kernel
theorem dL_law_590 : decode cL_law 590 = .ok (.aload_n 0, 1) := by decide +kernel
theorem dL_law_591 : decode cL_law 591 = .ok (.iload_n 3, 1) := by decide +kernel
theorem dL_law_592 : decode cL_law 592 = .ok (.iconst 2, 1) := by decide +kernel
theorem dL_law_593 : decode cL_law 593 = .ok (.iadd, 1) := by decide +kernel
theorem dL_law_594 : decode cL_law 594 = .ok (.iaload, 1) := by decide +kernel
theorem dL_law_595 : decode cL_law 595 = .ok (.aload_n 0, 1) := by decide +kernel
theorem dL_law_596 : decode cL_law 596 = .ok (.iload_n 3, 1) := by decide +kernel
theorem dL_law_597 : decode cL_law 597 = .ok (.iconst 3, 1) := by decide +kernel
theorem dL_law_598 : decode cL_law 598 = .ok (.iadd, 1) := by decide +kernel
theorem dL_law_599 : decode cL_law 599 = .ok (.iaload, 1) := by decide +kernel
theorem dL_law_600 : decode cL_law 600 = .ok (.invokevirtual 82, 3) := by decide +kernel
theorem dL_law_603 : decode cL_law 603 = .ok (.if_icmp .eq 95, 3) := by decide +kernel
theorem dL_law_606 : decode cL_law 606 = .ok (.iconst 0, 1) := by decide +kernel
theorem dL_law_607 : decode cL_law 607 = .ok (.ireturn, 1) := by decide +kernel
theorem dL_law_608 : decode cL_law 608 = .ok (.aload_n 1, 1) := by decide +kernel
theorem dL_law_609 : decode cL_law 609 = .ok (.aload_n 0, 1) := by decide +kernel
theorem dL_law_610 : decode cL_law 610 = .ok (.iload_n 3, 1) := by decide +kernel
theorem dL_law_611 : decode cL_law 611 = .ok (.iconst 1, 1) := by decide +kernel
theorem dL_law_612 : decode cL_law 612 = .ok (.iadd, 1) := by decide +kernel
theorem dL_law_613 : decode cL_law 613 = .ok (.iaload, 1) := by decide +kernel
theorem dL_law_614 : decode cL_law 614 = .ok (.invokevirtual 83, 3) := by decide +kernel
theorem dL_law_617 : decode cL_law 617 = .ok (.aload_n 2, 1) := by decide +kernel
theorem dL_law_618 : decode cL_law 618 = .ok (.aload_n 0, 1) := by decide +kernel
theorem dL_law_619 : decode cL_law 619 = .ok (.iload_n 3, 1) := by decide +kernel
theorem dL_law_620 : decode cL_law 620 = .ok (.iconst 1, 1) := by decide +kernel
theorem dL_law_621 : decode cL_law 621 = .ok (.iadd, 1) := by decide +kernel
theorem dL_law_622 : decode cL_law 622 = .ok (.iaload, 1) := by decide +kernel
theorem dL_law_623 : decode cL_law 623 = .ok (.invokevirtual 86, 3) := by decide +kernel
theorem dL_law_626 : decode cL_law 626 = .ok (.if_icmp .eq 72, 3) := by decide +kernel
theorem dL_law_629 : decode cL_law 629 = .ok (.iconst 0, 1) := by decide +kernel
theorem dL_law_630 : decode cL_law 630 = .ok (.ireturn, 1) := by decide +kernel
theorem dL_law_631 : decode cL_law 631 = .ok (.aload_n 1, 1) := by decide +kernel
theorem dL_law_632 : decode cL_law 632 = .ok (.aload_n 0, 1) := by decide +kernel
theorem dL_law_633 : decode cL_law 633 = .ok (.iload_n 3, 1) := by decide +kernel
theorem dL_law_634 : decode cL_law 634 = .ok (.iconst 1, 1) := by decide +kernel
theorem dL_law_635 : decode cL_law 635 = .ok (.iadd, 1) := by decide +kernel
theorem dL_law_636 : decode cL_law 636 = .ok (.iaload, 1) := by decide +kernel
theorem dL_law_637 : decode cL_law 637 = .ok (.aload_n 0, 1) := by decide +kernel
theorem dL_law_638 : decode cL_law 638 = .ok (.iload_n 3, 1) := by decide +kernel
theorem dL_law_639 : decode cL_law 639 = .ok (.iconst 2, 1) := by decide +kernel
theorem dL_law_640 : decode cL_law 640 = .ok (.iadd, 1) := by decide +kernel
theorem dL_law_641 : decode cL_law 641 = .ok (.iaload, 1) := by decide +kernel
theorem dL_law_642 : decode cL_law 642 = .ok (.invokevirtual 87, 3) := by decide +kernel
theorem dL_law_645 : decode cL_law 645 = .ok (.aload_n 2, 1) := by decide +kernel
theorem dL_law_646 : decode cL_law 646 = .ok (.aload_n 0, 1) := by decide +kernel
theorem dL_law_647 : decode cL_law 647 = .ok (.iload_n 3, 1) := by decide +kernel
theorem dL_law_648 : decode cL_law 648 = .ok (.iconst 1, 1) := by decide +kernel
theorem dL_law_649 : decode cL_law 649 = .ok (.iadd, 1) := by decide +kernel
theorem dL_law_650 : decode cL_law 650 = .ok (.iaload, 1) := by decide +kernel
theorem dL_law_651 : decode cL_law 651 = .ok (.aload_n 0, 1) := by decide +kernel
theorem dL_law_652 : decode cL_law 652 = .ok (.iload_n 3, 1) := by decide +kernel
theorem dL_law_653 : decode cL_law 653 = .ok (.iconst 2, 1) := by decide +kernel
theorem dL_law_654 : decode cL_law 654 = .ok (.iadd, 1) := by decide +kernel
theorem dL_law_655 : decode cL_law 655 = .ok (.iaload, 1) := by decide +kernel
theorem dL_law_656 : decode cL_law 656 = .ok (.invokevirtual 91, 3) := by decide +kernel
theorem dL_law_659 : decode cL_law 659 = .ok (.lcmp, 1) := by decide +kernel
theorem dL_law_660 : decode cL_law 660 = .ok (.ifCond .eq 38, 3) := by decide +kernel
theorem dL_law_663 : decode cL_law 663 = .ok (.iconst 0, 1) := by decide +kernel
theorem dL_law_664 : decode cL_law 664 = .ok (.ireturn, 1) := by decide +kernel
theorem dL_law_665 : decode cL_law 665 = .ok (.aload_n 1, 1) := by decide +kernel
theorem dL_law_666 : decode cL_law 666 = .ok (.aload_n 0, 1) := by decide +kernel
theorem dL_law_667 : decode cL_law 667 = .ok (.iload_n 3, 1) := by decide +kernel
theorem dL_law_668 : decode cL_law 668 = .ok (.iconst 1, 1) := by decide +kernel
theorem dL_law_669 : decode cL_law 669 = .ok (.iadd, 1) := by decide +kernel
theorem dL_law_670 : decode cL_law 670 = .ok (.iaload, 1) := by decide +kernel
theorem dL_law_671 : decode cL_law 671 = .ok (.aload_n 0, 1) := by decide +kernel
theorem dL_law_672 : decode cL_law 672 = .ok (.iload_n 3, 1) := by decide +kernel
theorem dL_law_673 : decode cL_law 673 = .ok (.iconst 2, 1) := by decide +kernel
theorem dL_law_674 : decode cL_law 674 = .ok (.iadd, 1) := by decide +kernel
theorem dL_law_675 : decode cL_law 675 = .ok (.iaload, 1) := by decide +kernel
theorem dL_law_676 : decode cL_law 676 = .ok (.invokevirtual 92, 3) := by decide +kernel
theorem dL_law_679 : decode cL_law 679 = .ok (.aload_n 2, 1) := by decide +kernel
theorem dL_law_680 : decode cL_law 680 = .ok (.aload_n 0, 1) := by decide +kernel
theorem dL_law_681 : decode cL_law 681 = .ok (.iload_n 3, 1) := by decide +kernel
theorem dL_law_682 : decode cL_law 682 = .ok (.iconst 1, 1) := by decide +kernel
theorem dL_law_683 : decode cL_law 683 = .ok (.iadd, 1) := by decide +kernel
theorem dL_law_684 : decode cL_law 684 = .ok (.iaload, 1) := by decide +kernel
theorem dL_law_685 : decode cL_law 685 = .ok (.aload_n 0, 1) := by decide +kernel
theorem dL_law_686 : decode cL_law 686 = .ok (.iload_n 3, 1) := by decide +kernel
theorem dL_law_687 : decode cL_law 687 = .ok (.iconst 2, 1) := by decide +kernel
theorem dL_law_688 : decode cL_law 688 = .ok (.iadd, 1) := by decide +kernel
theorem dL_law_689 : decode cL_law 689 = .ok (.iaload, 1) := by decide +kernel
theorem dL_law_690 : decode cL_law 690 = .ok (.invokevirtual 95, 3) := by decide +kernel
theorem dL_law_693 : decode cL_law 693 = .ok (.if_icmp .eq 5, 3) := by decide +kernel
theorem dL_law_696 : decode cL_law 696 = .ok (.iconst 0, 1) := by decide +kernel
theorem dL_law_697 : decode cL_law 697 = .ok (.ireturn, 1) := by decide +kernel
theorem dL_law_698 : decode cL_law 698 = .ok (.iinc 3 5, 3) := by decide +kernel
theorem dL_law_701 : decode cL_law 701 = .ok (.goto (-683), 3) := by decide +kernel
theorem dL_law_704 : decode cL_law 704 = .ok (.iconst 1, 1) := by decide +kernel
theorem dL_law_705 : decode cL_law 705 = .ok (.ireturn, 1) := by decide +kernel
end
section
/-! kinds: 0 .. 12 the classes (RX0 ..), 20 .. the arrays by the field that holds them, 100 .. 102 the static arrays, 103 the script -/
def zRX : Nat → String := fun k => match k with
  | 0 => RX0
  | 1 => RX1
  | 2 => RX2
  | 3 => RX3
  | 4 => RX4
  | 5 => RX5
  | 6 => RX6
  | 7 => RX7
  | 8 => RX8
  | 9 => RX9
  | 10 => RX10
  | 11 => RX11
  | _ => RX12
def zTX : Nat → u_T := fun k => match k with
  | 0 => TX0
  | 1 => TX1
  | 2 => TX2
  | 3 => TX3
  | 4 => TX4
  | 5 => TX5
  | 6 => TX6
  | 7 => TX7
  | 8 => TX8
  | 9 => TX9
  | 10 => TX10
  | 11 => TX11
  | _ => TX12
def zNl : List Nat := [7, 4, 7, 9, 8, 5, 8, 4, 18, 3, 10, 4, 68]
def zN (c : Nat) : Nat := zNl.getD c 0
def zTl : List (List Nat) := [[0, 0, 0, 0, 0, 0, 0], [20, 0, 0, 30], [31, 32, 33, 34, 35, 36, 0], [37, 0, 38, 0, 39, 0, 40, 17, 15], [16, 0, 2, 14, 14, 19, 14, 14], [41, 42, 43, 0, 0], [0, 0, 0, 0, 0, 44, 45, 0], [46, 47, 48, 0], [13, 59, 49, 0, 50, 0, 51, 0, 52, 0, 12, 0, 0, 0, 0, 0, 0, 0], [0, 0, 14], [53, 54, 55, 56, 0, 0, 0, 57, 58, 0], [13, 59, 0, 18], [0, 60, 61, 62, 0, 63, 0, 64, 65, 66, 67, 68, 0, 69, 70, 71, 0, 72, 73, 74, 75, 0, 0, 76, 77, 0, 78, 79, 80, 81, 82, 83, 84, 0, 0, 85, 86, 87, 88, 89, 90, 91, 92, 0, 0, 0, 93, 94, 95, 96, 97, 98, 0, 0, 0, 0, 0, 0, 0, 0, 2, 0, 0, 99, 100, 101, 102, 0]]
def zT (c j : Nat) : Nat := (zTl.getD c []).getD j 0
def zEl : List Nat := [14, 0, 0, 0, 0, 0, 0, 16, 0, 0, 1, 0, 0, 0, 0, 0, 0, 0, 0, 11, 10, 19, 14, 0, 0, 0, 0, 0, 0, 20, 0, 0, 0, 0, 0, 0, 0, 0, 1, 0, 0, 0, 0, 0, 0, 0, 0, 2, 0, 0, 0, 0, 0, 0, 0, 0, 0, 0, 0, 0, 2, 0, 0, 0, 0, 0, 0, 0, 0, 0, 0, 0, 0]
def zE (c : Nat) : Nat := if c < 20 then 0 else zEl.getD (c - 20) 0
def zLl : List Nat := [8, 16, 16, 16, 16, 16, 16, 60, 60, 60, 8, 60, 60, 60, 10, 10, 30, 30, 30, 11, 91, 91, 160, 40, 40, 40, 40, 8, 8, 12, 60, 60, 60, 60, 30, 30, 30, 30, 8, 60, 60, 60, 12, 480, 480, 480, 50, 50, 150, 150, 150, 150, 150, 150, 88, 180, 180, 180, 180, 180, 180, 180, 3600, 16, 16, 16, 16, 16, 16, 60, 60, 60, 1200]
def zL (c : Nat) : Nat := if c < 20 then 0 else zLl.getD (c - 20) 0
-- 20 Cast_slots elem 14 len 8
-- 21 Failures_kinds elem 0 len 16
-- 22 Failures_acts elem 0 len 16
-- 23 Failures_lines elem 0 len 16
-- 24 Failures_parts elem 0 len 16
-- 25 Failures_causes elem 0 len 16
-- 26 Failures_unders elem 0 len 16
-- 27 House_parts elem 16 len 60
-- 28 House_cleaning elem 0 len 60
-- 29 House_held elem 0 len 60
-- 30 House_charged elem 1 len 8
-- 31 Log_parts elem 0 len 60
-- 32 Log_hows elem 0 len 60
-- 33 Log_losses elem 0 len 60
-- 34 Part_traceActs elem 0 len 10
-- 35 Part_traceLines elem 0 len 10
-- 36 Plans_parts elem 0 len 30
-- 37 Plans_left elem 0 len 30
-- 38 Plans_whats elem 0 len 30
-- 39 Play_casts elem 11 len 11
-- 40 Play_blocks elem 10 len 91
-- 41 Play_scopes elem 19 len 91
-- 42 Play_loans elem 14 len 160
-- 43 Script_ops elem 0 len 40
-- 44 Script_as elem 0 len 40
-- 45 Script_bs elem 0 len 40
-- 46 Script_nexts elem 0 len 40
-- 47 Script_begins elem 0 len 8
-- 48 Script_marks elem 0 len 8
-- 49 HireScopes_scripts elem 20 len 12
-- 50 HireScopesModel_sortOf elem 0 len 60
-- 51 HireScopesModel_price elem 0 len 60
-- 52 HireScopesModel_stateOf elem 0 len 60
-- 53 HireScopesModel_line elem 0 len 60
-- 54 HireScopesModel_planPart elem 0 len 30
-- 55 HireScopesModel_planAt elem 0 len 30
-- 56 HireScopesModel_planWhat elem 0 len 30
-- 57 HireScopesModel_planMet elem 0 len 30
-- 58 HireScopesModel_charged elem 1 len 8
-- 59 HireScopesModel_logPart elem 0 len 60
-- 60 HireScopesModel_logHow elem 0 len 60
-- 61 HireScopesModel_logLost elem 0 len 60
-- 62 HireScopesModel_lineMany elem 0 len 12
-- 63 HireScopesModel_ops elem 0 len 480
-- 64 HireScopesModel_as elem 0 len 480
-- 65 HireScopesModel_bs elem 0 len 480
-- 66 HireScopesModel_opens elem 0 len 50
-- 67 HireScopesModel_hasFinish elem 2 len 50
-- 68 HireScopesModel_pile elem 0 len 150
-- 69 HireScopesModel_pileLine elem 0 len 150
-- 70 HireScopesModel_pileWith elem 0 len 150
-- 71 HireScopesModel_pileWay elem 0 len 150
-- 72 HireScopesModel_pileFailure elem 0 len 150
-- 73 HireScopesModel_pileGuarded elem 0 len 150
-- 74 HireScopesModel_slots elem 0 len 88
-- 75 HireScopesModel_loanPart elem 0 len 180
-- 76 HireScopesModel_loanSort elem 0 len 180
-- 77 HireScopesModel_loanOf elem 0 len 180
-- 78 HireScopesModel_loanScope elem 0 len 180
-- 79 HireScopesModel_loanOrder elem 0 len 180
-- 80 HireScopesModel_loanOpen elem 2 len 180
-- 81 HireScopesModel_loanTraces elem 0 len 180
-- 82 HireScopesModel_loanTrace elem 0 len 3600
-- 83 HireScopesModel_failureKind elem 0 len 16
-- 84 HireScopesModel_failureAct elem 0 len 16
-- 85 HireScopesModel_failureLine elem 0 len 16
-- 86 HireScopesModel_failurePart elem 0 len 16
-- 87 HireScopesModel_failureCause elem 0 len 16
-- 88 HireScopesModel_failureUnder elem 0 len 16
-- 89 HireScopesModel_leakPart elem 0 len 60
-- 90 HireScopesModel_leakCustomer elem 0 len 60
-- 91 HireScopesModel_leakTraces elem 0 len 60
-- 92 HireScopesModel_leakTrace elem 0 len 1200
def zft0 (t : Nat) : FieldType := if t = 0 then .int else if t = 1 then .long else if t = 2 then .boolean else .object (zRX (t - 10))
def zft (t : Nat) : FieldType := if t < 30 then zft0 t else .array (zft0 (zE (t - 10)))
end
section
/-! OUR PICTURE OF THE HEAP: kinds, numbers, slots; values are Ints. Our own definitions over the kit's machine. -/
abbrev zV : Type := Int ⊕ (Int ⊕ (Nat × Int))
abbrev zH : Type := (Nat → Int) × ((Nat → Int → Int → Int) × ((Nat → Int → Nat) × (Nat × Nat)))
abbrev zG : Type := Nat × (Nat → Nat × Nat)
abbrev vi (x : Int) : zV := Sum.inl x
abbrev vl (x : Int) : zV := Sum.inr (Sum.inl x)
abbrev vr (k : Nat) (x : Int) : zV := Sum.inr (Sum.inr (k, x))
def cn (h : zH) (c : Nat) : Int := h.1 c
def gt (h : zH) (c : Nat) (i j : Int) : Int := h.2.1 c i j
def ps (h : zH) (c : Nat) (i : Int) : Nat := h.2.2.1 c i
def nn (h : zH) : Nat := h.2.2.2.1
def us (h : zH) : Nat := h.2.2.2.2
def pt (h : zH) (c : Nat) (i j v : Int) : zH := (h.1, (fun c' i' j' => if c' = c ∧ i' = i ∧ j' = j then v else h.2.1 c' i' j', h.2.2))
def zsT (c j : Nat) : Nat := if c < 20 then zT c j else zE c
def zdf (c : Nat) (j : Int) : Int := if zsT c j.toNat < 10 then 0 else -1
def nw (h : zH) (c sz : Nat) : zH :=
  (fun c' => if c' = c then h.1 c + 1 else h.1 c', (fun c' i' j' => if c' = c ∧ i' = h.1 c then zdf c j' else h.2.1 c' i' j', (fun c' i' => if c' = c ∧ i' = h.1 c then h.2.2.2.1 else h.2.2.1 c' i', (h.2.2.2.1 + 1, h.2.2.2.2 + sz))))
def ad (G : zG) (h : zH) (c : Nat) (i : Int) : Nat := if c < 100 then G.1 + ps h c i else (G.2 c).1
def zsN (c : Nat) : Nat := if c < 20 then zN c else zL c
def mk (t : Nat) (x : Int) : zV := if t = 1 then vl x else if t < 10 then vi x else vr (t - 10) x
def cv (G : zG) (h : zH) : zV → Value
  | Sum.inl x => .int (Int32.ofInt x)
  | Sum.inr (Sum.inl x) => .long (Int64.ofInt x)
  | Sum.inr (Sum.inr q) => if q.2 < 0 then .null else .ref (ad G h q.1 q.2)
def rgI (x : Int) : Prop := -2147483648 ≤ x ∧ x < 2147483648
def rgL (x : Int) : Prop := -9223372036854775808 ≤ x ∧ x < 9223372036854775808
def okT (h : zH) (t : Nat) (x : Int) : Prop := (t = 0 → rgI x) ∧ (t = 1 → rgL x) ∧ (t = 2 → x = 0 ∨ x = 1) ∧ (3 ≤ t → t < 10 → False) ∧ (10 ≤ t → x = -1 ∨ (0 ≤ x ∧ x < cn h (t - 10)))
def okV (h : zH) : zV → Prop
  | Sum.inl x => rgI x
  | Sum.inr (Sum.inl x) => rgL x
  | Sum.inr (Sum.inr q) => q.2 = -1 ∨ (0 ≤ q.2 ∧ q.2 < cn h q.1)
theorem okV_mk {h : zH} {t : Nat} {x : Int} (k : okT h t x) : okV h (mk t x) := by
  obtain ⟨k0, k1, k2, k3, k4⟩ := k
  unfold mk
  by_cases h1 : t = 1
  · rw [if_pos h1]; exact k1 h1
  · rw [if_neg h1]
    by_cases h2 : t < 10
    · rw [if_pos h2]
      show rgI x
      by_cases h3 : 3 ≤ t
      · exact (k3 h3 h2).elim
      · rcases (show t = 0 ∨ t = 2 by omega) with rfl | rfl
        · exact k0 rfl
        · rcases k2 rfl with rfl | rfl <;> exact ⟨by decide, by decide⟩
    · rw [if_neg h2]
      exact k4 (by omega)
def zAr (U : State) (ty : FieldType) (cA : ClassId) : Prop := ArrOfT U cA ty ∧ va_RA U cA ty
def zCell (D : va_G) (G : zG) (U : State) (H : Heap) (h : zH) (c : Nat) (i : Int) : Prop :=
  (c < 20 → c < 13 ∧ t_OB (ad G h c i) (D.1 c) (zN c) (D.2 c) H (fun j => cv G h (mk (zT c j) (gt h c i j)))) ∧
  (20 ≤ c → ∃ cA, H[ad G h c i]? = some (arrV cA (zL c) (fun j => cv G h (mk (zE c) (gt h c i j)))) ∧ zAr U (zft (zE c)) cA)
def zsn (c : Nat) : String := if c = 100 then "LARGEST_A" else if c = 101 then "LARGEST_B" else "KIND_ABOVE"
def zSt (G : zG) (U : State) (H : Heap) (h : zH) (c : Nat) : Prop :=
  cn h c = 1 ∧ (G.2 c).1 < G.1 ∧ ((G.2 c).2 < 2147483648 ∧ gt h c 0 (-1) = ((G.2 c).2 : Int)) ∧ (∃ cell : Cell, H[(G.2 c).1]? = some cell ∧ U.isArrayOf cell .int ∧ cell.vm ≠ .unknown ∧ (G.2 c).2 ≤ cell.slots.size ∧ cell.slots.size.toInt32 = Int32.ofNat (G.2 c).2 ∧ ∀ j : Nat, j < (G.2 c).2 → cell.slots[j]? = some (.int (Int32.ofInt (gt h c 0 j)))) ∧ ∀ j : Nat, j < (G.2 c).2 → rgI (gt h c 0 j)
def HR (D : va_G) (G : zG) (U : State) (H : Heap) (h : zH) : Prop :=
  H.size = G.1 + nn h ∧ (∀ c, 0 ≤ cn h c) ∧
  (∀ (c : Nat) (i : Int), c < 100 → 0 ≤ i → i < cn h c → ps h c i < nn h ∧ zCell D G U H h c i ∧ ∀ j : Nat, j < zsN c → okT h (zsT c j) (gt h c i j)) ∧
  (∀ (c : Nat) (i : Int) (c' : Nat) (i' : Int), c < 100 → c' < 100 → 0 ≤ i → i < cn h c → 0 ≤ i' → i' < cn h c' → ps h c i = ps h c' i' → c = c' ∧ i = i') ∧
  (∀ c : Nat, 100 ≤ c → c < 104 → zSt G U H h c) ∧
  (∀ c : Nat, 100 ≤ c → c < 103 → va_Z "HireScopes" (zsn c) "[I" (.ref (G.2 c).1) (fun q => G.1 ≤ q) U H)
theorem zAr.moved {u U : State} (hvm : u.vm.Alike U.vm) {ty : FieldType} {cA : ClassId} (h : zAr u ty cA) : zAr U ty cA := ⟨arrOfT_moved hvm h.1, h.2.moved hvm⟩
theorem HR.moved {D : va_G} {G : zG} {u U : State} {H : Heap} {h : zH} (hvm : u.vm.Alike U.vm) (k : HR D G u H h) : HR D G U H h := by
  obtain ⟨k1, k2, k3, k4, k5, k6⟩ := k
  refine ⟨k1, k2, fun c i hc h0 h1 => ?_, k4, fun c h0 h1 => ?_, fun c h0 h1 => (k6 c h0 h1).moved hvm⟩
  · obtain ⟨a, b, d⟩ := k3 c i hc h0 h1
    refine ⟨a, ⟨b.1, fun hh => ?_⟩, d⟩
    obtain ⟨cA, e1, e2⟩ := b.2 hh
    exact ⟨cA, e1, e2.moved hvm⟩
  · obtain ⟨a, b, b2, ⟨cell, e1, e2, e3⟩, d⟩ := k5 c h0 h1
    exact ⟨a, b, b2, ⟨cell, e1, State.isArrayOf_alike hvm e2, e3⟩, d⟩
/-- what comes later: nothing that was made goes, or moves -/
def zXt (h h' : zH) : Prop := nn h ≤ nn h' ∧ us h ≤ us h' ∧ ∀ (c : Nat) (i : Int), 0 ≤ i → i < cn h c → i < cn h' c ∧ ps h' c i = ps h c i
theorem zXt.rf (h : zH) : zXt h h := ⟨Nat.le_refl _, Nat.le_refl _, fun _ _ _ k => ⟨k, rfl⟩⟩
theorem zXt.tr {a b c : zH} (h : zXt a b) (k : zXt b c) : zXt a c := ⟨Nat.le_trans h.1 k.1, Nat.le_trans h.2.1 k.2.1, fun x i h0 h1 => by
  obtain ⟨h2, h3⟩ := h.2.2 x i h0 h1
  obtain ⟨h4, h5⟩ := k.2.2 x i h0 h2
  exact ⟨h4, h5.trans h3⟩⟩
theorem zXt.pt {h : zH} {c : Nat} {i j v : Int} : zXt h (pt h c i j v) := ⟨Nat.le_refl _, Nat.le_refl _, fun _ _ _ k => ⟨k, rfl⟩⟩
theorem zXt.nw {h : zH} {c sz : Nat} : zXt h (nw h c sz) := by
  refine ⟨Nat.le_succ _, Nat.le_add_right _ _, fun x i h0 h1 => ?_⟩
  by_cases hx : x = c
  · subst hx
    refine ⟨?_, ?_⟩
    · show i < (if x = x then h.1 x + 1 else h.1 x)
      rw [if_pos rfl]
      have : i < h.1 x := h1
      omega
    · show (if x = x ∧ i = h.1 x then h.2.2.2.1 else h.2.2.1 x i) = h.2.2.1 x i
      rw [if_neg]
      intro q
      have : i < h.1 x := h1
      omega
  · refine ⟨?_, ?_⟩
    · show i < (if x = c then h.1 c + 1 else h.1 x)
      rw [if_neg hx]; exact h1
    · show (if x = c ∧ i = h.1 c then h.2.2.2.1 else h.2.2.1 x i) = h.2.2.1 x i
      rw [if_neg fun q => hx q.1]
theorem okV.xt {h h' : zH} (x : zXt h h') {v : zV} (k : okV h v) : okV h' v := by
  match v, k with
  | Sum.inl _, k => exact k
  | Sum.inr (Sum.inl _), k => exact k
  | Sum.inr (Sum.inr q), k =>
    rcases k with k | k
    · exact Or.inl k
    · exact Or.inr ⟨k.1, (x.2.2 q.1 q.2 k.1 k.2).1⟩
theorem cv_xt {G : zG} {h h' : zH} (x : zXt h h') {v : zV} (k : okV h v) : cv G h' v = cv G h v := by
  match v, k with
  | Sum.inl _, k => rfl
  | Sum.inr (Sum.inl _), k => rfl
  | Sum.inr (Sum.inr q), k =>
    show (if q.2 < 0 then Value.null else .ref (ad G h' q.1 q.2)) = (if q.2 < 0 then Value.null else .ref (ad G h q.1 q.2))
    rcases k with k | k
    · rw [if_pos (by omega), if_pos (by omega)]
    · unfold ad
      rw [(x.2.2 q.1 q.2 k.1 k.2).2]
theorem okT.xt {h h' : zH} (x : zXt h h') {t : Nat} {v : Int} (k : okT h t v) : okT h' t v := by
  obtain ⟨k0, k1, k2, k3, k4⟩ := k
  refine ⟨k0, k1, k2, k3, fun q => ?_⟩
  rcases k4 q with k | k
  · exact Or.inl k
  · exact Or.inr ⟨k.1, (x.2.2 _ _ k.1 k.2).1⟩
theorem gt_pt (h : zH) (c : Nat) (i j v : Int) (c' : Nat) (i' j' : Int) : gt (pt h c i j v) c' i' j' = if c' = c ∧ i' = i ∧ j' = j then v else gt h c' i' j' := rfl
theorem gt_nw (h : zH) (c sz : Nat) (c' : Nat) (i' j' : Int) : gt (nw h c sz) c' i' j' = if c' = c ∧ i' = cn h c then zdf c j' else gt h c' i' j' := rfl
theorem cn_pt (h : zH) (c : Nat) (i j v : Int) (c' : Nat) : cn (pt h c i j v) c' = cn h c' := rfl
theorem cn_nw (h : zH) (c sz c' : Nat) : cn (nw h c sz) c' = if c' = c then cn h c + 1 else cn h c' := rfl
theorem arrV_congr {cA : ClassId} {N : Nat} {f g : Nat → Value} (h : ∀ j, j < N → f j = g j) : arrV cA N f = arrV cA N g := by
  unfold arrV
  have : (fun j : Fin N => f j.val) = fun j : Fin N => g j.val := funext fun j => h j.val j.isLt
  rw [this]
/-- one slot is written -/
theorem HR.put {D : va_G} {G : zG} {U : State} {H H' : Heap} {h : zH} (k : HR D G U H h) {c : Nat} {i j x : Int} (hc : c < 100) (h0 : 0 ≤ i) (h1 : i < cn h c) (hx : ∀ j' : Nat, j = j' → j' < zsN c → okT h (zsT c j') x) (hsz : H'.size = H.size) (ho : ∀ q, q ≠ ad G h c i → H'[q]? = H[q]?) (hcell : zCell D G U H' (pt h c i j x) c i) : HR D G U H' (pt h c i j x) := by
  obtain ⟨k1, k2, k3, k4, k5, k6⟩ := k
  have hlow : ∀ q : Nat, q < G.1 → H'[q]? = H[q]? := fun q hq => ho q (by unfold ad; rw [if_pos hc]; omega)
  refine ⟨hsz.trans k1, k2, fun c' i' hc' h0' h1' => ?_, k4, fun c' a b => ?_, fun c' a b => (k6 c' a b).kept fun q _ hq => hlow q (by omega)⟩
  · obtain ⟨a, b, d⟩ := k3 c' i' hc' h0' h1'
    by_cases he : c' = c ∧ i' = i
    · obtain ⟨rfl, rfl⟩ := he
      refine ⟨a, hcell, fun j' hj' => ?_⟩
      rw [gt_pt]
      by_cases hjj : c' = c' ∧ i' = i' ∧ (j' : Int) = j
      · rw [if_pos hjj]; exact hx j' hjj.2.2.symm hj'
      · rw [if_neg hjj]; exact d j' hj'
    · have hne : ad G h c' i' ≠ ad G h c i := by
        unfold ad
        rw [if_pos hc, if_pos hc']
        intro q
        have hq : ps h c' i' = ps h c i := by omega
        exact he (k4 c' i' c i hc' hc h0' h1' h0 h1 hq)
      have hg : ∀ j' : Int, gt (pt h c i j x) c' i' j' = gt h c' i' j' := fun j' => by rw [gt_pt, if_neg]; exact fun q => he ⟨q.1, q.2.1⟩
      refine ⟨a, ⟨fun hh => ?_, fun hh => ?_⟩, fun j' hj' => by rw [hg]; exact d j' hj'⟩
      · obtain ⟨b1, b2⟩ := b.1 hh
        refine ⟨b1, (b2.kept (ho _ hne)).to fun z _ => ?_⟩
        rw [hg]; rfl
      · obtain ⟨cA, b1, b2⟩ := b.2 hh
        refine ⟨cA, ?_, b2⟩
        show H'[ad G h c' i']? = _
        rw [ho _ hne, b1]
        exact congrArg some (arrV_congr fun z _ => by rw [hg]; rfl)
  · obtain ⟨a1, a2, a3, ⟨cell, e1, e2, e3, e4, e5, e6⟩, a5⟩ := k5 c' a b
    have hg : ∀ j' : Int, gt (pt h c i j x) c' 0 j' = gt h c' 0 j' := fun j' => by rw [gt_pt, if_neg]; exact fun q => by omega
    exact ⟨a1, a2, ⟨a3.1, by rw [hg]; exact a3.2⟩, ⟨cell, by rw [hlow _ a2]; exact e1, e2, e3, e4, e5, fun z hz => by rw [hg]; exact e6 z hz⟩, fun z hz => by rw [hg]; exact a5 z hz⟩
/-- a cell is made -/
theorem HR.new {D : va_G} {G : zG} {U : State} {H H' : Heap} {h : zH} (k : HR D G U H h) {c : Nat} (sz : Nat) (hc : c < 100) (hd : ∀ j : Nat, j < zsN c → okT (nw h c sz) (zsT c j) (zdf c j)) (hsz : H'.size = H.size + 1) (ho : ∀ q, q < H.size → H'[q]? = H[q]?) (hcell : zCell D G U H' (nw h c sz) c (cn h c)) : HR D G U H' (nw h c sz) := by
  obtain ⟨k1, k2, k3, k4, k5, k6⟩ := k
  have hX : zXt h (nw h c sz) := zXt.nw
  have hold : ∀ (c' : Nat) (i' : Int), 0 ≤ i' → i' < cn (nw h c sz) c' → (c' = c ∧ i' = cn h c) ∨ (i' < cn h c' ∧ ¬ (c' = c ∧ i' = cn h c)) := by
    intro c' i' a b
    rw [cn_nw] at b
    by_cases hcc : c' = c
    · subst hcc
      rw [if_pos rfl] at b
      by_cases hi : i' = cn h c'
      · exact Or.inl ⟨rfl, hi⟩
      · exact Or.inr ⟨by omega, fun q => hi q.2⟩
    · rw [if_neg hcc] at b
      exact Or.inr ⟨b, fun q => hcc q.1⟩
  have hps : ps (nw h c sz) c (cn h c) = nn h := by
    show (if c = c ∧ h.1 c = h.1 c then h.2.2.2.1 else h.2.2.1 c (h.1 c)) = _
    rw [if_pos ⟨rfl, rfl⟩]; rfl
  refine ⟨?_, fun c' => ?_, fun c' i' hc' h0' h1' => ?_, fun c1 i1 c2 i2 a1 a2 a3 a4 a5 a6 a7 => ?_, fun c' a b => ?_, fun c' a b => (k6 c' a b).kept fun q hq _ => ho q hq⟩
  · rw [hsz, k1]; show G.1 + nn h + 1 = G.1 + (h.2.2.2.1 + 1); unfold nn; omega
  · rw [cn_nw]; have := k2 c; have := k2 c'; split <;> omega
  · rcases hold c' i' h0' h1' with ⟨rfl, rfl⟩ | ⟨h1, hne⟩
    · refine ⟨?_, hcell, fun j hj => ?_⟩
      · rw [hps]; exact Nat.lt_succ_self _
      · rw [gt_nw, if_pos ⟨rfl, rfl⟩]; exact hd j hj
    · obtain ⟨a, b, d⟩ := k3 c' i' hc' h0' h1
      have hg : ∀ j' : Int, gt (nw h c sz) c' i' j' = gt h c' i' j' := fun j' => by rw [gt_nw, if_neg hne]
      have ha : ad G (nw h c sz) c' i' = ad G h c' i' := by unfold ad; rw [(hX.2.2 c' i' h0' h1).2]
      have hlt : ad G h c' i' < H.size := by unfold ad; rw [if_pos hc', k1]; omega
      refine ⟨?_, ⟨fun hh => ?_, fun hh => ?_⟩, fun j' hj' => by rw [hg]; exact (d j' hj').xt hX⟩
      · rw [(hX.2.2 c' i' h0' h1).2]; exact Nat.lt_succ_of_lt a
      · obtain ⟨b1, b2⟩ := b.1 hh
        refine ⟨b1, ?_⟩
        rw [ha]
        refine (b2.kept (ho _ hlt)).to fun z hz => ?_
        have := d z (by unfold zsN; rw [if_pos hh]; exact hz)
        unfold zsT at this
        rw [if_pos hh] at this
        rw [hg, cv_xt hX (okV_mk this)]
      · obtain ⟨cA, b1, b2⟩ := b.2 hh
        refine ⟨cA, ?_, b2⟩
        rw [ha, ho _ hlt, b1]
        refine congrArg some (arrV_congr fun z hz => ?_)
        have := d z (by unfold zsN; rw [if_neg (by omega)]; exact hz)
        unfold zsT at this
        rw [if_neg (by omega)] at this
        rw [hg, cv_xt hX (okV_mk this)]
  · rcases hold c1 i1 a3 a4 with ⟨rfl, rfl⟩ | ⟨b1, n1⟩ <;> rcases hold c2 i2 a5 a6 with ⟨e1, e2⟩ | ⟨b2, n2⟩
    · exact ⟨e1.symm, e2.symm⟩
    · rw [hps, (hX.2.2 c2 i2 a5 b2).2] at a7
      have := (k3 c2 i2 a2 a5 b2).1
      omega
    · subst e1; subst e2
      rw [hps, (hX.2.2 c1 i1 a3 b1).2] at a7
      have := (k3 c1 i1 a1 a3 b1).1
      omega
    · rw [(hX.2.2 c1 i1 a3 b1).2, (hX.2.2 c2 i2 a5 b2).2] at a7
      exact k4 c1 i1 c2 i2 a1 a2 a3 b1 a5 b2 a7
  · obtain ⟨a1, a2, a3, ⟨cell, e1, e2, e3, e4, e5, e6⟩, a5⟩ := k5 c' a b
    have hg : ∀ j' : Int, gt (nw h c sz) c' 0 j' = gt h c' 0 j' := fun j' => by rw [gt_nw, if_neg]; exact fun q => by omega
    exact ⟨by rw [cn_nw, if_neg (by omega)]; exact a1, a2, ⟨a3.1, by rw [hg]; exact a3.2⟩, ⟨cell, by rw [ho _ (Nat.lt_of_lt_of_le a2 (by omega))]; exact e1, e2, e3, e4, e5, fun z hz => by rw [hg]; exact e6 z hz⟩, fun z hz => by rw [hg]; exact a5 z hz⟩
end
section
/-! THE JUDGEMENT Ex: from a frame over our heap picture, the method comes to a return that Q takes. -/
def zTbl : List Cond := lw_tbl.filter goodWord
theorem zTbl_in {w : Cond} (h : w ∈ lw_tbl) (g : goodWord w = true) : w ∈ zTbl := List.mem_filter.mpr ⟨h, g⟩
theorem zTbl_i (i : Nat) {w : Cond} (h : lw_tbl[i]? = some w) (g : goodWord w = true) : w ∈ zTbl := zTbl_in (List.mem_of_getElem? h) g
theorem zTbl_g {y : Cond} (hy : y ∈ zTbl) : GoodIn zTbl (y :: zTbl) := fun w hw => by
  rcases List.mem_cons.mp hw with rfl | hw
  · exact ⟨hy, good_of_word (List.mem_filter.mp hy).2⟩
  · exact ⟨hw, good_of_word (List.mem_filter.mp hw).2⟩
def zNest : Cond → Bool
  | .fieldLinkNest .. => true
  | .methodLinkNest .. => true
  | _ => false
/-- the words that a callee gets beside those of the tables: nest mates' links, arrays' classes -/
def zNw (U : State) : Prop := (∀ w ∈ lw_tbl, zNest w = true → va_Nw w U) ∧ ∀ C : String, Cond.arrayOver (.object C) ∈ lw_tbl → va_AO C U
theorem zNw.warm {s U : State} (hW : s.WarmedH U.vm) (h : zNw s) : zNw U := by
  refine ⟨fun w hw hn => ?_, fun C hC => (h.2 C hC).moved hW.alike⟩
  cases w <;> first | exact va_Nw.warmF hW (h.1 _ hw hn) | exact va_Nw.warmM hW (h.1 _ hw hn) | exact absurd hn (by simp [zNest])
theorem zNw.same {u U : State} (hv : u.vm = U.vm) (h : zNw u) : zNw U := by
  refine ⟨fun w hw hn => ?_, fun C hC => (h.2 C hC).moved (by rw [hv]; exact Vm.Alike.refl U.vm)⟩
  have := h.1 w hw hn
  cases w <;> first | exact va_Nw.same rfl hv this | exact absurd hn (by simp [zNest])
abbrev zM : Type := String × (ByteArray × (Nat × (Option FieldType × Bool)))
def LR (ls : Array Slot) (nL : Nat) (G : zG) (h : zH) (lo : List (Option zV)) : Prop := ls.size = nL ∧ lv_wf ls ∧ lo.length = nL ∧ ∀ (i : Nat) (v : zV), lo[i]? = some (some v) → ls[i]? = some (.val (cv G h v))
def okL (h : zH) (lo : List (Option zV)) : Prop := ∀ (i : Nat) (v : zV), lo[i]? = some (some v) → okV h v
def okS (h : zH) (st : List zV) : Prop := ∀ v ∈ st, okV h v
def lvl (G : zG) (h : zH) (lo : List (Option zV)) : List (Nat × Value) := (List.range lo.length).filterMap fun i => (lo[i]?.getD none).map fun v => (i, cv G h v)
theorem lvl_mem {G : zG} {h : zH} {lo : List (Option zV)} {i : Nat} {v : zV} (hi : lo[i]? = some (some v)) : (i, cv G h v) ∈ lvl G h lo :=
  List.mem_filterMap.mpr ⟨i, List.mem_range.mpr (List.getElem?_eq_some_iff.mp hi).1, by rw [hi]; rfl⟩
theorem lvl_of {G : zG} {h : zH} {lo : List (Option zV)} {q : Nat × Value} (hq : q ∈ lvl G h lo) : ∃ v, lo[q.1]? = some (some v) ∧ q.2 = cv G h v := by
  obtain ⟨i, -, hi⟩ := List.mem_filterMap.mp hq
  cases hl : lo[i]? with
  | none => rw [hl] at hi; cases hi
  | some o =>
    rw [hl] at hi
    cases o with
    | none => cases hi
    | some v => cases hi; exact ⟨v, hl, rfl⟩
theorem LR.has {ls : Array Slot} {nL : Nat} {G : zG} {h : zH} {lo : List (Option zV)} (k : LR ls nL G h lo) : lv_has ls nL (lvl G h lo) := by
  refine ⟨k.1, k.2.1, fun q hq => ?_⟩
  obtain ⟨v, h1, h2⟩ := lvl_of hq
  rw [h2]; exact k.2.2.2 _ v h1
def zNg (lo : List (Option zV)) (i : Nat) : Bool := match i with
  | 0 => true
  | k + 1 => match lo[k]? with
    | some (some (Sum.inr (Sum.inl _))) => false
    | _ => true
theorem cv_cat1 {G : zG} {h : zH} {v : zV} (hv : ∀ x, v ≠ vl x) : (cv G h v).category = 1 := by
  match v with
  | Sum.inl _ => rfl
  | Sum.inr (Sum.inl x) => exact absurd rfl (hv x)
  | Sum.inr (Sum.inr q) =>
    show (if q.2 < 0 then Value.null else .ref (ad G h q.1 q.2)).category = 1
    by_cases hq : q.2 < 0
    · rw [if_pos hq]; rfl
    · rw [if_neg hq]; rfl
theorem zNg_cat {G : zG} {h : zH} {lo : List (Option zV)} {i j : Nat} {v : zV} (hn : zNg lo i = true) (hj : j + 1 = i) (hv : lo[j]? = some (some v)) : ¬ (cv G h v).category = 2 := by
  subst hj
  have hn : (match lo[j]? with | some (some (Sum.inr (Sum.inl _))) => false | _ => true) = true := hn
  rw [hv] at hn
  match v, hn with
  | Sum.inl z, _ => rw [show (cv G h (Sum.inl z)).category = 1 from rfl]; decide
  | Sum.inr (Sum.inl _), hn => cases hn
  | Sum.inr (Sum.inr q), _ =>
    rw [cv_cat1 (by intro x hx; cases hx)]; decide
theorem LR.set1 {ls ls' : Array Slot} {nL : Nat} {G : zG} {h : zH} {lo : List (Option zV)} {i : Nat} {v : zV} (k : LR ls nL G h lo) (hn : zNg lo i = true) (k' : lv_has ls' nL ((i, cv G h v) :: (lvl G h lo).filter (fun q => !(q.1 == i) && !(q.1 + 1 == i && q.2.category == 2)))) : LR ls' nL G h (lo.set i (some v)) := by
  refine ⟨k'.1, k'.2.1, by rw [List.length_set]; exact k.2.2.1, fun j w hj => ?_⟩
  by_cases hij : i = j
  · subst hij
    rw [List.getElem?_set_self' ] at hj
    cases hl : lo[i]? with
    | none => rw [hl] at hj; cases hj
    | some o =>
      rw [hl] at hj
      cases hj
      exact k'.2.2 (i, cv G h v) List.mem_cons_self
  · rw [List.getElem?_set_ne hij] at hj
    refine k'.2.2 (j, cv G h w) (List.mem_cons_of_mem _ (List.mem_filter.mpr ⟨lvl_mem hj, ?_⟩))
    have h1 : (j == i) = false := by simp; exact fun q => hij q.symm
    have h2 : (j + 1 == i && (cv G h w).category == 2) = false := by
      by_cases hji : j + 1 = i
      · have := zNg_cat (G := G) (h := h) hn hji hj
        simp [this]
      · simp [hji]
    simp only [h1, h2]; rfl
theorem LR.set2 {ls ls' : Array Slot} {nL : Nat} {G : zG} {h : zH} {lo : List (Option zV)} {i : Nat} {v : zV} (k : LR ls nL G h lo) (hn : zNg lo i = true) (k' : lv_has ls' nL ((i, cv G h v) :: (lvl G h lo).filter (fun q => !(q.1 == i) && (!(q.1 == i + 1) && !(q.1 + 1 == i && q.2.category == 2))))) : LR ls' nL G h ((lo.set i (some v)).set (i + 1) none) := by
  refine ⟨k'.1, k'.2.1, by rw [List.length_set, List.length_set]; exact k.2.2.1, fun j w hj => ?_⟩
  by_cases hj1 : i + 1 = j
  · subst hj1
    rw [List.getElem?_set_self'] at hj
    cases hl : (lo.set i (some v))[i + 1]? with
    | none => rw [hl] at hj; cases hj
    | some o => rw [hl] at hj; cases hj
  · rw [List.getElem?_set_ne hj1] at hj
    by_cases hij : i = j
    · subst hij
      rw [List.getElem?_set_self'] at hj
      cases hl : lo[i]? with
      | none => rw [hl] at hj; cases hj
      | some o =>
        rw [hl] at hj
        cases hj
        exact k'.2.2 (i, cv G h v) List.mem_cons_self
    · rw [List.getElem?_set_ne hij] at hj
      refine k'.2.2 (j, cv G h w) (List.mem_cons_of_mem _ (List.mem_filter.mpr ⟨lvl_mem hj, ?_⟩))
      have h1 : (j == i) = false := by simp; exact fun q => hij q.symm
      have h3 : (j == i + 1) = false := by simp; exact fun q => hj1 q.symm
      have h2 : (j + 1 == i && (cv G h w).category == 2) = false := by
        by_cases hji : j + 1 = i
        · have := zNg_cat (G := G) (h := h) hn hji hj
          simp [this]
        · simp [hji]
      simp only [h1, h2, h3]; rfl
theorem LR.xt {ls : Array Slot} {nL : Nat} {G : zG} {h h' : zH} {lo : List (Option zV)} (k : LR ls nL G h lo) (ho : okL h lo) (x : zXt h h') : LR ls nL G h' lo := ⟨k.1, k.2.1, k.2.2.1, fun i v hi => by rw [cv_xt x (ho i v hi)]; exact k.2.2.2 i v hi⟩
theorem okL.xt {h h' : zH} {lo : List (Option zV)} (ho : okL h lo) (x : zXt h h') : okL h' lo := fun i v hi => (ho i v hi).xt x
theorem okS.xt {h h' : zH} {st : List zV} (ho : okS h st) (x : zXt h h') : okS h' st := fun v hv => (ho v hv).xt x
theorem mapcv_xt {G : zG} {h h' : zH} {st : List zV} (ho : okS h st) (x : zXt h h') : st.map (cv G h') = st.map (cv G h) := List.map_congr_left fun v hv => cv_xt x (ho v hv)
theorem okS.cons {h : zH} {v : zV} {st : List zV} (a : okV h v) (b : okS h st) : okS h (v :: st) := fun w hw => by
  rcases List.mem_cons.mp hw with rfl | hw
  · exact a
  · exact b w hw
theorem okS.hd {h : zH} {v : zV} {st : List zV} (b : okS h (v :: st)) : okV h v := b v List.mem_cons_self
theorem okS.tl {h : zH} {v : zV} {st : List zV} (b : okS h (v :: st)) : okS h st := fun w hw => b w (List.mem_cons_of_mem _ hw)
theorem okL.set {h : zH} {v : zV} {lo : List (Option zV)} {i : Nat} (a : okV h v) (b : okL h lo) : okL h (lo.set i (some v)) := fun j w hj => by
  by_cases hij : i = j
  · subst hij
    rw [List.getElem?_set_self'] at hj
    cases hl : lo[i]? with
    | none => rw [hl] at hj; cases hj
    | some o => rw [hl] at hj; cases hj; exact a
  · rw [List.getElem?_set_ne hij] at hj
    exact b j w hj
theorem okL.setN {h : zH} {lo : List (Option zV)} {i : Nat} (b : okL h lo) : okL h (lo.set i none) := fun j w hj => by
  by_cases hij : i = j
  · subst hij
    rw [List.getElem?_set_self'] at hj
    cases hl : lo[i]? with
    | none => rw [hl] at hj; cases hj
    | some o => rw [hl] at hj; cases hj
  · rw [List.getElem?_set_ne hij] at hj
    exact b j w hj
def zCx (d : Nat) (M : zM) (p : Program) (R : Room) (s : State) (m : MethodId) (args : Array Value) (meth : Method) (c : Code) (D : va_G) : Prop :=
  p.tables.exec = Jvm.exec ∧ c.code = M.2.1 ∧ c.maxLocals = M.2.2.1 ∧ s.vm.findClass M.1 = some m.cls ∧ (∀ w ∈ zTbl, w.before args s = true) ∧ (M.2.2.2.2 = true → meth.name = "<init>") ∧ d ≤ R.frames ∧ 40 * d ≤ R.locals ∧ va_K D vwCl [] s ∧ zNw s
def zRt (M : zM) (pc : Nat) : Option zV → Prop
  | none => decode M.2.1 pc = .ok (.return_, 1) ∧ M.2.2.2.1 = none
  | some (Sum.inl x) => decode M.2.1 pc = .ok (.ireturn, 1) ∧ (M.2.2.2.1 = some .int ∨ (M.2.2.2.1 = some .boolean ∧ (x = 0 ∨ x = 1)))
  | some (Sum.inr (Sum.inl _)) => decode M.2.1 pc = .ok (.lreturn, 1) ∧ M.2.2.2.1 = some .long
  | some (Sum.inr (Sum.inr _)) => decode M.2.1 pc = .ok (.areturn, 1) ∧ ∃ n, M.2.2.2.1 = some (.object n)
abbrev zQ : Type := Option zV → zH → Prop
def Ex (d : Nat) (M : zM) (pc : Nat) (lo : List (Option zV)) (st : List zV) (h : zH) (Q : zQ) : Prop :=
  (∃ r hF, Q r hF ∧ zXt h hF) ∧
  ∀ (p : Program) (l : Launch) (e : Env) (R : Room) (s : State) (m : MethodId) (args : Array Value) (below : List Frame) (meth : Method) (c : Code) (D : va_G) (G : zG) (n0 u0 : Nat) (Qm : State → Prop),
    zCx d M p R s m args meth c D →
    (∀ r hF, Q r hF → nn hF ≤ n0 + R.cells ∧ us hF ≤ u0 + R.slots) →
    (∀ (r : Option zV) (hF : zH) (H : Heap) (ls : Array Slot) (locs : List Loc) (pc' : Nat), Q r hF → HR D G s H hF → (∀ v, r = some v → okV hF v) → zRt M pc' r → (∀ q ∈ locs, G.1 ≤ q.base) →
      W p l e R s m args below meth c H locs (nn hF - n0) (us hF - u0) Qm (F0 m pc' ls ((r.map (cv G hF)).toList))) →
    n0 ≤ nn h → u0 ≤ us h →
    ∀ (H : Heap) (ls : Array Slot) (locs : List Loc), HR D G s H h → LR ls M.2.2.1 G h lo → okL h lo → okS h st → (∀ q ∈ locs, G.1 ≤ q.base) →
    W p l e R s m args below meth c H locs (nn h - n0) (us h - u0) Qm (F0 m pc ls (st.map (cv G h)))
/-- a step that leaves the heap -/
theorem ex_go {d : Nat} {M : zM} {pc pc' : Nat} {lo lo' : List (Option zV)} {st st' : List zV} {h : zH} {Q : zQ} (k : Ex d M pc' lo' st' h Q) (hok : okL h lo → okS h st → okL h lo' ∧ okS h st')
    (hstep : ∀ (p : Program) (l : Launch) (e : Env) (R : Room) (s : State) (m : MethodId) (args : Array Value) (below : List Frame) (meth : Method) (c : Code) (D : va_G) (G : zG) (cells slots : Nat) (Qm : State → Prop) (H : Heap) (ls : Array Slot) (locs : List Loc),
      zCx d M p R s m args meth c D → HR D G s H h → LR ls M.2.2.1 G h lo → okL h lo → okS h st →
      (∀ ls' : Array Slot, LR ls' M.2.2.1 G h lo' → W p l e R s m args below meth c H locs cells slots Qm (F0 m pc' ls' (st'.map (cv G h)))) →
      W p l e R s m args below meth c H locs cells slots Qm (F0 m pc ls (st.map (cv G h)))) : Ex d M pc lo st h Q :=
  ⟨k.1, fun p l e R s m args below meth c D G n0 u0 Qm cx room ret hn hu H ls locs hR hL okl oks hlo =>
    hstep p l e R s m args below meth c D G _ _ Qm H ls locs cx hR hL okl oks fun ls' hL' => k.2 p l e R s m args below meth c D G n0 u0 Qm cx room ret hn hu H ls' locs hR hL' (hok okl oks).1 (hok okl oks).2 hlo⟩
/-- locals that are not needed any more -/
def zLe : List (Option zV) → List (Option zV) → Prop
  | [], [] => True
  | a :: l, b :: l' => (a = none ∨ a = b) ∧ zLe l l'
  | _, _ => False
theorem zLe.get : ∀ {l l' : List (Option zV)}, zLe l l' → l.length = l'.length ∧ ∀ (i : Nat) (v : zV), l[i]? = some (some v) → l'[i]? = some (some v)
  | [], [], _ => ⟨rfl, fun i v h => by simp at h⟩
  | a :: l, b :: l', h => by
    obtain ⟨h1, h2⟩ := h
    obtain ⟨e, k⟩ := zLe.get h2
    refine ⟨by simp [e], fun i v hv => ?_⟩
    cases i with
    | zero =>
      rw [List.getElem?_cons_zero] at hv ⊢
      rcases h1 with rfl | rfl
      · cases hv
      · exact hv
    | succ i =>
      rw [List.getElem?_cons_succ] at hv ⊢
      exact k i v hv
theorem ex_forget {d : Nat} {M : zM} {pc : Nat} {lo lo' : List (Option zV)} {st : List zV} {h : zH} {Q : zQ} (hle : zLe lo' lo) (k : Ex d M pc lo' st h Q) : Ex d M pc lo st h Q :=
  ex_go k (fun a b => ⟨fun i v hv => a i v (hle.get.2 i v hv), b⟩) fun p l e R s m args below meth c D G cells slots Qm H ls locs cx hR hL okl oks K => K ls ⟨hL.1, hL.2.1, hle.get.1.trans hL.2.2.1, fun i v hv => hL.2.2.2 i v (hle.get.2 i v hv)⟩
theorem ex_q {d : Nat} {M : zM} {pc : Nat} {lo : List (Option zV)} {st : List zV} {h : zH} {Q Q' : zQ} (k : Ex d M pc lo st h Q) (hq : ∀ r hF, Q r hF → Q' r hF) : Ex d M pc lo st h Q' := by
  obtain ⟨⟨r, hF, a, b⟩, k⟩ := k
  exact ⟨⟨r, hF, hq _ _ a, b⟩, fun p l e R s m args below meth c D G n0 u0 Qm cx room ret => k p l e R s m args below meth c D G n0 u0 Qm cx (fun r hF z => room r hF (hq _ _ z)) fun r hF H ls locs pc' z => ret r hF H ls locs pc' (hq _ _ z)⟩
/-- the return -/
theorem ex_ret {d : Nat} {M : zM} {pc : Nat} {lo : List (Option zV)} {st : List zV} {h : zH} {Q : zQ} (r : Option zV) (hs : st = r.toList) (ht : zRt M pc r) (hq : Q r h) : Ex d M pc lo st h Q := by
  refine ⟨⟨r, h, hq, zXt.rf h⟩, fun p l e R s m args below meth c D G n0 u0 Qm cx room ret hn hu H ls locs hR hL okl oks hlo => ?_⟩
  have := ret r h H ls locs pc hq hR (fun v hv => oks v (by rw [hs, hv]; exact List.mem_cons_self)) ht hlo
  subst hs
  cases r with
  | none => exact this
  | some v => exact this
/-- a method by its bytes: what a call gets -/
def Run (d : Nat) (y : MethodName) (cc : ByteArray) (nL : Nat) (ret : Option FieldType) (a : List zV) (h : zH) (r : Option zV) (h' : zH) : Prop :=
  zXt h h' ∧ ∀ (l : Launch) (D : va_G) (G : zG), Met l y (Cond.code y cc nL ret :: zTbl) ({ frames := d, cells := nn h' - nn h, slots := us h' - us h, locals := 40 * d } : Room)
    (fun v U => v = (a.map (cv G h)).toArray ∧ HR D G U U.heap h ∧ va_K D vwCl [] U ∧ zNw U ∧ okS h a)
    (fun _ _ o t => o = .returned (r.map (cv G h')) ∧ HR D G t t.heap h' ∧ ∀ v, r = some v → okV h' v) (nn h' - nn h) (us h' - us h) (fun q => G.1 ≤ q)
def zEnt : List zV → List (Option zV)
  | [] => []
  | v :: t => match v with
    | Sum.inr (Sum.inl x) => some (vl x) :: none :: zEnt t
    | w => some w :: zEnt t
theorem zEnt_1 {G : zG} {h : zH} {w v : zV} {t : List zV} {k i : Nat} (hc : (cv G h w).category = 1) (ih : ∀ (k i : Nat) (v : zV), (zEnt t)[i]? = some (some v) → (k + i, cv G h v) ∈ lv_args k (t.map (cv G h))) (hv : (some w :: zEnt t)[i]? = some (some v)) : (k + i, cv G h v) ∈ lv_args k ((w :: t).map (cv G h)) := by
  show (k + i, cv G h v) ∈ (k, cv G h w) :: lv_args (if (cv G h w).category = 2 then k + 2 else k + 1) (t.map (cv G h))
  rw [hc, if_neg (by decide)]
  cases i with
  | zero => cases hv; exact List.mem_cons_self
  | succ i =>
    rw [List.getElem?_cons_succ] at hv
    have := ih (k + 1) i v hv
    rw [show k + (i + 1) = k + 1 + i by omega]
    exact List.mem_cons_of_mem _ this
theorem zEnt_args {G : zG} {h : zH} : ∀ (a : List zV) (k i : Nat) (v : zV), (zEnt a)[i]? = some (some v) → (k + i, cv G h v) ∈ lv_args k (a.map (cv G h))
  | [], _, i, _, hv => by simp [zEnt] at hv
  | Sum.inl x :: t, k, i, v, hv => zEnt_1 rfl (zEnt_args t) hv
  | Sum.inr (Sum.inl x) :: t, k, i, v, hv => by
    show (k + i, cv G h v) ∈ (k, cv G h (vl x)) :: lv_args (if (cv G h (vl x)).category = 2 then k + 2 else k + 1) (t.map (cv G h))
    rw [if_pos (show (cv G h (vl x)).category = 2 from rfl)]
    have hv : (some (vl x) :: none :: zEnt t)[i]? = some (some v) := hv
    match i, hv with
    | 0, hv => cases hv; exact List.mem_cons_self
    | 1, hv => cases hv
    | i + 2, hv =>
      rw [List.getElem?_cons_succ, List.getElem?_cons_succ] at hv
      have := zEnt_args (G := G) (h := h) t (k + 2) i v hv
      rw [show k + (i + 2) = k + 2 + i by omega]
      exact List.mem_cons_of_mem _ this
  | Sum.inr (Sum.inr q) :: t, k, i, v, hv => zEnt_1 (cv_cat1 (by intro x hx; cases hx)) (zEnt_args t) hv
/-- the entry's locals -/
def zEn (a : List zV) (nL : Nat) : List (Option zV) := zEnt a ++ List.replicate (nL - (zEnt a).length) none
theorem zEnt_len {G : zG} {h : zH} : ∀ a : List zV, (lg_sl (a.map (cv G h))).length = (zEnt a).length
  | [] => rfl
  | Sum.inl x :: t => by
    show ((if (cv G h (vi x)).category = 2 then [Slot.val (cv G h (vi x)), Slot.second] else [Slot.val (cv G h (vi x))]) ++ lg_sl (t.map (cv G h))).length = (some (vi x) :: zEnt t).length
    rw [if_neg (by rw [show (cv G h (vi x)).category = 1 from rfl]; decide), List.length_append, zEnt_len t]; simp; omega
  | Sum.inr (Sum.inl x) :: t => by
    show ((if (cv G h (vl x)).category = 2 then [Slot.val (cv G h (vl x)), Slot.second] else [Slot.val (cv G h (vl x))]) ++ lg_sl (t.map (cv G h))).length = (some (vl x) :: none :: zEnt t).length
    rw [if_pos (show (cv G h (vl x)).category = 2 from rfl), List.length_append, zEnt_len t]; simp; omega
  | Sum.inr (Sum.inr q) :: t => by
    show ((if (cv G h (Sum.inr (Sum.inr q))).category = 2 then [Slot.val (cv G h (Sum.inr (Sum.inr q))), Slot.second] else [Slot.val (cv G h (Sum.inr (Sum.inr q)))]) ++ lg_sl (t.map (cv G h))).length = (some (Sum.inr (Sum.inr q)) :: zEnt t).length
    rw [if_neg (by rw [cv_cat1 (by intro x hx; cases hx)]; decide), List.length_append, zEnt_len t]; simp; omega
theorem zEn_ok {h : zH} : ∀ {a : List zV}, okS h a → ∀ (i : Nat) (v : zV), (zEnt a)[i]? = some (some v) → okV h v
  | [], _, i, v, hv => by simp [zEnt] at hv
  | Sum.inl x :: t, k, i, v, hv => by
    have hv : (some (vi x) :: zEnt t)[i]? = some (some v) := hv
    cases i with
    | zero => cases hv; exact k.hd
    | succ i => rw [List.getElem?_cons_succ] at hv; exact zEn_ok k.tl i v hv
  | Sum.inr (Sum.inl x) :: t, k, i, v, hv => by
    have hv : (some (vl x) :: none :: zEnt t)[i]? = some (some v) := hv
    match i, hv with
    | 0, hv => cases hv; exact k.hd
    | 1, hv => cases hv
    | i + 2, hv => rw [List.getElem?_cons_succ, List.getElem?_cons_succ] at hv; exact zEn_ok k.tl i v hv
  | Sum.inr (Sum.inr q) :: t, k, i, v, hv => by
    have hv : (some (Sum.inr (Sum.inr q)) :: zEnt t)[i]? = some (some v) := hv
    cases i with
    | zero => cases hv; exact k.hd
    | succ i => rw [List.getElem?_cons_succ] at hv; exact zEn_ok k.tl i v hv
theorem zEn_get {a : List zV} {nL i : Nat} {v : zV} (hv : (zEn a nL)[i]? = some (some v)) : (zEnt a)[i]? = some (some v) := by
  unfold zEn at hv
  by_cases hi : i < (zEnt a).length
  · rw [List.getElem?_append_left hi] at hv; exact hv
  · rw [List.getElem?_append_right (by omega)] at hv
    have := List.mem_of_getElem? hv
    have := List.eq_of_mem_replicate this
    cases this
/-- a method's contract out of its walk -/
theorem run_of {d : Nat} {y : MethodName} {M : zM} {a : List zV} {h : zH} {r : Option zV} {h' : zH} (hy : plainName y.cls = true) (hM : M.1 = y.cls) (hI : M.2.2.2.2 = true → y.name = "<init>") (hl : (zEnt a).length ≤ M.2.2.1) (k : Ex d M 0 (zEn a M.2.2.1) [] h (fun r' h2 => r' = r ∧ h2 = h')) : Run d y M.2.1 M.2.2.1 M.2.2.2.1 a h r h' := by
  obtain ⟨⟨r1, h1, ⟨e1, e2⟩, x⟩, k⟩ := k
  rw [e2] at x
  refine ⟨x, fun l D G => ?_⟩
  refine Met.ofW (cc := M.2.1) (maxL := M.2.2.1) (ret := M.2.2.2.1) hy rfl ?_
  intro p e s m args below meth c s₁ B hml hv
  obtain ⟨rfl, hR, hK, hN, hok⟩ := hv
  have hx := B.exec
  have hb := B.bytes
  have hr := B.returns
  have hts := atoms_spec (ws := Cond.code y M.2.1 M.2.2.1 M.2.2.2.1 :: zTbl) B.pre
  have hown : s.vm.findClass M.1 = some m.cls := by rw [hM]; exact findClass_of_methodNamed B.named
  have hlocks := B.notSynchronized
  have hin : meth.name = y.name := (name_of_methodNamed B.named B.method).1
  have hlv := lv_entry (a.map (cv G h)) (n := M.2.2.1) (by rw [zEnt_len]; exact hl)
  rw [lg_entry_eq]
  have K := k p l e (headSpec (Cond.code y M.2.1 M.2.2.1 M.2.2.2.1 :: zTbl) ({ frames := d, cells := nn h' - nn h, slots := us h' - us h, locals := 40 * d } : Room)).room s m (a.map (cv G h)).toArray below meth c D G (nn h) (us h)
    (MQ below (fun _ _ o t => o = .returned (r.map (cv G h')) ∧ HR D G t t.heap h' ∧ ∀ v, r = some v → okV h' v) (a.map (cv G h)).toArray s (nn h' - nn h) (us h' - us h) (fun q => G.1 ≤ q))
    ⟨hx, hb, hml, hown, fun w hw => hts w (List.mem_cons_of_mem _ hw), fun q => hin.trans (hI q), Nat.le_refl _, Nat.le_refl _, hK, hN⟩
    (fun r2 hF q => by
      obtain ⟨rfl, rfl⟩ := q
      have := x.1
      have := x.2.1
      exact ⟨by show nn hF ≤ nn h + (nn hF - nn h); omega, by show us hF ≤ us h + (us hF - us h); omega⟩)
    (fun r2 hF H ls locs pc' q hR' hv' ht hlo => by
      obtain ⟨rfl, rfl⟩ := q
      have hq : ∀ t : State, t.heap = H → s.WarmedH t.vm → (Outcome.returned (r2.map (cv G hF)) = .returned (r2.map (cv G hF)) ∧ HR D G t t.heap hF ∧ ∀ v, r2 = some v → okV hF v) := fun t ht2 hW => ⟨rfl, by rw [ht2]; exact hR'.moved hW.alike, hv'⟩
      match r2, ht, hq with
      | none, ht, hq => exact W.vret hx hb (hr.trans ht.2) hq hlo ht.1
      | some (Sum.inl x), ht, hq =>
        obtain ⟨ht, h2 | ⟨h2, h3⟩⟩ := ht
        · exact W.iret hx hb (hr.trans h2) hq hlo ht
        · refine W.zret hx hb (hr.trans h2) ?_ hq hlo ht
          rcases h3 with rfl | rfl <;> rfl
      | some (Sum.inr (Sum.inl x)), ht, hq => exact W.lret hx hb (hr.trans ht.2) hq hlo ht.1
      | some (Sum.inr (Sum.inr x)), ht, hq =>
        obtain ⟨ht, n, h2⟩ := ht
        refine W.aret hx hb (hr.trans h2) (Or.inl ⟨n, rfl⟩) ?_ hq hlo ht
        show (if x.2 < 0 then Value.null else .ref (ad G hF x.1 x.2)) = .null ∨ ∃ a, (if x.2 < 0 then Value.null else .ref (ad G hF x.1 x.2)) = .ref a
        by_cases hx2 : x.2 < 0
        · rw [if_pos hx2]; exact Or.inl rfl
        · rw [if_neg hx2]; exact Or.inr ⟨_, rfl⟩)
    (Nat.le_refl _) (Nat.le_refl _) s.heap _ [] hR ⟨hlv.1, hlv.2.1, by unfold zEn; simp; omega, fun i v hv => hlv.2.2 (i, cv G h v) (by have := zEnt_args (G := G) (h := h) a 0 i v (zEn_get hv); rwa [Nat.zero_add] at this)⟩ (fun i v hv => zEn_ok hok i v (zEn_get hv)) (fun v hv => by cases hv) (fun q hq => by cases hq)
  rw [Nat.sub_self, Nat.sub_self] at K
  exact K
end
section
/-! ROWS of Ex that leave the heap: one an instruction. q: the next pc. -/
def wI (z : Int) : Int := if z % 4294967296 < 2147483648 then z % 4294967296 else z % 4294967296 - 4294967296
def wL (z : Int) : Int := if z % 18446744073709551616 < 9223372036854775808 then z % 18446744073709551616 else z % 18446744073709551616 - 18446744073709551616
theorem wI_bmod (z : Int) : wI z = z.bmod 4294967296 := by unfold wI; rw [Int.bmod_def]; rfl
theorem wL_bmod (z : Int) : wL z = z.bmod 18446744073709551616 := by unfold wL; rw [Int.bmod_def]; rfl
theorem wI_rg (z : Int) : rgI (wI z) := by unfold wI rgI; constructor <;> split <;> omega
theorem wL_rg (z : Int) : rgL (wL z) := by unfold wL rgL; constructor <;> split <;> omega
theorem wI_eq {z : Int} (h : rgI z) : wI z = z := by unfold rgI at h; unfold wI; split <;> omega
theorem wL_eq {z : Int} (h : rgL z) : wL z = z := by unfold rgL at h; unfold wL; split <;> omega
theorem ofI_toInt {z : Int} (h : rgI z) : (Int32.ofInt z).toInt = z := Int32.toInt_ofInt_of_le h.1 h.2
theorem ofI_w (z : Int) : Int32.ofInt (wI z) = Int32.ofInt z := Int32.toInt_inj.mp (by rw [ofI_toInt (wI_rg z), Int32.toInt_ofInt]; exact wI_bmod z)
theorem ofL_toInt {z : Int} (h : rgL z) : (Int64.ofInt z).toInt = z := Int64.toInt_ofInt_of_le h.1 h.2
theorem ofL_w (z : Int) : Int64.ofInt (wL z) = Int64.ofInt z := Int64.toInt_inj.mp (by rw [ofL_toInt (wL_rg z), Int64.toInt_ofInt]; exact wL_bmod z)
theorem ofI_inj {a b : Int} (ha : rgI a) (hb : rgI b) : Int32.ofInt a = Int32.ofInt b ↔ a = b := ⟨fun h => by rw [← ofI_toInt ha, h, ofI_toInt hb], fun h => by rw [h]⟩
theorem ofI_lt {a b : Int} (ha : rgI a) (hb : rgI b) : Int32.ofInt a < Int32.ofInt b ↔ a < b := by rw [Int32.lt_iff_toInt_lt, ofI_toInt ha, ofI_toInt hb]
theorem ofI_le {a b : Int} (ha : rgI a) (hb : rgI b) : Int32.ofInt a ≤ Int32.ofInt b ↔ a ≤ b := by rw [Int32.le_iff_toInt_le, ofI_toInt ha, ofI_toInt hb]
theorem rg0 : rgI 0 := ⟨by decide, by decide⟩
theorem ofI_0 : (0 : Int32) = Int32.ofInt 0 := rfl
theorem ofI_in {j : Int} {n : Nat} (h0 : 0 ≤ j) (h1 : j < n) (hn : n < 2147483648) : ¬ (Int32.ofInt j < 0 ∨ n ≤ (Int32.ofInt j).toNatClampNeg) := by
  have hr : rgI j := ⟨by omega, by omega⟩
  rw [ofI_0, ofI_lt hr rg0, Int32.toNatClampNeg_ofInt_of_le hr.1 hr.2]
  omega
theorem ofI_clamp {j : Int} (hr : rgI j) : (Int32.ofInt j).toNatClampNeg = j.toNat := Int32.toNatClampNeg_ofInt_of_le hr.1 hr.2
def lc (x y : Int) : Int := if x > y then 1 else if x = y then 0 else -1
theorem lc_rg (x y : Int) : rgI (lc x y) := by unfold lc rgI; split <;> (try split) <;> omega
def wA (x y : Int) : Int := (Int32.ofInt x &&& Int32.ofInt y).toInt
section ER
variable {d : Nat} {M : zM} {pc q : Nat} {lo : List (Option zV)} {st : List zV} {h : zH} {Q : zQ} {own : String} {cc : ByteArray} {nL : Nat} {rt : Option FieldType × Bool}
theorem ex_iconst {n : Int} (hd : decode M.2.1 pc = .ok (.iconst n, 1)) (hq : pc + 1 = q) (hr : rgI n) (k : Ex d M q lo (vi n :: st) h Q) : Ex d M pc lo st h Q := by
  subst hq
  exact ex_go k (fun a b => ⟨a, okS.cons hr b⟩) fun p l e R s m args below meth c D G cells slots Qm H ls locs cx hR hL okl oks K => lv_iconst cx.1 cx.2.1 hd rfl (K ls hL)
theorem ex_bipush {n : Int} (hd : decode M.2.1 pc = .ok (.bipush n, 2)) (hq : pc + 2 = q) (hv : (Int8.ofInt n).toInt32 = Int32.ofInt n) (hr : rgI n) (k : Ex d M q lo (vi n :: st) h Q) : Ex d M pc lo st h Q := by
  subst hq
  exact ex_go k (fun a b => ⟨a, okS.cons hr b⟩) fun p l e R s m args below meth c D G cells slots Qm H ls locs cx hR hL okl oks K => lv_bipush cx.1 cx.2.1 hd hv (K ls hL)
theorem ex_sipush {n : Int} (hd : decode M.2.1 pc = .ok (.sipush n, 3)) (hq : pc + 3 = q) (hv : (Int16.ofInt n).toInt32 = Int32.ofInt n) (hr : rgI n) (k : Ex d M q lo (vi n :: st) h Q) : Ex d M pc lo st h Q := by
  subst hq
  exact ex_go k (fun a b => ⟨a, okS.cons hr b⟩) fun p l e R s m args below meth c D G cells slots Qm H ls locs cx hR hL okl oks K => lv_sipush cx.1 cx.2.1 hd hv (K ls hL)
theorem ex_lconst (n : Int) {f : Fin 2} (hd : decode M.2.1 pc = .ok (.lconst f, 1)) (hq : pc + 1 = q) (hv : Int64.ofNat (f : Nat) = Int64.ofInt n) (hr : rgL n) (k : Ex d M q lo (vl n :: st) h Q) : Ex d M pc lo st h Q := by
  subst hq
  exact ex_go k (fun a b => ⟨a, okS.cons hr b⟩) fun p l e R s m args below meth c D G cells slots Qm H ls locs cx hR hL okl oks K => lv_lconst cx.1 cx.2.1 hd hv (K ls hL)
theorem ex_ldc (n : Int) {i : Nat} {v : Int32} (hd : decode M.2.1 pc = .ok (.ldc i, 2)) (hq : pc + 2 = q) (hw : Cond.constant M.1 i v ∈ zTbl) (hv : v = Int32.ofInt n) (hr : rgI n) (k : Ex d M q lo (vi n :: st) h Q) : Ex d M pc lo st h Q := by
  subst hq; subst hv
  exact ex_go k (fun a b => ⟨a, okS.cons hr b⟩) fun p l e R s m args below meth c D G cells slots Qm H ls locs cx hR hL okl oks K => lv_ldc cx.1 cx.2.1 cx.2.2.2.1 (cx.2.2.2.2.1 _ hw) hd (K ls hL)
theorem ex_ldc2 (n : Int) {i : Nat} {v : Int64} (hd : decode M.2.1 pc = .ok (.ldc2_w i, 3)) (hq : pc + 3 = q) (hw : Cond.constantLong M.1 i v ∈ zTbl) (hv : v = Int64.ofInt n) (hr : rgL n) (k : Ex d M q lo (vl n :: st) h Q) : Ex d M pc lo st h Q := by
  subst hq; subst hv
  exact ex_go k (fun a b => ⟨a, okS.cons hr b⟩) fun p l e R s m args below meth c D G cells slots Qm H ls locs cx hR hL okl oks K => lv_ldc2 cx.1 cx.2.1 cx.2.2.2.1 (cx.2.2.2.2.1 _ hw) hd (K ls hL)
theorem ex_null (kd : Nat) (hd : decode M.2.1 pc = .ok (.aconst_null, 1)) (hq : pc + 1 = q) (k : Ex d M q lo (vr kd (-1) :: st) h Q) : Ex d M pc lo st h Q := by
  subst hq
  exact ex_go k (fun a b => ⟨a, okS.cons (Or.inl rfl) b⟩) fun p l e R s m args below meth c D G cells slots Qm H ls locs cx hR hL okl oks K => lv_null cx.1 cx.2.1 hd (K ls hL)
theorem ex_iload_n {f : Fin 4} {x : Int} (hd : decode M.2.1 pc = .ok (.iload_n f, 1)) (hq : pc + 1 = q) (hl : lo[(f : Nat)]? = some (some (vi x))) (k : Ex d M q lo (vi x :: st) h Q) : Ex d M pc lo st h Q := by
  subst hq
  exact ex_go k (fun a b => ⟨a, okS.cons (a _ _ hl) b⟩) fun p l e R s m args below meth c D G cells slots Qm H ls locs cx hR hL okl oks K => lv_iload_n cx.1 cx.2.1 hd rfl (hL.2.2.2 _ _ hl) (K ls hL)
theorem ex_iload {i : Nat} {x : Int} (hd : decode M.2.1 pc = .ok (.iload i, 2)) (hq : pc + 2 = q) (hl : lo[i]? = some (some (vi x))) (k : Ex d M q lo (vi x :: st) h Q) : Ex d M pc lo st h Q := by
  subst hq
  exact ex_go k (fun a b => ⟨a, okS.cons (a _ _ hl) b⟩) fun p l e R s m args below meth c D G cells slots Qm H ls locs cx hR hL okl oks K => lv_iload cx.1 cx.2.1 hd (hL.2.2.2 _ _ hl) (K ls hL)
theorem ex_lload_n {f : Fin 4} {x : Int} (hd : decode M.2.1 pc = .ok (.lload_n f, 1)) (hq : pc + 1 = q) (hl : lo[(f : Nat)]? = some (some (vl x))) (k : Ex d M q lo (vl x :: st) h Q) : Ex d M pc lo st h Q := by
  subst hq
  exact ex_go k (fun a b => ⟨a, okS.cons (a _ _ hl) b⟩) fun p l e R s m args below meth c D G cells slots Qm H ls locs cx hR hL okl oks K => lv_lload_n cx.1 cx.2.1 hd rfl (hL.2.2.2 _ _ hl) (K ls hL)
theorem ex_lload {i : Nat} {x : Int} (hd : decode M.2.1 pc = .ok (.lload i, 2)) (hq : pc + 2 = q) (hl : lo[i]? = some (some (vl x))) (k : Ex d M q lo (vl x :: st) h Q) : Ex d M pc lo st h Q := by
  subst hq
  exact ex_go k (fun a b => ⟨a, okS.cons (a _ _ hl) b⟩) fun p l e R s m args below meth c D G cells slots Qm H ls locs cx hR hL okl oks K => lv_lload cx.1 cx.2.1 hd (hL.2.2.2 _ _ hl) (K ls hL)
theorem ex_aload_n {f : Fin 4} {kd : Nat} {x : Int} (hd : decode M.2.1 pc = .ok (.aload_n f, 1)) (hq : pc + 1 = q) (hl : lo[(f : Nat)]? = some (some (vr kd x))) (k : Ex d M q lo (vr kd x :: st) h Q) : Ex d M pc lo st h Q := by
  subst hq
  refine ex_go k (fun a b => ⟨a, okS.cons (a _ _ hl) b⟩) fun p l e R s m args below meth c D G cells slots Qm H ls locs cx hR hL okl oks K => ?_
  have hg := hL.2.2.2 _ _ hl
  have K := K ls hL
  have e1 : cv G h (vr kd x) = if x < 0 then Value.null else .ref (ad G h kd x) := rfl
  rw [e1] at hg
  rw [List.map_cons, e1] at K
  by_cases hx : x < 0
  · rw [if_pos hx] at hg K; exact lv_aload_nN cx.1 cx.2.1 hd rfl hg K
  · rw [if_neg hx] at hg K; exact lv_aload_n cx.1 cx.2.1 hd rfl hg K
theorem ex_aload {i : Nat} {kd : Nat} {x : Int} (hd : decode M.2.1 pc = .ok (.aload i, 2)) (hq : pc + 2 = q) (hl : lo[i]? = some (some (vr kd x))) (k : Ex d M q lo (vr kd x :: st) h Q) : Ex d M pc lo st h Q := by
  subst hq
  refine ex_go k (fun a b => ⟨a, okS.cons (a _ _ hl) b⟩) fun p l e R s m args below meth c D G cells slots Qm H ls locs cx hR hL okl oks K => ?_
  have hg := hL.2.2.2 _ _ hl
  have K := K ls hL
  have e1 : cv G h (vr kd x) = if x < 0 then Value.null else .ref (ad G h kd x) := rfl
  rw [e1] at hg
  rw [List.map_cons, e1] at K
  by_cases hx : x < 0
  · rw [if_pos hx] at hg K; exact lv_aloadN cx.1 cx.2.1 hd hg K
  · rw [if_neg hx] at hg K; exact lv_aload cx.1 cx.2.1 hd hg K
theorem ex_istore_n {f : Fin 4} {x : Int} (hd : decode M.2.1 pc = .ok (.istore_n f, 1)) (hq : pc + 1 = q) (hn : (f : Nat) < M.2.2.1) (hg : zNg lo f = true) (k : Ex d M q (lo.set f (some (vi x))) st h Q) : Ex d M pc lo (vi x :: st) h Q := by
  subst hq
  exact ex_go k (fun a b => ⟨a.set b.hd, b.tl⟩) fun p l e R s m args below meth c D G cells slots Qm H ls locs cx hR hL okl oks K => lv_istore_n cx.1 cx.2.1 hd rfl hL.has hn rfl fun ls' k' => K ls' (hL.set1 (v := vi x) hg k')
theorem ex_istore {i : Nat} {x : Int} (hd : decode M.2.1 pc = .ok (.istore i, 2)) (hq : pc + 2 = q) (hn : i < M.2.2.1) (hg : zNg lo i = true) (k : Ex d M q (lo.set i (some (vi x))) st h Q) : Ex d M pc lo (vi x :: st) h Q := by
  subst hq
  exact ex_go k (fun a b => ⟨a.set b.hd, b.tl⟩) fun p l e R s m args below meth c D G cells slots Qm H ls locs cx hR hL okl oks K => lv_istore cx.1 cx.2.1 hd hL.has hn rfl fun ls' k' => K ls' (hL.set1 (v := vi x) hg k')
theorem ex_lstore_n {f : Fin 4} {x : Int} (hd : decode M.2.1 pc = .ok (.lstore_n f, 1)) (hq : pc + 1 = q) (hn : (f : Nat) + 1 < M.2.2.1) (hg : zNg lo f = true) (k : Ex d M q ((lo.set f (some (vl x))).set (f + 1) none) st h Q) : Ex d M pc lo (vl x :: st) h Q := by
  subst hq
  exact ex_go k (fun a b => ⟨(a.set b.hd).setN, b.tl⟩) fun p l e R s m args below meth c D G cells slots Qm H ls locs cx hR hL okl oks K => lv_lstore_n cx.1 cx.2.1 hd rfl hL.has hn rfl fun ls' k' => K ls' (hL.set2 (v := vl x) hg k')
theorem lv_astN_n {p : Program} {l : Launch} {e : Env} {R : Room} {s : State} {m : MethodId} {args : Array Value} {below : List Frame} {meth : Method} {c : Code} {H : Heap} {locs : List Loc} {cells slots : Nat} {Qm : State → Prop} {ls : Array Slot} {rest : List Value} (hexec : p.tables.exec = Jvm.exec) (hb : c.code = cc) {f : Fin 4} {lv : List (Nat × Value)} (hdg : decode cc pc = .ok (.astore_n f, 1)) (h : lv_has ls nL lv) (hn : (f : Nat) < nL)
    (kk : ∀ ls' : Array Slot, lv_has ls' nL (((f : Nat), Value.null) :: lv.filter (fun q => !(q.1 == (f : Nat)) && !(q.1 + 1 == (f : Nat) && q.2.category == 2))) → W p l e R s m args below meth c H locs cells slots Qm (F0 m (pc + 1) ls' rest)) : W p l e R s m args below meth c H locs cells slots Qm (F0 m pc ls (.null :: rest)) := by
  obtain ⟨ls', e', h'⟩ := lv_store1 (v := .null) h hn rfl
  intro T hT X
  obtain ⟨t, a, b⟩ := kk ls' h' T hT X
  refine ⟨t, ?_, b⟩
  jvm_step X.here [X.here.top, hexec, hb, hdg, e']
  exact ⟨rfl, a⟩
theorem lv_astN {p : Program} {l : Launch} {e : Env} {R : Room} {s : State} {m : MethodId} {args : Array Value} {below : List Frame} {meth : Method} {c : Code} {H : Heap} {locs : List Loc} {cells slots : Nat} {Qm : State → Prop} {ls : Array Slot} {rest : List Value} (hexec : p.tables.exec = Jvm.exec) (hb : c.code = cc) {f : Nat} {lv : List (Nat × Value)} (hdg : decode cc pc = .ok (.astore f, 2)) (h : lv_has ls nL lv) (hn : f < nL)
    (kk : ∀ ls' : Array Slot, lv_has ls' nL ((f, Value.null) :: lv.filter (fun q => !(q.1 == f) && !(q.1 + 1 == f && q.2.category == 2))) → W p l e R s m args below meth c H locs cells slots Qm (F0 m (pc + 2) ls' rest)) : W p l e R s m args below meth c H locs cells slots Qm (F0 m pc ls (.null :: rest)) := by
  obtain ⟨ls', e', h'⟩ := lv_store1 (v := .null) h hn rfl
  intro T hT X
  obtain ⟨t, a, b⟩ := kk ls' h' T hT X
  refine ⟨t, ?_, b⟩
  jvm_step X.here [X.here.top, hexec, hb, hdg, e']
  exact ⟨rfl, a⟩
theorem ex_astore_n {f : Fin 4} {kd : Nat} {x : Int} (hd : decode M.2.1 pc = .ok (.astore_n f, 1)) (hq : pc + 1 = q) (hn : (f : Nat) < M.2.2.1) (hg : zNg lo f = true) (k : Ex d M q (lo.set f (some (vr kd x))) st h Q) : Ex d M pc lo (vr kd x :: st) h Q := by
  subst hq
  refine ex_go k (fun a b => ⟨a.set b.hd, b.tl⟩) fun p l e R s m args below meth c D G cells slots Qm H ls locs cx hR hL okl oks K => ?_
  have K : ∀ ls', lv_has ls' M.2.2.1 (((f : Nat), cv G h (vr kd x)) :: (lvl G h lo).filter (fun q => !(q.1 == (f : Nat)) && !(q.1 + 1 == (f : Nat) && q.2.category == 2))) → W p l e R s m args below meth c H locs cells slots Qm (F0 m (pc + 1) ls' (st.map (cv G h))) := fun ls' k' => K ls' (hL.set1 (v := vr kd x) hg k')
  have e1 : cv G h (vr kd x) = if x < 0 then Value.null else .ref (ad G h kd x) := rfl
  rw [List.map_cons]
  rw [e1] at K ⊢
  by_cases hx : x < 0
  · rw [if_pos hx] at K ⊢; exact lv_astN_n cx.1 cx.2.1 hd hL.has hn K
  · rw [if_neg hx] at K ⊢; exact lv_astore_n cx.1 cx.2.1 hd rfl hL.has hn rfl K
theorem ex_astore {f : Nat} {kd : Nat} {x : Int} (hd : decode M.2.1 pc = .ok (.astore f, 2)) (hq : pc + 2 = q) (hn : f < M.2.2.1) (hg : zNg lo f = true) (k : Ex d M q (lo.set f (some (vr kd x))) st h Q) : Ex d M pc lo (vr kd x :: st) h Q := by
  subst hq
  refine ex_go k (fun a b => ⟨a.set b.hd, b.tl⟩) fun p l e R s m args below meth c D G cells slots Qm H ls locs cx hR hL okl oks K => ?_
  have K : ∀ ls', lv_has ls' M.2.2.1 ((f, cv G h (vr kd x)) :: (lvl G h lo).filter (fun q => !(q.1 == f) && !(q.1 + 1 == f && q.2.category == 2))) → W p l e R s m args below meth c H locs cells slots Qm (F0 m (pc + 2) ls' (st.map (cv G h))) := fun ls' k' => K ls' (hL.set1 (v := vr kd x) hg k')
  have e1 : cv G h (vr kd x) = if x < 0 then Value.null else .ref (ad G h kd x) := rfl
  rw [List.map_cons]
  rw [e1] at K ⊢
  by_cases hx : x < 0
  · rw [if_pos hx] at K ⊢; exact lv_astN cx.1 cx.2.1 hd hL.has hn K
  · rw [if_neg hx] at K ⊢; exact lv_astore cx.1 cx.2.1 hd hL.has hn rfl K
theorem ex_iinc {i : Nat} {n x : Int} (hd : decode M.2.1 pc = .ok (.iinc i n, 3)) (hq : pc + 3 = q) (hl : lo[i]? = some (some (vi x))) (hn : i < M.2.2.1) (hg : zNg lo i = true) (k : Ex d M q (lo.set i (some (vi (wI (x + n))))) st h Q) : Ex d M pc lo st h Q := by
  subst hq
  refine ex_go k (fun a b => ⟨a.set (wI_rg _), b⟩) fun p l e R s m args below meth c D G cells slots Qm H ls locs cx hR hL okl oks K => ?_
  obtain ⟨j, hj⟩ := List.getElem?_of_mem (lvl_mem (G := G) (h := h) hl)
  exact lv_iinc cx.1 cx.2.1 hd hL.has hj (by rw [ofI_w, Int32.ofInt_add]) hn rfl fun ls' k' => K ls' (hL.set1 (v := vi (wI (x + n))) hg k')
theorem ex_iadd {x y : Int} (hd : decode M.2.1 pc = .ok (.iadd, 1)) (hq : pc + 1 = q) (k : Ex d M q lo (vi (wI (x + y)) :: st) h Q) : Ex d M pc lo (vi y :: vi x :: st) h Q := by
  subst hq
  refine ex_go k (fun a b => ⟨a, okS.cons (wI_rg _) b.tl.tl⟩) fun p l e R s m args below meth c D G cells slots Qm H ls locs cx hR hL okl oks K => lv_iadd cx.1 cx.2.1 hd ?_
  rw [← Int32.ofInt_add, ← ofI_w]; exact K ls hL
theorem ex_isub {x y : Int} (hd : decode M.2.1 pc = .ok (.isub, 1)) (hq : pc + 1 = q) (k : Ex d M q lo (vi (wI (x - y)) :: st) h Q) : Ex d M pc lo (vi y :: vi x :: st) h Q := by
  subst hq
  refine ex_go k (fun a b => ⟨a, okS.cons (wI_rg _) b.tl.tl⟩) fun p l e R s m args below meth c D G cells slots Qm H ls locs cx hR hL okl oks K => lv_isub cx.1 cx.2.1 hd ?_
  rw [← Int32.ofInt_sub, ← ofI_w]; exact K ls hL
theorem ex_imul {x y : Int} (hd : decode M.2.1 pc = .ok (.imul, 1)) (hq : pc + 1 = q) (k : Ex d M q lo (vi (wI (x * y)) :: st) h Q) : Ex d M pc lo (vi y :: vi x :: st) h Q := by
  subst hq
  refine ex_go k (fun a b => ⟨a, okS.cons (wI_rg _) b.tl.tl⟩) fun p l e R s m args below meth c D G cells slots Qm H ls locs cx hR hL okl oks K => lv_imul cx.1 cx.2.1 hd ?_
  rw [← Int32.ofInt_mul, ← ofI_w]; exact K ls hL
theorem ex_iand {x y : Int} (hd : decode M.2.1 pc = .ok (.iand, 1)) (hq : pc + 1 = q) (k : Ex d M q lo (vi (wA x y) :: st) h Q) : Ex d M pc lo (vi y :: vi x :: st) h Q := by
  subst hq
  refine ex_go k (fun a b => ⟨a, okS.cons ⟨Int32.le_toInt _, Int32.toInt_lt _⟩ b.tl.tl⟩) fun p l e R s m args below meth c D G cells slots Qm H ls locs cx hR hL okl oks K => lv_iand cx.1 cx.2.1 hd ?_
  have := K ls hL
  rw [List.map_cons, show cv G h (vi (wA x y)) = .int (Int32.ofInt x &&& Int32.ofInt y) from congrArg Value.int (Int32.ofInt_toInt _)] at this
  exact this
theorem ex_irem {x y : Int} (hd : decode M.2.1 pc = .ok (.irem, 1)) (hq : pc + 1 = q) (hx : 0 ≤ x) (hy : 0 < y) (k : Ex d M q lo (vi (x % y) :: st) h Q) : Ex d M pc lo (vi y :: vi x :: st) h Q := by
  subst hq
  have hrem : okS h (vi y :: vi x :: st) → rgI x ∧ rgI y ∧ rgI (x % y) := fun b => by
    have h1 : rgI y := b.hd
    have h2 : rgI x := b.tl.hd
    have h3 := Int.emod_nonneg x (show y ≠ 0 by omega)
    have h4 := Int.emod_lt_of_pos x hy
    unfold rgI at *
    refine ⟨h2, h1, ?_, ?_⟩ <;> omega
  refine ex_go k (fun a b => ⟨a, okS.cons (hrem b).2.2 b.tl.tl⟩) fun p l e R s m args below meth c D G cells slots Qm H ls locs cx hR hL okl oks K => ?_
  obtain ⟨h2, h1, h3⟩ := hrem oks
  refine lv_irem cx.1 cx.2.1 hd (by rw [ofI_0, ofI_inj h1 rg0]; omega) ?_
  have e1 : Int32.ofInt x - Int32.ofInt x / Int32.ofInt y * Int32.ofInt y = Int32.ofInt (x % y) := by
    have hdiv : (Int32.ofInt x / Int32.ofInt y) = Int32.ofInt (x / y) := by
      apply Int32.toInt_inj.mp
      rw [Int32.toInt_div, ofI_toInt h2, ofI_toInt h1, Int32.toInt_ofInt]
      rw [Int.tdiv_eq_ediv_of_nonneg hx]
    rw [hdiv, ← Int32.ofInt_mul, ← Int32.ofInt_sub]
    congr 1
    have := Int.emod_add_mul_ediv x y
    rw [Int.mul_comm] at this
    omega
  rw [e1]; exact K ls hL
theorem ex_ladd {x y : Int} (hd : decode M.2.1 pc = .ok (.ladd, 1)) (hq : pc + 1 = q) (k : Ex d M q lo (vl (wL (x + y)) :: st) h Q) : Ex d M pc lo (vl y :: vl x :: st) h Q := by
  subst hq
  refine ex_go k (fun a b => ⟨a, okS.cons (wL_rg _) b.tl.tl⟩) fun p l e R s m args below meth c D G cells slots Qm H ls locs cx hR hL okl oks K => lv_ladd cx.1 cx.2.1 hd ?_
  rw [← Int64.ofInt_add, ← ofL_w]; exact K ls hL
theorem ex_i2l {x : Int} (hd : decode M.2.1 pc = .ok (.i2l, 1)) (hq : pc + 1 = q) (k : Ex d M q lo (vl x :: st) h Q) : Ex d M pc lo (vi x :: st) h Q := by
  subst hq
  refine ex_go k (fun a b => ⟨a, okS.cons (show rgL x from (by have := b.hd; have : rgI x := this; unfold rgI at this; unfold rgL; omega)) b.tl⟩) fun p l e R s m args below meth c D G cells slots Qm H ls locs cx hR hL okl oks K => lv_i2l cx.1 cx.2.1 hd ?_ (K ls hL)
  have hr : rgI x := oks.hd
  have hr2 : rgL x := by unfold rgI at hr; unfold rgL; omega
  exact Int64.toInt_inj.mp (by rw [Int32.toInt_toInt64, ofI_toInt hr, ofL_toInt hr2])
theorem ex_lcmp {x y : Int} (hd : decode M.2.1 pc = .ok (.lcmp, 1)) (hq : pc + 1 = q) (k : Ex d M q lo (vi (lc x y) :: st) h Q) : Ex d M pc lo (vl y :: vl x :: st) h Q := by
  subst hq
  refine ex_go k (fun a b => ⟨a, okS.cons (lc_rg _ _) b.tl.tl⟩) fun p l e R s m args below meth c D G cells slots Qm H ls locs cx hR hL okl oks K => W.lcmp cx.1 cx.2.1 hd ?_
  have hy : rgL y := oks.hd
  have hx : rgL x := oks.tl.hd
  have e1 : lg_cmp (Int64.ofInt x) (Int64.ofInt y) = Int32.ofInt (lc x y) := by
    have h1 : (Int64.ofInt x > Int64.ofInt y) ↔ x > y := by
      show (Int64.ofInt y < Int64.ofInt x) ↔ y < x
      rw [Int64.lt_iff_toInt_lt, ofL_toInt hx, ofL_toInt hy]
    have h2 : (Int64.ofInt x = Int64.ofInt y) ↔ x = y := ⟨fun z => by rw [← ofL_toInt hx, z, ofL_toInt hy], fun z => by rw [z]⟩
    unfold lg_cmp lc
    by_cases c1 : x > y
    · rw [if_pos (h1.mpr c1), if_pos c1]; rfl
    · rw [if_neg (fun z => c1 (h1.mp z)), if_neg c1]
      by_cases c2 : x = y
      · rw [if_pos (h2.mpr c2), if_pos c2]; rfl
      · rw [if_neg (fun z => c2 (h2.mp z)), if_neg c2]; rfl
  rw [e1]; exact K ls hL
theorem ex_dup {v : zV} (hd : decode M.2.1 pc = .ok (.dup, 1)) (hq : pc + 1 = q) (hv : ∀ x, v ≠ vl x) (k : Ex d M q lo (v :: v :: st) h Q) : Ex d M pc lo (v :: st) h Q := by
  subst hq
  exact ex_go k (fun a b => ⟨a, okS.cons b.hd b⟩) fun p l e R s m args below meth c D G cells slots Qm H ls locs cx hR hL okl oks K => lv_dup cx.1 cx.2.1 hd (cv_cat1 hv) (K ls hL)
theorem ex_pop {v : zV} (hd : decode M.2.1 pc = .ok (.pop, 1)) (hq : pc + 1 = q) (hv : ∀ x, v ≠ vl x) (k : Ex d M q lo st h Q) : Ex d M pc lo (v :: st) h Q := by
  subst hq
  exact ex_go k (fun a b => ⟨a, b.tl⟩) fun p l e R s m args below meth c D G cells slots Qm H ls locs cx hR hL okl oks K => lv_pop cx.1 cx.2.1 hd (cv_cat1 hv) (K ls hL)
theorem ex_dup2 {v w : zV} (hd : decode M.2.1 pc = .ok (.dup2, 1)) (hq : pc + 1 = q) (hv : ∀ x, v ≠ vl x) (hw : ∀ x, w ≠ vl x) (k : Ex d M q lo (v :: w :: v :: w :: st) h Q) : Ex d M pc lo (v :: w :: st) h Q := by
  subst hq
  exact ex_go k (fun a b => ⟨a, okS.cons b.hd (okS.cons b.tl.hd b)⟩) fun p l e R s m args below meth c D G cells slots Qm H ls locs cx hR hL okl oks K => lv_dup2_11 cx.1 cx.2.1 hd (cv_cat1 hv) (cv_cat1 hw) (K ls hL)
theorem ex_goto {off : Int} (hd : decode M.2.1 pc = .ok (.goto off, 3)) (hq : (pc : Int) + off = (q : Int)) (k : Ex d M q lo st h Q) : Ex d M pc lo st h Q :=
  ex_go k (fun a b => ⟨a, b⟩) fun p l e R s m args below meth c D G cells slots Qm H ls locs cx hR hL okl oks K => lv_goto cx.1 cx.2.1 hd hq (K ls hL)
end ER
end
section
-- the classes' tables
theorem zcl {c : Nat} (hc : c < 13) : vwCl[c]? = some (zRX c, zTX c, zN c) := by
  match c, hc with
  | 0, _ => rfl
  | 1, _ => rfl
  | 2, _ => rfl
  | 3, _ => rfl
  | 4, _ => rfl
  | 5, _ => rfl
  | 6, _ => rfl
  | 7, _ => rfl
  | 8, _ => rfl
  | 9, _ => rfl
  | 10, _ => rfl
  | 11, _ => rfl
  | 12, _ => rfl
theorem zty {c : Nat} (hc : c < 13) : ∀ k, k < zN c → parseFieldDescriptor (zTX c k).2.2.1 = some (zft (zT c k)) := by
  match c, hc with
  | 0, _ => exact (by decide +kernel)
  | 1, _ => exact (by decide +kernel)
  | 2, _ => exact (by decide +kernel)
  | 3, _ => exact (by decide +kernel)
  | 4, _ => exact (by decide +kernel)
  | 5, _ => exact (by decide +kernel)
  | 6, _ => exact (by decide +kernel)
  | 7, _ => exact (by decide +kernel)
  | 8, _ => exact (by decide +kernel)
  | 9, _ => exact (by decide +kernel)
  | 10, _ => exact (by decide +kernel)
  | 11, _ => exact (by decide +kernel)
  | 12, _ => exact (by decide +kernel)
theorem ztc {c : Nat} (hc : c < 13) : ∀ k, k < zN c → (zT c k < 3 ∨ 10 ≤ zT c k) := by
  match c, hc with
  | 0, _ => exact (by decide +kernel)
  | 1, _ => exact (by decide +kernel)
  | 2, _ => exact (by decide +kernel)
  | 3, _ => exact (by decide +kernel)
  | 4, _ => exact (by decide +kernel)
  | 5, _ => exact (by decide +kernel)
  | 6, _ => exact (by decide +kernel)
  | 7, _ => exact (by decide +kernel)
  | 8, _ => exact (by decide +kernel)
  | 9, _ => exact (by decide +kernel)
  | 10, _ => exact (by decide +kernel)
  | 11, _ => exact (by decide +kernel)
  | 12, _ => exact (by decide +kernel)
theorem znm {c : Nat} (hc : c < 13) : ∀ a, a < zN c → ∀ b, b < zN c → a ≠ b → (zTX c a).2.1 ≠ (zTX c b).2.1 := by
  match c, hc with
  | 0, _ => exact nmX0
  | 1, _ => exact nmX1
  | 2, _ => exact nmX2
  | 3, _ => exact nmX3
  | 4, _ => exact nmX4
  | 5, _ => exact nmX5
  | 6, _ => exact nmX6
  | 7, _ => exact nmX7
  | 8, _ => exact nmX8
  | 9, _ => exact nmX9
  | 10, _ => exact nmX10
  | 11, _ => exact nmX11
  | 12, _ => exact nmX12
theorem zin {c : Nat} (hc : c < 13) : ∀ w ∈ u_ws (zRX c) (zTX c) (zN c), w ∈ zTbl := by
  match c, hc with
  | 0, _ => exact fun w hw => (show ∀ w ∈ wsX00, w ∈ zTbl from (by decide +kernel)) w hw
  | 1, _ => exact fun w hw => (show ∀ w ∈ wsX10, w ∈ zTbl from (by decide +kernel)) w hw
  | 2, _ => exact fun w hw => (show ∀ w ∈ wsX20, w ∈ zTbl from (by decide +kernel)) w hw
  | 3, _ => exact fun w hw => (show ∀ w ∈ wsX30, w ∈ zTbl from (by decide +kernel)) w hw
  | 4, _ => exact fun w hw => (show ∀ w ∈ wsX40, w ∈ zTbl from (by decide +kernel)) w hw
  | 5, _ => exact fun w hw => (show ∀ w ∈ wsX50, w ∈ zTbl from (by decide +kernel)) w hw
  | 6, _ => exact fun w hw => (show ∀ w ∈ wsX60, w ∈ zTbl from (by decide +kernel)) w hw
  | 7, _ => exact fun w hw => (show ∀ w ∈ wsX70, w ∈ zTbl from (by decide +kernel)) w hw
  | 8, _ => exact fun w hw => (show ∀ w ∈ wsX80, w ∈ zTbl from (by decide +kernel)) w hw
  | 9, _ => exact fun w hw => (show ∀ w ∈ wsX90, w ∈ zTbl from (by decide +kernel)) w hw
  | 10, _ => exact fun w hw => (show ∀ w ∈ wsX100, w ∈ zTbl from (by decide +kernel)) w hw
  | 11, _ => exact fun w hw => (show ∀ w ∈ wsX110, w ∈ zTbl from (by decide +kernel)) w hw
  | 12, _ => exact fun w hw => (show ∀ w ∈ wsX120, w ∈ zTbl from (by decide +kernel)) w hw
end
section
/-! ROWS of Ex: branches, the heap, calls -/
section EB
variable {d : Nat} {M : zM} {pc q : Nat} {lo : List (Option zV)} {st : List zV} {h : zH} {Q : zQ}
theorem ex_br {P : Prop} {tgt : Nat} {st0 : List zV} (kt : P → Ex d M tgt lo st h Q) (kf : ¬ P → Ex d M q lo st h Q) (hok : okS h st0 → okS h st)
    (hstep : ∀ (p : Program) (l : Launch) (e : Env) (R : Room) (s : State) (m : MethodId) (args : Array Value) (below : List Frame) (meth : Method) (c : Code) (D : va_G) (G : zG) (cells slots : Nat) (Qm : State → Prop) (H : Heap) (ls : Array Slot) (locs : List Loc),
      zCx d M p R s m args meth c D → okS h st0 →
      (P → W p l e R s m args below meth c H locs cells slots Qm (F0 m tgt ls (st.map (cv G h)))) → (¬ P → W p l e R s m args below meth c H locs cells slots Qm (F0 m q ls (st.map (cv G h)))) →
      W p l e R s m args below meth c H locs cells slots Qm (F0 m pc ls (st0.map (cv G h)))) : Ex d M pc lo st0 h Q := by
  by_cases hP : P
  · exact ex_go (kt hP) (fun a b => ⟨a, hok b⟩) fun p l e R s m args below meth c D G cells slots Qm H ls locs cx hR hL okl oks K => hstep p l e R s m args below meth c D G cells slots Qm H ls locs cx oks (fun _ => K ls hL) (fun z => absurd hP z)
  · exact ex_go (kf hP) (fun a b => ⟨a, hok b⟩) fun p l e R s m args below meth c D G cells slots Qm H ls locs cx hR hL okl oks K => hstep p l e R s m args below meth c D G cells slots Qm H ls locs cx oks (fun z => absurd z hP) (fun _ => K ls hL)
theorem zc_eq {x y : Int} (hx : rgI x) (hy : rgI y) : (Int32.ofInt x = Int32.ofInt y) ↔ (x = y) := ofI_inj hx hy
theorem ex_icmp_eq {x y off : Int} {tgt : Nat} (hd : decode M.2.1 pc = .ok (.if_icmp .eq off, 3)) (hq : pc + 3 = q) (ht : (pc : Int) + off = (tgt : Int)) (kt : x = y → Ex d M tgt lo st h Q) (kf : ¬ (x = y) → Ex d M q lo st h Q) : Ex d M pc lo (vi y :: vi x :: st) h Q := by
  subst hq
  exact ex_br kt kf (fun b => b.tl.tl) fun p l e R s m args below meth c D G cells slots Qm H ls locs cx oks kt kf => lv_icmp_eq cx.1 cx.2.1 hd ht (fun z => kt ((zc_eq oks.tl.hd oks.hd).mp z)) (fun z => kf fun w => z ((zc_eq oks.tl.hd oks.hd).mpr w))
theorem ex_if_eq {x off : Int} {tgt : Nat} (hd : decode M.2.1 pc = .ok (.ifCond .eq off, 3)) (hq : pc + 3 = q) (ht : (pc : Int) + off = (tgt : Int)) (kt : x = 0 → Ex d M tgt lo st h Q) (kf : ¬ (x = 0) → Ex d M q lo st h Q) : Ex d M pc lo (vi x :: st) h Q := by
  subst hq
  exact ex_br kt kf (fun b => b.tl) fun p l e R s m args below meth c D G cells slots Qm H ls locs cx oks kt kf => lv_if_eq cx.1 cx.2.1 hd ht (fun z => kt ((zc_eq (y := 0) oks.hd rg0).mp z)) (fun z => kf fun w => z ((zc_eq (y := 0) oks.hd rg0).mpr w))
theorem zc_ne {x y : Int} (hx : rgI x) (hy : rgI y) : (Int32.ofInt x ≠ Int32.ofInt y) ↔ (x ≠ y) := not_congr (ofI_inj hx hy)
theorem ex_icmp_ne {x y off : Int} {tgt : Nat} (hd : decode M.2.1 pc = .ok (.if_icmp .ne off, 3)) (hq : pc + 3 = q) (ht : (pc : Int) + off = (tgt : Int)) (kt : x ≠ y → Ex d M tgt lo st h Q) (kf : ¬ (x ≠ y) → Ex d M q lo st h Q) : Ex d M pc lo (vi y :: vi x :: st) h Q := by
  subst hq
  exact ex_br kt kf (fun b => b.tl.tl) fun p l e R s m args below meth c D G cells slots Qm H ls locs cx oks kt kf => lv_icmp_ne cx.1 cx.2.1 hd ht (fun z => kt ((zc_ne oks.tl.hd oks.hd).mp z)) (fun z => kf fun w => ((zc_ne oks.tl.hd oks.hd).mpr w) z)
theorem ex_if_ne {x off : Int} {tgt : Nat} (hd : decode M.2.1 pc = .ok (.ifCond .ne off, 3)) (hq : pc + 3 = q) (ht : (pc : Int) + off = (tgt : Int)) (kt : x ≠ 0 → Ex d M tgt lo st h Q) (kf : ¬ (x ≠ 0) → Ex d M q lo st h Q) : Ex d M pc lo (vi x :: st) h Q := by
  subst hq
  exact ex_br kt kf (fun b => b.tl) fun p l e R s m args below meth c D G cells slots Qm H ls locs cx oks kt kf => lv_if_ne cx.1 cx.2.1 hd ht (fun z => kt ((zc_ne (y := 0) oks.hd rg0).mp z)) (fun z => kf fun w => ((zc_ne (y := 0) oks.hd rg0).mpr w) z)
theorem zc_lt {x y : Int} (hx : rgI x) (hy : rgI y) : (Int32.ofInt x < Int32.ofInt y) ↔ (x < y) := ofI_lt hx hy
theorem ex_icmp_lt {x y off : Int} {tgt : Nat} (hd : decode M.2.1 pc = .ok (.if_icmp .lt off, 3)) (hq : pc + 3 = q) (ht : (pc : Int) + off = (tgt : Int)) (kt : x < y → Ex d M tgt lo st h Q) (kf : ¬ (x < y) → Ex d M q lo st h Q) : Ex d M pc lo (vi y :: vi x :: st) h Q := by
  subst hq
  exact ex_br kt kf (fun b => b.tl.tl) fun p l e R s m args below meth c D G cells slots Qm H ls locs cx oks kt kf => lv_icmp_lt cx.1 cx.2.1 hd ht (fun z => kt ((zc_lt oks.tl.hd oks.hd).mp z)) (fun z => kf fun w => z ((zc_lt oks.tl.hd oks.hd).mpr w))
theorem ex_if_lt {x off : Int} {tgt : Nat} (hd : decode M.2.1 pc = .ok (.ifCond .lt off, 3)) (hq : pc + 3 = q) (ht : (pc : Int) + off = (tgt : Int)) (kt : x < 0 → Ex d M tgt lo st h Q) (kf : ¬ (x < 0) → Ex d M q lo st h Q) : Ex d M pc lo (vi x :: st) h Q := by
  subst hq
  exact ex_br kt kf (fun b => b.tl) fun p l e R s m args below meth c D G cells slots Qm H ls locs cx oks kt kf => lv_if_lt cx.1 cx.2.1 hd ht (fun z => kt ((zc_lt (y := 0) oks.hd rg0).mp z)) (fun z => kf fun w => z ((zc_lt (y := 0) oks.hd rg0).mpr w))
theorem zc_ge {x y : Int} (hx : rgI x) (hy : rgI y) : (Int32.ofInt x ≥ Int32.ofInt y) ↔ (y ≤ x) := ofI_le hy hx
theorem ex_icmp_ge {x y off : Int} {tgt : Nat} (hd : decode M.2.1 pc = .ok (.if_icmp .ge off, 3)) (hq : pc + 3 = q) (ht : (pc : Int) + off = (tgt : Int)) (kt : y ≤ x → Ex d M tgt lo st h Q) (kf : ¬ (y ≤ x) → Ex d M q lo st h Q) : Ex d M pc lo (vi y :: vi x :: st) h Q := by
  subst hq
  exact ex_br kt kf (fun b => b.tl.tl) fun p l e R s m args below meth c D G cells slots Qm H ls locs cx oks kt kf => lv_icmp_ge cx.1 cx.2.1 hd ht (fun z => kt ((zc_ge oks.tl.hd oks.hd).mp z)) (fun z => kf fun w => z ((zc_ge oks.tl.hd oks.hd).mpr w))
theorem ex_if_ge {x off : Int} {tgt : Nat} (hd : decode M.2.1 pc = .ok (.ifCond .ge off, 3)) (hq : pc + 3 = q) (ht : (pc : Int) + off = (tgt : Int)) (kt : 0 ≤ x → Ex d M tgt lo st h Q) (kf : ¬ (0 ≤ x) → Ex d M q lo st h Q) : Ex d M pc lo (vi x :: st) h Q := by
  subst hq
  exact ex_br kt kf (fun b => b.tl) fun p l e R s m args below meth c D G cells slots Qm H ls locs cx oks kt kf => lv_if_ge cx.1 cx.2.1 hd ht (fun z => kt ((zc_ge (y := 0) oks.hd rg0).mp z)) (fun z => kf fun w => z ((zc_ge (y := 0) oks.hd rg0).mpr w))
theorem zc_gt {x y : Int} (hx : rgI x) (hy : rgI y) : (Int32.ofInt x > Int32.ofInt y) ↔ (y < x) := ofI_lt hy hx
theorem ex_icmp_gt {x y off : Int} {tgt : Nat} (hd : decode M.2.1 pc = .ok (.if_icmp .gt off, 3)) (hq : pc + 3 = q) (ht : (pc : Int) + off = (tgt : Int)) (kt : y < x → Ex d M tgt lo st h Q) (kf : ¬ (y < x) → Ex d M q lo st h Q) : Ex d M pc lo (vi y :: vi x :: st) h Q := by
  subst hq
  exact ex_br kt kf (fun b => b.tl.tl) fun p l e R s m args below meth c D G cells slots Qm H ls locs cx oks kt kf => lv_icmp_gt cx.1 cx.2.1 hd ht (fun z => kt ((zc_gt oks.tl.hd oks.hd).mp z)) (fun z => kf fun w => z ((zc_gt oks.tl.hd oks.hd).mpr w))
theorem ex_if_gt {x off : Int} {tgt : Nat} (hd : decode M.2.1 pc = .ok (.ifCond .gt off, 3)) (hq : pc + 3 = q) (ht : (pc : Int) + off = (tgt : Int)) (kt : 0 < x → Ex d M tgt lo st h Q) (kf : ¬ (0 < x) → Ex d M q lo st h Q) : Ex d M pc lo (vi x :: st) h Q := by
  subst hq
  exact ex_br kt kf (fun b => b.tl) fun p l e R s m args below meth c D G cells slots Qm H ls locs cx oks kt kf => lv_if_gt cx.1 cx.2.1 hd ht (fun z => kt ((zc_gt (y := 0) oks.hd rg0).mp z)) (fun z => kf fun w => z ((zc_gt (y := 0) oks.hd rg0).mpr w))
theorem zc_le {x y : Int} (hx : rgI x) (hy : rgI y) : (Int32.ofInt x ≤ Int32.ofInt y) ↔ (x ≤ y) := ofI_le hx hy
theorem ex_icmp_le {x y off : Int} {tgt : Nat} (hd : decode M.2.1 pc = .ok (.if_icmp .le off, 3)) (hq : pc + 3 = q) (ht : (pc : Int) + off = (tgt : Int)) (kt : x ≤ y → Ex d M tgt lo st h Q) (kf : ¬ (x ≤ y) → Ex d M q lo st h Q) : Ex d M pc lo (vi y :: vi x :: st) h Q := by
  subst hq
  exact ex_br kt kf (fun b => b.tl.tl) fun p l e R s m args below meth c D G cells slots Qm H ls locs cx oks kt kf => lv_icmp_le cx.1 cx.2.1 hd ht (fun z => kt ((zc_le oks.tl.hd oks.hd).mp z)) (fun z => kf fun w => z ((zc_le oks.tl.hd oks.hd).mpr w))
theorem ex_if_le {x off : Int} {tgt : Nat} (hd : decode M.2.1 pc = .ok (.ifCond .le off, 3)) (hq : pc + 3 = q) (ht : (pc : Int) + off = (tgt : Int)) (kt : x ≤ 0 → Ex d M tgt lo st h Q) (kf : ¬ (x ≤ 0) → Ex d M q lo st h Q) : Ex d M pc lo (vi x :: st) h Q := by
  subst hq
  exact ex_br kt kf (fun b => b.tl) fun p l e R s m args below meth c D G cells slots Qm H ls locs cx oks kt kf => lv_if_le cx.1 cx.2.1 hd ht (fun z => kt ((zc_le (y := 0) oks.hd rg0).mp z)) (fun z => kf fun w => z ((zc_le (y := 0) oks.hd rg0).mpr w))
theorem ex_ifnull {kd : Nat} {x off : Int} {tgt : Nat} (hd : decode M.2.1 pc = .ok (.ifnull off, 3)) (hq : pc + 3 = q) (ht : (pc : Int) + off = (tgt : Int)) (kt : x = -1 → Ex d M tgt lo st h Q) (kf : ¬ x = -1 → Ex d M q lo st h Q) : Ex d M pc lo (vr kd x :: st) h Q := by
  subst hq
  refine ex_br kt kf (fun b => b.tl) fun p l e R s m args below meth c D G cells slots Qm H ls locs cx oks kt kf => ?_
  have hv : x = -1 ∨ (0 ≤ x ∧ x < cn h kd) := oks.hd
  rw [List.map_cons, show cv G h (vr kd x) = if x < 0 then Value.null else .ref (ad G h kd x) from rfl]
  by_cases hx : x = -1
  · rw [if_pos (by omega)]; exact lv_ifnullN cx.1 cx.2.1 hd ht (kt hx)
  · rw [if_neg (by omega)]; exact lv_ifnull cx.1 cx.2.1 hd (kf hx)
theorem ex_ifnonnull {kd : Nat} {x off : Int} {tgt : Nat} (hd : decode M.2.1 pc = .ok (.ifnonnull off, 3)) (hq : pc + 3 = q) (ht : (pc : Int) + off = (tgt : Int)) (kt : x ≠ -1 → Ex d M tgt lo st h Q) (kf : ¬ (x ≠ -1) → Ex d M q lo st h Q) : Ex d M pc lo (vr kd x :: st) h Q := by
  subst hq
  refine ex_br kt kf (fun b => b.tl) fun p l e R s m args below meth c D G cells slots Qm H ls locs cx oks kt kf => ?_
  have hv : x = -1 ∨ (0 ≤ x ∧ x < cn h kd) := oks.hd
  rw [List.map_cons, show cv G h (vr kd x) = if x < 0 then Value.null else .ref (ad G h kd x) from rfl]
  by_cases hx : x = -1
  · rw [if_pos (by omega)]; exact lv_ifnonnullN cx.1 cx.2.1 hd (kf fun z => z hx)
  · rw [if_neg (by omega)]; exact lv_ifnonnull cx.1 cx.2.1 hd ht (kt hx)
theorem ex_tsw (v : Int) {x dflt lw hw off : Int} {offs : Array Int} {len tgt : Nat} (hd : decode M.2.1 pc = .ok (.tableswitch dflt lw hw offs, len)) (hx : x = v) (h1 : ¬ v < lw) (h2 : ¬ hw < v) (ho : offs[(v - lw).toNat]? = some off) (ht : (pc : Int) + off = (tgt : Int)) (k : Ex d M tgt lo st h Q) : Ex d M pc lo (vi x :: st) h Q := by
  subst hx
  refine ex_go k (fun a b => ⟨a, b.tl⟩) fun p l e R s m args below meth c D G cells slots Qm H ls locs cx hR hL okl oks K => ?_
  have hr : (Int32.ofInt x).toInt = x := ofI_toInt oks.hd
  exact lv_tableIn cx.1 cx.2.1 hd (by rw [hr]; exact h1) (by rw [hr]; exact h2) (by rw [hr]; exact ho) ht (K ls hL)
theorem ex_tswD {x dflt lw hw : Int} {offs : Array Int} {len tgt : Nat} (hd : decode M.2.1 pc = .ok (.tableswitch dflt lw hw offs, len)) (hx : x < lw ∨ hw < x) (ht : (pc : Int) + dflt = (tgt : Int)) (k : Ex d M tgt lo st h Q) : Ex d M pc lo (vi x :: st) h Q := by
  refine ex_go k (fun a b => ⟨a, b.tl⟩) fun p l e R s m args below meth c D G cells slots Qm H ls locs cx hR hL okl oks K => ?_
  have hr : (Int32.ofInt x).toInt = x := ofI_toInt oks.hd
  exact lv_tableOut cx.1 cx.2.1 hd (by rw [hr]; exact hx) ht (K ls hL)
theorem ex_lsw (v : Int) {x dflt off : Int} {ps : Array (Int × Int)} {len tgt : Nat} (hd : decode M.2.1 pc = .ok (.lookupswitch dflt ps, len)) (hx : x = v) (hp : (ps.toList.zip (ps.toList.drop 1)).all (fun (a, next) => a.1 < next.1) = true) (ho : Op.lookupswitch.offset ps.toList dflt v = off) (ht : (pc : Int) + off = (tgt : Int)) (k : Ex d M tgt lo st h Q) : Ex d M pc lo (vi x :: st) h Q := by
  subst hx
  refine ex_go k (fun a b => ⟨a, b.tl⟩) fun p l e R s m args below meth c D G cells slots Qm H ls locs cx hR hL okl oks K => ?_
  have hr : (Int32.ofInt x).toInt = x := ofI_toInt oks.hd
  exact lv_lookup cx.1 cx.2.1 hd hp (by rw [hr]; exact ho) ht (K ls hL)
theorem lsw_d {d x : Int} : ∀ {l : List (Int × Int)}, (∀ p ∈ l, p.1 ≠ x) → Op.lookupswitch.offset l d x = d
  | [], _ => rfl
  | (a, o) :: r, h => by
    rw [Op.lookupswitch.offset_cons, if_neg (h _ List.mem_cons_self)]
    exact lsw_d fun p hp => h p (List.mem_cons_of_mem _ hp)
theorem ex_lswD {x dflt : Int} {ps : Array (Int × Int)} {len tgt : Nat} (hd : decode M.2.1 pc = .ok (.lookupswitch dflt ps, len)) (hp : (ps.toList.zip (ps.toList.drop 1)).all (fun (a, next) => a.1 < next.1) = true) (hx : ∀ p ∈ ps.toList, p.1 ≠ x) (ht : (pc : Int) + dflt = (tgt : Int)) (k : Ex d M tgt lo st h Q) : Ex d M pc lo (vi x :: st) h Q := by
  refine ex_go k (fun a b => ⟨a, b.tl⟩) fun p l e R s m args below meth c D G cells slots Qm H ls locs cx hR hL okl oks K => ?_
  have hr : (Int32.ofInt x).toInt = x := ofI_toInt oks.hd
  exact lv_lookup cx.1 cx.2.1 hd hp (by rw [hr]; exact lsw_d hx) ht (K ls hL)
end EB
end
section
/-! ROWS of Ex that read and write the heap -/
theorem nf {G : zG} {h : zH} {t : Nat} {x : Int} (ht : t < 3 ∨ 10 ≤ t) (k : okT h t x) : narrow (zft t) (cv G h (mk t x)) = cv G h (mk t x) ∧ fits (zft t) (cv G h (mk t x)) = true := by
  obtain ⟨k0, k1, k2, k3, k4⟩ := k
  by_cases h10 : 10 ≤ t
  · have e1 : mk t x = vr (t - 10) x := by unfold mk; rw [if_neg (by omega), if_neg (by omega)]
    have e2 : cv G h (vr (t - 10) x) = if x < 0 then Value.null else .ref (ad G h (t - 10) x) := rfl
    rw [e1, e2]
    unfold zft zft0
    by_cases h30 : t < 30
    · rw [if_pos h30, if_neg (by omega), if_neg (by omega), if_neg (by omega)]
      by_cases hx : x < 0
      · rw [if_pos hx]; exact ⟨rfl, rfl⟩
      · rw [if_neg hx]; exact ⟨rfl, rfl⟩
    · rw [if_neg h30]
      by_cases hx : x < 0
      · rw [if_pos hx]; exact ⟨rfl, rfl⟩
      · rw [if_neg hx]; exact ⟨rfl, rfl⟩
  · rcases (show t = 0 ∨ t = 1 ∨ t = 2 by omega) with rfl | rfl | rfl
    · exact ⟨rfl, rfl⟩
    · exact ⟨rfl, rfl⟩
    · rcases k2 rfl with rfl | rfl <;> exact ⟨rfl, rfl⟩
theorem okT_of {h : zH} {t : Nat} {x : Int} (ht : t < 3 ∨ 10 ≤ t) (hv : okV h (mk t x)) (hz : t = 2 → x = 0 ∨ x = 1) : okT h t x := by
  refine ⟨fun e => ?_, fun e => ?_, hz, fun a b => by omega, fun a => ?_⟩
  · subst e; exact hv
  · subst e; exact hv
  · unfold mk at hv; rw [if_neg (by omega), if_neg (by omega)] at hv; exact hv
section EH
variable {d : Nat} {M : zM} {pc q : Nat} {lo : List (Option zV)} {st : List zV} {h : zH} {Q : zQ}
/-- a field's link, of the own class or a nest mate's -/
def zFL (own : String) (idx c j : Nat) : Prop := c < 13 ∧ j < zN c ∧ (Cond.fieldLink own idx (zTX c j).1 (zTX c j).2.1 (zTX c j).2.2.1 ∈ zTbl ∨ ∃ host, Cond.fieldLinkNest own idx (zTX c j).1 (zTX c j).2.1 (zTX c j).2.2.1 host ∈ lw_tbl)
theorem HR.obj {D : va_G} {G : zG} {U : State} {H : Heap} {h : zH} (k : HR D G U H h) {c : Nat} {i : Int} (hc : c < 13) (hv : okV h (vr c i)) (hi : 0 ≤ i) : i < cn h c ∧ ps h c i < nn h ∧ ad G h c i = G.1 + ps h c i ∧ t_OB (ad G h c i) (D.1 c) (zN c) (D.2 c) H (fun j => cv G h (mk (zT c j) (gt h c i j))) ∧ (∀ j : Nat, j < zN c → okT h (zT c j) (gt h c i j)) ∧ cv G h (vr c i) = .ref (ad G h c i) := by
  have hlt : i < cn h c := by
    rcases (show i = -1 ∨ (0 ≤ i ∧ i < cn h c) from hv) with q | q
    · omega
    · exact q.2
  obtain ⟨a, b, e⟩ := k.2.2.1 c i (by omega) hi hlt
  refine ⟨hlt, a, ?_, (b.1 (by omega)).2, fun j hj => ?_, ?_⟩
  · unfold ad; rw [if_pos (by omega)]
  · have := e j (by unfold zsN; rw [if_pos (by omega)]; exact hj)
    unfold zsT at this
    rw [if_pos (by omega)] at this
    exact this
  · show (if i < 0 then Value.null else .ref (ad G h c i)) = _
    rw [if_neg (by omega)]
theorem ex_get {c : Nat} (j : Nat) {i jz : Int} {idx : Nat} {v : zV} (hd : decode M.2.1 pc = .ok (.getfield idx, 3)) (hq : pc + 3 = q) (hl : zFL M.1 idx c j) (hi : 0 ≤ i) (hj : (j : Int) = jz) (hv : mk (zT c j) (gt h c i jz) = v) (k : Ex d M q lo (v :: st) h Q) : Ex d M pc lo (vr c i :: st) h Q := by
  subst hq; subst hj; subst hv
  obtain ⟨hc, hjn, hl⟩ := hl
  refine ⟨k.1, fun p l e R s m args below meth cd D G n0 u0 Qm cx room ret hn hu H ls locs hR hL okl oks hlo => ?_⟩
  obtain ⟨b1, b2, b3, b4, b5, b6⟩ := hR.obj hc oks.hd hi
  have K := k.2 p l e R s m args below meth cd D G n0 u0 Qm cx room ret hn hu H ls locs hR hL okl (okS.cons (okV_mk (b5 j hjn)) oks.tl) hlo
  rw [List.map_cons] at K ⊢
  rw [b6]
  obtain ⟨cell, q1, q2, q3, q4⟩ := b4
  obtain ⟨hS, hfc, kC, hkC, hkind⟩ := cx.2.2.2.2.2.2.2.2.1.1 c _ (zcl hc)
  obtain ⟨cf, kf, fi, f, hi2, hsl⟩ := hS j hjn
  have hst := (u_facts hfc hkC (u_lays cx.2.2.2.2.1 (zin hc) hjn) hi2).1
  have hslot : cell.slots[f.slot]? = some (cv G h (mk (zT c j) (gt h c i j))) := by rw [hsl]; exact q4 j hjn
  rcases hl with hl | ⟨host, hl⟩
  · exact W.getf cx.1 cx.2.1 cx.2.2.2.1 (cx.2.2.2.2.1 _ hl) hi2 hst q1 (by rw [q3]; exact fun h => by cases h) hslot rfl rfl hd K
  · exact va_Wgetf cx.1 cx.2.1 cx.2.2.2.1 (va_Nw.use rfl (cx.2.2.2.2.2.2.2.2.2.1 _ hl rfl)) hi2 hst q1 (by rw [q3]; exact fun h => by cases h) hslot rfl rfl hd K
/-- a step that changes the heap -/
theorem ex_hp {pc' : Nat} {lo' : List (Option zV)} {st' : List zV} {h' : zH} (k : Ex d M pc' lo' st' h' Q) (x : zXt h h') (hok : (∀ c, 0 ≤ cn h c) → okL h lo → okS h st → okL h' lo' ∧ okS h' st')
    (hstep : ∀ (p : Program) (l : Launch) (e : Env) (R : Room) (s : State) (m : MethodId) (args : Array Value) (below : List Frame) (meth : Method) (c : Code) (D : va_G) (G : zG) (cells slots : Nat) (Qm : State → Prop) (H : Heap) (ls : Array Slot) (locs : List Loc),
      zCx d M p R s m args meth c D → HR D G s H h → LR ls M.2.2.1 G h lo → okL h lo → okS h st → (∀ q ∈ locs, G.1 ≤ q.base) → cells + (nn h' - nn h) ≤ R.cells → slots + (us h' - us h) ≤ R.slots →
      (∀ (H' : Heap) (ls' : Array Slot) (locs' : List Loc), HR D G s H' h' → LR ls' M.2.2.1 G h' lo' → (∀ q ∈ locs', G.1 ≤ q.base) → W p l e R s m args below meth c H' locs' (cells + (nn h' - nn h)) (slots + (us h' - us h)) Qm (F0 m pc' ls' (st'.map (cv G h')))) →
      W p l e R s m args below meth c H locs cells slots Qm (F0 m pc ls (st.map (cv G h)))) : Ex d M pc lo st h Q := by
  obtain ⟨⟨r, hF, hq, x2⟩, k2⟩ := k
  refine ⟨⟨r, hF, hq, x.tr x2⟩, fun p l e R s m args below meth c D G n0 u0 Qm cx room ret hn hu H ls locs hR hL okl oks hlo => ?_⟩
  have r1 := room r hF hq
  have x1 := x.1
  have x3 := x.2.1
  have x4 := x2.1
  have x5 := x2.2.1
  refine hstep p l e R s m args below meth c D G _ _ Qm H ls locs cx hR hL okl oks hlo (by omega) (by omega) fun H' ls' locs' hR' hL' hlo' => ?_
  have K := k2 p l e R s m args below meth c D G n0 u0 Qm cx room ret (by omega) (by omega) H' ls' locs' hR' hL' (hok hR.2.1 okl oks).1 (hok hR.2.1 okl oks).2 hlo'
  rw [show nn h' - n0 = nn h - n0 + (nn h' - nn h) by omega, show us h' - u0 = us h - u0 + (us h' - us h) by omega] at K
  exact K
theorem locs_put {G : zG} {locs : List Loc} {a k : Nat} (h : ∀ q ∈ locs, G.1 ≤ q.base) (ha : G.1 ≤ a) : ∀ q ∈ locs ++ [⟨a, k⟩], G.1 ≤ q.base := fun q hq => by
  rcases List.mem_append.mp hq with z | z
  · exact h q z
  · rw [List.mem_singleton.mp z]; exact ha
theorem ob_put {D : va_G} {G : zG} {h : zH} {H' : Heap} {c j : Nat} {i x : Int} {cell : Cell} (hc : c < 13) (hap : ∀ a b, a < zN c → b < zN c → a ≠ b → D.2 c a ≠ D.2 c b) (hj : j < zN c) (q2 : cell.cls = D.1 c) (q3 : cell.vm = .none) (q4 : ∀ k, k < zN c → cell.slots[D.2 c k]? = some (cv G h (mk (zT c k) (gt h c i k)))) (e1 : H'[ad G h c i]? = some (cell.setSlot (D.2 c j) (cv G h (mk (zT c j) x)))) : t_OB (ad G (pt h c i j x) c i) (D.1 c) (zN c) (D.2 c) H' (fun k => cv G (pt h c i j x) (mk (zT c k) (gt (pt h c i j x) c i k))) := by
  refine t_OB.to (V := updV (fun k => cv G h (mk (zT c k) (gt h c i k))) j (cv G h (mk (zT c j) x))) ⟨_, e1, q2, q3, t_set q4 hap hj _⟩ fun k _ => ?_
  unfold updV
  rw [gt_pt]
  by_cases hk : k = j
  · subst hk; rw [if_pos rfl, if_pos ⟨rfl, rfl, rfl⟩]; rfl
  · rw [if_neg hk, if_neg fun z => hk (by omega)]; rfl
theorem ex_put {c : Nat} (j : Nat) {i x jz : Int} {idx : Nat} {v : zV} (hd : decode M.2.1 pc = .ok (.putfield idx, 3)) (hq : pc + 3 = q) (hl : zFL M.1 idx c j) (hf : (zTX c j).2.2.2 = false) (hi : 0 ≤ i) (hj : (j : Int) = jz) (hv : mk (zT c j) x = v) (hz : zT c j = 2 → x = 0 ∨ x = 1) (k : Ex d M q lo st (pt h c i jz x) Q) : Ex d M pc lo (v :: vr c i :: st) h Q := by
  subst hq; subst hj; subst hv
  obtain ⟨hc, hjn, hl⟩ := hl
  refine ex_hp k zXt.pt (fun _ a b => ⟨a.xt zXt.pt, b.tl.tl.xt zXt.pt⟩) fun p l e R s m args below meth cd D G cells slots Qm H ls locs cx hR hL okl oks hlo _ _ K => ?_
  obtain ⟨b1, b2, b3, b4, b5, b6⟩ := hR.obj hc oks.tl.hd hi
  have hT := okT_of (ztc hc j hjn) oks.hd hz
  rw [List.map_cons, List.map_cons, b6]
  obtain ⟨cell, q1, q2, q3, q4⟩ := b4
  have hKc := cx.2.2.2.2.2.2.2.2.1
  have hap := va_apart (own := M.1) cx.2.2.2.2.1 (zin hc) (fun k => zft (zT c k)) (zty hc) (znm hc) hKc (zcl hc)
  obtain ⟨hS, hfc, kC, hkC, hkind⟩ := hKc.1 c _ (zcl hc)
  obtain ⟨cf, kf, fi, f, hi2, hsl⟩ := hS j hjn
  have hlay := cx.2.2.2.2.1 _ (zin hc _ (u_in_lay hjn))
  unfold u_lay at hlay
  rw [if_neg (by rw [hf]; decide)] at hlay
  have hst := (u_facts hfc hkC (u_lays cx.2.2.2.2.1 (zin hc) hjn) hi2).1
  have h6 := u_store (v := cv G h (mk (zT c j) x)) hfc hkC hkind hlay hi2 (zty hc j hjn) (nf (ztc hc j hjn) hT).1 (nf (ztc hc j hjn) hT).2
  have fin : ∀ H' : Heap, H'[ad G h c i]? = some (cell.setSlot f.slot (cv G h (mk (zT c j) x))) → H'.size = H.size → (∀ q, q ≠ ad G h c i → H'[q]? = H[q]?) → W p l e R s m args below meth cd H' (locs ++ [⟨ad G h c i, f.slot⟩]) cells slots Qm (F0 m (pc + 3) ls (st.map (cv G h))) := fun H' e1 e2 e3 => by
    rw [hsl] at e1
    have K := K H' ls (locs ++ [⟨ad G h c i, f.slot⟩]) (hR.put (by omega) hi b1 (fun j' hj' _ => by
      have : j = j' := by omega
      subst this; unfold zsT; rw [if_pos (by omega)]; exact hT) e2 e3 ⟨fun _ => ⟨hc, ob_put hc hap hjn q2 q3 q4 e1⟩, fun z => by omega⟩) (hL.xt okl zXt.pt) (locs_put hlo (by rw [b3]; omega))
    rw [show nn (pt h c i j x) = nn h from rfl, show us (pt h c i j x) = us h from rfl, Nat.sub_self, Nat.sub_self] at K
    exact K
  rcases hl with hl | ⟨host, hl⟩
  · exact W.putK cx.1 cx.2.1 (f := f) ⟨cx.2.2.2.1, cx.2.2.2.2.1 _ hl, ⟨_, _, _, hi2⟩, hst⟩ (by rw [q2]; exact h6) q1 q3 (by rw [hsl]; exact k2_hasslot (q4 j hjn)) rfl rfl hd fin
  · exact va_WputK cx.1 cx.2.1 (f := f) cx.2.2.2.1 (va_Nw.use rfl (cx.2.2.2.2.2.2.2.2.2.1 _ hl rfl)) hi2 hst (by rw [q2]; exact h6) q1 q3 (by rw [hsl]; exact k2_hasslot (q4 j hjn)) rfl rfl hd fin
theorem ex_putF {c : Nat} (j : Nat) {i x jz : Int} {idx : Nat} {v : zV} (hd : decode M.2.1 pc = .ok (.putfield idx, 3)) (hq : pc + 3 = q) (hc : c < 13) (hjn : j < zN c) (hl : Cond.fieldLink M.1 idx (zTX c j).1 (zTX c j).2.1 (zTX c j).2.2.1 ∈ zTbl) (hf : (zTX c j).2.2.2 = true) (hini : M.2.2.2.2 = true) (hown : (zTX c j).1 = M.1) (hi : 0 ≤ i) (hj : (j : Int) = jz) (hv : mk (zT c j) x = v) (hz : zT c j = 2 → x = 0 ∨ x = 1) (k : Ex d M q lo st (pt h c i jz x) Q) : Ex d M pc lo (v :: vr c i :: st) h Q := by
  subst hq; subst hj; subst hv
  refine ex_hp k zXt.pt (fun _ a b => ⟨a.xt zXt.pt, b.tl.tl.xt zXt.pt⟩) fun p l e R s m args below meth cd D G cells slots Qm H ls locs cx hR hL okl oks hlo _ _ K => ?_
  obtain ⟨b1, b2, b3, b4, b5, b6⟩ := hR.obj hc oks.tl.hd hi
  have hT := okT_of (ztc hc j hjn) oks.hd hz
  rw [List.map_cons, List.map_cons, b6]
  obtain ⟨cell, q1, q2, q3, q4⟩ := b4
  have hKc := cx.2.2.2.2.2.2.2.2.1
  have hap := va_apart (own := M.1) cx.2.2.2.2.1 (zin hc) (fun k => zft (zT c k)) (zty hc) (znm hc) hKc (zcl hc)
  obtain ⟨hS, hfc, kC, hkC, hkind⟩ := hKc.1 c _ (zcl hc)
  obtain ⟨cf, kf, fi, f, hi2, hsl⟩ := hS j hjn
  have hlay := cx.2.2.2.2.1 _ (zin hc _ (u_in_lay hjn))
  unfold u_lay at hlay
  rw [if_pos hf] at hlay
  have hst := (u_facts hfc hkC (u_lays cx.2.2.2.2.1 (zin hc) hjn) hi2).1
  have hcf : m.cls = cf := by
    obtain ⟨_, _, c', _, _, _, -, -, hf', -, -, -, hown2, -⟩ := Cond.laysFinal_spec hlay
    cases hf'.symm.trans hi2
    rw [hown] at hown2
    exact Option.some.inj (cx.2.2.2.1.symm.trans hown2)
  refine W.putFinK cx.1 cx.2.1 cx.2.2.2.1 (cx.2.2.2.2.1 _ hl) hi2 hst hcf (cx.2.2.2.2.2.1 hini) (by rw [q2]; exact u_fits hfc hkC hkind (u_lays cx.2.2.2.2.1 (zin hc) hjn) hi2 (zty hc j hjn) (nf (ztc hc j hjn) hT).1 (nf (ztc hc j hjn) hT).2) q1 q3 (by rw [hsl]; exact k2_hasslot (q4 j hjn)) rfl rfl hd fun H' e1 e2 e3 => ?_
  rw [hsl] at e1
  have K := K H' ls (locs ++ [⟨ad G h c i, f.slot⟩]) (hR.put (by omega) hi b1 (fun j' hj' _ => by
    have : j = j' := by omega
    subst this; unfold zsT; rw [if_pos (by omega)]; exact hT) e2 e3 ⟨fun _ => ⟨hc, ob_put hc hap hjn q2 q3 q4 e1⟩, fun z => by omega⟩) (hL.xt okl zXt.pt) (locs_put hlo (by rw [b3]; omega))
  rw [show nn (pt h c i j x) = nn h from rfl, show us (pt h c i j x) = us h from rfl, Nat.sub_self, Nat.sub_self] at K
  exact K
end EH
end
section
/-! ROWS of Ex: arrays, new cells, static arrays -/
def zKd (c t n : Nat) : Prop := 20 ≤ c ∧ c < 100 ∧ zE c = t ∧ zL c = n ∧ n < 2147483648
theorem HR.arr {D : va_G} {G : zG} {U : State} {H : Heap} {h : zH} (k : HR D G U H h) {c t n : Nat} {i : Int} (hk : zKd c t n) (hv : okV h (vr c i)) (hi : 0 ≤ i) : i < cn h c ∧ ad G h c i = G.1 + ps h c i ∧ (∃ cA, H[ad G h c i]? = some (arrV cA n (fun j => cv G h (mk t (gt h c i j)))) ∧ zAr U (zft t) cA) ∧ (∀ j : Nat, j < n → okT h t (gt h c i j)) ∧ cv G h (vr c i) = .ref (ad G h c i) := by
  obtain ⟨h1, h2, rfl, rfl, -⟩ := hk
  have hlt : i < cn h c := by
    rcases (show i = -1 ∨ (0 ≤ i ∧ i < cn h c) from hv) with q | q
    · omega
    · exact q.2
  obtain ⟨a, b, e⟩ := k.2.2.1 c i h2 hi hlt
  refine ⟨hlt, ?_, b.2 h1, fun j hj => ?_, ?_⟩
  · unfold ad; rw [if_pos h2]
  · have := e j (by unfold zsN; rw [if_neg (by omega)]; exact hj)
    unfold zsT at this
    rw [if_neg (by omega)] at this
    exact this
  · show (if i < 0 then Value.null else .ref (ad G h c i)) = _
    rw [if_neg (by omega)]
theorem arr_in {cA : ClassId} {n : Nat} {f : Nat → Value} {j : Int} (h0 : 0 ≤ j) (h1 : j < (n : Int)) (hn : n < 2147483648) : ¬ (Int32.ofInt j < 0 ∨ (arrV cA n f).slots.size ≤ (Int32.ofInt j).toNatClampNeg) ∧ (arrV cA n f).slots[(Int32.ofInt j).toNatClampNeg]? = some (f j.toNat) ∧ (Int32.ofInt j).toNatClampNeg = j.toNat := by
  have hr : rgI j := ⟨by omega, by omega⟩
  rw [arrV_size, ofI_clamp hr]
  refine ⟨?_, arrV_read _ _ (by omega), rfl⟩
  have := ofI_in h0 h1 hn
  rw [ofI_clamp hr] at this
  exact this
section EA
variable {d : Nat} {M : zM} {pc q : Nat} {lo : List (Option zV)} {st : List zV} {h : zH} {Q : zQ}
theorem ex_iald {c n : Nat} {i j : Int} (hd : decode M.2.1 pc = .ok (.iaload, 1)) (hq : pc + 1 = q) (hk : zKd c 0 n) (hi : 0 ≤ i) (h0 : 0 ≤ j) (h1 : j < (n : Int)) (k : Ex d M q lo (vi (gt h c i j) :: st) h Q) : Ex d M pc lo (vi j :: vr c i :: st) h Q := by
  subst hq
  refine ⟨k.1, fun p l e R s m args below meth cd D G n0 u0 Qm cx room ret hn hu H ls locs hR hL okl oks hlo => ?_⟩
  obtain ⟨b1, b2, ⟨cA, b3, b4⟩, b5, b6⟩ := hR.arr hk oks.tl.hd hi
  have e1 : ((j.toNat : Nat) : Int) = j := Int.toNat_of_nonneg h0
  have hT := b5 j.toNat (by omega)
  rw [e1] at hT
  obtain ⟨a1, a2, a3⟩ := arr_in (cA := cA) (f := fun j => cv G h (mk 0 (gt h c i j))) h0 h1 hk.2.2.2.2
  rw [e1] at a2
  rw [List.map_cons, List.map_cons, b6]
  exact W.iald cx.1 cx.2.1 b3 (b4.1 n _) (fun q => by cases q) a1 a2 rfl rfl hd (k.2 p l e R s m args below meth cd D G n0 u0 Qm cx room ret hn hu H ls locs hR hL okl (okS.cons (hT.1 rfl) oks.tl.tl) hlo)
theorem ex_lald {c n : Nat} {i j : Int} (hd : decode M.2.1 pc = .ok (.laload, 1)) (hq : pc + 1 = q) (hk : zKd c 1 n) (hi : 0 ≤ i) (h0 : 0 ≤ j) (h1 : j < (n : Int)) (k : Ex d M q lo (vl (gt h c i j) :: st) h Q) : Ex d M pc lo (vi j :: vr c i :: st) h Q := by
  subst hq
  refine ⟨k.1, fun p l e R s m args below meth cd D G n0 u0 Qm cx room ret hn hu H ls locs hR hL okl oks hlo => ?_⟩
  obtain ⟨b1, b2, ⟨cA, b3, b4⟩, b5, b6⟩ := hR.arr hk oks.tl.hd hi
  have e1 : ((j.toNat : Nat) : Int) = j := Int.toNat_of_nonneg h0
  have hT := b5 j.toNat (by omega)
  rw [e1] at hT
  obtain ⟨a1, a2, a3⟩ := arr_in (cA := cA) (f := fun j => cv G h (mk 1 (gt h c i j))) h0 h1 hk.2.2.2.2
  rw [e1] at a2
  rw [List.map_cons, List.map_cons, b6]
  exact W.lald cx.1 cx.2.1 b3 (b4.1 n _) (fun q => by cases q) a1 a2 rfl rfl hd (k.2 p l e R s m args below meth cd D G n0 u0 Qm cx room ret hn hu H ls locs hR hL okl (okS.cons (hT.2.1 rfl) oks.tl.tl) hlo)
theorem ex_bald {c n : Nat} {i j : Int} (hd : decode M.2.1 pc = .ok (.baload, 1)) (hq : pc + 1 = q) (hk : zKd c 2 n) (hi : 0 ≤ i) (h0 : 0 ≤ j) (h1 : j < (n : Int)) (k : Ex d M q lo (vi (gt h c i j) :: st) h Q) : Ex d M pc lo (vi j :: vr c i :: st) h Q := by
  subst hq
  refine ⟨k.1, fun p l e R s m args below meth cd D G n0 u0 Qm cx room ret hn hu H ls locs hR hL okl oks hlo => ?_⟩
  obtain ⟨b1, b2, ⟨cA, b3, b4⟩, b5, b6⟩ := hR.arr hk oks.tl.hd hi
  have e1 : ((j.toNat : Nat) : Int) = j := Int.toNat_of_nonneg h0
  have hT := b5 j.toNat (by omega)
  rw [e1] at hT
  obtain ⟨a1, a2, a3⟩ := arr_in (cA := cA) (f := fun j => cv G h (mk 2 (gt h c i j))) h0 h1 hk.2.2.2.2
  rw [e1] at a2
  rw [List.map_cons, List.map_cons, b6]
  exact W.zald cx.1 cx.2.1 b3 (b4.1 n _) (fun q => by cases q) a1 a2 rfl rfl hd (k.2 p l e R s m args below meth cd D G n0 u0 Qm cx room ret hn hu H ls locs hR hL okl (okS.cons (okV_mk hT) oks.tl.tl) hlo)
theorem ex_aald {c n : Nat} (kd : Nat) {i j : Int} (hd : decode M.2.1 pc = .ok (.aaload, 1)) (hq : pc + 1 = q) (hk : zKd c (10 + kd) n) (hkd : kd < 13) (hi : 0 ≤ i) (h0 : 0 ≤ j) (h1 : j < (n : Int)) (k : Ex d M q lo (vr kd (gt h c i j) :: st) h Q) : Ex d M pc lo (vi j :: vr c i :: st) h Q := by
  subst hq
  refine ⟨k.1, fun p l e R s m args below meth cd D G n0 u0 Qm cx room ret hn hu H ls locs hR hL okl oks hlo => ?_⟩
  obtain ⟨b1, b2, ⟨cA, b3, b4⟩, b5, b6⟩ := hR.arr hk oks.tl.hd hi
  have e1 : ((j.toNat : Nat) : Int) = j := Int.toNat_of_nonneg h0
  have hT := b5 j.toNat (by omega)
  rw [e1] at hT
  have hm : mk (10 + kd) (gt h c i j) = vr kd (gt h c i j) := by unfold mk; rw [if_neg (by omega), if_neg (by omega), show 10 + kd - 10 = kd by omega]
  obtain ⟨a1, a2, a3⟩ := arr_in (cA := cA) (f := fun j => cv G h (mk (10 + kd) (gt h c i j))) h0 h1 hk.2.2.2.2
  rw [e1] at a2
  rw [List.map_cons, List.map_cons, b6]
  have K := k.2 p l e R s m args below meth cd D G n0 u0 Qm cx room ret hn hu H ls locs hR hL okl (okS.cons (by rw [← hm]; exact okV_mk hT) oks.tl.tl) hlo
  rw [List.map_cons, ← hm] at K
  have hty : (zft (10 + kd)).isReference = true := by unfold zft zft0; rw [if_pos (by omega), if_neg (by omega), if_neg (by omega), if_neg (by omega)]; rfl
  exact W.aald cx.1 cx.2.1 b3 (b4.1 n _) hty (fun q => by cases q) a1 a2 rfl rfl hd K
theorem HR.putA {D : va_G} {G : zG} {U : State} {H H' : Heap} {h : zH} (k : HR D G U H h) {c t n : Nat} {i j x : Int} (hk : zKd c t n) (hi : 0 ≤ i) (hlt : i < cn h c) (h0 : 0 ≤ j) (h1 : j < (n : Int)) (hT : okT h t x) {cA : ClassId} (hA : zAr U (zft t) cA) (e1 : H'[ad G h c i]? = some ((arrV cA n (fun j => cv G h (mk t (gt h c i j)))).setSlot j.toNat (cv G h (mk t x)))) (e2 : H'.size = H.size) (e3 : ∀ q, q ≠ ad G h c i → H'[q]? = H[q]?) : HR D G U H' (pt h c i j x) := by
  obtain ⟨k1, k2, rfl, rfl, -⟩ := hk
  refine k.put k2 hi hlt (fun j' _ _ => ?_) e2 e3 ⟨fun z => by omega, fun _ => ⟨cA, ?_, hA⟩⟩
  · unfold zsT; rw [if_neg (by omega)]; exact hT
  · show H'[ad G h c i]? = _
    rw [e1, arrV_store]
    refine congrArg some (arrV_congr fun z hz => ?_)
    unfold updV
    rw [gt_pt]
    by_cases hzj : z = j.toNat
    · rw [if_pos hzj, if_pos ⟨rfl, rfl, by omega⟩]; rfl
    · rw [if_neg hzj, if_neg fun w => hzj (by omega)]; rfl
theorem ex_iast {c n : Nat} {i j x : Int} (hd : decode M.2.1 pc = .ok (.iastore, 1)) (hq : pc + 1 = q) (hk : zKd c 0 n) (hi : 0 ≤ i) (h0 : 0 ≤ j) (h1 : j < (n : Int)) (k : Ex d M q lo st (pt h c i j x) Q) : Ex d M pc lo (vi x :: vi j :: vr c i :: st) h Q := by
  subst hq
  refine ex_hp k zXt.pt (fun _ a b => ⟨a.xt zXt.pt, b.tl.tl.tl.xt zXt.pt⟩) fun p l e R s m args below meth cd D G cells slots Qm H ls locs cx hR hL okl oks hlo _ _ K => ?_
  obtain ⟨b1, b2, ⟨cA, b3, b4⟩, b5, b6⟩ := hR.arr hk oks.tl.tl.hd hi
  obtain ⟨a1, a2, a3⟩ := arr_in (cA := cA) (f := fun j => cv G h (mk 0 (gt h c i j))) h0 h1 hk.2.2.2.2
  rw [List.map_cons, List.map_cons, List.map_cons, b6]
  refine W.iast cx.1 cx.2.1 b3 (b4.1 n _) (fun q => by cases q) a1 rfl rfl hd fun H' e1 e2 e3 => ?_
  have K := K H' ls (locs ++ [⟨ad G h c i, (Int32.ofInt j).toNatClampNeg⟩]) (hR.putA hk hi b1 h0 h1 (okT_of (t := 0) (by decide) oks.hd (fun z => by cases z)) b4 (by rw [a3] at e1; exact e1) e2 e3) (hL.xt okl zXt.pt) (locs_put hlo (by rw [b2]; omega))
  rw [show nn (pt h c i j x) = nn h from rfl, show us (pt h c i j x) = us h from rfl, Nat.sub_self, Nat.sub_self] at K
  exact K
theorem ex_last {c n : Nat} {i j x : Int} (hd : decode M.2.1 pc = .ok (.lastore, 1)) (hq : pc + 1 = q) (hk : zKd c 1 n) (hi : 0 ≤ i) (h0 : 0 ≤ j) (h1 : j < (n : Int)) (k : Ex d M q lo st (pt h c i j x) Q) : Ex d M pc lo (vl x :: vi j :: vr c i :: st) h Q := by
  subst hq
  refine ex_hp k zXt.pt (fun _ a b => ⟨a.xt zXt.pt, b.tl.tl.tl.xt zXt.pt⟩) fun p l e R s m args below meth cd D G cells slots Qm H ls locs cx hR hL okl oks hlo _ _ K => ?_
  obtain ⟨b1, b2, ⟨cA, b3, b4⟩, b5, b6⟩ := hR.arr hk oks.tl.tl.hd hi
  obtain ⟨a1, a2, a3⟩ := arr_in (cA := cA) (f := fun j => cv G h (mk 1 (gt h c i j))) h0 h1 hk.2.2.2.2
  rw [List.map_cons, List.map_cons, List.map_cons, b6]
  refine W.last cx.1 cx.2.1 b3 (b4.1 n _) (fun q => by cases q) a1 rfl rfl hd fun H' e1 e2 e3 => ?_
  have K := K H' ls (locs ++ [⟨ad G h c i, (Int32.ofInt j).toNatClampNeg⟩]) (hR.putA hk hi b1 h0 h1 (okT_of (t := 1) (by decide) oks.hd (fun z => by cases z)) b4 (by rw [a3] at e1; exact e1) e2 e3) (hL.xt okl zXt.pt) (locs_put hlo (by rw [b2]; omega))
  rw [show nn (pt h c i j x) = nn h from rfl, show us (pt h c i j x) = us h from rfl, Nat.sub_self, Nat.sub_self] at K
  exact K
theorem ex_bast {c n : Nat} {i j x : Int} (hd : decode M.2.1 pc = .ok (.bastore, 1)) (hq : pc + 1 = q) (hk : zKd c 2 n) (hi : 0 ≤ i) (h0 : 0 ≤ j) (h1 : j < (n : Int)) (hz : x = 0 ∨ x = 1) (k : Ex d M q lo st (pt h c i j x) Q) : Ex d M pc lo (vi x :: vi j :: vr c i :: st) h Q := by
  subst hq
  refine ex_hp k zXt.pt (fun _ a b => ⟨a.xt zXt.pt, b.tl.tl.tl.xt zXt.pt⟩) fun p l e R s m args below meth cd D G cells slots Qm H ls locs cx hR hL okl oks hlo _ _ K => ?_
  obtain ⟨b1, b2, ⟨cA, b3, b4⟩, b5, b6⟩ := hR.arr hk oks.tl.tl.hd hi
  obtain ⟨a1, a2, a3⟩ := arr_in (cA := cA) (f := fun j => cv G h (mk 2 (gt h c i j))) h0 h1 hk.2.2.2.2
  rw [List.map_cons, List.map_cons, List.map_cons, b6]
  refine W.zast cx.1 cx.2.1 b3 (b4.1 n _) (fun q => by cases q) a1 rfl rfl hd fun H' e1 e2 e3 => ?_
  have en : narrow .boolean (.int (Int32.ofInt x)) = cv G h (mk 2 x) := by rcases hz with rfl | rfl <;> rfl
  have K := K H' ls (locs ++ [⟨ad G h c i, (Int32.ofInt j).toNatClampNeg⟩]) (hR.putA hk hi b1 h0 h1 (okT_of (t := 2) (by decide) oks.hd (fun _ => hz)) b4 (by rw [a3, en] at e1; exact e1) e2 e3) (hL.xt okl zXt.pt) (locs_put hlo (by rw [b2]; omega))
  rw [show nn (pt h c i j x) = nn h from rfl, show us (pt h c i j x) = us h from rfl, Nat.sub_self, Nat.sub_self] at K
  exact K
theorem ex_aast {c n kd : Nat} {i j x : Int} (hd : decode M.2.1 pc = .ok (.aastore, 1)) (hq : pc + 1 = q) (hk : zKd c (10 + kd) n) (hkd : kd < 13) (hi : 0 ≤ i) (h0 : 0 ≤ j) (h1 : j < (n : Int)) (k : Ex d M q lo st (pt h c i j x) Q) : Ex d M pc lo (vr kd x :: vi j :: vr c i :: st) h Q := by
  subst hq
  refine ex_hp k zXt.pt (fun _ a b => ⟨a.xt zXt.pt, b.tl.tl.tl.xt zXt.pt⟩) fun p l e R s m args below meth cd D G cells slots Qm H ls locs cx hR hL okl oks hlo _ _ K => ?_
  obtain ⟨b1, b2, ⟨cA, b3, b4⟩, b5, b6⟩ := hR.arr hk oks.tl.tl.hd hi
  obtain ⟨a1, a2, a3⟩ := arr_in (cA := cA) (f := fun j => cv G h (mk (10 + kd) (gt h c i j))) h0 h1 hk.2.2.2.2
  have hm : mk (10 + kd) x = vr kd x := by unfold mk; rw [if_neg (by omega), if_neg (by omega), show 10 + kd - 10 = kd by omega]
  have hty : zft (10 + kd) = .object (zRX kd) := by unfold zft zft0; rw [if_pos (by omega), if_neg (by omega), if_neg (by omega), if_neg (by omega), show 10 + kd - 10 = kd by omega]
  have hT : okT h (10 + kd) x := okT_of (t := 10 + kd) (by omega) (by rw [hm]; exact oks.hd) (fun z => by omega)
  have b4' := b4
  rw [hty] at b4'
  rw [List.map_cons, List.map_cons, List.map_cons, b6]
  have fin : ∀ H' : Heap, H'[ad G h c i]? = some ((arrV cA n (fun j => cv G h (mk (10 + kd) (gt h c i j)))).setSlot (Int32.ofInt j).toNatClampNeg (cv G h (vr kd x))) → H'.size = H.size → (∀ q, q ≠ ad G h c i → H'[q]? = H[q]?) → W p l e R s m args below meth cd H' (locs ++ [⟨ad G h c i, (Int32.ofInt j).toNatClampNeg⟩]) cells slots Qm (F0 m (pc + 1) ls (st.map (cv G h))) := fun H' e1 e2 e3 => by
    have K := K H' ls (locs ++ [⟨ad G h c i, (Int32.ofInt j).toNatClampNeg⟩]) (hR.putA hk hi b1 h0 h1 hT b4 (by rw [a3, ← hm] at e1; exact e1) e2 e3) (hL.xt okl zXt.pt) (locs_put hlo (by rw [b2]; omega))
    rw [show nn (pt h c i j x) = nn h from rfl, show us (pt h c i j x) = us h from rfl, Nat.sub_self, Nat.sub_self] at K
    exact K
  have e0 : cv G h (vr kd x) = if x < 0 then Value.null else .ref (ad G h kd x) := rfl
  by_cases hx : x < 0
  · rw [e0, if_pos hx] at fin ⊢
    exact va_WaastN (C := zRX kd) cx.1 cx.2.1 b3 (b4'.1 n _) (fun q => by cases q) a1 rfl rfl hd fin
  · rw [e0, if_neg hx] at fin ⊢
    obtain ⟨v1, v2, v3, ⟨cellV, g1, g2, g3, -⟩, v5, v6⟩ := hR.obj hkd oks.hd (by omega)
    have hKc := cx.2.2.2.2.2.2.2.2.1.1 kd _ (zcl hkd)
    have hcls := hKc.2
    obtain ⟨kA, comp, k1, k2, k3, -⟩ := b4'.2
    have hcomp : comp = D.1 kd := Option.some.inj (k3.symm.trans hcls.1)
    subst hcomp
    obtain ⟨kC, hkC, -⟩ := hcls.2
    have a1' : ¬ Int32.ofInt j < 0 ∧ (Int32.ofInt j).toNatClampNeg < (arrV cA n (fun j => cv G h (mk (10 + kd) (gt h c i j)))).slots.size := ⟨fun z => a1 (Or.inl z), Nat.not_le.mp fun z => a1 (Or.inr z)⟩
    exact W.aast cx.1 cx.2.1 b3 (fun q h => by cases h) (fun h => by cases h) k1 k2 rfl hkC a1' g1 (fun q h => by rw [g3] at h; cases h) (by rw [g2]; exact hkC) (by rw [g2]; exact va_assign hcls) rfl rfl hd fin
theorem dvz {G : zG} {h : zH} {t : Nat} (ht : t < 3 ∨ 10 ≤ t) : defaultValue (zft t) = cv G h (mk t (if t < 10 then 0 else -1)) := by
  by_cases h10 : 10 ≤ t
  · have e1 : mk t (if t < 10 then 0 else -1) = vr (t - 10) (-1) := by unfold mk; rw [if_neg (by omega), if_neg (by omega), if_neg (by omega)]
    rw [e1]
    unfold zft zft0
    by_cases h30 : t < 30
    · rw [if_pos h30, if_neg (by omega), if_neg (by omega), if_neg (by omega)]; rfl
    · rw [if_neg h30]; rfl
  · rcases (show t = 0 ∨ t = 1 ∨ t = 2 by omega) with rfl | rfl | rfl <;> rfl
theorem okT_dv {h : zH} {t : Nat} (ht : t < 3 ∨ 10 ≤ t) : okT h t (if t < 10 then 0 else -1) := by
  by_cases h10 : 10 ≤ t
  · rw [if_neg (by omega)]
    exact ⟨fun e => by omega, fun e => by omega, fun e => by omega, fun _ e => by omega, fun _ => Or.inl rfl⟩
  · rw [if_pos (by omega)]
    exact ⟨fun _ => rg0, fun _ => ⟨by decide, by decide⟩, fun _ => Or.inl rfl, fun _ _ => by omega, fun e => by omega⟩
theorem ex_new {c sz : Nat} {idx : Nat} {n : Int} (hd : decode M.2.1 pc = .ok (.new idx, 3)) (hq : pc + 3 = q) (hc : c < 13) (hsz : zN c = sz) (w1 : Cond.classLink M.1 idx (zRX c) ∈ zTbl) (w2 : Cond.instantiable (zRX c) sz ∈ zTbl) (w3 : Cond.initialized (zRX c) ∈ zTbl) (hn : cn h c = n) (k : Ex d M q lo (vr c n :: st) (nw h c sz) Q) : Ex d M pc lo st h Q := by
  subst hq; subst hsz; subst hn
  refine ex_hp k zXt.nw (fun z a b => ⟨a.xt zXt.nw, ?_⟩) fun p l e R s m args below meth cd D G cells slots Qm H ls locs cx hR hL okl oks hlo rc rs K => ?_
  · exact okS.cons (Or.inr ⟨z c, by rw [cn_nw, if_pos rfl]; omega⟩) (b.xt zXt.nw)
  · have hKn := cx.2.2.2.2.2.2.2.2.1.1 c _ (zcl hc)
    have hnn : nn (nw h c (zN c)) - nn h = 1 := by show nn h + 1 - nn h = 1; omega
    have hus : us (nw h c (zN c)) - us h = zN c := by show us h + zN c - us h = zN c; omega
    rw [hnn] at rc K
    rw [hus] at rs K
    refine W.newcK cx.1 cx.2.1 cx.2.2.2.1 (cx.2.2.2.2.1 _ w1) (cx.2.2.2.2.1 _ w2) (cx.2.2.2.2.1 _ w3) rfl hd rc rs hKn.2.1 rfl fun H1 kC hkC e1 z1 o1 => ?_
    have h0 : 0 ≤ cn h c := hR.2.1 c
    have had : ad G (nw h c (zN c)) c (cn h c) = H.size := by
      unfold ad
      rw [if_pos (by omega), hR.1]
      show G.1 + (if c = c ∧ h.1 c = h.1 c then h.2.2.2.1 else h.2.2.1 c (h.1 c)) = _
      rw [if_pos ⟨rfl, rfl⟩]; rfl
    have hzd : ∀ j : Nat, j < zN c → zdf c (j : Int) = if zT c j < 10 then 0 else -1 := fun j hj => by
      unfold zdf zsT; rw [if_pos (show c < 20 by omega), Int.toNat_natCast]
    have hB : t_OB (ad G (nw h c (zN c)) c (cn h c)) (D.1 c) (zN c) (D.2 c) H1 (fun j => cv G (nw h c (zN c)) (mk (zT c j) (gt (nw h c (zN c)) c (cn h c) j))) := by
      rw [had]
      refine (u_born (fun k => zft (zT c k)) cx.2.2.2.2.1 (zin hc) hKn hkC e1 (zty hc)).to fun j hj => ?_
      rw [gt_nw, if_pos ⟨rfl, rfl⟩, hzd j hj]
      exact dvz (ztc hc j hj)
    have hR' := hR.new (H' := H1) (c := c) (zN c) (by omega) (fun j hj => by
      unfold zsN at hj; rw [if_pos (by omega)] at hj
      unfold zsT; rw [if_pos (by omega), hzd j hj]; exact okT_dv (ztc hc j hj)) z1 (fun q hq => o1 q hq) ⟨fun _ => ⟨hc, hB⟩, fun z => by omega⟩
    have K := K H1 ls locs hR' (hL.xt okl zXt.nw) hlo
    rw [List.map_cons, mapcv_xt oks zXt.nw, show cv G (nw h c (zN c)) (vr c (cn h c)) = .ref H.size from by
      show (if cn h c < 0 then Value.null else .ref (ad G (nw h c (zN c)) c (cn h c))) = _
      rw [if_neg (by omega), had]] at K
    exact K
theorem okV_new {c sz : Nat} (z : ∀ c, 0 ≤ cn h c) : okV (nw h c sz) (vr c (cn h c)) := Or.inr ⟨z c, by rw [cn_nw, if_pos rfl]; omega⟩
/-- an array, new -/
theorem HR.newA {D : va_G} {G : zG} {U : State} {H H' : Heap} {h : zH} (k : HR D G U H h) {c t n : Nat} (hk : zKd c t n) (ht : t < 3 ∨ 10 ≤ t) {cA : ClassId} (hA : zAr U (zft t) cA) (e1 : H'[H.size]? = some (arrV cA n (fun _ => defaultValue (zft t)))) (z1 : H'.size = H.size + 1) (o1 : ∀ q, q < H.size → H'[q]? = H[q]?) : HR D G U H' (nw h c n) ∧ cv G (nw h c n) (vr c (cn h c)) = .ref H.size := by
  obtain ⟨k1, k2, rfl, rfl, -⟩ := hk
  have h0 : 0 ≤ cn h c := k.2.1 c
  have had : ad G (nw h c (zL c)) c (cn h c) = H.size := by
    unfold ad
    rw [if_pos (by omega), k.1]
    show G.1 + (if c = c ∧ h.1 c = h.1 c then h.2.2.2.1 else h.2.2.1 c (h.1 c)) = _
    rw [if_pos ⟨rfl, rfl⟩]; rfl
  have hzd : ∀ j : Int, zdf c j = if zE c < 10 then 0 else -1 := fun j => by
    unfold zdf zsT; rw [if_neg (show ¬ c < 20 by omega)]
  refine ⟨k.new (zL c) k2 (fun j hj => ?_) z1 o1 ⟨fun z => by omega, fun _ => ⟨cA, ?_, hA⟩⟩, ?_⟩
  · unfold zsT; rw [if_neg (by omega), hzd]; exact okT_dv ht
  · rw [had, e1]
    refine congrArg some (arrV_congr fun z _ => ?_)
    rw [gt_nw, if_pos ⟨rfl, rfl⟩, hzd]
    exact dvz ht
  · show (if cn h c < 0 then Value.null else .ref (ad G (nw h c (zL c)) c (cn h c))) = _
    rw [if_neg (by omega), had]
theorem ex_newa {c t sz : Nat} {at1 : ArrayType} {n x : Int} (hd : decode M.2.1 pc = .ok (.newarray at1, 2)) (hq : pc + 2 = q) (hk : zKd c t sz) (hat : newarray.typeOf at1 = zft t) (ht : t < 3) (hb : sz ≤ 5000) (w1 : Cond.arrayClass (zft t) ∈ zTbl) (hx : ((sz : Nat) : Int) = x) (hn : cn h c = n) (k : Ex d M q lo (vr c n :: st) (nw h c sz) Q) : Ex d M pc lo (vi x :: st) h Q := by
  subst hq; subst hn; subst hx
  refine ex_hp k zXt.nw (fun z a b => ⟨a.xt zXt.nw, okS.cons (okV_new z) (b.tl.xt zXt.nw)⟩) fun p l e R s m args below meth cd D G cells slots Qm H ls locs cx hR hL okl oks hlo rc rs K => ?_
  have hnn : nn (nw h c sz) - nn h = 1 := by show nn h + 1 - nn h = 1; omega
  have hus : us (nw h c sz) - us h = sz := by show us h + sz - us h = sz; omega
  rw [hnn] at rc K
  rw [hus] at rs K
  have hcb : sz * componentBytes (newarray.typeOf at1) ≤ 536870912 := by
    rw [hat]
    rcases (show t = 0 ∨ t = 1 ∨ t = 2 by omega) with rfl | rfl | rfl
    · show sz * 4 ≤ _; omega
    · show sz * 8 ≤ _; omega
    · show sz * 1 ≤ _; omega
  have hcl : (Int32.ofInt (sz : Int)).toNatClampNeg = sz := by rw [ofI_clamp ⟨by omega, by omega⟩]; omega
  refine va_newaK cx.1 cx.2.1 (by rw [hat]; exact cx.2.2.2.2.1 _ w1) rfl hd rfl (by rw [ofI_0, ofI_lt ⟨by omega, by omega⟩ rg0]; omega) hcl hcb rc rs rfl fun H1 cA e1 z1 o1 hAr hNm => ?_
  rw [hat] at e1 hAr hNm
  have hA : zAr s (zft t) cA := ⟨hAr, by rcases (show t = 0 ∨ t = 1 ∨ t = 2 by omega) with rfl | rfl | rfl <;> exact hNm⟩
  obtain ⟨hR', hcv⟩ := hR.newA hk (Or.inl ht) hA e1 z1 o1
  have K := K H1 ls locs hR' (hL.xt okl zXt.nw) hlo
  rw [List.map_cons, mapcv_xt oks.tl zXt.nw, hcv] at K
  exact K
theorem ex_anew {c kd sz : Nat} {idx : Nat} {n x : Int} (hd : decode M.2.1 pc = .ok (.anewarray idx, 3)) (hq : pc + 3 = q) (hk : zKd c (10 + kd) sz) (hkd : kd < 13) (hb : sz ≤ 5000) (w1 : Cond.classLink M.1 idx (zRX kd) ∈ zTbl) (w2 : Cond.arrayOver (.object (zRX kd)) ∈ lw_tbl) (hx : ((sz : Nat) : Int) = x) (hn : cn h c = n) (k : Ex d M q lo (vr c n :: st) (nw h c sz) Q) : Ex d M pc lo (vi x :: st) h Q := by
  subst hq; subst hn; subst hx
  refine ex_hp k zXt.nw (fun z a b => ⟨a.xt zXt.nw, okS.cons (okV_new z) (b.tl.xt zXt.nw)⟩) fun p l e R s m args below meth cd D G cells slots Qm H ls locs cx hR hL okl oks hlo rc rs K => ?_
  have hnn : nn (nw h c sz) - nn h = 1 := by show nn h + 1 - nn h = 1; omega
  have hus : us (nw h c sz) - us h = sz := by show us h + sz - us h = sz; omega
  rw [hnn] at rc K
  rw [hus] at rs K
  have hty : zft (10 + kd) = .object (zRX kd) := by unfold zft zft0; rw [if_pos (by omega), if_neg (by omega), if_neg (by omega), if_neg (by omega), show 10 + kd - 10 = kd by omega]
  have hcl : (Int32.ofInt (sz : Int)).toNatClampNeg = sz := by rw [ofI_clamp ⟨by omega, by omega⟩]; omega
  refine W.anew cx.1 cx.2.1 cx.2.2.2.1 (cx.2.2.2.2.1 _ w1) (va_AO.use (cx.2.2.2.2.2.2.2.2.2.2 _ w2)) rfl hd rfl (by rw [ofI_0, ofI_lt ⟨by omega, by omega⟩ rg0]; omega) (by rw [hcl]; omega) rc (by rw [hcl]; exact rs) fun cA kA comp f1 f2 f3 f4 => ?_
  rw [hcl]
  have hA : zAr s (zft (10 + kd)) cA := by
    rw [hty]
    exact ⟨fun N z => ⟨(fun k h => by cases h), kA, f2, comp, f3⟩, kA, comp, f2, f3, f4, f1⟩
  obtain ⟨hR', hcv⟩ := hR.newA (H' := H.push ({ cls := cA, slots := Array.replicate sz .null, vm := .none } : Cell)) hk (Or.inr (by omega)) hA (by rw [Array.getElem?_push_size, hty, arrV_new]; rfl) (by rw [Array.size_push]) (fun q hq => by rw [Array.getElem?_push, if_neg (Nat.ne_of_lt hq)])
  have K := K _ ls locs hR' (hL.xt okl zXt.nw) hlo
  rw [List.map_cons, mapcv_xt oks.tl zXt.nw, hcv] at K
  exact K
theorem ex_alen {c t n : Nat} {i x : Int} (hd : decode M.2.1 pc = .ok (.arraylength, 1)) (hq : pc + 1 = q) (hk : zKd c t n) (hi : 0 ≤ i) (hx : ((n : Nat) : Int) = x) (k : Ex d M q lo (vi x :: st) h Q) : Ex d M pc lo (vr c i :: st) h Q := by
  subst hq; subst hx
  refine ⟨k.1, fun p l e R s m args below meth cd D G n0 u0 Qm cx room ret hn hu H ls locs hR hL okl oks hlo => ?_⟩
  obtain ⟨b1, b2, ⟨cA, b3, b4⟩, b5, b6⟩ := hR.arr hk oks.hd hi
  have hn := hk.2.2.2.2
  rw [List.map_cons, b6]
  exact W.alen cx.1 cx.2.1 b3 (b4.1 n _) (by rw [arrV_size]; exact (Int32.ofInt_eq_ofNat (n := n)).symm) rfl rfl hd (k.2 p l e R s m args below meth cd D G n0 u0 Qm cx room ret (by assumption) hu H ls locs hR hL okl (okS.cons ⟨by omega, by omega⟩ oks.tl) hlo)
/-- the static arrays and the script -/
theorem ex_ialdS {c : Nat} {j : Int} (hd : decode M.2.1 pc = .ok (.iaload, 1)) (hq : pc + 1 = q) (hc : 100 ≤ c) (hc2 : c < 104) (h0 : 0 ≤ j) (h1 : j < gt h c 0 (-1)) (k : Ex d M q lo (vi (gt h c 0 j) :: st) h Q) : Ex d M pc lo (vi j :: vr c 0 :: st) h Q := by
  subst hq
  refine ⟨k.1, fun p l e R s m args below meth cd D G n0 u0 Qm cx room ret hn hu H ls locs hR hL okl oks hlo => ?_⟩
  obtain ⟨a1, a2, ⟨a3, a4⟩, ⟨cell, e1, e2, e3, e4, e5, e6⟩, a5⟩ := hR.2.2.2.2.1 c hc hc2
  have ej : ((j.toNat : Nat) : Int) = j := Int.toNat_of_nonneg h0
  rw [a4] at h1
  have hr : rgI j := ⟨by omega, by omega⟩
  have g1 := e6 j.toNat (by omega)
  have g2 := a5 j.toNat (by omega)
  rw [ej] at g1 g2
  rw [List.map_cons, List.map_cons, show cv G h (vr c 0) = .ref (G.2 c).1 from by
    show (if (0 : Int) < 0 then Value.null else .ref (ad G h c 0)) = _
    rw [if_neg (by omega)]; unfold ad; rw [if_neg (by omega)]]
  refine W.iald cx.1 cx.2.1 e1 e2 e3 ?_ (by rw [ofI_clamp hr]; exact g1) rfl rfl hd (k.2 p l e R s m args below meth cd D G n0 u0 Qm cx room ret hn hu H ls locs hR hL okl (okS.cons g2 oks.tl.tl) hlo)
  rw [ofI_0, ofI_lt hr rg0, ofI_clamp hr]
  omega
theorem ex_alenS {c : Nat} (hd : decode M.2.1 pc = .ok (.arraylength, 1)) (hq : pc + 1 = q) (hc : 100 ≤ c) (hc2 : c < 104) (k : Ex d M q lo (vi (gt h c 0 (-1)) :: st) h Q) : Ex d M pc lo (vr c 0 :: st) h Q := by
  subst hq
  refine ⟨k.1, fun p l e R s m args below meth cd D G n0 u0 Qm cx room ret hn hu H ls locs hR hL okl oks hlo => ?_⟩
  obtain ⟨a1, a2, ⟨a3, a4⟩, ⟨cell, e1, e2, e3, e4, e5, e6⟩, a5⟩ := hR.2.2.2.2.1 c hc hc2
  rw [List.map_cons, show cv G h (vr c 0) = .ref (G.2 c).1 from by
    show (if (0 : Int) < 0 then Value.null else .ref (ad G h c 0)) = _
    rw [if_neg (by omega)]; unfold ad; rw [if_neg (by omega)]]
  refine W.alen cx.1 cx.2.1 e1 e2 (e5.trans (by rw [a4]; exact (Int32.ofInt_eq_ofNat (n := (G.2 c).2)).symm)) rfl rfl hd (k.2 p l e R s m args below meth cd D G n0 u0 Qm cx room ret hn hu H ls locs hR hL okl (okS.cons (show rgI _ from ?_) oks.tl) hlo)
  rw [a4]; exact ⟨by omega, by omega⟩
def zSL (own : String) (idx c : Nat) : Prop := 100 ≤ c ∧ c < 103 ∧ (Cond.fieldLink own idx "HireScopes" (zsn c) "[I" ∈ zTbl ∨ ∃ host, Cond.fieldLinkNest own idx "HireScopes" (zsn c) "[I" host ∈ lw_tbl)
theorem ex_gets {c idx : Nat} (hd : decode M.2.1 pc = .ok (.getstatic idx, 3)) (hq : pc + 3 = q) (hl : zSL M.1 idx c) (k : Ex d M q lo (vr c 0 :: st) h Q) : Ex d M pc lo st h Q := by
  subst hq
  obtain ⟨hc, hc2, hl⟩ := hl
  refine ⟨k.1, fun p l e R s m args below meth cd D G n0 u0 Qm cx room ret hn hu H ls locs hR hL okl oks hlo => ?_⟩
  obtain ⟨cf, kf, fi, f, a, cell, h1, h2, h3, h4, h5, h6, h7, h8⟩ := hR.2.2.2.2.2 c hc hc2
  have a1 := (hR.2.2.2.2.1 c hc (by omega)).1
  have K := k.2 p l e R s m args below meth cd D G n0 u0 Qm cx room ret hn hu H ls locs hR hL okl (okS.cons (Or.inr ⟨Int.le_refl _, by show (0 : Int) < cn h c; omega⟩) oks) hlo
  rw [List.map_cons, show cv G h (vr c 0) = .ref (G.2 c).1 from by
    show (if (0 : Int) < 0 then Value.null else .ref (ad G h c 0)) = _
    rw [if_neg (by omega)]; unfold ad; rw [if_neg (by omega)]] at K
  rcases hl with hl | ⟨host, hl⟩
  · exact W.gets cx.1 cx.2.1 cx.2.2.2.1 (cx.2.2.2.2.1 _ hl) h1 h2 h3 h4 h5 (fun e => by rw [e] at h6; cases h6) h7 rfl hd K
  · exact va_WgetsN cx.1 cx.2.1 cx.2.2.2.1 (va_Nw.use rfl (cx.2.2.2.2.2.2.2.2.2.1 _ hl rfl)) h1 h2 h3 h4 h5 (fun e => by rw [e] at h6; cases h6) h7 rfl hd K
end EA
end
section
/-! ROWS of Ex: calls -/
def zMc (y : MethodName) (bytes : ByteArray) (maxL : Nat) (ret : Option FieldType) (n : Nat) : Prop := Cond.code y bytes maxL ret ∈ zTbl ∧ Cond.initialized y.cls ∈ zTbl ∧ (y.cls ≠ "java/lang/invoke/MethodHandle" ∧ y.cls ≠ "java/lang/invoke/VarHandle" ∧ (parseMethodDescriptor y.desc).map (fun d => d.parameters.length) = some n) ∧ maxL ≤ 21
def zML (own : String) (idx : Nat) (y : MethodName) : Prop := Cond.methodLink own idx y ∈ zTbl ∨ ∃ host, Cond.methodLinkNest own idx y host ∈ lw_tbl
section EC
variable {d d' : Nat} {M : zM} {pc q : Nat} {lo : List (Option zV)} {st : List zV} {h h2 : zH} {Q : zQ} {y : MethodName} {bytes : ByteArray} {maxL n idx : Nat} {ret : Option FieldType} {r : Option zV}
theorem cat_sum {G : zG} {h : zH} : ∀ {st : List zV}, (((st.map (cv G h)).map fun v => v.category).sum) ≤ 2 * st.length
  | [] => Nat.zero_le _
  | v :: t => by
    have ih := cat_sum (G := G) (h := h) (st := t)
    have hv := lv_cat (cv G h v)
    simp only [List.map_cons, List.sum_cons, List.length_cons]
    omega
theorem ex_aft {p : Program} {l : Launch} {e : Env} {R : Room} {s : State} {m : MethodId} {args : Array Value} {below : List Frame} {meth : Method} {c : Code} {H : Heap} {locs : List Loc} {cells slots mc ms : Nat} {Qm : State → Prop} {ls : Array Slot} {st0 rest : List Value} {D : va_G} {G : zG}
    (hr : va_Run p l e R s m args below meth c H locs cells slots mc ms (F0 m pc ls st0) rest (fun _ o t => o = .returned (r.map (cv G h2)) ∧ HR D G t t.heap h2 ∧ ∀ v, r = some v → okV h2 v) (fun q => G.1 ≤ q)) (hlo : ∀ q ∈ locs, G.1 ≤ q.base)
    (kk : ∀ (H' : Heap) (locs' : List Loc), HR D G s H' h2 → (∀ v, r = some v → okV h2 v) → (∀ q ∈ locs', G.1 ≤ q.base) → W p l e R s m args below meth c H' locs' (cells + mc) (slots + ms) Qm (F0 m (pc + 3) ls ((r.map (cv G h2)).toList ++ rest))) : W p l e R s m args below meth c H locs cells slots Qm (F0 m pc ls st0) := by
  intro T hT X
  obtain ⟨v, st₀, t, T', L, h0, X', hL, e1, e2, ⟨hv, hR2, hok⟩, st⟩ := hr T hT X
  cases hv
  have hal : t.vm.Alike s.vm := by rw [← e2]; exact X'.warmed.alike.symm
  obtain ⟨t2, a1, b1⟩ := kk T'.heap (locs ++ L) (by rw [e1]; exact hR2.moved hal) hok (fun q hq => by
      rcases List.mem_append.mp hq with h | h
      · exact hlo q h
      · exact hL q h) T' rfl X'
  exact ⟨t2, st t2 a1, b1⟩
theorem zBlind {D : va_G} {G : zG} {as : List zV} : FrameBlind (fun v U => v = (as.map (cv G h)).toArray ∧ HR D G U U.heap h ∧ va_K D vwCl [] U ∧ zNw U ∧ okS h as) := fun a U g mk q => by
  obtain ⟨q1, q2, q3, q4, q5⟩ := q
  exact ⟨q1, HR.moved (u := U) (U := U.calling g mk a) (Vm.Alike.refl U.vm) q2, va_K.moved (u := U) (U := U.calling g mk a) (Vm.Alike.refl U.vm) q3, zNw.same (u := U) (U := U.calling g mk a) rfl q4, q5⟩
theorem zPre {p : Program} {R : Room} {s : State} {m : MethodId} {args : Array Value} {meth : Method} {c : Code} {D : va_G} {G : zG} {H : Heap} {as : List zV} (cx : zCx d M p R s m args meth c D) (hR : HR D G s H h) (hok : okS h as) : ∀ U : State, U.heap = H → s.WarmedH U.vm → ((as.map (cv G h)).toArray = (as.map (cv G h)).toArray ∧ HR D G U U.heap h ∧ va_K D vwCl [] U ∧ zNw U ∧ okS h as) := fun U hU hW => ⟨rfl, by rw [hU]; exact hR.moved hW.alike, va_K.moved hW.alike cx.2.2.2.2.2.2.2.2.1, zNw.warm hW cx.2.2.2.2.2.2.2.2.2, hok⟩
theorem okS_app {a b : List zV} (k : okS h (a ++ b)) : okS h a ∧ okS h b := ⟨fun v hv => k v (List.mem_append_left _ hv), fun v hv => k v (List.mem_append_right _ hv)⟩
theorem okS_rev {a : List zV} (k : okS h a.reverse) : okS h a := fun v hv => k v (List.mem_reverse.mpr hv)
theorem okS_ret (k : okS h2 st) (hr : ∀ v, r = some v → okV h2 v) : okS h2 (r.toList ++ st) := fun v hv => by
  rcases List.mem_append.mp hv with z | z
  · cases r with
    | none => cases z
    | some w => rw [List.mem_singleton.mp z]; exact hr w rfl
  · exact k v z
theorem map_ret {G : zG} : ((r.map (cv G h2)).toList ++ st.map (cv G h2)) = (r.toList ++ st).map (cv G h2) := by cases r <;> rfl
/-- a call of any kind, by what the kit says of the call -/
theorem ex_callG {as : List zV} {st0 : List zV} (hq : pc + 3 = q) (hM : Run d' y bytes maxL ret as h r h2) (hsub : okS h st0 → okS h as ∧ okS h st)
    (hrun : ∀ (p : Program) (l : Launch) (e : Env) (R : Room) (s : State) (m : MethodId) (args : Array Value) (below : List Frame) (meth : Method) (c : Code) (D : va_G) (G : zG) (cells slots : Nat) (H : Heap) (ls : Array Slot) (locs : List Loc),
      zCx d M p R s m args meth c D → HR D G s H h → ls.size = M.2.2.1 → okS h as → cells + (nn h2 - nn h) ≤ R.cells → slots + (us h2 - us h) ≤ R.slots →
      va_Run p l e R s m args below meth c H locs cells slots (nn h2 - nn h) (us h2 - us h) (F0 m pc ls (st0.map (cv G h))) (st.map (cv G h)) (fun _ o t => o = .returned (r.map (cv G h2)) ∧ HR D G t t.heap h2 ∧ ∀ v, r = some v → okV h2 v) (fun q => G.1 ≤ q))
    (k : Ex d M q lo (r.toList ++ st) h2 Q) : Ex d M pc lo st0 h Q := by
  subst hq
  obtain ⟨⟨rF, hF, hq2, x2⟩, k2⟩ := k
  have x := hM.1
  refine ⟨⟨rF, hF, hq2, x.tr x2⟩, fun p l e R s m args below meth c D G n0 u0 Qm cx room ret hn hu H ls locs hR hL okl oks hlo => ?_⟩
  have r1 := room rF hF hq2
  have x1 := x.1
  have x3 := x.2.1
  have x4 := x2.1
  have x5 := x2.2.1
  refine ex_aft (hrun p l e R s m args below meth c D G (nn h - n0) (us h - u0) H ls locs cx hR hL.1 (hsub oks).1 (by omega) (by omega)) hlo fun H' locs' hR' hrv hlo' => ?_
  have K := k2 p l e R s m args below meth c D G n0 u0 Qm cx room ret (by omega) (by omega) H' ls locs' hR' (hL.xt okl x) (okl.xt x) (okS_ret ((hsub oks).2.xt x) hrv) hlo'
  rw [← map_ret, mapcv_xt (hsub oks).2 x, show nn h2 - n0 = nn h - n0 + (nn h2 - nn h) by omega, show us h2 - u0 = us h - u0 + (us h2 - us h) by omega] at K
  exact K
theorem zWs (hy : zMc y bytes maxL ret n) : GoodIn zTbl (Cond.code y bytes maxL ret :: zTbl) := zTbl_g hy.1
theorem zCB {p : Program} {R : Room} {s : State} {m : MethodId} {args : Array Value} {meth : Method} {c : Code} {D : va_G} (cx : zCx d M p R s m args meth c D) (hy : zMc y bytes maxL ret n) (hdd : d' + 1 ≤ d) (hl : Cond.methodLink M.1 idx y ∈ zTbl) {rm : Room} (hf : rm.frames = d') (hlc : rm.locals = 40 * d') : CallB R s args M.1 idx y bytes maxL ret (Cond.code y bytes maxL ret :: zTbl) rm rm.cells rm.slots n := by
  have h1 := cx.2.2.2.2.2.2.1
  have h2 := cx.2.2.2.2.2.2.2.1
  have h3 := hy.2.2.2
  exact callB_of n cx.2.2.2.2.1 (zWs hy) rfl rfl rfl (cx.2.2.2.2.1 _ hy.2.1) (cx.2.2.2.2.1 _ hl) hy.2.2.1 ⟨by omega, by omega⟩
theorem zCN {p : Program} {R : Room} {s : State} {m : MethodId} {args : Array Value} {meth : Method} {c : Code} {D : va_G} {host : String} (cx : zCx d M p R s m args meth c D) (hy : zMc y bytes maxL ret n) (hdd : d' + 1 ≤ d) (hl : Cond.methodLinkNest M.1 idx y host ∈ lw_tbl) {rm : Room} (hf : rm.frames = d') (hlc : rm.locals = 40 * d') : va_CN R s args M.1 idx y host bytes maxL ret (Cond.code y bytes maxL ret :: zTbl) rm rm.cells rm.slots n := by
  have h1 := cx.2.2.2.2.2.2.1
  have h2 := cx.2.2.2.2.2.2.2.1
  have h3 := hy.2.2.2
  exact va_cnB n cx.2.2.2.2.1 (zWs hy) rfl rfl rfl (cx.2.2.2.2.2.2.2.2.2.1 _ hl rfl) (cx.2.2.2.2.1 _ hy.2.1) hy.2.2.1 ⟨by omega, by omega⟩
theorem st_rev {G : zG} {as rest : List zV} : (as.reverse ++ rest).map (cv G h) = (as.map (cv G h)).reverse ++ rest.map (cv G h) := by rw [List.map_append, List.map_reverse]
/-- invokevirtual -/
theorem ex_callV {c : Nat} {i : Int} {as : List zV} {st0 : List zV} (hd : decode M.2.1 pc = .ok (.invokevirtual idx, 3)) (hq : pc + 3 = q) (hM : Run d' y bytes maxL ret (vr c i :: as) h r h2) (hy : zMc y bytes maxL ret n) (hv : c < 13 ∧ y.cls = zRX c ∧ Cond.instanceMethod y ∈ zTbl ∧ Cond.selects y.cls y y ∈ zTbl) (hl : zML M.1 idx y) (hdd : d' + 1 ≤ d) (hi : 0 ≤ i) (hn : as.length = n) (hst : st0 = as.reverse ++ vr c i :: st) (hw : st.length ≤ 4) (k : Ex d M q lo (r.toList ++ st) h2 Q) : Ex d M pc lo st0 h Q := by
  subst hst
  refine ex_callG hq hM (fun b => ⟨okS.cons (okS_app b).2.hd (okS_rev (okS_app b).1), (okS_app b).2.tl⟩) (fun p l e R s m args below meth cd D G cells slots H ls locs cx hR hls hok rc rs => ?_) k
  have hM2 := hM.2 l D G
  obtain ⟨hc, hyc, hv1, hv2⟩ := hv
  obtain ⟨b1, b2, b3, ⟨cellB, g1, g2, g3, -⟩, b5, b6⟩ := hR.obj hc hok.hd hi
  have hcls := (cx.2.2.2.2.2.2.2.2.1.1 c _ (zcl hc)).2
  have hp : PreV s H y.cls (ad G h c i) (fun v U => v = ((vr c i :: as).map (cv G h)).toArray ∧ HR D G U U.heap h ∧ va_K D vwCl [] U ∧ zNw U ∧ okS h (vr c i :: as)) (as.map (cv G h)) := by
    refine ⟨zBlind, ⟨cellB, g1, by rw [g3]; rfl, by rw [hyc, g2]; exact hcls.1⟩, fun U hU hW => ?_⟩
    have := zPre cx hR hok U hU hW
    refine ⟨?_, this.2⟩
    rw [List.map_cons, b6]
  have hw2 : 2 * (F0 m pc ls ((as.reverse ++ vr c i :: st).map (cv G h))).monitorRoom + ((st.map (cv G h)).map fun v => v.category).sum ≤ 8 := lv_room (rest := (as.reverse ++ vr c i :: st).map (cv G h)) (Nat.le_trans cat_sum (by omega))
  have hs0 : (F0 m pc ls ((as.reverse ++ vr c i :: st).map (cv G h))).stack = (as.map (cv G h)).reverse ++ .ref (ad G h c i) :: st.map (cv G h) := by
    show (as.reverse ++ vr c i :: st).map (cv G h) = _
    rw [st_rev, List.map_cons, b6]
  have hS : CallFix p m cd M.2.1 M.2.2.1 s args zTbl M.1 := ⟨cx.1, cx.2.1, cx.2.2.1, cx.2.2.2.1, cx.2.2.2.2.1⟩
  rcases hl with hl | ⟨host, hl⟩
  · exact va_runV hS hM2 ⟨zCB cx hy hdd hl rfl rfl, cx.2.2.2.2.1 _ hv1, cx.2.2.2.2.1 _ hv2⟩ hp rfl (by rw [List.length_map]; exact hn) hls hs0 hw2 hd ⟨rc, rs⟩
  · exact va_runVN hS hM2 ⟨zCN cx hy hdd hl rfl rfl, cx.2.2.2.2.1 _ hv1, cx.2.2.2.2.1 _ hv2⟩ hp rfl (by rw [List.length_map]; exact hn) hls hs0 hw2 hd ⟨rc, rs⟩
/-- invokestatic -/
theorem ex_callS {as : List zV} {st0 : List zV} (hd : decode M.2.1 pc = .ok (.invokestatic idx, 3)) (hq : pc + 3 = q) (hM : Run d' y bytes maxL ret as h r h2) (hy : zMc y bytes maxL ret n) (hv : Cond.static y ∈ zTbl) (hl : zML M.1 idx y) (hdd : d' + 1 ≤ d) (hn : as.length = n) (hst : st0 = as.reverse ++ st) (hw : st.length ≤ 4) (k : Ex d M q lo (r.toList ++ st) h2 Q) : Ex d M pc lo st0 h Q := by
  subst hst
  refine ex_callG hq hM (fun b => ⟨okS_rev (okS_app b).1, (okS_app b).2⟩) (fun p l e R s m args below meth cd D G cells slots H ls locs cx hR hls hok rc rs => ?_) k
  have hM2 := hM.2 l D G
  have hp : PreS s H (fun v U => v = (as.map (cv G h)).toArray ∧ HR D G U U.heap h ∧ va_K D vwCl [] U ∧ zNw U ∧ okS h as) (as.map (cv G h)) := ⟨zBlind, fun U hU hW => zPre cx hR hok U hU hW⟩
  have hw2 : 2 * (F0 m pc ls ((as.reverse ++ st).map (cv G h))).monitorRoom + ((st.map (cv G h)).map fun v => v.category).sum ≤ 8 := lv_room (rest := (as.reverse ++ st).map (cv G h)) (Nat.le_trans cat_sum (by omega))
  have hs0 : (F0 m pc ls ((as.reverse ++ st).map (cv G h))).stack = (as.map (cv G h)).reverse ++ st.map (cv G h) := st_rev
  have hS : CallFix p m cd M.2.1 M.2.2.1 s args zTbl M.1 := ⟨cx.1, cx.2.1, cx.2.2.1, cx.2.2.2.1, cx.2.2.2.2.1⟩
  rcases hl with hl | ⟨host, hl⟩
  · exact va_runS hS hM2 ⟨zCB cx hy hdd hl rfl rfl, cx.2.2.2.2.1 _ hv⟩ hp rfl (by rw [List.length_map]; exact hn) hls hs0 hw2 hd ⟨rc, rs⟩
  · exact va_runSN hS hM2 ⟨zCN cx hy hdd hl rfl rfl, cx.2.2.2.2.1 _ hv, trivial⟩ hp rfl (by rw [List.length_map]; exact hn) hls hs0 hw2 hd ⟨rc, rs⟩
/-- invokespecial of a constructor -/
theorem ex_callI {c : Nat} {i : Int} {as : List zV} {st0 : List zV} (hd : decode M.2.1 pc = .ok (.invokespecial idx, 3)) (hq : pc + 3 = q) (hM : Run d' y bytes maxL none (vr c i :: as) h r h2) (hy : zMc y bytes maxL none n) (hv : y.name = "<init>" ∧ Cond.instanceMethod y ∈ zTbl) (hl : zML M.1 idx y) (hdd : d' + 1 ≤ d) (hc : c < 13) (hi : 0 ≤ i) (hn : as.length = n) (hst : st0 = as.reverse ++ vr c i :: st) (hw : st.length ≤ 4) (k : Ex d M q lo (r.toList ++ st) h2 Q) : Ex d M pc lo st0 h Q := by
  subst hst
  refine ex_callG hq hM (fun b => ⟨okS.cons (okS_app b).2.hd (okS_rev (okS_app b).1), (okS_app b).2.tl⟩) (fun p l e R s m args below meth cd D G cells slots H ls locs cx hR hls hok rc rs => ?_) k
  have hM2 := hM.2 l D G
  obtain ⟨b1, b2, b3, -, b5, b6⟩ := hR.obj hc hok.hd hi
  have hp : PreS s H (fun v U => v = ((vr c i :: as).map (cv G h)).toArray ∧ HR D G U U.heap h ∧ va_K D vwCl [] U ∧ zNw U ∧ okS h (vr c i :: as)) (.ref (ad G h c i) :: as.map (cv G h)) := by
    refine ⟨zBlind, fun U hU hW => ?_⟩
    have := zPre cx hR hok U hU hW
    refine ⟨?_, this.2⟩
    rw [List.map_cons, b6]
  have hw2 : 2 * (F0 m pc ls ((as.reverse ++ vr c i :: st).map (cv G h))).monitorRoom + ((st.map (cv G h)).map fun v => v.category).sum ≤ 8 := lv_room (rest := (as.reverse ++ vr c i :: st).map (cv G h)) (Nat.le_trans cat_sum (by omega))
  have hs0 : (F0 m pc ls ((as.reverse ++ vr c i :: st).map (cv G h))).stack = (as.map (cv G h)).reverse ++ .ref (ad G h c i) :: st.map (cv G h) := by
    show (as.reverse ++ vr c i :: st).map (cv G h) = _
    rw [st_rev, List.map_cons, b6]
  have hS : CallFix p m cd M.2.1 M.2.2.1 s args zTbl M.1 := ⟨cx.1, cx.2.1, cx.2.2.1, cx.2.2.2.1, cx.2.2.2.2.1⟩
  rcases hl with hl | ⟨host, hl⟩
  · exact va_runI hS hM2 ⟨zCB cx hy hdd hl rfl rfl, hv.1, cx.2.2.2.2.1 _ hv.2⟩ hp rfl (by rw [List.length_map]; exact hn) hls hs0 hw2 hd ⟨rc, rs⟩
  · exact va_runIN hS hM2 ⟨zCN cx hy hdd hl rfl rfl, hv.1, cx.2.2.2.2.1 _ hv.2⟩ hp rfl (by rw [List.length_map]; exact hn) hls hs0 hw2 hd ⟨rc, rs⟩
/-- invokespecial of Object's constructor -/
theorem ex_obj {c : Nat} {i : Int} (hd : decode M.2.1 pc = .ok (.invokespecial idx, 3)) (hq : pc + 3 = q) (hc : c < 13) (hi : 0 ≤ i) (hdd : 1 ≤ d) (w1 : Cond.methodLink M.1 idx Lib.objectInit ∈ zTbl) (w2 : Cond.instanceMethod Lib.objectInit ∈ zTbl) (w3 : Cond.code Lib.objectInit ⟨#[0xb1]⟩ 1 none ∈ zTbl) (hw : st.length ≤ 4) (k : Ex d M q lo st h Q) : Ex d M pc lo (vr c i :: st) h Q := by
  subst hq
  refine ex_go k (fun a b => ⟨a, b.tl⟩) fun p l e R s m args below meth cd D G cells slots Qm H ls locs cx hR hL okl oks K => ?_
  obtain ⟨b1, b2, b3, -, b5, b6⟩ := hR.obj hc oks.hd hi
  rw [List.map_cons, b6]
  have h1 := cx.2.2.2.2.2.2.1
  have h2 := cx.2.2.2.2.2.2.2.1
  have hs := cat_sum (G := G) (h := h) (st := st)
  refine W.objInit cx.1 cx.2.1 cx.2.2.2.1 (cx.2.2.2.2.1 _ w1) (cx.2.2.2.2.1 _ w2) (cx.2.2.2.2.1 _ w3) rfl (hL.1.trans cx.2.2.1.symm) rfl hd (by omega) ?_ (K ls hL)
  show 2 * 0 + _ + 12 ≤ _
  omega
end EC
end
