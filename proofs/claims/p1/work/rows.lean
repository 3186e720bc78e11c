section
-- ===== PART A: goes FIRST, ahead of the names: the tables' words, and 'selects' of the private methods out of them =====
/-- a private method of a class that the tables say can be made, by its rows of tables_1 -/
def lw_okq (q : MethodName × Nat) : Prop := (q.1.cls ≠ "java/lang/invoke/MethodHandle" ∧ q.1.cls ≠ "java/lang/invoke/VarHandle") ∧ Cond.instantiable q.1.cls q.2 ∈ tables_1 ∧ Cond.privateMethod q.1 ∈ tables_1 ∧ Cond.instanceMethod q.1 ∈ tables_1
theorem lw_p0 : lw_okq (⟨"RegisterMill$Checker", "faultOfFunc", "(I)I"⟩, 3) := ⟨⟨by decide +kernel, by decide +kernel⟩, List.mem_of_getElem? (i := 95) (by decide +kernel), List.mem_of_getElem? (i := 414) (by decide +kernel), List.mem_of_getElem? (i := 415) (by decide +kernel)⟩
theorem lw_p1 : lw_okq (⟨"RegisterMill$Checker", "leastWaiting", "(II)I"⟩, 3) := ⟨⟨by decide +kernel, by decide +kernel⟩, List.mem_of_getElem? (i := 95) (by decide +kernel), List.mem_of_getElem? (i := 418) (by decide +kernel), List.mem_of_getElem? (i := 419) (by decide +kernel)⟩
theorem lw_p2 : lw_okq (⟨"RegisterMill$Checker", "faultOfWord", "(II)I"⟩, 3) := ⟨⟨by decide +kernel, by decide +kernel⟩, List.mem_of_getElem? (i := 95) (by decide +kernel), List.mem_of_getElem? (i := 422) (by decide +kernel), List.mem_of_getElem? (i := 423) (by decide +kernel)⟩
theorem lw_p3 : lw_okq (⟨"RegisterMill$Checker", "isFormed", "(III)Z"⟩, 3) := ⟨⟨by decide +kernel, by decide +kernel⟩, List.mem_of_getElem? (i := 95) (by decide +kernel), List.mem_of_getElem? (i := 426) (by decide +kernel), List.mem_of_getElem? (i := 427) (by decide +kernel)⟩
theorem lw_p4 : lw_okq (⟨"RegisterMill$Checker", "reach", "(III)Z"⟩, 3) := ⟨⟨by decide +kernel, by decide +kernel⟩, List.mem_of_getElem? (i := 95) (by decide +kernel), List.mem_of_getElem? (i := 442) (by decide +kernel), List.mem_of_getElem? (i := 443) (by decide +kernel)⟩
theorem lw_p5 : lw_okq (⟨"RegisterMill", "beginMachines", "()V"⟩, 5) := ⟨⟨by decide +kernel, by decide +kernel⟩, List.mem_of_getElem? (i := 22) (by decide +kernel), List.mem_of_getElem? (i := 462) (by decide +kernel), List.mem_of_getElem? (i := 463) (by decide +kernel)⟩
theorem lw_p6 : lw_okq (⟨"RegisterMill$Places", "become", "(LRegisterMill$Program;II)V"⟩, 10) := ⟨⟨by decide +kernel, by decide +kernel⟩, List.mem_of_getElem? (i := 118) (by decide +kernel), List.mem_of_getElem? (i := 498) (by decide +kernel), List.mem_of_getElem? (i := 499) (by decide +kernel)⟩
theorem lw_p7 : lw_okq (⟨"RegisterMill$Places", "add", "(III)V"⟩, 10) := ⟨⟨by decide +kernel, by decide +kernel⟩, List.mem_of_getElem? (i := 118) (by decide +kernel), List.mem_of_getElem? (i := 502) (by decide +kernel), List.mem_of_getElem? (i := 503) (by decide +kernel)⟩
theorem lw_p8 : lw_okq (⟨"RegisterMill$Places", "addReading", "(III)V"⟩, 10) := ⟨⟨by decide +kernel, by decide +kernel⟩, List.mem_of_getElem? (i := 118) (by decide +kernel), List.mem_of_getElem? (i := 506) (by decide +kernel), List.mem_of_getElem? (i := 507) (by decide +kernel)⟩
theorem lw_p9 : lw_okq (⟨"RegisterMill$Places", "addRead", "(I)V"⟩, 10) := ⟨⟨by decide +kernel, by decide +kernel⟩, List.mem_of_getElem? (i := 118) (by decide +kernel), List.mem_of_getElem? (i := 510) (by decide +kernel), List.mem_of_getElem? (i := 511) (by decide +kernel)⟩
theorem lw_p10 : lw_okq (⟨"RegisterMill$Places", "addCall", "(III)V"⟩, 10) := ⟨⟨by decide +kernel, by decide +kernel⟩, List.mem_of_getElem? (i := 118) (by decide +kernel), List.mem_of_getElem? (i := 514) (by decide +kernel), List.mem_of_getElem? (i := 515) (by decide +kernel)⟩
theorem lw_p11 : lw_okq (⟨"RegisterMill$Places", "aimAnew", "()V"⟩, 10) := ⟨⟨by decide +kernel, by decide +kernel⟩, List.mem_of_getElem? (i := 118) (by decide +kernel), List.mem_of_getElem? (i := 518) (by decide +kernel), List.mem_of_getElem? (i := 519) (by decide +kernel)⟩
theorem lw_p12 : lw_okq (⟨"RegisterMill$Places", "markBlockStarts", "()V"⟩, 10) := ⟨⟨by decide +kernel, by decide +kernel⟩, List.mem_of_getElem? (i := 118) (by decide +kernel), List.mem_of_getElem? (i := 530) (by decide +kernel), List.mem_of_getElem? (i := 531) (by decide +kernel)⟩
theorem lw_p13 : lw_okq (⟨"RegisterMill$Places", "forwardReads", "(I)V"⟩, 10) := ⟨⟨by decide +kernel, by decide +kernel⟩, List.mem_of_getElem? (i := 118) (by decide +kernel), List.mem_of_getElem? (i := 535) (by decide +kernel), List.mem_of_getElem? (i := 536) (by decide +kernel)⟩
theorem lw_p14 : lw_okq (⟨"RegisterMill$Places", "forgetWritten", "(I)V"⟩, 10) := ⟨⟨by decide +kernel, by decide +kernel⟩, List.mem_of_getElem? (i := 118) (by decide +kernel), List.mem_of_getElem? (i := 547) (by decide +kernel), List.mem_of_getElem? (i := 548) (by decide +kernel)⟩
theorem lw_p15 : lw_okq (⟨"RegisterMill$Turner", "leaveOut", "()V"⟩, 8) := ⟨⟨by decide +kernel, by decide +kernel⟩, List.mem_of_getElem? (i := 112) (by decide +kernel), List.mem_of_getElem? (i := 551) (by decide +kernel), List.mem_of_getElem? (i := 552) (by decide +kernel)⟩
def lw_privs_1 : List (MethodName × Nat) := [(⟨"RegisterMill$Checker", "faultOfFunc", "(I)I"⟩, 3), (⟨"RegisterMill$Checker", "leastWaiting", "(II)I"⟩, 3), (⟨"RegisterMill$Checker", "faultOfWord", "(II)I"⟩, 3), (⟨"RegisterMill$Checker", "isFormed", "(III)Z"⟩, 3), (⟨"RegisterMill$Checker", "reach", "(III)Z"⟩, 3), (⟨"RegisterMill", "beginMachines", "()V"⟩, 5), (⟨"RegisterMill$Places", "become", "(LRegisterMill$Program;II)V"⟩, 10), (⟨"RegisterMill$Places", "add", "(III)V"⟩, 10), (⟨"RegisterMill$Places", "addReading", "(III)V"⟩, 10), (⟨"RegisterMill$Places", "addRead", "(I)V"⟩, 10), (⟨"RegisterMill$Places", "addCall", "(III)V"⟩, 10), (⟨"RegisterMill$Places", "aimAnew", "()V"⟩, 10), (⟨"RegisterMill$Places", "markBlockStarts", "()V"⟩, 10), (⟨"RegisterMill$Places", "forwardReads", "(I)V"⟩, 10), (⟨"RegisterMill$Places", "forgetWritten", "(I)V"⟩, 10), (⟨"RegisterMill$Turner", "leaveOut", "()V"⟩, 8)]
theorem lw_r1 : ∀ q ∈ lw_privs_1, lw_okq q := List.forall_mem_cons.mpr ⟨lw_p0, List.forall_mem_cons.mpr ⟨lw_p1, List.forall_mem_cons.mpr ⟨lw_p2, List.forall_mem_cons.mpr ⟨lw_p3, List.forall_mem_cons.mpr ⟨lw_p4, List.forall_mem_cons.mpr ⟨lw_p5, List.forall_mem_cons.mpr ⟨lw_p6, List.forall_mem_cons.mpr ⟨lw_p7, List.forall_mem_cons.mpr ⟨lw_p8, List.forall_mem_cons.mpr ⟨lw_p9, List.forall_mem_cons.mpr ⟨lw_p10, List.forall_mem_cons.mpr ⟨lw_p11, List.forall_mem_cons.mpr ⟨lw_p12, List.forall_mem_cons.mpr ⟨lw_p13, List.forall_mem_cons.mpr ⟨lw_p14, List.forall_mem_cons.mpr ⟨lw_p15, fun _ h => absurd h List.not_mem_nil⟩⟩⟩⟩⟩⟩⟩⟩⟩⟩⟩⟩⟩⟩⟩⟩
theorem lw_p16 : lw_okq (⟨"RegisterMill$Live", "growBackwards", "(LRegisterMill$Places;)Z"⟩, 2) := ⟨⟨by decide +kernel, by decide +kernel⟩, List.mem_of_getElem? (i := 168) (by decide +kernel), List.mem_of_getElem? (i := 560) (by decide +kernel), List.mem_of_getElem? (i := 561) (by decide +kernel)⟩
theorem lw_p17 : lw_okq (⟨"RegisterMill$Places", "isUseless", "(ILRegisterMill$Live;)Z"⟩, 10) := ⟨⟨by decide +kernel, by decide +kernel⟩, List.mem_of_getElem? (i := 118) (by decide +kernel), List.mem_of_getElem? (i := 575) (by decide +kernel), List.mem_of_getElem? (i := 576) (by decide +kernel)⟩
theorem lw_p18 : lw_okq (⟨"RegisterMill$Places", "copyPlace", "(II)V"⟩, 10) := ⟨⟨by decide +kernel, by decide +kernel⟩, List.mem_of_getElem? (i := 118) (by decide +kernel), List.mem_of_getElem? (i := 579) (by decide +kernel), List.mem_of_getElem? (i := 580) (by decide +kernel)⟩
theorem lw_p19 : lw_okq (⟨"RegisterMill$Homes", "forget", "(I)V"⟩, 6) := ⟨⟨by decide +kernel, by decide +kernel⟩, List.mem_of_getElem? (i := 184) (by decide +kernel), List.mem_of_getElem? (i := 587) (by decide +kernel), List.mem_of_getElem? (i := 588) (by decide +kernel)⟩
theorem lw_p20 : lw_okq (⟨"RegisterMill$Homes", "widen", "(III)V"⟩, 6) := ⟨⟨by decide +kernel, by decide +kernel⟩, List.mem_of_getElem? (i := 184) (by decide +kernel), List.mem_of_getElem? (i := 594) (by decide +kernel), List.mem_of_getElem? (i := 595) (by decide +kernel)⟩
theorem lw_p21 : lw_okq (⟨"RegisterMill$Homes", "giveOne", "(III)V"⟩, 6) := ⟨⟨by decide +kernel, by decide +kernel⟩, List.mem_of_getElem? (i := 184) (by decide +kernel), List.mem_of_getElem? (i := 598) (by decide +kernel), List.mem_of_getElem? (i := 599) (by decide +kernel)⟩
theorem lw_p22 : lw_okq (⟨"RegisterMill$Homes", "giveBack", "(III)V"⟩, 6) := ⟨⟨by decide +kernel, by decide +kernel⟩, List.mem_of_getElem? (i := 184) (by decide +kernel), List.mem_of_getElem? (i := 602) (by decide +kernel), List.mem_of_getElem? (i := 603) (by decide +kernel)⟩
theorem lw_p23 : lw_okq (⟨"RegisterMill$Homes", "longestWith", "(III)I"⟩, 6) := ⟨⟨by decide +kernel, by decide +kernel⟩, List.mem_of_getElem? (i := 184) (by decide +kernel), List.mem_of_getElem? (i := 606) (by decide +kernel), List.mem_of_getElem? (i := 607) (by decide +kernel)⟩
theorem lw_p24 : lw_okq (⟨"RegisterMill$Writer", "target", "(I)I"⟩, 7) := ⟨⟨by decide +kernel, by decide +kernel⟩, List.mem_of_getElem? (i := 233) (by decide +kernel), List.mem_of_getElem? (i := 639) (by decide +kernel), List.mem_of_getElem? (i := 640) (by decide +kernel)⟩
theorem lw_p25 : lw_okq (⟨"RegisterMill$Writer", "saveTarget", "(I)V"⟩, 7) := ⟨⟨by decide +kernel, by decide +kernel⟩, List.mem_of_getElem? (i := 233) (by decide +kernel), List.mem_of_getElem? (i := 655) (by decide +kernel), List.mem_of_getElem? (i := 656) (by decide +kernel)⟩
theorem lw_p26 : lw_okq (⟨"RegisterMill$Writer", "writePlace", "(I)V"⟩, 7) := ⟨⟨by decide +kernel, by decide +kernel⟩, List.mem_of_getElem? (i := 233) (by decide +kernel), List.mem_of_getElem? (i := 663) (by decide +kernel), List.mem_of_getElem? (i := 664) (by decide +kernel)⟩
theorem lw_p27 : lw_okq (⟨"RegisterMill$Writer", "writeMove", "(II)V"⟩, 7) := ⟨⟨by decide +kernel, by decide +kernel⟩, List.mem_of_getElem? (i := 233) (by decide +kernel), List.mem_of_getElem? (i := 667) (by decide +kernel), List.mem_of_getElem? (i := 668) (by decide +kernel)⟩
theorem lw_p28 : lw_okq (⟨"RegisterMill$Writer", "moveInto", "(II)V"⟩, 7) := ⟨⟨by decide +kernel, by decide +kernel⟩, List.mem_of_getElem? (i := 233) (by decide +kernel), List.mem_of_getElem? (i := 671) (by decide +kernel), List.mem_of_getElem? (i := 672) (by decide +kernel)⟩
theorem lw_p29 : lw_okq (⟨"RegisterMill$Writer", "writeWork", "(I)V"⟩, 7) := ⟨⟨by decide +kernel, by decide +kernel⟩, List.mem_of_getElem? (i := 233) (by decide +kernel), List.mem_of_getElem? (i := 675) (by decide +kernel), List.mem_of_getElem? (i := 676) (by decide +kernel)⟩
theorem lw_p30 : lw_okq (⟨"RegisterMill$Writer", "loaded", "(II)I"⟩, 7) := ⟨⟨by decide +kernel, by decide +kernel⟩, List.mem_of_getElem? (i := 233) (by decide +kernel), List.mem_of_getElem? (i := 679) (by decide +kernel), List.mem_of_getElem? (i := 680) (by decide +kernel)⟩
theorem lw_p31 : lw_okq (⟨"RegisterMill$Writer", "writeSwap", "(II)V"⟩, 7) := ⟨⟨by decide +kernel, by decide +kernel⟩, List.mem_of_getElem? (i := 233) (by decide +kernel), List.mem_of_getElem? (i := 688) (by decide +kernel), List.mem_of_getElem? (i := 689) (by decide +kernel)⟩
def lw_privs_2 : List (MethodName × Nat) := [(⟨"RegisterMill$Live", "growBackwards", "(LRegisterMill$Places;)Z"⟩, 2), (⟨"RegisterMill$Places", "isUseless", "(ILRegisterMill$Live;)Z"⟩, 10), (⟨"RegisterMill$Places", "copyPlace", "(II)V"⟩, 10), (⟨"RegisterMill$Homes", "forget", "(I)V"⟩, 6), (⟨"RegisterMill$Homes", "widen", "(III)V"⟩, 6), (⟨"RegisterMill$Homes", "giveOne", "(III)V"⟩, 6), (⟨"RegisterMill$Homes", "giveBack", "(III)V"⟩, 6), (⟨"RegisterMill$Homes", "longestWith", "(III)I"⟩, 6), (⟨"RegisterMill$Writer", "target", "(I)I"⟩, 7), (⟨"RegisterMill$Writer", "saveTarget", "(I)V"⟩, 7), (⟨"RegisterMill$Writer", "writePlace", "(I)V"⟩, 7), (⟨"RegisterMill$Writer", "writeMove", "(II)V"⟩, 7), (⟨"RegisterMill$Writer", "moveInto", "(II)V"⟩, 7), (⟨"RegisterMill$Writer", "writeWork", "(I)V"⟩, 7), (⟨"RegisterMill$Writer", "loaded", "(II)I"⟩, 7), (⟨"RegisterMill$Writer", "writeSwap", "(II)V"⟩, 7)]
theorem lw_r2 : ∀ q ∈ lw_privs_2, lw_okq q := List.forall_mem_cons.mpr ⟨lw_p16, List.forall_mem_cons.mpr ⟨lw_p17, List.forall_mem_cons.mpr ⟨lw_p18, List.forall_mem_cons.mpr ⟨lw_p19, List.forall_mem_cons.mpr ⟨lw_p20, List.forall_mem_cons.mpr ⟨lw_p21, List.forall_mem_cons.mpr ⟨lw_p22, List.forall_mem_cons.mpr ⟨lw_p23, List.forall_mem_cons.mpr ⟨lw_p24, List.forall_mem_cons.mpr ⟨lw_p25, List.forall_mem_cons.mpr ⟨lw_p26, List.forall_mem_cons.mpr ⟨lw_p27, List.forall_mem_cons.mpr ⟨lw_p28, List.forall_mem_cons.mpr ⟨lw_p29, List.forall_mem_cons.mpr ⟨lw_p30, List.forall_mem_cons.mpr ⟨lw_p31, fun _ h => absurd h List.not_mem_nil⟩⟩⟩⟩⟩⟩⟩⟩⟩⟩⟩⟩⟩⟩⟩⟩
theorem lw_p32 : lw_okq (⟨"RegisterMill$Writer", "moveFrom", "(II)V"⟩, 7) := ⟨⟨by decide +kernel, by decide +kernel⟩, List.mem_of_getElem? (i := 233) (by decide +kernel), List.mem_of_getElem? (i := 692) (by decide +kernel), List.mem_of_getElem? (i := 693) (by decide +kernel)⟩
theorem lw_p33 : lw_okq (⟨"RegisterMill$Writer", "writeRead", "(II)V"⟩, 7) := ⟨⟨by decide +kernel, by decide +kernel⟩, List.mem_of_getElem? (i := 233) (by decide +kernel), List.mem_of_getElem? (i := 696) (by decide +kernel), List.mem_of_getElem? (i := 697) (by decide +kernel)⟩
theorem lw_p34 : lw_okq (⟨"RegisterMill$Writer", "writeWrite", "(II)V"⟩, 7) := ⟨⟨by decide +kernel, by decide +kernel⟩, List.mem_of_getElem? (i := 233) (by decide +kernel), List.mem_of_getElem? (i := 700) (by decide +kernel), List.mem_of_getElem? (i := 701) (by decide +kernel)⟩
theorem lw_p35 : lw_okq (⟨"RegisterMill$Writer", "writeCall", "(I)V"⟩, 7) := ⟨⟨by decide +kernel, by decide +kernel⟩, List.mem_of_getElem? (i := 233) (by decide +kernel), List.mem_of_getElem? (i := 704) (by decide +kernel), List.mem_of_getElem? (i := 705) (by decide +kernel)⟩
theorem lw_p36 : lw_okq (⟨"RegisterMill", "isTurned", "(I)Z"⟩, 5) := ⟨⟨by decide +kernel, by decide +kernel⟩, List.mem_of_getElem? (i := 22) (by decide +kernel), List.mem_of_getElem? (i := 716) (by decide +kernel), List.mem_of_getElem? (i := 717) (by decide +kernel)⟩
theorem lw_p37 : lw_okq (⟨"RegisterMill$RegisterMachine", "work", "(III)V"⟩, 13) := ⟨⟨by decide +kernel, by decide +kernel⟩, List.mem_of_getElem? (i := 344) (by decide +kernel), List.mem_of_getElem? (i := 795) (by decide +kernel), List.mem_of_getElem? (i := 796) (by decide +kernel)⟩
theorem lw_p38 : lw_okq (⟨"RegisterMill$RegisterMachine", "swap", "(II)V"⟩, 13) := ⟨⟨by decide +kernel, by decide +kernel⟩, List.mem_of_getElem? (i := 344) (by decide +kernel), List.mem_of_getElem? (i := 808) (by decide +kernel), List.mem_of_getElem? (i := 809) (by decide +kernel)⟩
theorem lw_p39 : lw_okq (⟨"RegisterMill$StackMachine", "push", "(I)V"⟩, 13) := ⟨⟨by decide +kernel, by decide +kernel⟩, List.mem_of_getElem? (i := 290) (by decide +kernel), List.mem_of_getElem? (i := 836) (by decide +kernel), List.mem_of_getElem? (i := 837) (by decide +kernel)⟩
theorem lw_p40 : lw_okq (⟨"RegisterMill$RegisterMachine", "fetch", "(II)V"⟩, 13) := ⟨⟨by decide +kernel, by decide +kernel⟩, List.mem_of_getElem? (i := 344) (by decide +kernel), List.mem_of_getElem? (i := 840) (by decide +kernel), List.mem_of_getElem? (i := 841) (by decide +kernel)⟩
theorem lw_p41 : lw_okq (⟨"RegisterMill$RegisterMachine", "store", "(II)V"⟩, 13) := ⟨⟨by decide +kernel, by decide +kernel⟩, List.mem_of_getElem? (i := 344) (by decide +kernel), List.mem_of_getElem? (i := 850) (by decide +kernel), List.mem_of_getElem? (i := 851) (by decide +kernel)⟩
theorem lw_p42 : lw_okq (⟨"RegisterMill$StackMachine", "pop", "()I"⟩, 13) := ⟨⟨by decide +kernel, by decide +kernel⟩, List.mem_of_getElem? (i := 290) (by decide +kernel), List.mem_of_getElem? (i := 861) (by decide +kernel), List.mem_of_getElem? (i := 862) (by decide +kernel)⟩
theorem lw_p43 : lw_okq (⟨"RegisterMill$StackMachine", "flip", "()V"⟩, 13) := ⟨⟨by decide +kernel, by decide +kernel⟩, List.mem_of_getElem? (i := 290) (by decide +kernel), List.mem_of_getElem? (i := 865) (by decide +kernel), List.mem_of_getElem? (i := 866) (by decide +kernel)⟩
theorem lw_p44 : lw_okq (⟨"RegisterMill$StackMachine", "fetch", "(I)V"⟩, 13) := ⟨⟨by decide +kernel, by decide +kernel⟩, List.mem_of_getElem? (i := 290) (by decide +kernel), List.mem_of_getElem? (i := 878) (by decide +kernel), List.mem_of_getElem? (i := 879) (by decide +kernel)⟩
theorem lw_p45 : lw_okq (⟨"RegisterMill$StackMachine", "store", "(II)V"⟩, 13) := ⟨⟨by decide +kernel, by decide +kernel⟩, List.mem_of_getElem? (i := 290) (by decide +kernel), List.mem_of_getElem? (i := 885) (by decide +kernel), List.mem_of_getElem? (i := 886) (by decide +kernel)⟩
theorem lw_p46 : lw_okq (⟨"RegisterMill$StackMachine", "work", "(III)V"⟩, 13) := ⟨⟨by decide +kernel, by decide +kernel⟩, List.mem_of_getElem? (i := 290) (by decide +kernel), List.mem_of_getElem? (i := 889) (by decide +kernel), List.mem_of_getElem? (i := 890) (by decide +kernel)⟩
theorem lw_p47 : lw_okq (⟨"RegisterMill", "machineOf", "(I)LRegisterMill$Machine;"⟩, 5) := ⟨⟨by decide +kernel, by decide +kernel⟩, List.mem_of_getElem? (i := 22) (by decide +kernel), List.mem_of_getElem? (i := 905) (by decide +kernel), List.mem_of_getElem? (i := 906) (by decide +kernel)⟩
def lw_privs_3 : List (MethodName × Nat) := [(⟨"RegisterMill$Writer", "moveFrom", "(II)V"⟩, 7), (⟨"RegisterMill$Writer", "writeRead", "(II)V"⟩, 7), (⟨"RegisterMill$Writer", "writeWrite", "(II)V"⟩, 7), (⟨"RegisterMill$Writer", "writeCall", "(I)V"⟩, 7), (⟨"RegisterMill", "isTurned", "(I)Z"⟩, 5), (⟨"RegisterMill$RegisterMachine", "work", "(III)V"⟩, 13), (⟨"RegisterMill$RegisterMachine", "swap", "(II)V"⟩, 13), (⟨"RegisterMill$StackMachine", "push", "(I)V"⟩, 13), (⟨"RegisterMill$RegisterMachine", "fetch", "(II)V"⟩, 13), (⟨"RegisterMill$RegisterMachine", "store", "(II)V"⟩, 13), (⟨"RegisterMill$StackMachine", "pop", "()I"⟩, 13), (⟨"RegisterMill$StackMachine", "flip", "()V"⟩, 13), (⟨"RegisterMill$StackMachine", "fetch", "(I)V"⟩, 13), (⟨"RegisterMill$StackMachine", "store", "(II)V"⟩, 13), (⟨"RegisterMill$StackMachine", "work", "(III)V"⟩, 13), (⟨"RegisterMill", "machineOf", "(I)LRegisterMill$Machine;"⟩, 5)]
theorem lw_r3 : ∀ q ∈ lw_privs_3, lw_okq q := List.forall_mem_cons.mpr ⟨lw_p32, List.forall_mem_cons.mpr ⟨lw_p33, List.forall_mem_cons.mpr ⟨lw_p34, List.forall_mem_cons.mpr ⟨lw_p35, List.forall_mem_cons.mpr ⟨lw_p36, List.forall_mem_cons.mpr ⟨lw_p37, List.forall_mem_cons.mpr ⟨lw_p38, List.forall_mem_cons.mpr ⟨lw_p39, List.forall_mem_cons.mpr ⟨lw_p40, List.forall_mem_cons.mpr ⟨lw_p41, List.forall_mem_cons.mpr ⟨lw_p42, List.forall_mem_cons.mpr ⟨lw_p43, List.forall_mem_cons.mpr ⟨lw_p44, List.forall_mem_cons.mpr ⟨lw_p45, List.forall_mem_cons.mpr ⟨lw_p46, List.forall_mem_cons.mpr ⟨lw_p47, fun _ h => absurd h List.not_mem_nil⟩⟩⟩⟩⟩⟩⟩⟩⟩⟩⟩⟩⟩⟩⟩⟩
theorem lw_p48 : lw_okq (⟨"java/lang/Throwable", "fillInStackTrace", "(I)Ljava/lang/Throwable;"⟩, 6) := ⟨⟨by decide +kernel, by decide +kernel⟩, List.mem_of_getElem? (i := 963) (by decide +kernel), List.mem_of_getElem? (i := 961) (by decide +kernel), List.mem_of_getElem? (i := 962) (by decide +kernel)⟩
theorem lw_p49 : lw_okq (⟨"RegisterMillModel", "checks", "(I)I"⟩, 52) := ⟨⟨by decide +kernel, by decide +kernel⟩, List.mem_of_getElem? (i := 1003) (by decide +kernel), List.mem_of_getElem? (i := 1182) (by decide +kernel), List.mem_of_getElem? (i := 1183) (by decide +kernel)⟩
theorem lw_p50 : lw_okq (⟨"RegisterMillModel", "looksAt", "(II)I"⟩, 52) := ⟨⟨by decide +kernel, by decide +kernel⟩, List.mem_of_getElem? (i := 1003) (by decide +kernel), List.mem_of_getElem? (i := 1186) (by decide +kernel), List.mem_of_getElem? (i := 1187) (by decide +kernel)⟩
theorem lw_p51 : lw_okq (⟨"RegisterMillModel", "isTold", "(III)Z"⟩, 52) := ⟨⟨by decide +kernel, by decide +kernel⟩, List.mem_of_getElem? (i := 1003) (by decide +kernel), List.mem_of_getElem? (i := 1190) (by decide +kernel), List.mem_of_getElem? (i := 1191) (by decide +kernel)⟩
theorem lw_p52 : lw_okq (⟨"RegisterMillModel", "takes", "(II)I"⟩, 52) := ⟨⟨by decide +kernel, by decide +kernel⟩, List.mem_of_getElem? (i := 1003) (by decide +kernel), List.mem_of_getElem? (i := 1194) (by decide +kernel), List.mem_of_getElem? (i := 1195) (by decide +kernel)⟩
theorem lw_p53 : lw_okq (⟨"RegisterMillModel", "behind", "(III)I"⟩, 52) := ⟨⟨by decide +kernel, by decide +kernel⟩, List.mem_of_getElem? (i := 1003) (by decide +kernel), List.mem_of_getElem? (i := 1198) (by decide +kernel), List.mem_of_getElem? (i := 1199) (by decide +kernel)⟩
theorem lw_p54 : lw_okq (⟨"RegisterMillModel", "comes", "(III)I"⟩, 52) := ⟨⟨by decide +kernel, by decide +kernel⟩, List.mem_of_getElem? (i := 1003) (by decide +kernel), List.mem_of_getElem? (i := 1202) (by decide +kernel), List.mem_of_getElem? (i := 1203) (by decide +kernel)⟩
theorem lw_p55 : lw_okq (⟨"RegisterMillModel", "begin", "()V"⟩, 52) := ⟨⟨by decide +kernel, by decide +kernel⟩, List.mem_of_getElem? (i := 1003) (by decide +kernel), List.mem_of_getElem? (i := 1206) (by decide +kernel), List.mem_of_getElem? (i := 1207) (by decide +kernel)⟩
theorem lw_p56 : lw_okq (⟨"RegisterMillModel", "lays", "(I)V"⟩, 52) := ⟨⟨by decide +kernel, by decide +kernel⟩, List.mem_of_getElem? (i := 1003) (by decide +kernel), List.mem_of_getElem? (i := 1218) (by decide +kernel), List.mem_of_getElem? (i := 1219) (by decide +kernel)⟩
theorem lw_p57 : lw_okq (⟨"RegisterMillModel", "lay", "(IIII)V"⟩, 52) := ⟨⟨by decide +kernel, by decide +kernel⟩, List.mem_of_getElem? (i := 1003) (by decide +kernel), List.mem_of_getElem? (i := 1222) (by decide +kernel), List.mem_of_getElem? (i := 1223) (by decide +kernel)⟩
theorem lw_p58 : lw_okq (⟨"RegisterMillModel", "place", "(II)V"⟩, 52) := ⟨⟨by decide +kernel, by decide +kernel⟩, List.mem_of_getElem? (i := 1003) (by decide +kernel), List.mem_of_getElem? (i := 1226) (by decide +kernel), List.mem_of_getElem? (i := 1227) (by decide +kernel)⟩
theorem lw_p59 : lw_okq (⟨"RegisterMillModel", "tells", "(I)V"⟩, 52) := ⟨⟨by decide +kernel, by decide +kernel⟩, List.mem_of_getElem? (i := 1003) (by decide +kernel), List.mem_of_getElem? (i := 1230) (by decide +kernel), List.mem_of_getElem? (i := 1231) (by decide +kernel)⟩
theorem lw_p60 : lw_okq (⟨"RegisterMillModel", "forwards", "()V"⟩, 52) := ⟨⟨by decide +kernel, by decide +kernel⟩, List.mem_of_getElem? (i := 1003) (by decide +kernel), List.mem_of_getElem? (i := 1237) (by decide +kernel), List.mem_of_getElem? (i := 1238) (by decide +kernel)⟩
theorem lw_p61 : lw_okq (⟨"RegisterMillModel", "forward", "(I)V"⟩, 52) := ⟨⟨by decide +kernel, by decide +kernel⟩, List.mem_of_getElem? (i := 1003) (by decide +kernel), List.mem_of_getElem? (i := 1241) (by decide +kernel), List.mem_of_getElem? (i := 1242) (by decide +kernel)⟩
theorem lw_p62 : lw_okq (⟨"RegisterMillModel", "forgets", "(I)V"⟩, 52) := ⟨⟨by decide +kernel, by decide +kernel⟩, List.mem_of_getElem? (i := 1003) (by decide +kernel), List.mem_of_getElem? (i := 1248) (by decide +kernel), List.mem_of_getElem? (i := 1249) (by decide +kernel)⟩
theorem lw_p63 : lw_okq (⟨"RegisterMillModel", "leavesOut", "()V"⟩, 52) := ⟨⟨by decide +kernel, by decide +kernel⟩, List.mem_of_getElem? (i := 1003) (by decide +kernel), List.mem_of_getElem? (i := 1252) (by decide +kernel), List.mem_of_getElem? (i := 1253) (by decide +kernel)⟩
def lw_privs_4 : List (MethodName × Nat) := [(⟨"java/lang/Throwable", "fillInStackTrace", "(I)Ljava/lang/Throwable;"⟩, 6), (⟨"RegisterMillModel", "checks", "(I)I"⟩, 52), (⟨"RegisterMillModel", "looksAt", "(II)I"⟩, 52), (⟨"RegisterMillModel", "isTold", "(III)Z"⟩, 52), (⟨"RegisterMillModel", "takes", "(II)I"⟩, 52), (⟨"RegisterMillModel", "behind", "(III)I"⟩, 52), (⟨"RegisterMillModel", "comes", "(III)I"⟩, 52), (⟨"RegisterMillModel", "begin", "()V"⟩, 52), (⟨"RegisterMillModel", "lays", "(I)V"⟩, 52), (⟨"RegisterMillModel", "lay", "(IIII)V"⟩, 52), (⟨"RegisterMillModel", "place", "(II)V"⟩, 52), (⟨"RegisterMillModel", "tells", "(I)V"⟩, 52), (⟨"RegisterMillModel", "forwards", "()V"⟩, 52), (⟨"RegisterMillModel", "forward", "(I)V"⟩, 52), (⟨"RegisterMillModel", "forgets", "(I)V"⟩, 52), (⟨"RegisterMillModel", "leavesOut", "()V"⟩, 52)]
theorem lw_r4 : ∀ q ∈ lw_privs_4, lw_okq q := List.forall_mem_cons.mpr ⟨lw_p48, List.forall_mem_cons.mpr ⟨lw_p49, List.forall_mem_cons.mpr ⟨lw_p50, List.forall_mem_cons.mpr ⟨lw_p51, List.forall_mem_cons.mpr ⟨lw_p52, List.forall_mem_cons.mpr ⟨lw_p53, List.forall_mem_cons.mpr ⟨lw_p54, List.forall_mem_cons.mpr ⟨lw_p55, List.forall_mem_cons.mpr ⟨lw_p56, List.forall_mem_cons.mpr ⟨lw_p57, List.forall_mem_cons.mpr ⟨lw_p58, List.forall_mem_cons.mpr ⟨lw_p59, List.forall_mem_cons.mpr ⟨lw_p60, List.forall_mem_cons.mpr ⟨lw_p61, List.forall_mem_cons.mpr ⟨lw_p62, List.forall_mem_cons.mpr ⟨lw_p63, fun _ h => absurd h List.not_mem_nil⟩⟩⟩⟩⟩⟩⟩⟩⟩⟩⟩⟩⟩⟩⟩⟩
theorem lw_p64 : lw_okq (⟨"RegisterMillModel", "lives", "()V"⟩, 52) := ⟨⟨by decide +kernel, by decide +kernel⟩, List.mem_of_getElem? (i := 1003) (by decide +kernel), List.mem_of_getElem? (i := 1256) (by decide +kernel), List.mem_of_getElem? (i := 1257) (by decide +kernel)⟩
theorem lw_p65 : lw_okq (⟨"RegisterMillModel", "liveAhead", "(I)I"⟩, 52) := ⟨⟨by decide +kernel, by decide +kernel⟩, List.mem_of_getElem? (i := 1003) (by decide +kernel), List.mem_of_getElem? (i := 1260) (by decide +kernel), List.mem_of_getElem? (i := 1261) (by decide +kernel)⟩
theorem lw_p66 : lw_okq (⟨"RegisterMillModel", "liveBehind", "(I)I"⟩, 52) := ⟨⟨by decide +kernel, by decide +kernel⟩, List.mem_of_getElem? (i := 1003) (by decide +kernel), List.mem_of_getElem? (i := 1264) (by decide +kernel), List.mem_of_getElem? (i := 1265) (by decide +kernel)⟩
theorem lw_p67 : lw_okq (⟨"RegisterMillModel", "isLeftOut", "(I)Z"⟩, 52) := ⟨⟨by decide +kernel, by decide +kernel⟩, List.mem_of_getElem? (i := 1003) (by decide +kernel), List.mem_of_getElem? (i := 1268) (by decide +kernel), List.mem_of_getElem? (i := 1269) (by decide +kernel)⟩
theorem lw_p68 : lw_okq (⟨"RegisterMillModel", "closesUp", "(I)V"⟩, 52) := ⟨⟨by decide +kernel, by decide +kernel⟩, List.mem_of_getElem? (i := 1003) (by decide +kernel), List.mem_of_getElem? (i := 1272) (by decide +kernel), List.mem_of_getElem? (i := 1273) (by decide +kernel)⟩
theorem lw_p69 : lw_okq (⟨"RegisterMillModel", "spans", "(I)V"⟩, 52) := ⟨⟨by decide +kernel, by decide +kernel⟩, List.mem_of_getElem? (i := 1003) (by decide +kernel), List.mem_of_getElem? (i := 1276) (by decide +kernel), List.mem_of_getElem? (i := 1277) (by decide +kernel)⟩
theorem lw_p70 : lw_okq (⟨"RegisterMillModel", "scans", "(II)V"⟩, 52) := ⟨⟨by decide +kernel, by decide +kernel⟩, List.mem_of_getElem? (i := 1003) (by decide +kernel), List.mem_of_getElem? (i := 1280) (by decide +kernel), List.mem_of_getElem? (i := 1281) (by decide +kernel)⟩
theorem lw_p71 : lw_okq (⟨"RegisterMillModel", "codes", "(I)V"⟩, 52) := ⟨⟨by decide +kernel, by decide +kernel⟩, List.mem_of_getElem? (i := 1003) (by decide +kernel), List.mem_of_getElem? (i := 1284) (by decide +kernel), List.mem_of_getElem? (i := 1285) (by decide +kernel)⟩
theorem lw_p72 : lw_okq (⟨"RegisterMillModel", "written", "(I)I"⟩, 52) := ⟨⟨by decide +kernel, by decide +kernel⟩, List.mem_of_getElem? (i := 1003) (by decide +kernel), List.mem_of_getElem? (i := 1288) (by decide +kernel), List.mem_of_getElem? (i := 1289) (by decide +kernel)⟩
theorem lw_p73 : lw_okq (⟨"RegisterMillModel", "slotOf", "(I)I"⟩, 52) := ⟨⟨by decide +kernel, by decide +kernel⟩, List.mem_of_getElem? (i := 1003) (by decide +kernel), List.mem_of_getElem? (i := 1292) (by decide +kernel), List.mem_of_getElem? (i := 1293) (by decide +kernel)⟩
theorem lw_p74 : lw_okq (⟨"RegisterMillModel", "registerOf", "(I)I"⟩, 52) := ⟨⟨by decide +kernel, by decide +kernel⟩, List.mem_of_getElem? (i := 1003) (by decide +kernel), List.mem_of_getElem? (i := 1296) (by decide +kernel), List.mem_of_getElem? (i := 1297) (by decide +kernel)⟩
theorem lw_p75 : lw_okq (⟨"RegisterMillModel", "emit", "(IIIII)V"⟩, 52) := ⟨⟨by decide +kernel, by decide +kernel⟩, List.mem_of_getElem? (i := 1003) (by decide +kernel), List.mem_of_getElem? (i := 1300) (by decide +kernel), List.mem_of_getElem? (i := 1301) (by decide +kernel)⟩
theorem lw_p76 : lw_okq (⟨"RegisterMillModel", "saved", "(I)V"⟩, 52) := ⟨⟨by decide +kernel, by decide +kernel⟩, List.mem_of_getElem? (i := 1003) (by decide +kernel), List.mem_of_getElem? (i := 1304) (by decide +kernel), List.mem_of_getElem? (i := 1305) (by decide +kernel)⟩
theorem lw_p77 : lw_okq (⟨"RegisterMillModel", "codePlace", "(I)V"⟩, 52) := ⟨⟨by decide +kernel, by decide +kernel⟩, List.mem_of_getElem? (i := 1003) (by decide +kernel), List.mem_of_getElem? (i := 1308) (by decide +kernel), List.mem_of_getElem? (i := 1309) (by decide +kernel)⟩
theorem lw_p78 : lw_okq (⟨"RegisterMillModel", "moves", "(II)V"⟩, 52) := ⟨⟨by decide +kernel, by decide +kernel⟩, List.mem_of_getElem? (i := 1003) (by decide +kernel), List.mem_of_getElem? (i := 1312) (by decide +kernel), List.mem_of_getElem? (i := 1313) (by decide +kernel)⟩
theorem lw_p79 : lw_okq (⟨"RegisterMillModel", "read", "(II)I"⟩, 52) := ⟨⟨by decide +kernel, by decide +kernel⟩, List.mem_of_getElem? (i := 1003) (by decide +kernel), List.mem_of_getElem? (i := 1316) (by decide +kernel), List.mem_of_getElem? (i := 1317) (by decide +kernel)⟩
def lw_privs_5 : List (MethodName × Nat) := [(⟨"RegisterMillModel", "lives", "()V"⟩, 52), (⟨"RegisterMillModel", "liveAhead", "(I)I"⟩, 52), (⟨"RegisterMillModel", "liveBehind", "(I)I"⟩, 52), (⟨"RegisterMillModel", "isLeftOut", "(I)Z"⟩, 52), (⟨"RegisterMillModel", "closesUp", "(I)V"⟩, 52), (⟨"RegisterMillModel", "spans", "(I)V"⟩, 52), (⟨"RegisterMillModel", "scans", "(II)V"⟩, 52), (⟨"RegisterMillModel", "codes", "(I)V"⟩, 52), (⟨"RegisterMillModel", "written", "(I)I"⟩, 52), (⟨"RegisterMillModel", "slotOf", "(I)I"⟩, 52), (⟨"RegisterMillModel", "registerOf", "(I)I"⟩, 52), (⟨"RegisterMillModel", "emit", "(IIIII)V"⟩, 52), (⟨"RegisterMillModel", "saved", "(I)V"⟩, 52), (⟨"RegisterMillModel", "codePlace", "(I)V"⟩, 52), (⟨"RegisterMillModel", "moves", "(II)V"⟩, 52), (⟨"RegisterMillModel", "read", "(II)I"⟩, 52)]
theorem lw_r5 : ∀ q ∈ lw_privs_5, lw_okq q := List.forall_mem_cons.mpr ⟨lw_p64, List.forall_mem_cons.mpr ⟨lw_p65, List.forall_mem_cons.mpr ⟨lw_p66, List.forall_mem_cons.mpr ⟨lw_p67, List.forall_mem_cons.mpr ⟨lw_p68, List.forall_mem_cons.mpr ⟨lw_p69, List.forall_mem_cons.mpr ⟨lw_p70, List.forall_mem_cons.mpr ⟨lw_p71, List.forall_mem_cons.mpr ⟨lw_p72, List.forall_mem_cons.mpr ⟨lw_p73, List.forall_mem_cons.mpr ⟨lw_p74, List.forall_mem_cons.mpr ⟨lw_p75, List.forall_mem_cons.mpr ⟨lw_p76, List.forall_mem_cons.mpr ⟨lw_p77, List.forall_mem_cons.mpr ⟨lw_p78, List.forall_mem_cons.mpr ⟨lw_p79, fun _ h => absurd h List.not_mem_nil⟩⟩⟩⟩⟩⟩⟩⟩⟩⟩⟩⟩⟩⟩⟩⟩
theorem lw_p80 : lw_okq (⟨"RegisterMillModel", "swaps", "(IIII)V"⟩, 52) := ⟨⟨by decide +kernel, by decide +kernel⟩, List.mem_of_getElem? (i := 1003) (by decide +kernel), List.mem_of_getElem? (i := 1320) (by decide +kernel), List.mem_of_getElem? (i := 1321) (by decide +kernel)⟩
theorem lw_p81 : lw_okq (⟨"RegisterMillModel", "into", "(II)V"⟩, 52) := ⟨⟨by decide +kernel, by decide +kernel⟩, List.mem_of_getElem? (i := 1003) (by decide +kernel), List.mem_of_getElem? (i := 1324) (by decide +kernel), List.mem_of_getElem? (i := 1325) (by decide +kernel)⟩
theorem lw_p82 : lw_okq (⟨"RegisterMillModel", "outOf", "(II)V"⟩, 52) := ⟨⟨by decide +kernel, by decide +kernel⟩, List.mem_of_getElem? (i := 1003) (by decide +kernel), List.mem_of_getElem? (i := 1328) (by decide +kernel), List.mem_of_getElem? (i := 1329) (by decide +kernel)⟩
theorem lw_p83 : lw_okq (⟨"RegisterMillModel", "run", "(II)I"⟩, 52) := ⟨⟨by decide +kernel, by decide +kernel⟩, List.mem_of_getElem? (i := 1003) (by decide +kernel), List.mem_of_getElem? (i := 1336) (by decide +kernel), List.mem_of_getElem? (i := 1337) (by decide +kernel)⟩
theorem lw_p84 : lw_okq (⟨"RegisterMillModel", "stepStack", "()V"⟩, 52) := ⟨⟨by decide +kernel, by decide +kernel⟩, List.mem_of_getElem? (i := 1003) (by decide +kernel), List.mem_of_getElem? (i := 1340) (by decide +kernel), List.mem_of_getElem? (i := 1341) (by decide +kernel)⟩
theorem lw_p85 : lw_okq (⟨"RegisterMillModel", "enters", "(II)V"⟩, 52) := ⟨⟨by decide +kernel, by decide +kernel⟩, List.mem_of_getElem? (i := 1003) (by decide +kernel), List.mem_of_getElem? (i := 1344) (by decide +kernel), List.mem_of_getElem? (i := 1345) (by decide +kernel)⟩
theorem lw_p86 : lw_okq (⟨"RegisterMillModel", "push", "(I)V"⟩, 52) := ⟨⟨by decide +kernel, by decide +kernel⟩, List.mem_of_getElem? (i := 1003) (by decide +kernel), List.mem_of_getElem? (i := 1348) (by decide +kernel), List.mem_of_getElem? (i := 1349) (by decide +kernel)⟩
theorem lw_p87 : lw_okq (⟨"RegisterMillModel", "pop", "()I"⟩, 52) := ⟨⟨by decide +kernel, by decide +kernel⟩, List.mem_of_getElem? (i := 1003) (by decide +kernel), List.mem_of_getElem? (i := 1352) (by decide +kernel), List.mem_of_getElem? (i := 1353) (by decide +kernel)⟩
theorem lw_p88 : lw_okq (⟨"RegisterMillModel", "swapTop", "()V"⟩, 52) := ⟨⟨by decide +kernel, by decide +kernel⟩, List.mem_of_getElem? (i := 1003) (by decide +kernel), List.mem_of_getElem? (i := 1356) (by decide +kernel), List.mem_of_getElem? (i := 1357) (by decide +kernel)⟩
theorem lw_p89 : lw_okq (⟨"RegisterMillModel", "callStack", "(I)V"⟩, 52) := ⟨⟨by decide +kernel, by decide +kernel⟩, List.mem_of_getElem? (i := 1003) (by decide +kernel), List.mem_of_getElem? (i := 1360) (by decide +kernel), List.mem_of_getElem? (i := 1361) (by decide +kernel)⟩
theorem lw_p90 : lw_okq (⟨"RegisterMillModel", "ends", "(II)V"⟩, 52) := ⟨⟨by decide +kernel, by decide +kernel⟩, List.mem_of_getElem? (i := 1003) (by decide +kernel), List.mem_of_getElem? (i := 1364) (by decide +kernel), List.mem_of_getElem? (i := 1365) (by decide +kernel)⟩
theorem lw_p91 : lw_okq (⟨"RegisterMillModel", "over", "(II)V"⟩, 52) := ⟨⟨by decide +kernel, by decide +kernel⟩, List.mem_of_getElem? (i := 1003) (by decide +kernel), List.mem_of_getElem? (i := 1368) (by decide +kernel), List.mem_of_getElem? (i := 1369) (by decide +kernel)⟩
theorem lw_p92 : lw_okq (⟨"RegisterMillModel", "readStack", "()V"⟩, 52) := ⟨⟨by decide +kernel, by decide +kernel⟩, List.mem_of_getElem? (i := 1003) (by decide +kernel), List.mem_of_getElem? (i := 1372) (by decide +kernel), List.mem_of_getElem? (i := 1373) (by decide +kernel)⟩
theorem lw_p93 : lw_okq (⟨"RegisterMillModel", "writeStack", "()V"⟩, 52) := ⟨⟨by decide +kernel, by decide +kernel⟩, List.mem_of_getElem? (i := 1003) (by decide +kernel), List.mem_of_getElem? (i := 1379) (by decide +kernel), List.mem_of_getElem? (i := 1380) (by decide +kernel)⟩
theorem lw_p94 : lw_okq (⟨"RegisterMillModel", "workStack", "(I)V"⟩, 52) := ⟨⟨by decide +kernel, by decide +kernel⟩, List.mem_of_getElem? (i := 1003) (by decide +kernel), List.mem_of_getElem? (i := 1383) (by decide +kernel), List.mem_of_getElem? (i := 1384) (by decide +kernel)⟩
theorem lw_p95 : lw_okq (⟨"RegisterMillModel", "works", "(III)I"⟩, 52) := ⟨⟨by decide +kernel, by decide +kernel⟩, List.mem_of_getElem? (i := 1003) (by decide +kernel), List.mem_of_getElem? (i := 1387) (by decide +kernel), List.mem_of_getElem? (i := 1388) (by decide +kernel)⟩
def lw_privs_6 : List (MethodName × Nat) := [(⟨"RegisterMillModel", "swaps", "(IIII)V"⟩, 52), (⟨"RegisterMillModel", "into", "(II)V"⟩, 52), (⟨"RegisterMillModel", "outOf", "(II)V"⟩, 52), (⟨"RegisterMillModel", "run", "(II)I"⟩, 52), (⟨"RegisterMillModel", "stepStack", "()V"⟩, 52), (⟨"RegisterMillModel", "enters", "(II)V"⟩, 52), (⟨"RegisterMillModel", "push", "(I)V"⟩, 52), (⟨"RegisterMillModel", "pop", "()I"⟩, 52), (⟨"RegisterMillModel", "swapTop", "()V"⟩, 52), (⟨"RegisterMillModel", "callStack", "(I)V"⟩, 52), (⟨"RegisterMillModel", "ends", "(II)V"⟩, 52), (⟨"RegisterMillModel", "over", "(II)V"⟩, 52), (⟨"RegisterMillModel", "readStack", "()V"⟩, 52), (⟨"RegisterMillModel", "writeStack", "()V"⟩, 52), (⟨"RegisterMillModel", "workStack", "(I)V"⟩, 52), (⟨"RegisterMillModel", "works", "(III)I"⟩, 52)]
theorem lw_r6 : ∀ q ∈ lw_privs_6, lw_okq q := List.forall_mem_cons.mpr ⟨lw_p80, List.forall_mem_cons.mpr ⟨lw_p81, List.forall_mem_cons.mpr ⟨lw_p82, List.forall_mem_cons.mpr ⟨lw_p83, List.forall_mem_cons.mpr ⟨lw_p84, List.forall_mem_cons.mpr ⟨lw_p85, List.forall_mem_cons.mpr ⟨lw_p86, List.forall_mem_cons.mpr ⟨lw_p87, List.forall_mem_cons.mpr ⟨lw_p88, List.forall_mem_cons.mpr ⟨lw_p89, List.forall_mem_cons.mpr ⟨lw_p90, List.forall_mem_cons.mpr ⟨lw_p91, List.forall_mem_cons.mpr ⟨lw_p92, List.forall_mem_cons.mpr ⟨lw_p93, List.forall_mem_cons.mpr ⟨lw_p94, List.forall_mem_cons.mpr ⟨lw_p95, fun _ h => absurd h List.not_mem_nil⟩⟩⟩⟩⟩⟩⟩⟩⟩⟩⟩⟩⟩⟩⟩⟩
theorem lw_p96 : lw_okq (⟨"RegisterMillModel", "stepRegisters", "()V"⟩, 52) := ⟨⟨by decide +kernel, by decide +kernel⟩, List.mem_of_getElem? (i := 1003) (by decide +kernel), List.mem_of_getElem? (i := 1391) (by decide +kernel), List.mem_of_getElem? (i := 1392) (by decide +kernel)⟩
theorem lw_p97 : lw_okq (⟨"RegisterMillModel", "stepCall", "(IIII)V"⟩, 52) := ⟨⟨by decide +kernel, by decide +kernel⟩, List.mem_of_getElem? (i := 1003) (by decide +kernel), List.mem_of_getElem? (i := 1395) (by decide +kernel), List.mem_of_getElem? (i := 1396) (by decide +kernel)⟩
theorem lw_p98 : lw_okq (⟨"RegisterMillModel", "isFunc", "(I)Z"⟩, 52) := ⟨⟨by decide +kernel, by decide +kernel⟩, List.mem_of_getElem? (i := 1003) (by decide +kernel), List.mem_of_getElem? (i := 1423) (by decide +kernel), List.mem_of_getElem? (i := 1424) (by decide +kernel)⟩
def lw_privs_7 : List (MethodName × Nat) := [(⟨"RegisterMillModel", "stepRegisters", "()V"⟩, 52), (⟨"RegisterMillModel", "stepCall", "(IIII)V"⟩, 52), (⟨"RegisterMillModel", "isFunc", "(I)Z"⟩, 52)]
theorem lw_r7 : ∀ q ∈ lw_privs_7, lw_okq q := List.forall_mem_cons.mpr ⟨lw_p96, List.forall_mem_cons.mpr ⟨lw_p97, List.forall_mem_cons.mpr ⟨lw_p98, fun _ h => absurd h List.not_mem_nil⟩⟩⟩
def lw_privs : List (MethodName × Nat) := lw_privs_1 ++ (lw_privs_2 ++ (lw_privs_3 ++ (lw_privs_4 ++ (lw_privs_5 ++ (lw_privs_6 ++ (lw_privs_7))))))
def lw_tbl : List Cond := k2_sels lw_privs ++ tables_1
theorem lw_privs_ok : ∀ q ∈ lw_privs, lw_okq q := by
  show ∀ q ∈ lw_privs_1 ++ (lw_privs_2 ++ (lw_privs_3 ++ (lw_privs_4 ++ (lw_privs_5 ++ (lw_privs_6 ++ (lw_privs_7)))))), lw_okq q
  exact List.forall_mem_append.mpr ⟨lw_r1, List.forall_mem_append.mpr ⟨lw_r2, List.forall_mem_append.mpr ⟨lw_r3, List.forall_mem_append.mpr ⟨lw_r4, List.forall_mem_append.mpr ⟨lw_r5, List.forall_mem_append.mpr ⟨lw_r6, lw_r7⟩⟩⟩⟩⟩⟩
end
section
/-! ===== BEGIN words of one list among another's, by their places ===== -/
theorem goodIn_r {big : List Cond} (ws : List Cond) (ps : List Nat) (hp : ws = ps.filterMap (fun i => big[i]?)) (h : ws.all goodWord = true) : GoodIn big ws := by
  intro w hw
  have h1 := List.all_eq_true.mp h w hw
  rw [hp] at hw
  obtain ⟨i, -, hi⟩ := List.mem_filterMap.mp hw
  have hm : w ∈ big := by first | exact List.mem_of_getElem? hi | exact List.getElem?_mem hi
  exact ⟨hm, good_of_word h1⟩
theorem goodIn_app {big a b : List Cond} (ha : GoodIn big a) (hb : GoodIn big b) : GoodIn big (a ++ b) := fun w h => (List.mem_append.mp h).elim (ha w) (hb w)
theorem goodIn_ca {big a b : List Cond} {c : Cond} (ha : GoodIn big (c :: a)) (hb : GoodIn big b) : GoodIn big (c :: (a ++ b)) := fun w h => (List.mem_cons.mp h).elim (fun e => ha w (List.mem_cons.mpr (Or.inl e))) (fun h => (List.mem_append.mp h).elim (fun h => ha w (List.mem_cons.mpr (Or.inr h))) (hb w))
theorem goodIn_sub {big ws : List Cond} (hm : ∀ w ∈ ws, w ∈ big) (h : ws.all goodWord = true) : GoodIn big ws := fun w hw => ⟨hm w hw, good_of_word (List.all_eq_true.mp h w hw)⟩
/-! ===== END ===== -/

/-! ===== BEGIN exceptions that leave a method, and their catching by the caller (launches without stack traces) ===== -/
section VXA
/-! The laws vx_back, vx_callV, vx_callS, vx_callSW, vx_throw0, vx_throwS follow proofs of the library, with one case more: JvmDerived/Free/Laws.lean (Back.of_free), Shelf42/LK1.lean (callV, callS), Shelf/KitTraced.lean (throwNew0V, throwNewS). -/
/-- where a method has thrown q: the class by its name, the cell, what was written, the world -/
def vx_T (XC : String → State → State → Prop) (st : State) (q : Addr) (t : State) (mc ms : Nat) (free : Addr → Prop) : Prop :=
  ∃ (E : String) (ce : Cell) (L : List Loc), XC E st t ∧ t.heap[q]? = some ce ∧ ce.vm = .none ∧ st.vm.findClass E = some ce.cls ∧ st.WarmedH t.vm ∧ st.sameButNew ({ t with vm := st.vm } : State) L mc ms ∧ ∀ z ∈ L, free z.base
def vx_Q (Qc : Array Value → State → Outcome → State → Prop) (XC : String → State → State → Prop) (mc ms : Nat) (free : Addr → Prop) : Array Value → State → Outcome → State → Prop := fun a st o t =>
  (Qc a st o t ∧ ∃ L, FrameEnd st o t L mc ms ∧ ∀ q ∈ L, free q.base) ∨ ∃ q, o = .threw q ∧ vx_T XC st q t mc ms free
/-- a callee that returns or throws -/
def vx_Met (l : Launch) (y : MethodName) (ws : List Cond) (rm : Room) (Pc : Array Value → State → Prop) (Qc : Array Value → State → Outcome → State → Prop) (XC : String → State → State → Prop) (mc ms : Nat) (free : Addr → Prop) : Prop :=
  MetFree l y (headSpec ws rm) Pc (fun _ _ _ _ _ => True) (vx_Q Qc XC mc ms free)
def vx_Post (XC : String → State → State → Prop) (mc ms : Nat) (free : Addr → Prop) : Pt → Array Value → Addr → Pt → Prop := fun A a q B =>
  ∃ (g : JFrame) (mk : MethodId) (t : State) (L : List Loc) (E : String) (ce : Cell), B.U.heap = t.heap ∧ B.U.vm = t.vm ∧ XC E (A.U.calling g mk a) t ∧ t.heap[q]? = some ce ∧ ce.vm = .none ∧ A.U.vm.findClass E = some ce.cls ∧ B.locs = A.locs ++ L ∧ (∀ z ∈ L, free z.base) ∧ B.cells = A.cells + mc ∧ B.slots = A.slots + ms
def vx_Back (l : Launch) (R : Room) (p : Program) (e : Env) (below : List Frame) (s : State) (sargs : Array Value) (y : MethodName) (len W9 : Nat)
    (Pre : Pt → Array Value → Prop) (Post : Pt → Array Value → Option Value → Pt → Prop) (PostX : Pt → Array Value → Addr → Pt → Prop) : Prop :=
  ∀ (m : MethodId) (meth : Method) (c : Code) (A : Pt) (g : JFrame) (ig : Instr) (mk : MethodId) (a : Array Value),
    Stand p l e R s m sargs below meth c A.U A.locs A.cells A.slots → g.method = m → g.locals.size = c.maxLocals → decode c.code g.pc = .ok (ig, len) →
    2 * g.monitorRoom + (g.stack.map fun v => v.category).sum ≤ W9 → A.U.methodNamed? y = some mk → Pre A a →
    (∃ (v : Option Value) (B : Pt), Stand p l e R s m sargs below meth c B.U B.locs B.cells B.slots ∧ Post A a v B ∧
      Steps p.tables e below (doInvoke e (A.U.setTop g) [] mk a).1 (B.U.setTop { g with pc := g.pc + len, stack := v.toList ++ g.stack })) ∨
    (∃ (q : Addr) (B : Pt), Stand p l e R s m sargs below meth c B.U B.locs B.cells B.slots ∧ PostX A a q B ∧
      Steps p.tables e below (doInvoke e (A.U.setTop g) [] mk a).1 ((B.U.setTop g).pushFrame (.throwing q)))
section Payer
variable {l : Launch} {R : Room} {p : Program} {e : Env} {below : List Frame} {s : State} {sargs : Array Value} {y : MethodName} {len W9 : Nat}
theorem vx_back {ws : List Cond} {rm : Room} {Pc : Array Value → State → Prop} {Qc : Array Value → State → Outcome → State → Prop} {XC : String → State → State → Prop} {mc ms : Nat} {free : Addr → Prop} {bytes : ByteArray} {maxL : Nat} {ret : Option FieldType}
    (hM : vx_Met l y ws rm Pc Qc XC mc ms free) (hblind : FrameBlind Pc) (hrc : rm.cells = mc) (hrs : rm.slots = ms)
    (hframes : rm.frames + 1 ≤ R.frames) (hlocals : W9 + (maxL + 11) + rm.locals ≤ R.locals)
    (hws : ∀ w ∈ ws, ∀ a' U, s.WarmedH U.vm → w.before a' U = true) (hcode : Cond.code y bytes maxL ret ∈ ws) (hinit : ∀ a' U, s.WarmedH U.vm → (Cond.initialized y.cls).before a' U = true) :
    vx_Back l R p e below s sargs y len W9 (PreOf R mc ms Pc) (PostOf Qc mc ms free) (vx_Post XC mc ms free) := by
  intro m meth c A g ig mk a X hg hsize hdg hW hn hp
  have h1 : (headSpec ws rm).pre.before a A.U = true := atoms_intro fun w hw => hws w hw _ _ X.warmed
  have h2 : (Cond.code y bytes maxL ret).before a A.U = true := hws _ hcode _ _ X.warmed
  have h3 : (Cond.initialized y.cls).before a A.U = true := hinit _ _ X.warmed
  have h4 : A.cells + (headSpec ws rm).room.cells ≤ R.cells := by rw [show (headSpec ws rm).room.cells = mc from hrc]; exact hp.1
  have h5 : A.slots + (headSpec ws rm).room.slots ≤ R.slots := by rw [show (headSpec ws rm).room.slots = ms from hrs]; exact hp.2.1
  have hPc : Pc a (A.U.calling g mk a) := hblind _ _ _ _ hp.2.2
  obtain ⟨U, Ls, c0, s0⟩ := A
  dsimp only [Pt.U, Pt.locs, Pt.cells, Pt.slots] at h1 h2 h3 h4 h5 X hn hPc ⊢
  obtain ⟨methY, cY, hmY, hcY, -, hlY, -, -, -, -⟩ := Cond.code_spec hn h2
  obtain ⟨kY, hkY, -⟩ := className_of_methodNamed hn
  have hinitY : kY.init = .initialized := Cond.initialized_spec (findClass_of_methodNamed hn) hkY h3
  have h : At U g.method c below := by rw [hg]; exact X.here
  have hlocals9 : W9 + (maxL + 11) + (headSpec ws rm).room.locals ≤ R.locals := hlocals
  have happ : (headSpec ws rm).appliesLoose y e.platform (U.calling g mk a) = true :=
    Spec.appliesLoose_calling (g := g) h hdg hn hkY hinitY
      (X.room_calling (g := g) (R' := (headSpec ws rm).room) hsize hmY hcY hframes (by rw [hlY]; omega) h4 h5) h1
  obtain ⟨mid, hmid⟩ := h.above
  have hfr : (U.setTop g).frames = (.java g :: mid) ++ below := by rw [State.frames_setTop' g h.top, hmid]; rfl
  obtain ⟨o, s₂, hsteps, -, hend, hq⟩ := Steps.callFree hM p X.admits X.cas X.clock (acts := []) hfr happ hPc trivial
  have hq' : vx_Q Qc XC mc ms free a (U.calling g mk a) o s₂ := hq
  rw [State.frames_setTop' g h.top] at hend
  obtain ⟨g₀, hg0⟩ := Option.isSome_iff_exists.mp h.top
  obtain ⟨r, hr⟩ := State.topJava?_eq_some.mp hg0
  have hr' : (({ U with heap := s₂.heap, slotsUsed := s₂.slotsUsed } : State).setVm s₂.vm).frames = .java g₀ :: r := hr
  rcases hq' with ⟨hqc, L, hfe, hL⟩ | ⟨q, rfl, E, ce, L, hx, hce, hcv, hcl, hW₂, hsm, hL⟩
  · obtain ⟨⟨v, rfl⟩, hW₂, e2, q2, q3, q4, q5, q6⟩ := id hfe
    have e3 : s₂ = ({ (U.calling g mk a).setFrames s₂.frames with heap := s₂.heap, slotsUsed := s₂.slotsUsed } : State).setVm s₂.vm := by
      have : s₂ = ({ s₂ with vm := (U.calling g mk a).vm } : State).setVm s₂.vm := rfl
      rw [e2] at this
      exact this
    obtain ⟨c₂, i₂, len₂, hc₂, hd₂, hf₂⟩ := hend
    have hW' : U.WarmedH s₂.vm := hW₂
    have hcc : c₂ = c := by
      have h1 : s₂.code? g.method = U.code? g.method := by
        rw [State.code?_eq, State.code?_eq, hW'.alike.method?]
      exact Option.some.inj (hc₂.symm.trans (h1.trans h.code))
    subst hcc
    have hlen : len₂ = len := by rw [hdg] at hd₂; cases hd₂; rfl
    subst hlen
    have hs₂ : s₂ = (({ U with heap := s₂.heap, slotsUsed := s₂.slotsUsed } : State).setVm s₂.vm).setTop { g with pc := g.pc + len₂, stack := v.toList ++ g.stack } := by
      refine e3.trans ?_
      rw [hf₂, State.calling_eq h.top, State.setFrames_setFrames, State.setTop_of_frames _ hr', hr]
      rfl
    have hsame : U.sameButNew ({ U with heap := s₂.heap, slotsUsed := s₂.slotsUsed } : State) L mc ms := by
      refine ⟨?_, q2, q3, q4, q5, q6⟩
      obtain ⟨t, ht, -⟩ := State.frames_cons hr
      show ({ U with heap := s₂.heap, slotsUsed := s₂.slotsUsed } : State) = { U.setFrames U.frames with heap := s₂.heap, slotsUsed := s₂.slotsUsed }
      rw [State.setFrames_self ht]
    subst hg
    refine Or.inl ⟨v, ⟨(({ U with heap := s₂.heap, slotsUsed := s₂.slotsUsed } : State).setVm s₂.vm), Ls ++ L, c0 + mc, s0 + ms⟩,
      ⟨X.admits, X.cas, X.clock, X.frames, X.room, X.hears, X.method, X.code, (X.here.setHeapUsed s₂.heap s₂.slotsUsed).setVm hW'.alike, X.tail, State.WarmedH.trans X.warmed hW', X.limits, X.bytes, X.same.trans (hsame.setVm s.vm)⟩,
      ⟨g, mk, s₂, L, rfl, rfl, hqc, rfl, hL, rfl, rfl⟩, ?_⟩
    show Steps p.tables e below _ ((({ U with heap := s₂.heap, slotsUsed := s₂.slotsUsed } : State).setVm s₂.vm).setTop { g with pc := g.pc + len₂, stack := v.toList ++ g.stack })
    rw [← hs₂]
    exact hsteps
  · obtain ⟨e2, q2, q3, q4, q5, q6⟩ := id hsm
    have e3 : s₂ = ({ (U.calling g mk a).setFrames s₂.frames with heap := s₂.heap, slotsUsed := s₂.slotsUsed } : State).setVm s₂.vm := by
      have : s₂ = ({ s₂ with vm := (U.calling g mk a).vm } : State).setVm s₂.vm := rfl
      rw [e2] at this
      exact this
    have hf₂ : s₂.frames = .throwing q :: .java g :: U.frames.tail := hend
    have hW' : U.WarmedH s₂.vm := hW₂
    have hs₂ : s₂ = ((({ U with heap := s₂.heap, slotsUsed := s₂.slotsUsed } : State).setVm s₂.vm).setTop g).pushFrame (.throwing q) := by
      refine e3.trans ?_
      rw [hf₂, State.calling_eq h.top, State.setFrames_setFrames, State.pushFrame, State.frames_setTop _ hr', State.setTop_of_frames _ hr', State.setFrames_setFrames, hr]
      rfl
    have hsame : U.sameButNew ({ U with heap := s₂.heap, slotsUsed := s₂.slotsUsed } : State) L mc ms := by
      refine ⟨?_, q2, q3, q4, q5, q6⟩
      obtain ⟨t, ht, -⟩ := State.frames_cons hr
      show ({ U with heap := s₂.heap, slotsUsed := s₂.slotsUsed } : State) = { U.setFrames U.frames with heap := s₂.heap, slotsUsed := s₂.slotsUsed }
      rw [State.setFrames_self ht]
    subst hg
    refine Or.inr ⟨q, ⟨(({ U with heap := s₂.heap, slotsUsed := s₂.slotsUsed } : State).setVm s₂.vm), Ls ++ L, c0 + mc, s0 + ms⟩,
      ⟨X.admits, X.cas, X.clock, X.frames, X.room, X.hears, X.method, X.code, (X.here.setHeapUsed s₂.heap s₂.slotsUsed).setVm hW'.alike, X.tail, State.WarmedH.trans X.warmed hW', X.limits, X.bytes, X.same.trans (hsame.setVm s.vm)⟩,
      ⟨g, mk, s₂, L, E, ce, rfl, rfl, hx, hce, hcv, hcl, rfl, hL, rfl, rfl⟩, ?_⟩
    show Steps p.tables e below _ (((({ U with heap := s₂.heap, slotsUsed := s₂.slotsUsed } : State).setVm s₂.vm).setTop g).pushFrame (.throwing q))
    rw [← hs₂]
    exact hsteps
end Payer
section Calls
variable {p : Program} {l : Launch} {e : Env} {R : Room} {s : State} {m : MethodId} {args : Array Value} {below : List Frame} {meth : Method} {c : Code} {T : State} {locs : List Loc} {cells slots : Nat}
theorem vx_callV (X : Stand p l e R s m args below meth c T locs cells slots) (hexec : p.tables.exec = Jvm.exec) {own C : String} {index : Nat} {y : MethodName} {bytes : ByteArray} {maxL : Nat} {ret : Option FieldType}
    (hown : s.vm.findClass own = some m.cls) (hlink : (Cond.methodLink own index y).before args s = true) (hinst : (Cond.instanceMethod y).before args s = true) (hsel : (Cond.selects C y y).before args s = true)
    (hcode : (Cond.code y bytes maxL ret).before args s = true) (hy : y.cls ≠ "java/lang/invoke/MethodHandle" ∧ y.cls ≠ "java/lang/invoke/VarHandle")
    {W9 : Nat} {Pre : Pt → Array Value → Prop} {Post : Pt → Array Value → Option Value → Pt → Prop} {PostX : Pt → Array Value → Addr → Pt → Prop} (hK : vx_Back l R p e below s args y 3 W9 Pre Post PostX)
    {b : Addr} {cellB : Cell} (hcell : T.heap[b]? = some cellB) (hobj : cellB.vm.isStatics = false) (hcls : s.vm.findClass C = some cellB.cls)
    {g : JFrame} (hg : g.method = m) (hsize : g.locals.size = c.maxLocals) {argsL rest : List Value} (hlen : ∀ sig, parseMethodDescriptor y.desc = some sig → argsL.length = sig.parameters.length)
    (hstack : g.stack = argsL.reverse ++ .ref b :: rest) (hW : 2 * g.monitorRoom + (rest.map fun v => v.category).sum ≤ W9) (hdg : decode c.code g.pc = .ok (.invokevirtual index, 3))
    (hpre : ∀ vm₁, s.WarmedH vm₁ → Pre ⟨T.setVm vm₁, locs, cells, slots⟩ (Value.ref b :: argsL).toArray) :
    (∃ (v : Option Value) (vm₁ : Vm) (B : Pt), s.WarmedH vm₁ ∧ Stand p l e R s m args below meth c B.U B.locs B.cells B.slots ∧ Post ⟨T.setVm vm₁, locs, cells, slots⟩ (Value.ref b :: argsL).toArray v B ∧
      ∀ target, Steps p.tables e below (B.U.setTop { g with pc := g.pc + 3, stack := v.toList ++ rest }) target → Steps p.tables e below (T.setTop g) target) ∨
    (∃ (q : Addr) (vm₁ : Vm) (B : Pt), s.WarmedH vm₁ ∧ Stand p l e R s m args below meth c B.U B.locs B.cells B.slots ∧ PostX ⟨T.setVm vm₁, locs, cells, slots⟩ (Value.ref b :: argsL).toArray q B ∧
      Steps p.tables e below (T.setTop g) ((B.U.setTop { g with stack := rest }).pushFrame (.throwing q))) := by
  obtain ⟨mk, methM, hnamed, hmethM, hstM, habM⟩ := Cond.instanceMethod_spec hinst
  obtain ⟨methM', cM, hmethM', -, -, -, -, -, -, hsigM⟩ := Cond.code_spec hnamed hcode
  cases hmethM.symm.trans hmethM'
  obtain ⟨c2, r2, m2, q1, q2, q3, q4, kP, hkP, hkPi⟩ := Cond.selects_spec hsel
  cases hcls.symm.trans q1
  cases (State.methodFound?_of_named hnamed hy).symm.trans q2
  cases hnamed.symm.trans q3
  have hselP : selectMethod e.platform s.vm cellB.cls mk = .method mk := by rw [Launch.admits_selectMethod X.admits]; exact q4
  obtain ⟨vm₁, X₁, hstep₁⟩ := X.invokevirtual hexec hown hlink hnamed hmethM hstM hkP hkPi hy (a := b) (cell := cellB) hcell
    (fun z h => by rw [h] at hobj; cases hobj) hselP hmethM habM hkP hkPi (g := g) hg (argsL := argsL) (rest := rest) (hlen _ hsigM) hstack hdg
  rcases hK m meth c ⟨T.setVm vm₁, locs, cells, slots⟩ { g with stack := rest } (.invokevirtual index) mk (Value.ref b :: argsL).toArray X₁ hg hsize hdg hW (X₁.named hnamed) (hpre vm₁ X₁.warmed) with ⟨v, B, X', hpost, hsteps⟩ | ⟨q, B, X', hpost, hsteps⟩
  · exact Or.inl ⟨v, vm₁, B, X₁.warmed, X', hpost, fun target h => hstep₁ _ fun acts => by rw [doInvoke_state]; exact hsteps.trans h⟩
  · exact Or.inr ⟨q, vm₁, B, X₁.warmed, X', hpost, hstep₁ _ fun acts => by rw [doInvoke_state]; exact hsteps⟩
theorem vx_callS (X : Stand p l e R s m args below meth c T locs cells slots) (hexec : p.tables.exec = Jvm.exec) {own : String} {index : Nat} {y : MethodName} {bytes : ByteArray} {maxL : Nat} {ret : Option FieldType}
    (hown : s.vm.findClass own = some m.cls) (hlink : (Cond.methodLink own index y).before args s = true) (hstat : (Cond.static y).before args s = true) (hinit : (Cond.initialized y.cls).before args s = true)
    (hcode : (Cond.code y bytes maxL ret).before args s = true) (hy : y.cls ≠ "java/lang/invoke/MethodHandle" ∧ y.cls ≠ "java/lang/invoke/VarHandle")
    {W9 : Nat} {Pre : Pt → Array Value → Prop} {Post : Pt → Array Value → Option Value → Pt → Prop} {PostX : Pt → Array Value → Addr → Pt → Prop} (hK : vx_Back l R p e below s args y 3 W9 Pre Post PostX)
    {g : JFrame} (hg : g.method = m) (hsize : g.locals.size = c.maxLocals) {argsL rest : List Value} (hlen : ∀ sig, parseMethodDescriptor y.desc = some sig → argsL.length = sig.parameters.length)
    (hstack : g.stack = argsL.reverse ++ rest) (hW : 2 * g.monitorRoom + (rest.map fun v => v.category).sum ≤ W9) (hdg : decode c.code g.pc = .ok (.invokestatic index, 3))
    (hpre : ∀ vm₁, s.WarmedH vm₁ → Pre ⟨T.setVm vm₁, locs, cells, slots⟩ argsL.toArray) :
    (∃ (v : Option Value) (vm₁ : Vm) (B : Pt), s.WarmedH vm₁ ∧ Stand p l e R s m args below meth c B.U B.locs B.cells B.slots ∧ Post ⟨T.setVm vm₁, locs, cells, slots⟩ argsL.toArray v B ∧
      ∀ target, Steps p.tables e below (B.U.setTop { g with pc := g.pc + 3, stack := v.toList ++ rest }) target → Steps p.tables e below (T.setTop g) target) ∨
    (∃ (q : Addr) (vm₁ : Vm) (B : Pt), s.WarmedH vm₁ ∧ Stand p l e R s m args below meth c B.U B.locs B.cells B.slots ∧ PostX ⟨T.setVm vm₁, locs, cells, slots⟩ argsL.toArray q B ∧
      Steps p.tables e below (T.setTop g) ((B.U.setTop { g with stack := rest }).pushFrame (.throwing q))) := by
  obtain ⟨mk, hnamed⟩ := Cond.code_named hcode
  obtain ⟨methM, cM, hmethM, -, -, -, -, -, -, hsigM⟩ := Cond.code_spec hnamed hcode
  have hstatic : methM.isStatic = true := Cond.static_spec hnamed hmethM hstat
  obtain ⟨kP, hkP, -⟩ := className_of_methodNamed hnamed
  have hinitP : kP.init = .initialized := Cond.initialized_spec (findClass_of_methodNamed hnamed) hkP hinit
  obtain ⟨vm₁, X₁, hstep₁⟩ := X.invokestatic hexec hown hlink hnamed hmethM hstatic hkP hinitP hy (g := g) hg (argsL := argsL) (rest := rest) (hlen _ hsigM) hstack hdg
  rcases hK m meth c ⟨T.setVm vm₁, locs, cells, slots⟩ { g with stack := rest } (.invokestatic index) mk argsL.toArray X₁ hg hsize hdg hW (X₁.named hnamed) (hpre vm₁ X₁.warmed) with ⟨v, B, X', hpost, hsteps⟩ | ⟨q, B, X', hpost, hsteps⟩
  · exact Or.inl ⟨v, vm₁, B, X₁.warmed, X', hpost, fun target h => hstep₁ _ fun acts => by rw [doInvoke_state]; exact hsteps.trans h⟩
  · exact Or.inr ⟨q, vm₁, B, X₁.warmed, X', hpost, hstep₁ _ fun acts => by rw [doInvoke_state]; exact hsteps⟩
end Calls
theorem vx_cls {s : State} {T : State} {vm₁ : Vm} {E : String} {k : ClassId} (hW : s.WarmedH vm₁) (h : (T.setVm vm₁).vm.findClass E = some k) : s.vm.findClass E = some k := by
  have h1 : vm₁.findClass E = some k := h
  rw [hW.alike.findClass] at h1
  exact h1
/-- the method's frame g, with q thrown over it -/
def vx_W (p : Program) (l : Launch) (e : Env) (R : Room) (s : State) (m : MethodId) (args : Array Value) (below : List Frame) (meth : Method) (c : Code) (H : Heap) (locs : List Loc) (cells slots : Nat) (Q : State → Prop) (g : JFrame) (q : Addr) : Prop :=
  ∀ T : State, T.heap = H → Stand p l e R s m args below meth c T locs cells slots → ∃ t, Steps p.tables e below ((T.setTop g).pushFrame (.throwing q)) t ∧ Q t
def vx_Run (p : Program) (l : Launch) (e : Env) (R : Room) (s : State) (m : MethodId) (args : Array Value) (below : List Frame) (meth : Method) (c : Code) (H : Heap) (locs : List Loc) (cells slots mc ms : Nat) (g : JFrame) (rest : List Value) (Qa : State → Outcome → State → Prop) (XC : String → State → State → Prop) (free : Addr → Prop) : Prop :=
  ∀ T : State, T.heap = H → Stand p l e R s m args below meth c T locs cells slots →
    (∃ (v : Option Value) (st₀ t T' : State) (L : List Loc), st₀.heap = H ∧ Stand p l e R s m args below meth c T' (locs ++ L) (cells + mc) (slots + ms) ∧ (∀ q ∈ L, free q.base) ∧ T'.heap = t.heap ∧ T'.vm = t.vm ∧ Qa st₀ (.returned v) t ∧
      Goes p e below T g T' { g with pc := g.pc + 3, stack := v.toList ++ rest }) ∨
    (∃ (q : Addr) (st₀ t T' : State) (L : List Loc) (E : String) (ce : Cell), st₀.heap = H ∧ Stand p l e R s m args below meth c T' (locs ++ L) (cells + mc) (slots + ms) ∧ (∀ z ∈ L, free z.base) ∧ T'.heap = t.heap ∧ T'.vm = t.vm ∧ XC E st₀ t ∧ t.heap[q]? = some ce ∧ ce.vm = .none ∧ s.vm.findClass E = some ce.cls ∧
      Steps p.tables e below (T.setTop g) ((T'.setTop { g with stack := rest }).pushFrame (.throwing q)))
def vx_X {S : Type} (px : S → Prop) (B : String → S → State → Prop) (A : Nat → Prop) : String → State → State → Prop := fun E st t => ∃ u : S, px u ∧ B E u t ∧ va_F A st t
section Runs
variable {p : Program} {l : Launch} {e : Env} {R : Room} {s : State} {m : MethodId} {args : Array Value} {below : List Frame} {meth : Method} {c : Code} {H : Heap} {locs : List Loc} {cells slots : Nat}
variable {y : MethodName} {bytes cc : ByteArray} {maxL nL mc ms n index : Nat} {ret : Option FieldType} {ws : List Cond} {rm : Room} {Pc : Array Value → State → Prop} {Qc : Array Value → State → Outcome → State → Prop} {XC : String → State → State → Prop} {free : Addr → Prop} {Ts : List Cond} {own C : String} {b : Addr} {As rest : List Value} {g : JFrame}
theorem vx_callBack (cb : CallB R s args own index y bytes maxL ret ws rm mc ms n) (hM : vx_Met l y ws rm Pc Qc XC mc ms free) (hbl : FrameBlind Pc) : vx_Back l R p e below s args y 3 8 (PreOf R mc ms Pc) (PostOf Qc mc ms free) (vx_Post XC mc ms free) := by
  obtain ⟨hrc, hrs, hfr, hlo, hws, hcw, -, hini, -⟩ := cb
  exact vx_back (bytes := bytes) (maxL := maxL) (ret := ret) hM hbl hrc hrs hfr hlo hws hcw (fun a' U hW => word_at hW (Or.inl (by first | rfl | simp [Cond.onTables, Cond.keeps, Cond.steady])) hini)
theorem vx_runV (S : CallFix p m c cc nL s args Ts own) (hM : vx_Met l y ws rm Pc Qc XC mc ms free) (cw : CallW R s args own C index y bytes maxL ret ws rm mc ms n) (hp : PreV s H C b Pc As)
    (hg : g.method = m) (hn : As.length = n) (hsize : g.locals.size = nL) (hstack : g.stack = As.reverse ++ .ref b :: rest) (hW : 2 * g.monitorRoom + (rest.map fun v => v.category).sum ≤ 8) (hdg : decode cc g.pc = .ok (.invokevirtual index, 3)) (hf : cells + mc ≤ R.cells ∧ slots + ms ≤ R.slots) :
    vx_Run p l e R s m args below meth c H locs cells slots mc ms g rest (Qc (Value.ref b :: As).toArray) XC free := by
  have hK : vx_Back l R p e below s args y 3 8 (PreOf R mc ms Pc) (PostOf Qc mc ms free) (vx_Post XC mc ms free) := vx_callBack cw.1 hM hp.1
  obtain ⟨⟨-, -, -, -, -, -, hcode, -, hy, hlen, hl⟩, hin, hse⟩ := cw
  obtain ⟨hx, hb, hml, ho, -⟩ := S
  obtain ⟨-, ⟨cellB, hcB, hoB, hclB⟩, hPc⟩ := hp
  intro T hT X
  rcases vx_callV X hx (C := C) (bytes := bytes) (maxL := maxL) (ret := ret) ho hl hin hse hcode hy hK (by rw [hT]; exact hcB) hoB hclB hg (hsize.trans hml.symm) (argsL := As) (rest := rest) (fun sig h => hn.trans (hlen sig h)) hstack hW (by rw [hb]; exact hdg)
    (fun vm₁ hW₁ => ⟨hf.1, hf.2, hPc (T.setVm vm₁) hT hW₁⟩) with ⟨v, vm₁, ⟨U', l2, c2, s2⟩, hW₁, X', ⟨g', mk, t, L, e1, e2, hq, h1, hL, h2, h3⟩, st⟩ | ⟨q, vm₁, ⟨U', l2, c2, s2⟩, hW₁, X', ⟨g', mk, t, L, E, ce, e1, e2, hq, hce, hcv, hcl, h1, hL, h2, h3⟩, st⟩
  · dsimp only [Pt.U, Pt.locs, Pt.cells, Pt.slots] at X' e1 e2 h1 h2 h3 st
    subst h1; subst h2; subst h3
    exact Or.inl ⟨v, (T.setVm vm₁).calling g' mk (Value.ref b :: As).toArray, t, U', L, hT, X', hL, e1, e2, hq, st⟩
  · dsimp only [Pt.U, Pt.locs, Pt.cells, Pt.slots] at X' e1 e2 h1 h2 h3 st hcl
    subst h1; subst h2; subst h3
    exact Or.inr ⟨q, (T.setVm vm₁).calling g' mk (Value.ref b :: As).toArray, t, U', L, E, ce, hT, X', hL, e1, e2, hq, hce, hcv, vx_cls hW₁ hcl, st⟩
theorem vx_runS (S : CallFix p m c cc nL s args Ts own) (hM : vx_Met l y ws rm Pc Qc XC mc ms free) (cw : CallB R s args own index y bytes maxL ret ws rm mc ms n ∧ (Cond.static y).before args s = true) (hp : PreS s H Pc As)
    (hg : g.method = m) (hn : As.length = n) (hsize : g.locals.size = nL) (hstack : g.stack = As.reverse ++ rest) (hW : 2 * g.monitorRoom + (rest.map fun v => v.category).sum ≤ 8) (hdg : decode cc g.pc = .ok (.invokestatic index, 3)) (hf : cells + mc ≤ R.cells ∧ slots + ms ≤ R.slots) :
    vx_Run p l e R s m args below meth c H locs cells slots mc ms g rest (Qc As.toArray) XC free := by
  have hK : vx_Back l R p e below s args y 3 8 (PreOf R mc ms Pc) (PostOf Qc mc ms free) (vx_Post XC mc ms free) := vx_callBack cw.1 hM hp.1
  obtain ⟨⟨-, -, -, -, -, -, hcode, hini, hy, hlen, hl⟩, hstt⟩ := cw
  obtain ⟨hx, hb, hml, ho, -⟩ := S
  intro T hT X
  rcases vx_callS X hx (bytes := bytes) (maxL := maxL) (ret := ret) ho hl hstt hini hcode hy hK hg (hsize.trans hml.symm) (argsL := As) (rest := rest) (fun sig h => hn.trans (hlen sig h)) hstack hW (by rw [hb]; exact hdg)
    (fun vm₁ hW₁ => ⟨hf.1, hf.2, hp.2 (T.setVm vm₁) hT hW₁⟩) with ⟨v, vm₁, ⟨U', l2, c2, s2⟩, hW₁, X', ⟨g', mk, t, L, e1, e2, hq, h1, hL, h2, h3⟩, st⟩ | ⟨q, vm₁, ⟨U', l2, c2, s2⟩, hW₁, X', ⟨g', mk, t, L, E, ce, e1, e2, hq, hce, hcv, hcl, h1, hL, h2, h3⟩, st⟩
  · dsimp only [Pt.U, Pt.locs, Pt.cells, Pt.slots] at X' e1 e2 h1 h2 h3 st
    subst h1; subst h2; subst h3
    exact Or.inl ⟨v, (T.setVm vm₁).calling g' mk As.toArray, t, U', L, hT, X', hL, e1, e2, hq, st⟩
  · dsimp only [Pt.U, Pt.locs, Pt.cells, Pt.slots] at X' e1 e2 h1 h2 h3 st hcl
    subst h1; subst h2; subst h3
    exact Or.inr ⟨q, (T.setVm vm₁).calling g' mk As.toArray, t, U', L, E, ce, hT, X', hL, e1, e2, hq, hce, hcv, vx_cls hW₁ hcl, st⟩
end Runs
section Rows
variable {p : Program} {l : Launch} {e : Env} {R : Room} {s : State} {m : MethodId} {args : Array Value} {below : List Frame} {meth : Method} {c : Code} {H : Heap} {locs : List Loc} {cells slots : Nat} {Q : State → Prop}
variable {mc ms : Nat} {free : Addr → Prop} {A0 A1 : Nat → Prop} {H0 : Heap} {a : Array Value} {pc : Nat} {ls : Array Slot} {st0 rest : List Value}
theorem vx_keep {st₀ t T' : State} {L : List Loc} (h0 : st₀.heap = H) (e1 : T'.heap = t.heap) (hS : va_S A0 H0 H locs) (hA : ∀ q, q < H.size → A1 q → A0 q) (hf : ∀ q, free q → A0 q) (hL : ∀ q ∈ L, free q.base) (hF : va_F A1 st₀ t) :
    H.size ≤ T'.heap.size ∧ (∀ q : Nat, q < H.size → ¬ A1 q → T'.heap[q]? = H[q]?) ∧ va_S A0 H0 T'.heap (locs ++ L) := by
  obtain ⟨hz, hk⟩ := hF
  rw [h0] at hz hk
  exact ⟨by rw [e1]; exact hz, fun q h1 h2 => by rw [e1]; exact hk q h1 h2,
    ⟨Nat.le_trans hS.1 (by rw [e1]; exact hz), fun q h1 h2 => by rw [e1, hk q (Nat.lt_of_lt_of_le h1 hS.1) (fun z => h2 (hA q (Nat.lt_of_lt_of_le h1 hS.1) z))]; exact hS.2.1 q h1 h2, fun q hq => by
      rcases List.mem_append.mp hq with h | h
      · exact hS.2.2 q h
      · exact hf _ (hL q h)⟩⟩
theorem vx_calli {S SX : Type} {post : Int32 → S → Prop} {px : SX → Prop} {B : S → State → Prop} {BX : String → SX → State → Prop} {AX : Nat → Prop} (hr : vx_Run p l e R s m args below meth c H locs cells slots mc ms (F0 m pc ls st0) rest (va_Qi post B A1 a) (vx_X px BX AX) free) (hS : va_S A0 H0 H locs) (hA : ∀ q, q < H.size → A1 q → A0 q) (hf : ∀ q, free q → A0 q) (hAX : ∀ q, q < H.size → AX q → A0 q)
    (kx : ∀ (E : String) (ce : Cell) (q9 : Addr) (u : SX) (t : State) (H1 : Heap) (locs1 : List Loc), t.heap = H1 → s.vm.Alike t.vm → px u → BX E u t → H.size ≤ H1.size → (∀ q : Nat, q < H.size → ¬ AX q → H1[q]? = H[q]?) → va_S A0 H0 H1 locs1 → H1[q9]? = some ce → ce.vm = .none → s.vm.findClass E = some ce.cls → vx_W p l e R s m args below meth c H1 locs1 (cells + mc) (slots + ms) Q (F0 m pc ls rest) q9)
    (kk : ∀ (r : Int32) (u : S) (t : State) (H1 : Heap) (locs1 : List Loc), t.heap = H1 → s.vm.Alike t.vm → post r u → B u t → H.size ≤ H1.size → (∀ q : Nat, q < H.size → ¬ A1 q → H1[q]? = H[q]?) → va_S A0 H0 H1 locs1 → W p l e R s m args below meth c H1 locs1 (cells + mc) (slots + ms) Q (F0 m (pc + 3) ls (.int r :: rest))) : W p l e R s m args below meth c H locs cells slots Q (F0 m pc ls st0) := by
  intro T hT X
  rcases hr T hT X with ⟨v, st₀, t, T', L, h0, X', hL, e1, e2, ⟨⟨r, u, hv, hp, hb⟩, hF⟩, st⟩ | ⟨q, st₀, t, T', L, E, ce, h0, X', hL, e1, e2, ⟨u, hp, hb, hF⟩, hce, hcv, hcl, st⟩
  · cases hv
    obtain ⟨k1, k2, k3⟩ := vx_keep h0 e1 hS hA hf hL hF
    obtain ⟨t2, a1, b1⟩ := kk r u t T'.heap (locs ++ L) e1.symm (by rw [← e2]; exact X'.warmed.alike) hp hb k1 k2 k3 T' rfl X'
    exact ⟨t2, st t2 a1, b1⟩
  · obtain ⟨k1, k2, k3⟩ := vx_keep h0 e1 hS hAX hf hL hF
    obtain ⟨t2, a1, b1⟩ := kx E ce q u t T'.heap (locs ++ L) e1.symm (by rw [← e2]; exact X'.warmed.alike) hp hb k1 k2 k3 (by rw [e1]; exact hce) hcv hcl T' rfl X'
    exact ⟨t2, st.trans a1, b1⟩
theorem vx_calll {S SX : Type} {post : Int64 → S → Prop} {px : SX → Prop} {B : S → State → Prop} {BX : String → SX → State → Prop} {AX : Nat → Prop} (hr : vx_Run p l e R s m args below meth c H locs cells slots mc ms (F0 m pc ls st0) rest (va_Ql post B A1 a) (vx_X px BX AX) free) (hS : va_S A0 H0 H locs) (hA : ∀ q, q < H.size → A1 q → A0 q) (hf : ∀ q, free q → A0 q) (hAX : ∀ q, q < H.size → AX q → A0 q)
    (kx : ∀ (E : String) (ce : Cell) (q9 : Addr) (u : SX) (t : State) (H1 : Heap) (locs1 : List Loc), t.heap = H1 → s.vm.Alike t.vm → px u → BX E u t → H.size ≤ H1.size → (∀ q : Nat, q < H.size → ¬ AX q → H1[q]? = H[q]?) → va_S A0 H0 H1 locs1 → H1[q9]? = some ce → ce.vm = .none → s.vm.findClass E = some ce.cls → vx_W p l e R s m args below meth c H1 locs1 (cells + mc) (slots + ms) Q (F0 m pc ls rest) q9)
    (kk : ∀ (r : Int64) (u : S) (t : State) (H1 : Heap) (locs1 : List Loc), t.heap = H1 → s.vm.Alike t.vm → post r u → B u t → H.size ≤ H1.size → (∀ q : Nat, q < H.size → ¬ A1 q → H1[q]? = H[q]?) → va_S A0 H0 H1 locs1 → W p l e R s m args below meth c H1 locs1 (cells + mc) (slots + ms) Q (F0 m (pc + 3) ls (.long r :: rest))) : W p l e R s m args below meth c H locs cells slots Q (F0 m pc ls st0) := by
  intro T hT X
  rcases hr T hT X with ⟨v, st₀, t, T', L, h0, X', hL, e1, e2, ⟨⟨r, u, hv, hp, hb⟩, hF⟩, st⟩ | ⟨q, st₀, t, T', L, E, ce, h0, X', hL, e1, e2, ⟨u, hp, hb, hF⟩, hce, hcv, hcl, st⟩
  · cases hv
    obtain ⟨k1, k2, k3⟩ := vx_keep h0 e1 hS hA hf hL hF
    obtain ⟨t2, a1, b1⟩ := kk r u t T'.heap (locs ++ L) e1.symm (by rw [← e2]; exact X'.warmed.alike) hp hb k1 k2 k3 T' rfl X'
    exact ⟨t2, st t2 a1, b1⟩
  · obtain ⟨k1, k2, k3⟩ := vx_keep h0 e1 hS hAX hf hL hF
    obtain ⟨t2, a1, b1⟩ := kx E ce q u t T'.heap (locs ++ L) e1.symm (by rw [← e2]; exact X'.warmed.alike) hp hb k1 k2 k3 (by rw [e1]; exact hce) hcv hcl T' rfl X'
    exact ⟨t2, st.trans a1, b1⟩
theorem vx_callf {S SX : Type} {post : UInt32 → S → Prop} {px : SX → Prop} {B : S → State → Prop} {BX : String → SX → State → Prop} {AX : Nat → Prop} (hr : vx_Run p l e R s m args below meth c H locs cells slots mc ms (F0 m pc ls st0) rest (va_Qf post B A1 a) (vx_X px BX AX) free) (hS : va_S A0 H0 H locs) (hA : ∀ q, q < H.size → A1 q → A0 q) (hf : ∀ q, free q → A0 q) (hAX : ∀ q, q < H.size → AX q → A0 q)
    (kx : ∀ (E : String) (ce : Cell) (q9 : Addr) (u : SX) (t : State) (H1 : Heap) (locs1 : List Loc), t.heap = H1 → s.vm.Alike t.vm → px u → BX E u t → H.size ≤ H1.size → (∀ q : Nat, q < H.size → ¬ AX q → H1[q]? = H[q]?) → va_S A0 H0 H1 locs1 → H1[q9]? = some ce → ce.vm = .none → s.vm.findClass E = some ce.cls → vx_W p l e R s m args below meth c H1 locs1 (cells + mc) (slots + ms) Q (F0 m pc ls rest) q9)
    (kk : ∀ (r : UInt32) (u : S) (t : State) (H1 : Heap) (locs1 : List Loc), t.heap = H1 → s.vm.Alike t.vm → post r u → B u t → H.size ≤ H1.size → (∀ q : Nat, q < H.size → ¬ A1 q → H1[q]? = H[q]?) → va_S A0 H0 H1 locs1 → W p l e R s m args below meth c H1 locs1 (cells + mc) (slots + ms) Q (F0 m (pc + 3) ls (.float r :: rest))) : W p l e R s m args below meth c H locs cells slots Q (F0 m pc ls st0) := by
  intro T hT X
  rcases hr T hT X with ⟨v, st₀, t, T', L, h0, X', hL, e1, e2, ⟨⟨r, u, hv, hp, hb⟩, hF⟩, st⟩ | ⟨q, st₀, t, T', L, E, ce, h0, X', hL, e1, e2, ⟨u, hp, hb, hF⟩, hce, hcv, hcl, st⟩
  · cases hv
    obtain ⟨k1, k2, k3⟩ := vx_keep h0 e1 hS hA hf hL hF
    obtain ⟨t2, a1, b1⟩ := kk r u t T'.heap (locs ++ L) e1.symm (by rw [← e2]; exact X'.warmed.alike) hp hb k1 k2 k3 T' rfl X'
    exact ⟨t2, st t2 a1, b1⟩
  · obtain ⟨k1, k2, k3⟩ := vx_keep h0 e1 hS hAX hf hL hF
    obtain ⟨t2, a1, b1⟩ := kx E ce q u t T'.heap (locs ++ L) e1.symm (by rw [← e2]; exact X'.warmed.alike) hp hb k1 k2 k3 (by rw [e1]; exact hce) hcv hcl T' rfl X'
    exact ⟨t2, st.trans a1, b1⟩
theorem vx_calld {S SX : Type} {post : UInt64 → S → Prop} {px : SX → Prop} {B : S → State → Prop} {BX : String → SX → State → Prop} {AX : Nat → Prop} (hr : vx_Run p l e R s m args below meth c H locs cells slots mc ms (F0 m pc ls st0) rest (va_Qd post B A1 a) (vx_X px BX AX) free) (hS : va_S A0 H0 H locs) (hA : ∀ q, q < H.size → A1 q → A0 q) (hf : ∀ q, free q → A0 q) (hAX : ∀ q, q < H.size → AX q → A0 q)
    (kx : ∀ (E : String) (ce : Cell) (q9 : Addr) (u : SX) (t : State) (H1 : Heap) (locs1 : List Loc), t.heap = H1 → s.vm.Alike t.vm → px u → BX E u t → H.size ≤ H1.size → (∀ q : Nat, q < H.size → ¬ AX q → H1[q]? = H[q]?) → va_S A0 H0 H1 locs1 → H1[q9]? = some ce → ce.vm = .none → s.vm.findClass E = some ce.cls → vx_W p l e R s m args below meth c H1 locs1 (cells + mc) (slots + ms) Q (F0 m pc ls rest) q9)
    (kk : ∀ (r : UInt64) (u : S) (t : State) (H1 : Heap) (locs1 : List Loc), t.heap = H1 → s.vm.Alike t.vm → post r u → B u t → H.size ≤ H1.size → (∀ q : Nat, q < H.size → ¬ A1 q → H1[q]? = H[q]?) → va_S A0 H0 H1 locs1 → W p l e R s m args below meth c H1 locs1 (cells + mc) (slots + ms) Q (F0 m (pc + 3) ls (.double r :: rest))) : W p l e R s m args below meth c H locs cells slots Q (F0 m pc ls st0) := by
  intro T hT X
  rcases hr T hT X with ⟨v, st₀, t, T', L, h0, X', hL, e1, e2, ⟨⟨r, u, hv, hp, hb⟩, hF⟩, st⟩ | ⟨q, st₀, t, T', L, E, ce, h0, X', hL, e1, e2, ⟨u, hp, hb, hF⟩, hce, hcv, hcl, st⟩
  · cases hv
    obtain ⟨k1, k2, k3⟩ := vx_keep h0 e1 hS hA hf hL hF
    obtain ⟨t2, a1, b1⟩ := kk r u t T'.heap (locs ++ L) e1.symm (by rw [← e2]; exact X'.warmed.alike) hp hb k1 k2 k3 T' rfl X'
    exact ⟨t2, st t2 a1, b1⟩
  · obtain ⟨k1, k2, k3⟩ := vx_keep h0 e1 hS hAX hf hL hF
    obtain ⟨t2, a1, b1⟩ := kx E ce q u t T'.heap (locs ++ L) e1.symm (by rw [← e2]; exact X'.warmed.alike) hp hb k1 k2 k3 (by rw [e1]; exact hce) hcv hcl T' rfl X'
    exact ⟨t2, st.trans a1, b1⟩
theorem vx_callv {S SX : Type} {post : S → Prop} {px : SX → Prop} {B : S → State → Prop} {BX : String → SX → State → Prop} {AX : Nat → Prop} (hr : vx_Run p l e R s m args below meth c H locs cells slots mc ms (F0 m pc ls st0) rest (va_Qv post B A1 a) (vx_X px BX AX) free) (hS : va_S A0 H0 H locs) (hA : ∀ q, q < H.size → A1 q → A0 q) (hf : ∀ q, free q → A0 q) (hAX : ∀ q, q < H.size → AX q → A0 q)
    (kx : ∀ (E : String) (ce : Cell) (q9 : Addr) (u : SX) (t : State) (H1 : Heap) (locs1 : List Loc), t.heap = H1 → s.vm.Alike t.vm → px u → BX E u t → H.size ≤ H1.size → (∀ q : Nat, q < H.size → ¬ AX q → H1[q]? = H[q]?) → va_S A0 H0 H1 locs1 → H1[q9]? = some ce → ce.vm = .none → s.vm.findClass E = some ce.cls → vx_W p l e R s m args below meth c H1 locs1 (cells + mc) (slots + ms) Q (F0 m pc ls rest) q9)
    (kk : ∀ (u : S) (t : State) (H1 : Heap) (locs1 : List Loc), t.heap = H1 → s.vm.Alike t.vm → post u → B u t → H.size ≤ H1.size → (∀ q : Nat, q < H.size → ¬ A1 q → H1[q]? = H[q]?) → va_S A0 H0 H1 locs1 → W p l e R s m args below meth c H1 locs1 (cells + mc) (slots + ms) Q (F0 m (pc + 3) ls (rest))) : W p l e R s m args below meth c H locs cells slots Q (F0 m pc ls st0) := by
  intro T hT X
  rcases hr T hT X with ⟨v, st₀, t, T', L, h0, X', hL, e1, e2, ⟨⟨u, hv, hp, hb⟩, hF⟩, st⟩ | ⟨q, st₀, t, T', L, E, ce, h0, X', hL, e1, e2, ⟨u, hp, hb, hF⟩, hce, hcv, hcl, st⟩
  · cases hv
    obtain ⟨k1, k2, k3⟩ := vx_keep h0 e1 hS hA hf hL hF
    obtain ⟨t2, a1, b1⟩ := kk u t T'.heap (locs ++ L) e1.symm (by rw [← e2]; exact X'.warmed.alike) hp hb k1 k2 k3 T' rfl X'
    exact ⟨t2, st t2 a1, b1⟩
  · obtain ⟨k1, k2, k3⟩ := vx_keep h0 e1 hS hAX hf hL hF
    obtain ⟨t2, a1, b1⟩ := kx E ce q u t T'.heap (locs ++ L) e1.symm (by rw [← e2]; exact X'.warmed.alike) hp hb k1 k2 k3 (by rw [e1]; exact hce) hcv hcl T' rfl X'
    exact ⟨t2, st.trans a1, b1⟩
end Rows
section Ends
variable {p : Program} {l : Launch} {e : Env} {R : Room} {s : State} {m : MethodId} {args : Array Value} {below : List Frame} {meth : Method} {c : Code} {H : Heap} {locs : List Loc} {cells slots : Nat} {Q : State → Prop}
variable {mc ms : Nat} {free : Addr → Prop} {A0 A1 : Nat → Prop} {H0 : Heap} {a : Array Value} {ls : Array Slot} {st0 rest : List Value}
variable {Qc : Array Value → State → Outcome → State → Prop} {XC : String → State → State → Prop}
/-- what a body that may throw owes at its end -/
def vx_MQ (below : List Frame) (Qc : Array Value → State → Outcome → State → Prop) (XC : String → State → State → Prop) (a : Array Value) (s : State) (mc ms : Nat) (free : Addr → Prop) : State → Prop := fun t =>
  ∃ o, t.status = .running ∧ Ended t below o ∧ vx_Q Qc XC mc ms free a s o t
theorem vx_ret {g : JFrame} {mc ms : Nat} (k : W p l e R s m args below meth c H locs cells slots (MQ below Qc args s mc ms free) g) : W p l e R s m args below meth c H locs cells slots (vx_MQ below Qc XC args s mc ms free) g := by
  intro T hT X
  obtain ⟨t, a1, o, b1, b2, b3, b4⟩ := k T hT X
  exact ⟨t, a1, o, b1, b2, Or.inl ⟨b3, b4⟩⟩
/-- not caught here: it goes on to the caller -/
theorem vx_widen {g : JFrame} {q : Addr} {k n : Nat} (h1 : cells ≤ k) (h2 : slots ≤ n) (kk : vx_W p l e R s m args below meth c H locs k n Q g q) : vx_W p l e R s m args below meth c H locs cells slots Q g q := fun T hT X => kk T hT (stand_widen X h1 h2)
theorem vx_out {pc : Nat} {E : String} {ce : Cell} {q : Addr} {mc ms : Nat} (hout : ∀ x ∈ c.exceptionTable.toList, covers x pc = false) (hlocks : meth.locks = false) (hcell : H[q]? = some ce) (hv : ce.vm = .none) (hcl : s.vm.findClass E = some ce.cls)
    (hx : ∀ t : State, t.heap = H → s.vm.Alike t.vm → XC E s t) (hf : ∀ z ∈ locs, free z.base) (hc : cells ≤ mc) (hs : slots ≤ ms) :
    vx_W p l e R s m args below meth c H locs cells slots (vx_MQ below Qc XC args s mc ms free) (F0 m pc ls rest) q := by
  intro T hT X
  obtain ⟨st1, hrun, hend, hW, hsm⟩ := X.leaveThrown q (g := F0 m pc ls rest) rfl rfl rfl hout hlocks
  have hcell9 : (T.setFrames (.throwing q :: below)).heap[q]? = some ce := by
    show T.heap[q]? = some ce
    rw [hT]; exact hcell
  exact ⟨_, st1, .threw q, hrun, hend, Or.inr ⟨q, rfl, E, ce, locs, hx _ hT hW.alike, hcell9, hv, hcl, hW, hsm.mono hc hs, hf⟩⟩
theorem vx_frame {U : State} {k n : Nat} (h : s.sameButNew ({ U with vm := s.vm } : State) locs k n) : s.heap.size ≤ U.heap.size ∧ ∀ q : Nat, q < s.heap.size → (∀ z ∈ locs, z.base ≠ q) → U.heap[q]? = s.heap[q]? := by
  obtain ⟨-, h2, -, -, -, h6⟩ := h
  refine ⟨h2, fun q hq hz => ?_⟩
  obtain ⟨c9, e1, e2, e3, e4⟩ := h6 q _ (Array.getElem?_eq_getElem hq)
  have hs : c9.slots = (s.heap[q]).slots := Array.ext_getElem? fun i => e4 i fun hm => hz _ hm rfl
  have h9 : c9 = s.heap[q] := by
    rw [hs] at e2
    exact e2
  have e5 : U.heap[q]? = some c9 := e1
  rw [e5, h9, Array.getElem?_eq_getElem hq]
/-- the words of a throw but the four that speak of the heap -/
def vx_no (w : Cond) : Bool := decide (w ≠ .isRef (.static Bundle.tN "UNASSIGNED_STACK" Bundle.steD)) && decide (w ≠ .isRef (.static Bundle.tN "SUPPRESSED_SENTINEL" Bundle.listD)) && decide (w ≠ .laysStatic Bundle.tN "UNASSIGNED_STACK" Bundle.steD) && decide (w ≠ .laysStatic Bundle.tN "SUPPRESSED_SENTINEL" Bundle.listD)
def vx_at0 (own : String) (ic : Nat) (X : String) (names : List String) : List Cond := (Bundle.ownAtoms0 own ic X names).filter vx_no
def vx_atS (own : String) (ic : Nat) (X : String) (names : List String) : List Cond := (Bundle.ownAtoms own ic X names).filter vx_no
/-- a word that the tables alone decide, or a good one -/
def vx_ot (w : Cond) : Bool := w.onTables || goodWord w
theorem vx_ot_at {args a' : Array Value} {s U : State} {w : Cond} (hW : s.WarmedH U.vm) (hvm : s.vm = U.vm) (hg : vx_ot w = true) (h : w.before args s = true) : w.before a' U = true := by
  simp only [vx_ot, Bool.or_eq_true] at hg
  rcases hg with hg | hg
  · exact va_tabs hg hvm h
  · exact word_at hW (good_of_word hg) h
/-- a list's words: the good ones out of the method's own list, the others by premises of their own -/
theorem vx_hat {args : Array Value} {s : State} {L B : List Cond} (h1 : ∀ w ∈ L.filter goodWord, w.before args s = true) (h2 : ∀ w ∈ L.filter (fun w => !goodWord w), w ∈ B) (h3 : ∀ w ∈ B, w.before args s = true) : ∀ w ∈ L, w.before args s = true := by
  intro w hw
  by_cases g : goodWord w = true
  · exact h1 w (List.mem_filter.mpr ⟨hw, g⟩)
  · refine h3 w (h2 w (List.mem_filter.mpr ⟨hw, ?_⟩))
    show (!goodWord w) = true
    cases hgw : goodWord w
    · rfl
    · exact absurd hgw g
theorem vx_c {args : Array Value} {s : State} {w : Cond} {B : List Cond} (h : w.before args s = true) (t : ∀ w ∈ B, w.before args s = true) : ∀ w' ∈ w :: B, w'.before args s = true := fun w' h' => (List.mem_cons.mp h').elim (fun e => by rw [e]; exact h) (t w')
theorem vx_n {args : Array Value} {s : State} : ∀ w ∈ ([] : List Cond), w.before args s = true := fun _ h => nomatch h
theorem vx_own {args : Array Value} {s : State} {L : List Cond} (h1 : ∀ w ∈ L.filter vx_no, w.before args s = true)
    (hU : (Cond.isRef (.static Bundle.tN "UNASSIGNED_STACK" Bundle.steD)).before args s = true) (hN : (Cond.isRef (.static Bundle.tN "SUPPRESSED_SENTINEL" Bundle.listD)).before args s = true)
    (lU : (Cond.laysStatic Bundle.tN "UNASSIGNED_STACK" Bundle.steD).before args s = true) (lN : (Cond.laysStatic Bundle.tN "SUPPRESSED_SENTINEL" Bundle.listD).before args s = true) : ∀ w ∈ L, w.before args s = true := by
  intro w hw
  by_cases e1 : w = .isRef (.static Bundle.tN "UNASSIGNED_STACK" Bundle.steD)
  · rw [e1]; exact hU
  · by_cases e2 : w = .isRef (.static Bundle.tN "SUPPRESSED_SENTINEL" Bundle.listD)
    · rw [e2]; exact hN
    · by_cases e3 : w = .laysStatic Bundle.tN "UNASSIGNED_STACK" Bundle.steD
      · rw [e3]; exact lU
      · by_cases e4 : w = .laysStatic Bundle.tN "SUPPRESSED_SENTINEL" Bundle.listD
        · rw [e4]; exact lN
        · exact h1 w (List.mem_filter.mpr ⟨hw, by unfold vx_no; rw [decide_eq_true e1, decide_eq_true e2, decide_eq_true e3, decide_eq_true e4]; rfl⟩)
/-- where a static field lies, its class's statics cell in H -/
def vx_L (C n d : String) (A : Nat → Prop) (U : State) (H : Heap) : Prop := ∃ (c : ClassId) (k : Class) (i : Nat) (f : Field) (a : Nat) (cell : Cell), U.vm.findClass C = some c ∧ U.fieldFound? C n d = some (c, k, i, f) ∧ f.isStatic = true ∧ k.statics = some a ∧ H[a]? = some cell ∧ cell.vm.isStatics = true ∧ cell.cls = c ∧ f.slot < cell.slots.size ∧ k.staticTypes[f.slot]? = some f.type ∧ ¬ A a
theorem vx_L.moved {C n d : String} {A : Nat → Prop} {u U : State} {H : Heap} (hvm : u.vm.Alike U.vm) (h : vx_L C n d A u H) : vx_L C n d A U H := by
  obtain ⟨c, k, i, f, a, cell, h1, h2, h3, h4, h5, h6, h7, h8, h9, h10⟩ := h
  obtain ⟨k', hi', he⟩ := State.fieldFound?_setVm hvm h2
  exact ⟨c, k', i, f, a, cell, by rw [hvm.findClass]; exact h1, hi', h3, by rw [he]; exact h4, h5, h6, h7, h8, by rw [he]; exact h9, h10⟩
theorem vx_L.kept {C n d : String} {A : Nat → Prop} {U : State} {H H1 : Heap} (h : vx_L C n d A U H) (hq : ∀ a : Nat, a < H.size → ¬ A a → H1[a]? = H[a]?) : vx_L C n d A U H1 := by
  obtain ⟨c, k, i, f, a, cell, h1, h2, h3, h4, h5, h6, h7, h8, h9, h10⟩ := h
  exact ⟨c, k, i, f, a, cell, h1, h2, h3, h4, by rw [hq a (Array.getElem?_eq_some_iff.mp h5).1 h10]; exact h5, h6, h7, h8, h9, h10⟩
theorem vx_L.narrow {C n d : String} {A B : Nat → Prop} {U : State} {H : Heap} (h : vx_L C n d A U H) (hAB : ∀ q, B q → A q) : vx_L C n d B U H := by
  obtain ⟨c, k, i, f, a, cell, h1, h2, h3, h4, h5, h6, h7, h8, h9, h10⟩ := h
  exact ⟨c, k, i, f, a, cell, h1, h2, h3, h4, h5, h6, h7, h8, h9, fun z => h10 (hAB _ z)⟩
theorem vx_L.word {C n d : String} {A : Nat → Prop} {s : State} {args : Array Value} (h : vx_L C n d A s s.heap) : (Cond.laysStatic C n d).before args s = true := by
  obtain ⟨c, k, i, f, a, cell, h1, h2, h3, h4, h5, h6, h7, h8, h9, -⟩ := h
  show (Cond.laysStatic C n d).holds args s none s [] = true
  exact Cond.laysStatic_of h1 h2 h3 h4 h5 h6 h7 h8 h9
/-- .. and what it holds: null or some reference -/
def vx_Zq (C n d : String) (A : Nat → Prop) (U : State) (H : Heap) : Prop := va_Zq C n d A U H ∧ vx_L C n d A U H
theorem vx_Zq.moved {C n d : String} {A : Nat → Prop} {u U : State} {H : Heap} (hvm : u.vm.Alike U.vm) (h : vx_Zq C n d A u H) : vx_Zq C n d A U H := ⟨va_Zq.moved hvm h.1, vx_L.moved hvm h.2⟩
theorem vx_Zq.kept {C n d : String} {A : Nat → Prop} {U : State} {H H1 : Heap} (h : vx_Zq C n d A U H) (hq : ∀ a : Nat, a < H.size → ¬ A a → H1[a]? = H[a]?) : vx_Zq C n d A U H1 := ⟨va_Zq.kept h.1 hq, vx_L.kept h.2 hq⟩
theorem vx_Zq.narrow {C n d : String} {A B : Nat → Prop} {U : State} {H : Heap} (h : vx_Zq C n d A U H) (hAB : ∀ q, B q → A q) : vx_Zq C n d B U H := ⟨va_Zq.narrow h.1 hAB, vx_L.narrow h.2 hAB⟩
theorem vx_Zqof {args : Array Value} {s : State} {C n d : String} {A : Nat → Prop} (hl : (Cond.laysStatic C n d).before args s = true) (hini : (Cond.initialized C).before args s = true) (h : (Cond.isRef (.static C n d)).before args s = true) (hA : ∀ a : Nat, a < s.heap.size → ¬ A a) : vx_Zq C n d A s s.heap := by
  refine ⟨va_Zqof hl hini h hA, ?_⟩
  obtain ⟨c, k, i, f, a, cell, h1, h2, h3, h4, h5, h6, h7, h8, h9⟩ := Cond.laysStatic_spec hl
  exact ⟨c, k, i, f, a, cell, h1, h2, h3, h4, h5, h6, h7, h8, h9, hA a (Array.getElem?_eq_some_iff.mp h5).1⟩
theorem vx_isRef {C n d : String} {v : Value} {A : Nat → Prop} {s : State} {args : Array Value} (h : va_Z C n d v A s s.heap) (hv : v.isRef = true) : (Cond.isRef (.static C n d)).before args s = true := by
  obtain ⟨cf, kf, fi, f, a, cell, h1, h2, h3, h4, h5, h6, h7, -⟩ := h
  have he : (Term.static C n d).eval args s none [] s = some v := by
    simp [Term.eval, State.fieldNamed?, h1, h2, h4, h5, h6, h7]
  simp only [Cond.before, Cond.holds, Cond.value, he]
  cases v <;> simp_all [Value.isRef]
theorem vx_isRefq {C n d : String} {A : Nat → Prop} {s : State} {args : Array Value} (h : va_Zq C n d A s s.heap) : (Cond.isRef (.static C n d)).before args s = true := by
  rcases h with h | ⟨t, h⟩
  · exact vx_isRef h rfl
  · exact vx_isRef h rfl
/-- the same frame, seen from here: as if the method were called anew in this heap -/
theorem vx_rebase {T : State} (X : Stand p l e R s m args below meth c T locs cells slots) {R' : Room} (hf : R'.frames ≤ R.frames) (hl : R'.locals ≤ R.locals) (hc : cells + R'.cells ≤ R.cells) (hs : slots + R'.slots ≤ R.slots) :
    Stand p l e R' ((T.setVm s.vm).setFrames (.invoking m args :: below)) m args below meth c T [] 0 0 := by
  have htop : (T.setVm s.vm).topJava?.isSome := X.here.top
  have hF : ((T.setVm s.vm).setFrames (.invoking m args :: below)).frames = .invoking m args :: below := State.frames_setFrames _ (State.cur_lt_of_top htop)
  obtain ⟨g₀, hg0⟩ := Option.isSome_iff_exists.mp htop
  obtain ⟨r, hr⟩ := State.topJava?_eq_some.mp hg0
  have hl9 : e.platform.stackLimits (T.setVm s.vm).me = e.platform.stackLimits s.me := X.limits
  have hb9 : (T.setVm s.vm).me.stackBytes = s.me.stackBytes := X.bytes
  refine ⟨X.admits, X.cas, X.clock, hF, ?_, X.hears, X.method, X.code, X.here, X.tail, X.warmed, ?_, ?_, ?_⟩
  · have h := X.room
    have hU : ((T.setVm s.vm).setFrames (.invoking m args :: below)).localsInUse = s.localsInUse := by
      rw [State.localsInUse_invoking hF (meth := meth) (c := c) X.method X.code, State.localsInUse_invoking X.frames X.method X.code]
    simp only [State.hasRoom, Bool.and_eq_true, decide_eq_true_eq] at h ⊢
    obtain ⟨⟨⟨⟨h1, h2, h3, h4, h5, h6⟩, h7⟩, h8⟩, h9⟩ := h
    rw [X.frames, List.length_cons] at h2 h3
    have q1 := X.heapSize
    have q2 := X.used
    simp only [hF, hU, List.length_cons, State.stackLimits_setFrames, State.stackBytes_setFrames, hl9, hb9]
    refine ⟨⟨⟨⟨by omega, by omega, by omega, by omega, by omega, h6⟩, ?_⟩, ?_⟩, X.book⟩
    · show T.heap.size + R'.cells ≤ e.platform.maxCells
      omega
    · show T.slotsUsed + R'.slots ≤ e.platform.maxSlots
      omega
  · rw [State.stackLimits_setFrames]; rfl
  · rw [State.stackBytes_setFrames]; rfl
  · refine ⟨?_, Nat.le_refl _, Nat.le_refl _, ?_, ?_, fun a c9 h9 => ⟨c9, h9, rfl, rfl, fun _ _ => rfl⟩⟩
    · obtain ⟨t, ht, -⟩ := State.frames_cons hr
      show T.setVm s.vm = { ((T.setVm s.vm).setFrames (.invoking m args :: below)).setFrames (T.setVm s.vm).frames with heap := T.heap, slotsUsed := T.slotsUsed }
      rw [State.setFrames_setFrames, State.setFrames_self ht]
      rfl
    · show T.slotsUsed = T.slotsUsed + ((T.heap.toList.drop T.heap.size).map (·.slots.size)).sum
      rw [List.drop_eq_nil_of_le (Nat.le_of_eq Array.length_toList)]
      rfl
    · show ((T.heap.toList.drop T.heap.size).map (·.slots.size)).sum ≤ 0
      rw [List.drop_eq_nil_of_le (Nat.le_of_eq Array.length_toList)]
      exact Nat.le_refl _
/-- 'throw new E()': new; dup; invokespecial; athrow -/
theorem vx_throw0 {cc : ByteArray} {pc : Nat} (hexec : p.tables.exec = Jvm.exec) (hb : c.code = cc) (hl : l.stackTraces = false) {own cls : String} {names : List String} {ik ic mc ms : Nat} {A : Nat → Prop}
    (hown : s.vm.findClass own = some m.cls) (hcls : Bundle.fit cls = true) (hnames : ∀ n ∈ names, Bundle.fit n = true)
    (hk : (Cond.classLink own ik cls).before args s = true) (hini : (Cond.initialized cls).before args s = true) (hat : ∀ w ∈ vx_at0 own ic cls names, w.before args s = true)
    (hgood : ∀ w ∈ Cond.classLink own ik cls :: Cond.initialized cls :: vx_at0 own ic cls names, vx_ot w = true)
    (hU : vx_Zq Bundle.tN "UNASSIGNED_STACK" Bundle.steD A s s.heap) (hN : vx_Zq Bundle.tN "SUPPRESSED_SENTINEL" Bundle.listD A s s.heap) (hS : va_S A s.heap H locs) (hsize : ls.size = c.maxLocals)
    (d0 : decode cc pc = .ok (.new ik, 3)) (d3 : decode cc (pc + 3) = .ok (.dup, 1)) (d4 : decode cc (pc + 4) = .ok (.invokespecial ic, 3)) (d7 : decode cc (pc + 7) = .ok (.athrow, 1))
    (hout : ∀ x ∈ c.exceptionTable.toList, covers x (pc + 7) = false)
    (hRframes : names.length + 3 < R.frames) (hRlocals : (rest.map fun v => v.category).sum + (13 * (names.length + 1) + 42) ≤ R.locals) (hRcells : cells + 1 ≤ R.cells) (hRslots : slots + 6 ≤ R.slots) (hlocks : meth.locks = false)
    (hx : ∀ t : State, s.vm.Alike t.vm → H.size ≤ t.heap.size → (∀ q : Nat, q < H.size → t.heap[q]? = H[q]?) → XC cls s t)
    (hf : ∀ z ∈ locs, free z.base) (hc : cells + 1 ≤ mc) (hs : slots + 6 ≤ ms) :
    W p l e R s m args below meth c H locs cells slots (vx_MQ below Qc XC args s mc ms free) (F0 m pc ls rest) := by
  intro T hT X
  have htr : e.platform.stackTraces = false := (show e.platform.stackTraces = l.stackTraces by rw [X.admits.platform]).trans hl
  have Y := vx_rebase X (R' := { frames := R.frames, locals := R.locals, cells := 1, slots := 6 }) (Nat.le_refl _) (Nat.le_refl _) hRcells hRslots
  obtain ⟨s', hA⟩ : ∃ z, z = (T.setVm s.vm).setFrames (.invoking m args :: below) := ⟨_, rfl⟩
  rw [← hA] at Y
  have hvm : s'.vm = s.vm := by rw [hA]; rfl
  have hhp : s'.heap = H := by rw [hA]; exact hT
  have hW0 : s.WarmedH s'.vm := by rw [hvm]; exact State.WarmedH.refl s
  have hat' : ∀ w ∈ vx_at0 own ic cls names, w.before args s' = true := fun w hw => vx_ot_at hW0 hvm.symm (hgood w (List.mem_cons_of_mem _ (List.mem_cons_of_mem _ hw))) (hat w hw)
  have hk' : (Cond.classLink own ik cls).before args s' = true := vx_ot_at hW0 hvm.symm (hgood _ List.mem_cons_self) hk
  have hini' : (Cond.initialized cls).before args s' = true := vx_ot_at hW0 hvm.symm (hgood _ (List.mem_cons_of_mem _ List.mem_cons_self)) hini
  have hU' : vx_Zq Bundle.tN "UNASSIGNED_STACK" Bundle.steD A s' s'.heap := by rw [hhp]; exact vx_Zq.moved hW0.alike (hU.kept hS.2.1)
  have hN' : vx_Zq Bundle.tN "SUPPRESSED_SENTINEL" Bundle.listD A s' s'.heap := by rw [hhp]; exact vx_Zq.moved hW0.alike (hN.kept hS.2.1)
  have h : ∀ w ∈ Bundle.ownAtoms0 own ic cls names, w.before args s' = true := vx_own hat' (vx_isRefq hU'.1) (vx_isRefq hN'.1) hU'.2.word hN'.2.word
  have hown' : s'.vm.findClass own = some m.cls := by rw [hvm]; exact hown
  have hins : (Cond.instantiable cls 6).before args s' = true := h _ (by simp [Bundle.ownAtoms0])
  obtain ⟨vm₁, cX, kX, hfX, hkX, -, -, X₁, st1⟩ := Y.newCold hexec (own := own) (C := cls) (index := ik) (n := 6) hown' hk' hins hini'
    (g := F0 m pc ls rest) rfl (by rw [hb]; exact d0) (Nat.le_refl _) (Nat.le_refl _)
  generalize hT1 : (T.setVm vm₁).pushCell { cls := cX, slots := kX.instanceTypes.map defaultValue, vm := .none } = T1 at X₁ st1
  have hcat : (Value.ref T.heap.size).category = 1 := rfl
  have hcellA : T1.heap[T.heap.size]? = some (freshCell cX kX) := by rw [← hT1]; exact State.heap_pushCell_size _ _
  have d3' : decode c.code (pc + 3) = .ok (.dup, 1) := by rw [hb]; exact d3
  obtain ⟨U, hsteps, hrun, hend, hW, hsame, ce, hce, hO⟩ := X₁.ctorThrow0 hexec htr (own := own) (cls := cls) (names := names) (ic := ic) hown' hcls hnames h (fun x hx => nomatch hx) hfX hkX hcellA (by rw [hhp, hT]; exact Nat.le_refl _)
    (g := { method := m, pc := pc + 4, locals := ls, stack := .ref T.heap.size :: .ref T.heap.size :: rest, locked := none }) rfl hsize rfl rfl (rest := rest) rfl
    (by rw [hb]; exact d4) (by rw [hb]; exact d7) hout hRframes (by simp only [List.map_cons, List.sum_cons, hcat]; omega) hlocks
  obtain ⟨f1, f2⟩ := vx_frame hsame
  rw [hhp] at f1 f2
  have hWs : s.WarmedH U.vm := State.WarmedH.trans hW0 hW
  have hcl : s.vm.findClass cls = some ce.cls := by
    have h9 := hO.cls
    rw [hvm] at h9
    exact h9
  have hall : s.sameButNew ({ U with vm := s.vm } : State) locs mc ms := by
    subst hA
    obtain ⟨e1, e2⟩ := hsame
    rw [State.setFrames_setFrames] at e1
    have h2 : (T.setVm s.vm).sameButNew ({ U with vm := s.vm } : State) [] (0 + 1) (0 + 6) := ⟨e1, e2⟩
    have h3 := X.same.trans h2
    rw [List.append_nil] at h3
    exact h3.mono hc hs
  refine ⟨U, ?_, .threw T.heap.size, hrun, hend, Or.inr ⟨T.heap.size, rfl, cls, ce, locs, hx U hWs.alike f1 (fun q hq => f2 q hq (fun z hz => nomatch hz)), hce, hO.vm, hcl, hWs, hall, hf⟩⟩
  refine st1 _ ?_
  show Steps p.tables e below (T1.setTop { method := m, pc := pc + 3, locals := ls, stack := .ref T.heap.size :: rest, locked := none }) _
  jvm_step X₁.here [X₁.here.top, hexec, d3', Value.category]
  exact hsteps
/-- 'throw new E("text")': new; dup; ldc; invokespecial; athrow -/
theorem vx_throwS {cc : ByteArray} {pc : Nat} (hexec : p.tables.exec = Jvm.exec) (hb : c.code = cc) (hl : l.stackTraces = false) {own cls text : String} {names : List String} {ik is ic mc ms sa : Nat} {A : Nat → Prop}
    (hown : s.vm.findClass own = some m.cls) (hcls : Bundle.fit cls = true) (hnames : ∀ n ∈ names, Bundle.fit n = true)
    (hk : (Cond.classLink own ik cls).before args s = true) (hini : (Cond.initialized cls).before args s = true) (hstr : vk_R own is text sa s) (hat : ∀ w ∈ vx_atS own ic cls names, w.before args s = true)
    (hgood : ∀ w ∈ Cond.classLink own ik cls :: Cond.initialized cls :: vx_atS own ic cls names, vx_ot w = true)
    (hU : vx_Zq Bundle.tN "UNASSIGNED_STACK" Bundle.steD A s s.heap) (hN : vx_Zq Bundle.tN "SUPPRESSED_SENTINEL" Bundle.listD A s s.heap) (hS : va_S A s.heap H locs) (hsize : ls.size = c.maxLocals)
    (d0 : decode cc pc = .ok (.new ik, 3)) (d3 : decode cc (pc + 3) = .ok (.dup, 1)) (d4 : decode cc (pc + 4) = .ok (.ldc is, 2)) (d6 : decode cc (pc + 6) = .ok (.invokespecial ic, 3)) (d9 : decode cc (pc + 9) = .ok (.athrow, 1))
    (hout : ∀ x ∈ c.exceptionTable.toList, covers x (pc + 9) = false)
    (hRframes : names.length + 3 < R.frames) (hRlocals : (rest.map fun v => v.category).sum + (13 * (names.length + 1) + 43) ≤ R.locals) (hRcells : cells + 1 ≤ R.cells) (hRslots : slots + 6 ≤ R.slots) (hlocks : meth.locks = false)
    (hx : ∀ t : State, s.vm.Alike t.vm → H.size ≤ t.heap.size → (∀ q : Nat, q < H.size → t.heap[q]? = H[q]?) → XC cls s t)
    (hf : ∀ z ∈ locs, free z.base) (hc : cells + 1 ≤ mc) (hs : slots + 6 ≤ ms) :
    W p l e R s m args below meth c H locs cells slots (vx_MQ below Qc XC args s mc ms free) (F0 m pc ls rest) := by
  intro T hT X
  have htr : e.platform.stackTraces = false := (show e.platform.stackTraces = l.stackTraces by rw [X.admits.platform]).trans hl
  have Y := vx_rebase X (R' := { frames := R.frames, locals := R.locals, cells := 1, slots := 6 }) (Nat.le_refl _) (Nat.le_refl _) hRcells hRslots
  obtain ⟨s', hA⟩ : ∃ z, z = (T.setVm s.vm).setFrames (.invoking m args :: below) := ⟨_, rfl⟩
  rw [← hA] at Y
  have hvm : s'.vm = s.vm := by rw [hA]; rfl
  have hhp : s'.heap = H := by rw [hA]; exact hT
  have hW0 : s.WarmedH s'.vm := by rw [hvm]; exact State.WarmedH.refl s
  have hat' : ∀ w ∈ vx_atS own ic cls names, w.before args s' = true := fun w hw => vx_ot_at hW0 hvm.symm (hgood w (List.mem_cons_of_mem _ (List.mem_cons_of_mem _ hw))) (hat w hw)
  have hk' : (Cond.classLink own ik cls).before args s' = true := vx_ot_at hW0 hvm.symm (hgood _ List.mem_cons_self) hk
  have hini' : (Cond.initialized cls).before args s' = true := vx_ot_at hW0 hvm.symm (hgood _ (List.mem_cons_of_mem _ List.mem_cons_self)) hini
  have hU' : vx_Zq Bundle.tN "UNASSIGNED_STACK" Bundle.steD A s' s'.heap := by rw [hhp]; exact vx_Zq.moved hW0.alike (hU.kept hS.2.1)
  have hN' : vx_Zq Bundle.tN "SUPPRESSED_SENTINEL" Bundle.listD A s' s'.heap := by rw [hhp]; exact vx_Zq.moved hW0.alike (hN.kept hS.2.1)
  have h : ∀ w ∈ Bundle.ownAtoms own ic cls names, w.before args s' = true := vx_own hat' (vx_isRefq hU'.1) (vx_isRefq hN'.1) hU'.2.word hN'.2.word
  have hown' : s'.vm.findClass own = some m.cls := by rw [hvm]; exact hown
  have hins : (Cond.instantiable cls 6).before args s' = true := h _ (by simp [Bundle.ownAtoms])
  obtain ⟨vm₁, cX, kX, hfX, hkX, -, -, X₁, st1⟩ := Y.newCold hexec (own := own) (C := cls) (index := ik) (n := 6) hown' hk' hins hini'
    (g := F0 m pc ls rest) rfl (by rw [hb]; exact d0) (Nat.le_refl _) (Nat.le_refl _)
  generalize hT1 : (T.setVm vm₁).pushCell { cls := cX, slots := kX.instanceTypes.map defaultValue, vm := .none } = T1 at X₁ st1
  have hcat : (Value.ref T.heap.size).category = 1 := rfl
  have hcellA : T1.heap[T.heap.size]? = some (freshCell cX kX) := by rw [← hT1]; exact State.heap_pushCell_size _ _
  have d3' : decode c.code (pc + 3) = .ok (.dup, 1) := by rw [hb]; exact d3
  have d4' : decode c.code (pc + 4) = .ok (.ldc is, 2) := by rw [hb]; exact d4
  have hstr' : vk_R own is text sa s' := vk_R.warm hW0 hstr
  obtain ⟨U, hsteps, hrun, hend, hW, hsame, ce, hce, hO⟩ := X₁.ctorThrowS hexec htr (own := own) (cls := cls) (names := names) (ic := ic) hown' hcls hnames h (fun x hx => nomatch hx) hfX hkX hcellA (by rw [hhp, hT]; exact Nat.le_refl _) (msg := .ref sa) rfl
    (g := { method := m, pc := pc + 6, locals := ls, stack := .ref sa :: .ref T.heap.size :: .ref T.heap.size :: rest, locked := none }) rfl hsize rfl rfl (rest := rest) rfl
    (by rw [hb]; exact d6) (by rw [hb]; exact d9) hout hRframes (by simp only [List.map_cons, List.sum_cons, hcat]; omega) hlocks
  obtain ⟨f1, f2⟩ := vx_frame hsame
  rw [hhp] at f1 f2
  have hWs : s.WarmedH U.vm := State.WarmedH.trans hW0 hW
  have hcl : s.vm.findClass cls = some ce.cls := by
    have h9 := hO.cls
    rw [hvm] at h9
    exact h9
  have hall : s.sameButNew ({ U with vm := s.vm } : State) locs mc ms := by
    subst hA
    obtain ⟨e1, e2⟩ := hsame
    rw [State.setFrames_setFrames] at e1
    have h2 : (T.setVm s.vm).sameButNew ({ U with vm := s.vm } : State) [] (0 + 1) (0 + 6) := ⟨e1, e2⟩
    have h3 := X.same.trans h2
    rw [List.append_nil] at h3
    exact h3.mono hc hs
  refine ⟨U, ?_, .threw T.heap.size, hrun, hend, Or.inr ⟨T.heap.size, rfl, cls, ce, locs, hx U hWs.alike f1 (fun q hq => f2 q hq (fun z hz => nomatch hz)), hce, hO.vm, hcl, hWs, hall, hf⟩⟩
  refine st1 _ ?_
  show Steps p.tables e below (T1.setTop { method := m, pc := pc + 3, locals := ls, stack := .ref T.heap.size :: rest, locked := none }) _
  jvm_step X₁.here [X₁.here.top, hexec, d3', Value.category]
  exact X₁.ldcString hexec (own := own) (text := text) (index := is) (a := sa) hown' hstr'.1 hstr'.2
    (g := { method := m, pc := pc + 4, locals := ls, stack := .ref T.heap.size :: .ref T.heap.size :: rest, locked := none }) rfl d4' _ hsteps
/-- 'throw new E("text")', the text by a wide index -/
theorem vx_throwSW {cc : ByteArray} {pc : Nat} (hexec : p.tables.exec = Jvm.exec) (hb : c.code = cc) (hl : l.stackTraces = false) {own cls text : String} {names : List String} {ik is ic mc ms sa : Nat} {A : Nat → Prop}
    (hown : s.vm.findClass own = some m.cls) (hcls : Bundle.fit cls = true) (hnames : ∀ n ∈ names, Bundle.fit n = true)
    (hk : (Cond.classLink own ik cls).before args s = true) (hini : (Cond.initialized cls).before args s = true) (hstr : vk_R own is text sa s) (hat : ∀ w ∈ vx_atS own ic cls names, w.before args s = true)
    (hgood : ∀ w ∈ Cond.classLink own ik cls :: Cond.initialized cls :: vx_atS own ic cls names, vx_ot w = true)
    (hU : vx_Zq Bundle.tN "UNASSIGNED_STACK" Bundle.steD A s s.heap) (hN : vx_Zq Bundle.tN "SUPPRESSED_SENTINEL" Bundle.listD A s s.heap) (hS : va_S A s.heap H locs) (hsize : ls.size = c.maxLocals)
    (d0 : decode cc pc = .ok (.new ik, 3)) (d3 : decode cc (pc + 3) = .ok (.dup, 1)) (d4 : decode cc (pc + 4) = .ok (.ldc_w is, 3)) (d7 : decode cc (pc + 7) = .ok (.invokespecial ic, 3)) (d10 : decode cc (pc + 10) = .ok (.athrow, 1))
    (hout : ∀ x ∈ c.exceptionTable.toList, covers x (pc + 10) = false)
    (hRframes : names.length + 3 < R.frames) (hRlocals : (rest.map fun v => v.category).sum + (13 * (names.length + 1) + 43) ≤ R.locals) (hRcells : cells + 1 ≤ R.cells) (hRslots : slots + 6 ≤ R.slots) (hlocks : meth.locks = false)
    (hx : ∀ t : State, s.vm.Alike t.vm → H.size ≤ t.heap.size → (∀ q : Nat, q < H.size → t.heap[q]? = H[q]?) → XC cls s t)
    (hf : ∀ z ∈ locs, free z.base) (hc : cells + 1 ≤ mc) (hs : slots + 6 ≤ ms) :
    W p l e R s m args below meth c H locs cells slots (vx_MQ below Qc XC args s mc ms free) (F0 m pc ls rest) := by
  intro T hT X
  have htr : e.platform.stackTraces = false := (show e.platform.stackTraces = l.stackTraces by rw [X.admits.platform]).trans hl
  have Y := vx_rebase X (R' := { frames := R.frames, locals := R.locals, cells := 1, slots := 6 }) (Nat.le_refl _) (Nat.le_refl _) hRcells hRslots
  obtain ⟨s', hA⟩ : ∃ z, z = (T.setVm s.vm).setFrames (.invoking m args :: below) := ⟨_, rfl⟩
  rw [← hA] at Y
  have hvm : s'.vm = s.vm := by rw [hA]; rfl
  have hhp : s'.heap = H := by rw [hA]; exact hT
  have hW0 : s.WarmedH s'.vm := by rw [hvm]; exact State.WarmedH.refl s
  have hat' : ∀ w ∈ vx_atS own ic cls names, w.before args s' = true := fun w hw => vx_ot_at hW0 hvm.symm (hgood w (List.mem_cons_of_mem _ (List.mem_cons_of_mem _ hw))) (hat w hw)
  have hk' : (Cond.classLink own ik cls).before args s' = true := vx_ot_at hW0 hvm.symm (hgood _ List.mem_cons_self) hk
  have hini' : (Cond.initialized cls).before args s' = true := vx_ot_at hW0 hvm.symm (hgood _ (List.mem_cons_of_mem _ List.mem_cons_self)) hini
  have hU' : vx_Zq Bundle.tN "UNASSIGNED_STACK" Bundle.steD A s' s'.heap := by rw [hhp]; exact vx_Zq.moved hW0.alike (hU.kept hS.2.1)
  have hN' : vx_Zq Bundle.tN "SUPPRESSED_SENTINEL" Bundle.listD A s' s'.heap := by rw [hhp]; exact vx_Zq.moved hW0.alike (hN.kept hS.2.1)
  have h : ∀ w ∈ Bundle.ownAtoms own ic cls names, w.before args s' = true := vx_own hat' (vx_isRefq hU'.1) (vx_isRefq hN'.1) hU'.2.word hN'.2.word
  have hown' : s'.vm.findClass own = some m.cls := by rw [hvm]; exact hown
  have hins : (Cond.instantiable cls 6).before args s' = true := h _ (by simp [Bundle.ownAtoms])
  obtain ⟨vm₁, cX, kX, hfX, hkX, -, -, X₁, st1⟩ := Y.newCold hexec (own := own) (C := cls) (index := ik) (n := 6) hown' hk' hins hini'
    (g := F0 m pc ls rest) rfl (by rw [hb]; exact d0) (Nat.le_refl _) (Nat.le_refl _)
  generalize hT1 : (T.setVm vm₁).pushCell { cls := cX, slots := kX.instanceTypes.map defaultValue, vm := .none } = T1 at X₁ st1
  have hcat : (Value.ref T.heap.size).category = 1 := rfl
  have hcellA : T1.heap[T.heap.size]? = some (freshCell cX kX) := by rw [← hT1]; exact State.heap_pushCell_size _ _
  have d3' : decode c.code (pc + 3) = .ok (.dup, 1) := by rw [hb]; exact d3
  have d4' : decode c.code (pc + 4) = .ok (.ldc_w is, 3) := by rw [hb]; exact d4
  have hstr' : vk_R own is text sa s' := vk_R.warm hW0 hstr
  obtain ⟨U, hsteps, hrun, hend, hW, hsame, ce, hce, hO⟩ := X₁.ctorThrowS hexec htr (own := own) (cls := cls) (names := names) (ic := ic) hown' hcls hnames h (fun x hx => nomatch hx) hfX hkX hcellA (by rw [hhp, hT]; exact Nat.le_refl _) (msg := .ref sa) rfl
    (g := { method := m, pc := pc + 7, locals := ls, stack := .ref sa :: .ref T.heap.size :: .ref T.heap.size :: rest, locked := none }) rfl hsize rfl rfl (rest := rest) rfl
    (by rw [hb]; exact d7) (by rw [hb]; exact d10) hout hRframes (by simp only [List.map_cons, List.sum_cons, hcat]; omega) hlocks
  obtain ⟨f1, f2⟩ := vx_frame hsame
  rw [hhp] at f1 f2
  have hWs : s.WarmedH U.vm := State.WarmedH.trans hW0 hW
  have hcl : s.vm.findClass cls = some ce.cls := by
    have h9 := hO.cls
    rw [hvm] at h9
    exact h9
  have hall : s.sameButNew ({ U with vm := s.vm } : State) locs mc ms := by
    subst hA
    obtain ⟨e1, e2⟩ := hsame
    rw [State.setFrames_setFrames] at e1
    have h2 : (T.setVm s.vm).sameButNew ({ U with vm := s.vm } : State) [] (0 + 1) (0 + 6) := ⟨e1, e2⟩
    have h3 := X.same.trans h2
    rw [List.append_nil] at h3
    exact h3.mono hc hs
  refine ⟨U, ?_, .threw T.heap.size, hrun, hend, Or.inr ⟨T.heap.size, rfl, cls, ce, locs, hx U hWs.alike f1 (fun q hq => f2 q hq (fun z hz => nomatch hz)), hce, hO.vm, hcl, hWs, hall, hf⟩⟩
  refine st1 _ ?_
  show Steps p.tables e below (T1.setTop { method := m, pc := pc + 3, locals := ls, stack := .ref T.heap.size :: rest, locked := none }) _
  jvm_step X₁.here [X₁.here.top, hexec, d3', Value.category]
  exact X₁.ldcStringW hexec (own := own) (text := text) (index := is) (a := sa) hown' hstr'.1 hstr'.2
    (g := { method := m, pc := pc + 4, locals := ls, stack := .ref T.heap.size :: .ref T.heap.size :: rest, locked := none }) rfl d4' _ hsteps
end Ends
section Bodies
variable {l : Launch}
theorem vx_ofW {y : MethodName} {ws ws' : List Cond} {rm : Room} {Pc : Array Value → State → Prop} {Qc : Array Value → State → Outcome → State → Prop} {XC : String → State → State → Prop} {mc ms : Nat} {free : Addr → Prop} {cc : ByteArray} {maxL : Nat} {ret : Option FieldType}
    (hy : plainName y.cls = true) (hw : ws = Cond.code y cc maxL ret :: ws')
    (body : ∀ p e s m args below meth c s₁, BodyLoose p l y (headSpec ws rm) cc maxL ret e s m args below meth c s₁ → c.maxLocals = maxL → (∀ x ∈ c.exceptionTable.toList, False) → Pc args s →
      W p l e (headSpec ws rm).room s m args below meth c s.heap [] 0 0 (vx_MQ below Qc XC args s mc ms free) (entryFrame m args maxL)) : vx_Met l y ws rm Pc Qc XC mc ms free := by
  refine MetFree.of_bodyS (code := cc) (maxLocals := maxL) (ret := ret) hy ?_ ?_
  · intro args s m h hn
    obtain ⟨meth, c, h1, h2, h3, h4, h5, h6, -, -⟩ := Cond.code_spec hn (atoms_spec (ws := ws) h _ (by rw [hw]; exact List.mem_cons_self))
    exact ⟨meth, c, h1, h2, h3, h4, h5, h6⟩
  · intro p e s m args below meth c s₁ B hml hP _
    have hh0 : s₁.heap = s.heap := by rw [B.state]; rfl
    have ht : ∀ x ∈ c.exceptionTable.toList, False := by
      obtain ⟨meth9, c9, h1, h2, -, -, -, -, h7, -⟩ := Cond.code_spec B.named (atoms_spec (ws := ws) B.pre _ (by rw [hw]; exact List.mem_cons_self))
      cases Option.some.inj (h1.symm.trans B.method)
      cases Option.some.inj (h2.symm.trans (Stand.of_body B).code)
      intro x hx
      rw [Array.isEmpty_iff.mp h7] at hx
      cases hx
    obtain ⟨t, a1, o, b1, b2, b3⟩ := body p e s m args below meth c s₁ B hml ht hP s₁ hh0 (Stand.of_body B)
    exact ⟨t, o, a1, b1, b2, b3⟩
/-- the table of a body with handlers -/
theorem vx_table {p : Program} {x y : MethodName} {S : Spec} {cc bytes : ByteArray} {maxL maxL' : Nat} {ret ret' : Option FieldType} {e : Env} {s s₁ : State} {m : MethodId} {args : Array Value} {below : List Frame} {meth : Method} {c : Code} {hh : List (Nat × Nat × Nat × Nat)}
    (B : BodyLoose p l y S cc maxL ret e s m args below meth c s₁) (h : (Cond.codeWith y bytes maxL' ret' hh).before args s = true) : c.exceptionTable.toList = tableOf hh := by
  obtain ⟨m9, meth9, c9, hn9, h1, h2, -, -, h6, -⟩ := Cond.codeWith_spec h
  cases Option.some.inj (hn9.symm.trans B.named)
  cases Option.some.inj (h1.symm.trans B.method)
  cases Option.some.inj (h2.symm.trans (Stand.of_body B).code)
  rw [← h6, table_eq]
end Bodies
end VXA
/-! ===== END ===== -/
/-! ===== BEGIN a static call of a method with an exception table ===== -/
section VXS
variable {p : Program} {l : Launch} {e : Env} {R : Room} {s : State} {m : MethodId} {args : Array Value} {below : List Frame} {meth : Method} {c : Code} {T : State} {H : Heap} {locs : List Loc} {cells slots : Nat}
abbrev vx_CSW (R : Room) (s : State) (args : Array Value) (own : String) (index : Nat) (y : MethodName) (bytes : ByteArray) (maxL : Nat) (ret : Option FieldType) (hh : List (Nat × Nat × Nat × Nat)) (ws : List Cond) (rm : Room) (mc ms n : Nat) : Prop :=
  (rm.cells = mc ∧ rm.slots = ms ∧ rm.frames + 1 ≤ R.frames ∧ 8 + (maxL + 11) + rm.locals ≤ R.locals ∧ (∀ w ∈ ws, ∀ (a' : Array Value) (U : State), s.WarmedH U.vm → w.before a' U = true) ∧ Cond.codeWith y bytes maxL ret hh ∈ ws) ∧
  (Cond.codeWith y bytes maxL ret hh).before args s = true ∧ (Cond.initialized y.cls).before args s = true ∧ (y.cls ≠ "java/lang/invoke/MethodHandle" ∧ y.cls ≠ "java/lang/invoke/VarHandle") ∧
  (∀ sig, parseMethodDescriptor y.desc = some sig → n = sig.parameters.length) ∧ (Cond.methodLink own index y).before args s = true ∧ (Cond.static y).before args s = true
theorem vx_cwSW {own : String} {index maxL mc ms : Nat} {y : MethodName} {bytes : ByteArray} {ret : Option FieldType} {hh : List (Nat × Nat × Nat × Nat)} {Ts ws ws' : List Cond} {rm : Room} (n : Nat) (ht : ∀ w ∈ Ts, w.before args s = true) (hT : GoodIn Ts (va_wsS own index y ws)) (hw : ws = Cond.codeWith y bytes maxL ret hh :: ws') (hrc : rm.cells = mc) (hrs : rm.slots = ms)
    (hd : y.cls ≠ "java/lang/invoke/MethodHandle" ∧ y.cls ≠ "java/lang/invoke/VarHandle" ∧ (parseMethodDescriptor y.desc).map (fun d => d.parameters.length) = some n) (hR : rm.frames + 1 ≤ R.frames ∧ 8 + (maxL + 11) + rm.locals ≤ R.locals) :
    vx_CSW R s args own index y bytes maxL ret hh ws rm mc ms n := by
  have ok : ∀ w ∈ va_wsS own index y ws, w.before args s = true := fun w h => ht w (hT w h).1
  have hG : GoodIn Ts ws := fun w h => hT w (by unfold va_wsS; exact List.mem_append_right _ h)
  have hc : Cond.codeWith y bytes maxL ret hh ∈ ws := by rw [hw]; exact List.mem_cons_self
  refine ⟨⟨hrc, hrs, hR.1, hR.2, pay_in ht hG, hc⟩, ht _ (hG _ hc).1, ok _ (by simp [va_wsS]), ⟨hd.1, hd.2.1⟩, fun sig h => ?_, ok _ (by simp [va_wsS]), ok _ (by simp [va_wsS])⟩
  have h2 := hd.2.2
  rw [h] at h2
  exact (Option.some.inj h2).symm
theorem vx_callSW (X : Stand p l e R s m args below meth c T locs cells slots) (hexec : p.tables.exec = Jvm.exec) {own : String} {index : Nat} {y : MethodName} {bytes : ByteArray} {maxL : Nat} {ret : Option FieldType} {hh : List (Nat × Nat × Nat × Nat)}
    (hown : s.vm.findClass own = some m.cls) (hlink : (Cond.methodLink own index y).before args s = true) (hstat : (Cond.static y).before args s = true) (hinit : (Cond.initialized y.cls).before args s = true)
    (hcode : (Cond.codeWith y bytes maxL ret hh).before args s = true) (hy : y.cls ≠ "java/lang/invoke/MethodHandle" ∧ y.cls ≠ "java/lang/invoke/VarHandle")
    {W9 : Nat} {Pre : Pt → Array Value → Prop} {Post : Pt → Array Value → Option Value → Pt → Prop} (hK : Back l R p e below s args y 3 W9 Pre Post)
    {g : JFrame} (hg : g.method = m) (hsize : g.locals.size = c.maxLocals) {argsL rest : List Value} (hlen : ∀ sig, parseMethodDescriptor y.desc = some sig → argsL.length = sig.parameters.length)
    (hstack : g.stack = argsL.reverse ++ rest) (hW : 2 * g.monitorRoom + (rest.map fun v => v.category).sum ≤ W9) (hdg : decode c.code g.pc = .ok (.invokestatic index, 3))
    (hpre : ∀ vm₁, s.WarmedH vm₁ → Pre ⟨T.setVm vm₁, locs, cells, slots⟩ argsL.toArray) :
    ∃ (v : Option Value) (vm₁ : Vm) (B : Pt), s.WarmedH vm₁ ∧ Stand p l e R s m args below meth c B.U B.locs B.cells B.slots ∧ Post ⟨T.setVm vm₁, locs, cells, slots⟩ argsL.toArray v B ∧
      ∀ target, Steps p.tables e below (B.U.setTop { g with pc := g.pc + 3, stack := v.toList ++ rest }) target → Steps p.tables e below (T.setTop g) target := by
  obtain ⟨mk, methM, cM, hnamed, hmethM, -, -, -, -, -, -, hsigM⟩ := Cond.codeWith_spec hcode
  have hstatic : methM.isStatic = true := Cond.static_spec hnamed hmethM hstat
  obtain ⟨kP, hkP, -⟩ := className_of_methodNamed hnamed
  have hinitP : kP.init = .initialized := Cond.initialized_spec (findClass_of_methodNamed hnamed) hkP hinit
  obtain ⟨vm₁, X₁, hstep₁⟩ := X.invokestatic hexec hown hlink hnamed hmethM hstatic hkP hinitP hy (g := g) hg (argsL := argsL) (rest := rest) (hlen _ hsigM) hstack hdg
  obtain ⟨v, B, X', hpost, hsteps⟩ := hK m meth c ⟨T.setVm vm₁, locs, cells, slots⟩ { g with stack := rest } (.invokestatic index) mk argsL.toArray X₁ hg hsize hdg hW (X₁.named hnamed) (hpre vm₁ X₁.warmed)
  exact ⟨v, vm₁, B, X₁.warmed, X', hpost, fun target h => hstep₁ _ fun acts => by rw [doInvoke_state]; exact hsteps.trans h⟩
theorem vx_runSW {y : MethodName} {bytes cc : ByteArray} {maxL nL mc ms n index : Nat} {ret : Option FieldType} {hh : List (Nat × Nat × Nat × Nat)} {ws : List Cond} {rm : Room} {Pc : Array Value → State → Prop} {Qc : Array Value → State → Outcome → State → Prop} {free : Addr → Prop} {Ts : List Cond} {own : String} {As rest : List Value} {g : JFrame}
    (S : CallFix p m c cc nL s args Ts own) (hM : Met l y ws rm Pc Qc mc ms free) (cw : vx_CSW R s args own index y bytes maxL ret hh ws rm mc ms n) (hp : PreS s H Pc As)
    (hg : g.method = m) (hn : As.length = n) (hsize : g.locals.size = nL) (hstack : g.stack = As.reverse ++ rest) (hW : 2 * g.monitorRoom + (rest.map fun v => v.category).sum ≤ 8) (hdg : decode cc g.pc = .ok (.invokestatic index, 3)) (hf : cells + mc ≤ R.cells ∧ slots + ms ≤ R.slots) :
    va_Run p l e R s m args below meth c H locs cells slots mc ms g rest (Qc As.toArray) (free) := by
  obtain ⟨⟨hrc, hrs, hfr, hlo, hws, hcw⟩, hcode, hini, hy, hlen, hl, hstt⟩ := cw
  have hK : Back l R p e below s args y 3 8 (PreOf R mc ms Pc) (PostOf Qc mc ms free) := va_backW (hh := hh) (bytes := bytes) (maxL := maxL) (ret := ret) hM hp.1 hrc hrs hfr hlo hws hcw (fun a' U hW => word_at hW (Or.inl (by first | rfl | simp [Cond.onTables, Cond.keeps, Cond.steady])) hini)
  obtain ⟨hx, hb, hml, ho, -⟩ := S
  intro T hT X
  obtain ⟨v, vm₁, ⟨U', l2, c2, s2⟩, hW₁, X', ⟨g', mk, t, L, e1, e2, hq, h1, hL, h2, h3⟩, st⟩ := vx_callSW X hx (hh := hh) (bytes := bytes) (maxL := maxL) (ret := ret) ho hl hstt hini hcode hy hK hg (hsize.trans hml.symm) (argsL := As) (rest := rest) (fun sig h => hn.trans (hlen sig h)) hstack hW (by rw [hb]; exact hdg)
    (fun vm₁ hW₁ => ⟨hf.1, hf.2, hp.2 (T.setVm vm₁) hT hW₁⟩)
  dsimp only [Pt.U, Pt.locs, Pt.cells, Pt.slots] at X' e1 e2 h1 h2 h3 st
  subst h1; subst h2; subst h3
  exact ⟨v, (T.setVm vm₁).calling g' mk As.toArray, t, U', L, hT, X', hL, e1, e2, hq, st⟩
/-- a thing of a world lies in the heap -/
theorem vx_lt {D : va_G} {cl : List vw_C} {ws : va_W} {H1 : Heap} (h : va_P D cl ws H1) {k : Nat} {q : Nat × va_E} (hk : ws[k]? = some q) : q.1 < H1.size := (h k q hk).lt
end VXS
/-! ===== END ===== -/
end
section
/-! ===== BEGIN printed: names, fields, word lists, decode rows ===== -/
def RX0 : String := "RegisterMill$Checker"
def TX0 : u_T := fun k => match k with
  | 0 => ("RegisterMill$Checker", "program", "LRegisterMill$Program;", true)
  | 1 => ("RegisterMill$Checker", "passed", "[Z", true)
  | _ => ("RegisterMill$Checker", "lowest", "I", false)
def tyX0 : Nat → FieldType := fun k => match k with
  | 0 => .object "RegisterMill$Program"
  | 1 => .array .boolean
  | _ => .int
abbrev wsX00 : List Cond := u_ws RX0 TX0 3
theorem nmX0 : ∀ a, a < 3 → ∀ b, b < 3 → a ≠ b → (TX0 a).2.1 ≠ (TX0 b).2.1 := by decide +kernel
theorem tyX0_ok : ∀ k, k < 3 → parseFieldDescriptor (TX0 k).2.2.1 = some (tyX0 k) := by decide +kernel
abbrev cX0_init : ByteArray := prog_2_method_1_code
def yX0_init : MethodName := ⟨RX0, "<init>", "(LRegisterMill$Program;)V"⟩
abbrev cX0_firstFault : ByteArray := prog_2_method_2_code
def yX0_firstFault : MethodName := ⟨RX0, "firstFault", "()I"⟩
abbrev cX0_faultOfFunc : ByteArray := prog_2_method_3_code
def yX0_faultOfFunc : MethodName := ⟨RX0, "faultOfFunc", "(I)I"⟩
abbrev cX0_leastWaiting : ByteArray := prog_2_method_4_code
def yX0_leastWaiting : MethodName := ⟨RX0, "leastWaiting", "(II)I"⟩
abbrev cX0_faultOfWord : ByteArray := prog_2_method_5_code
def yX0_faultOfWord : MethodName := ⟨RX0, "faultOfWord", "(II)I"⟩
abbrev cX0_isFormed : ByteArray := prog_2_method_6_code
def yX0_isFormed : MethodName := ⟨RX0, "isFormed", "(III)Z"⟩
abbrev cX0_reach : ByteArray := prog_2_method_7_code
def yX0_reach : MethodName := ⟨RX0, "reach", "(III)Z"⟩
def RX1 : String := "RegisterMill$Code"
def TX1 : u_T := fun k => match k with
  | 0 => ("RegisterMill$Code", "starts", "[I", true)
  | 1 => ("RegisterMill$Code", "sizes", "[I", true)
  | 2 => ("RegisterMill$Code", "total", "I", false)
  | _ => ("RegisterMill$Code", "parts", "[I", false)
def tyX1 : Nat → FieldType := fun k => match k with
  | 0 => .array .int
  | 1 => .array .int
  | 2 => .int
  | _ => .array .int
abbrev wsX10 : List Cond := u_ws RX1 TX1 4
theorem nmX1 : ∀ a, a < 4 → ∀ b, b < 4 → a ≠ b → (TX1 a).2.1 ≠ (TX1 b).2.1 := by decide +kernel
theorem tyX1_ok : ∀ k, k < 4 → parseFieldDescriptor (TX1 k).2.2.1 = some (tyX1 k) := by decide +kernel
abbrev cX1_init : ByteArray := prog_3_method_1_code
def yX1_init : MethodName := ⟨RX1, "<init>", "()V"⟩
abbrev cX1_open : ByteArray := prog_3_method_2_code
def yX1_open : MethodName := ⟨RX1, "open", "(II)V"⟩
abbrev cX1_add : ByteArray := prog_3_method_3_code
def yX1_add : MethodName := ⟨RX1, "add", "(IIII)V"⟩
abbrev cX1_addWork : ByteArray := prog_3_method_4_code
def yX1_addWork : MethodName := ⟨RX1, "addWork", "(IIIII)V"⟩
abbrev cX1_part : ByteArray := prog_3_method_5_code
def yX1_part : MethodName := ⟨RX1, "part", "(III)I"⟩
abbrev cX1_aim : ByteArray := prog_3_method_6_code
def yX1_aim : MethodName := ⟨RX1, "aim", "(I[I)V"⟩
def RX2 : String := "RegisterMill$Homes"
def TX2 : u_T := fun k => match k with
  | 0 => ("RegisterMill$Homes", "firsts", "[I", true)
  | 1 => ("RegisterMill$Homes", "lasts", "[I", true)
  | 2 => ("RegisterMill$Homes", "registers", "[I", true)
  | 3 => ("RegisterMill$Homes", "slotNumbers", "[I", true)
  | 4 => ("RegisterMill$Homes", "slotCounts", "[I", true)
  | _ => ("RegisterMill$Homes", "holders", "[I", true)
def tyX2 : Nat → FieldType := fun k => match k with
  | 0 => .array .int
  | 1 => .array .int
  | 2 => .array .int
  | 3 => .array .int
  | 4 => .array .int
  | _ => .array .int
abbrev wsX20 : List Cond := u_ws RX2 TX2 6
theorem nmX2 : ∀ a, a < 6 → ∀ b, b < 6 → a ≠ b → (TX2 a).2.1 ≠ (TX2 b).2.1 := by decide +kernel
theorem tyX2_ok : ∀ k, k < 6 → parseFieldDescriptor (TX2 k).2.2.1 = some (tyX2 k) := by decide +kernel
abbrev cX2_init : ByteArray := prog_4_method_1_code
def yX2_init : MethodName := ⟨RX2, "<init>", "()V"⟩
abbrev cX2_registerOf : ByteArray := prog_4_method_2_code
def yX2_registerOf : MethodName := ⟨RX2, "registerOf", "(II)I"⟩
abbrev cX2_slotOf : ByteArray := prog_4_method_3_code
def yX2_slotOf : MethodName := ⟨RX2, "slotOf", "(II)I"⟩
abbrev cX2_tell : ByteArray := prog_4_method_4_code
def yX2_tell : MethodName := ⟨RX2, "tell", "(III)I"⟩
abbrev cX2_give : ByteArray := prog_4_method_5_code
def yX2_give : MethodName := ⟨RX2, "give", "(ILRegisterMill$Places;LRegisterMill$Live;I)V"⟩
abbrev cX2_forget : ByteArray := prog_4_method_6_code
def yX2_forget : MethodName := ⟨RX2, "forget", "(I)V"⟩
abbrev cX2_widen : ByteArray := prog_4_method_7_code
def yX2_widen : MethodName := ⟨RX2, "widen", "(III)V"⟩
abbrev cX2_giveOne : ByteArray := prog_4_method_8_code
def yX2_giveOne : MethodName := ⟨RX2, "giveOne", "(III)V"⟩
abbrev cX2_giveBack : ByteArray := prog_4_method_9_code
def yX2_giveBack : MethodName := ⟨RX2, "giveBack", "(III)V"⟩
abbrev cX2_longestWith : ByteArray := prog_4_method_10_code
def yX2_longestWith : MethodName := ⟨RX2, "longestWith", "(III)I"⟩
def RX3 : String := "RegisterMill$Live"
def TX3 : u_T := fun k => match k with
  | 0 => ("RegisterMill$Live", "ahead", "[I", true)
  | _ => ("RegisterMill$Live", "behind", "[I", true)
def tyX3 : Nat → FieldType := fun k => match k with
  | 0 => .array .int
  | _ => .array .int
abbrev wsX30 : List Cond := u_ws RX3 TX3 2
theorem nmX3 : ∀ a, a < 2 → ∀ b, b < 2 → a ≠ b → (TX3 a).2.1 ≠ (TX3 b).2.1 := by decide +kernel
theorem tyX3_ok : ∀ k, k < 2 → parseFieldDescriptor (TX3 k).2.2.1 = some (tyX3 k) := by decide +kernel
abbrev cX3_init : ByteArray := prog_5_method_1_code
def yX3_init : MethodName := ⟨RX3, "<init>", "()V"⟩
abbrev cX3_find : ByteArray := prog_5_method_2_code
def yX3_find : MethodName := ⟨RX3, "find", "(LRegisterMill$Places;)V"⟩
abbrev cX3_growBackwards : ByteArray := prog_5_method_3_code
def yX3_growBackwards : MethodName := ⟨RX3, "growBackwards", "(LRegisterMill$Places;)Z"⟩
def RX4 : String := "RegisterMill$Machine"
def TX4 : u_T := fun k => match k with
  | _ => ("", "", "", false)
def tyX4 : Nat → FieldType := fun k => match k with
  | _ => .int
abbrev wsX40 : List Cond := u_ws RX4 TX4 0
theorem nmX4 : ∀ a, a < 0 → ∀ b, b < 0 → a ≠ b → (TX4 a).2.1 ≠ (TX4 b).2.1 := by decide +kernel
theorem tyX4_ok : ∀ k, k < 0 → parseFieldDescriptor (TX4 k).2.2.1 = some (tyX4 k) := by decide +kernel
abbrev cX4_init : ByteArray := prog_6_method_1_code
def yX4_init : MethodName := ⟨RX4, "<init>", "()V"⟩
abbrev cX4_begin : ByteArray := prog_6_method_5_code
def yX4_begin : MethodName := ⟨RX4, "begin", "()V"⟩
abbrev cX4_goOn : ByteArray := prog_6_method_6_code
def yX4_goOn : MethodName := ⟨RX4, "goOn", "(I)I"⟩
abbrev cX4_tell : ByteArray := prog_6_method_7_code
def yX4_tell : MethodName := ⟨RX4, "tell", "(I)I"⟩
abbrev cX4_room : ByteArray := prog_6_method_8_code
def yX4_room : MethodName := ⟨RX4, "room", "()I"⟩
abbrev cX4_jump : ByteArray := prog_6_method_9_code
def yX4_jump : MethodName := ⟨RX4, "jump", "(I)V"⟩
abbrev cX4_finish : ByteArray := prog_6_method_10_code
def yX4_finish : MethodName := ⟨RX4, "finish", "(I)V"⟩
abbrev cX4_enter : ByteArray := prog_6_method_11_code
def yX4_enter : MethodName := ⟨RX4, "enter", "(I)V"⟩
abbrev cX4_leave : ByteArray := prog_6_method_12_code
def yX4_leave : MethodName := ⟨RX4, "leave", "(I)V"⟩
abbrev cX4_hasCell : ByteArray := prog_6_method_13_code
def yX4_hasCell : MethodName := ⟨RX4, "hasCell", "(I)Z"⟩
abbrev cX4_canReckon : ByteArray := prog_6_method_14_code
def yX4_canReckon : MethodName := ⟨RX4, "canReckon", "(II)Z"⟩
def RX5 : String := "RegisterMill$Places"
def TX5 : u_T := fun k => match k with
  | 0 => ("RegisterMill$Places", "kinds", "[I", true)
  | 1 => ("RegisterMill$Places", "numbers", "[I", true)
  | 2 => ("RegisterMill$Places", "goals", "[I", true)
  | 3 => ("RegisterMill$Places", "written", "[I", true)
  | 4 => ("RegisterMill$Places", "readCounts", "[I", true)
  | 5 => ("RegisterMill$Places", "reads", "[[I", true)
  | 6 => ("RegisterMill$Places", "total", "I", false)
  | 7 => ("RegisterMill$Places", "newNumbers", "[I", true)
  | 8 => ("RegisterMill$Places", "blockStarts", "[Z", true)
  | _ => ("RegisterMill$Places", "copyOf", "[I", true)
def tyX5 : Nat → FieldType := fun k => match k with
  | 0 => .array .int
  | 1 => .array .int
  | 2 => .array .int
  | 3 => .array .int
  | 4 => .array .int
  | 5 => .array (.array .int)
  | 6 => .int
  | 7 => .array .int
  | 8 => .array .boolean
  | _ => .array .int
abbrev wsX50 : List Cond := u_ws RX5 TX5 10
theorem nmX5 : ∀ a, a < 10 → ∀ b, b < 10 → a ≠ b → (TX5 a).2.1 ≠ (TX5 b).2.1 := by decide +kernel
theorem tyX5_ok : ∀ k, k < 10 → parseFieldDescriptor (TX5 k).2.2.1 = some (tyX5 k) := by decide +kernel
abbrev cX5_init : ByteArray := prog_7_method_1_code
def yX5_init : MethodName := ⟨RX5, "<init>", "()V"⟩
abbrev cX5_build : ByteArray := prog_7_method_2_code
def yX5_build : MethodName := ⟨RX5, "build", "(LRegisterMill$Program;I)V"⟩
abbrev cX5_become : ByteArray := prog_7_method_3_code
def yX5_become : MethodName := ⟨RX5, "become", "(LRegisterMill$Program;II)V"⟩
abbrev cX5_addCall : ByteArray := prog_7_method_4_code
def yX5_addCall : MethodName := ⟨RX5, "addCall", "(III)V"⟩
abbrev cX5_addReading : ByteArray := prog_7_method_5_code
def yX5_addReading : MethodName := ⟨RX5, "addReading", "(III)V"⟩
abbrev cX5_add : ByteArray := prog_7_method_6_code
def yX5_add : MethodName := ⟨RX5, "add", "(III)V"⟩
abbrev cX5_addRead : ByteArray := prog_7_method_7_code
def yX5_addRead : MethodName := ⟨RX5, "addRead", "(I)V"⟩
abbrev cX5_aimAnew : ByteArray := prog_7_method_8_code
def yX5_aimAnew : MethodName := ⟨RX5, "aimAnew", "()V"⟩
abbrev cX5_jumps : ByteArray := prog_7_method_9_code
def yX5_jumps : MethodName := ⟨RX5, "jumps", "(I)Z"⟩
abbrev cX5_goesToNext : ByteArray := prog_7_method_10_code
def yX5_goesToNext : MethodName := ⟨RX5, "goesToNext", "(I)Z"⟩
abbrev cX5_readSet : ByteArray := prog_7_method_11_code
def yX5_readSet : MethodName := ⟨RX5, "readSet", "(I)I"⟩
abbrev cX5_writtenSet : ByteArray := prog_7_method_12_code
def yX5_writtenSet : MethodName := ⟨RX5, "writtenSet", "(I)I"⟩
abbrev cX5_forward : ByteArray := prog_7_method_13_code
def yX5_forward : MethodName := ⟨RX5, "forward", "()V"⟩
abbrev cX5_markBlockStarts : ByteArray := prog_7_method_14_code
def yX5_markBlockStarts : MethodName := ⟨RX5, "markBlockStarts", "()V"⟩
abbrev cX5_forwardReads : ByteArray := prog_7_method_15_code
def yX5_forwardReads : MethodName := ⟨RX5, "forwardReads", "(I)V"⟩
abbrev cX5_forgetWritten : ByteArray := prog_7_method_16_code
def yX5_forgetWritten : MethodName := ⟨RX5, "forgetWritten", "(I)V"⟩
abbrev cX5_dropUseless : ByteArray := prog_7_method_17_code
def yX5_dropUseless : MethodName := ⟨RX5, "dropUseless", "(LRegisterMill$Live;)Z"⟩
abbrev cX5_isUseless : ByteArray := prog_7_method_18_code
def yX5_isUseless : MethodName := ⟨RX5, "isUseless", "(ILRegisterMill$Live;)Z"⟩
abbrev cX5_copyPlace : ByteArray := prog_7_method_19_code
def yX5_copyPlace : MethodName := ⟨RX5, "copyPlace", "(II)V"⟩
def RX6 : String := "RegisterMill$Program"
def TX6 : u_T := fun k => match k with
  | 0 => ("RegisterMill$Program", "args", "[I", true)
  | 1 => ("RegisterMill$Program", "locals", "[I", true)
  | 2 => ("RegisterMill$Program", "starts", "[I", true)
  | 3 => ("RegisterMill$Program", "lengths", "[I", true)
  | 4 => ("RegisterMill$Program", "ops", "[I", true)
  | 5 => ("RegisterMill$Program", "numbers", "[I", true)
  | 6 => ("RegisterMill$Program", "depths", "[I", true)
  | 7 => ("RegisterMill$Program", "funcs", "I", false)
  | 8 => ("RegisterMill$Program", "words", "I", false)
  | _ => ("RegisterMill$Program", "checked", "Z", false)
def tyX6 : Nat → FieldType := fun k => match k with
  | 0 => .array .int
  | 1 => .array .int
  | 2 => .array .int
  | 3 => .array .int
  | 4 => .array .int
  | 5 => .array .int
  | 6 => .array .int
  | 7 => .int
  | 8 => .int
  | _ => .boolean
abbrev wsX60 : List Cond := u_ws RX6 TX6 10
theorem nmX6 : ∀ a, a < 10 → ∀ b, b < 10 → a ≠ b → (TX6 a).2.1 ≠ (TX6 b).2.1 := by decide +kernel
theorem tyX6_ok : ∀ k, k < 10 → parseFieldDescriptor (TX6 k).2.2.1 = some (tyX6 k) := by decide +kernel
abbrev cX6_init : ByteArray := prog_8_method_1_code
def yX6_init : MethodName := ⟨RX6, "<init>", "()V"⟩
abbrev cX6_addFunc : ByteArray := prog_8_method_2_code
def yX6_addFunc : MethodName := ⟨RX6, "addFunc", "(II)I"⟩
abbrev cX6_addWord : ByteArray := prog_8_method_3_code
def yX6_addWord : MethodName := ⟨RX6, "addWord", "(II)I"⟩
abbrev cX6_empty : ByteArray := prog_8_method_4_code
def yX6_empty : MethodName := ⟨RX6, "empty", "()V"⟩
abbrev cX6_hasFunc : ByteArray := prog_8_method_5_code
def yX6_hasFunc : MethodName := ⟨RX6, "hasFunc", "(I)Z"⟩
abbrev cX6_takes : ByteArray := prog_8_method_6_code
def yX6_takes : MethodName := ⟨RX6, "takes", "(II)I"⟩
def RX7 : String := "RegisterMill$RegisterMachine"
def TX7 : u_T := fun k => match k with
  | 0 => ("RegisterMill$Machine", "memory", "[I", true)
  | 1 => ("RegisterMill$Machine", "funcs", "[I", true)
  | 2 => ("RegisterMill$Machine", "nexts", "[I", true)
  | 3 => ("RegisterMill$Machine", "end", "I", false)
  | 4 => ("RegisterMill$Machine", "told", "I", false)
  | 5 => ("RegisterMill$Machine", "steps", "I", false)
  | 6 => ("RegisterMill$Machine", "calls", "I", false)
  | 7 => ("RegisterMill$Machine", "nested", "I", false)
  | 8 => ("RegisterMill$RegisterMachine", "code", "LRegisterMill$Code;", true)
  | 9 => ("RegisterMill$RegisterMachine", "registers", "[I", true)
  | 10 => ("RegisterMill$RegisterMachine", "slotCells", "[I", true)
  | 11 => ("RegisterMill$RegisterMachine", "passed", "[I", true)
  | _ => ("RegisterMill$RegisterMachine", "answered", "I", false)
def tyX7 : Nat → FieldType := fun k => match k with
  | 0 => .array .int
  | 1 => .array .int
  | 2 => .array .int
  | 3 => .int
  | 4 => .int
  | 5 => .int
  | 6 => .int
  | 7 => .int
  | 8 => .object "RegisterMill$Code"
  | 9 => .array .int
  | 10 => .array .int
  | 11 => .array .int
  | _ => .int
abbrev wsX70 : List Cond := u_ws RX7 TX7 13
theorem nmX7 : ∀ a, a < 13 → ∀ b, b < 13 → a ≠ b → (TX7 a).2.1 ≠ (TX7 b).2.1 := by decide +kernel
theorem tyX7_ok : ∀ k, k < 13 → parseFieldDescriptor (TX7 k).2.2.1 = some (tyX7 k) := by decide +kernel
abbrev cX7_init : ByteArray := prog_9_method_1_code
def yX7_init : MethodName := ⟨RX7, "<init>", "(LRegisterMill$Code;)V"⟩
abbrev cX7_begin : ByteArray := prog_9_method_2_code
def yX7_begin : MethodName := ⟨RX7, "begin", "()V"⟩
abbrev cX7_openRoom : ByteArray := prog_9_method_3_code
def yX7_openRoom : MethodName := ⟨RX7, "openRoom", "(II)V"⟩
abbrev cX7_takeAnswer : ByteArray := prog_9_method_4_code
def yX7_takeAnswer : MethodName := ⟨RX7, "takeAnswer", "(I)V"⟩
abbrev cX7_step : ByteArray := prog_9_method_5_code
def yX7_step : MethodName := ⟨RX7, "step", "(II)V"⟩
abbrev cX7_work : ByteArray := prog_9_method_6_code
def yX7_work : MethodName := ⟨RX7, "work", "(III)V"⟩
abbrev cX7_swap : ByteArray := prog_9_method_7_code
def yX7_swap : MethodName := ⟨RX7, "swap", "(II)V"⟩
abbrev cX7_fetch : ByteArray := prog_9_method_8_code
def yX7_fetch : MethodName := ⟨RX7, "fetch", "(II)V"⟩
abbrev cX7_store : ByteArray := prog_9_method_9_code
def yX7_store : MethodName := ⟨RX7, "store", "(II)V"⟩
def RX8 : String := "RegisterMill$StackMachine"
def TX8 : u_T := fun k => match k with
  | 0 => ("RegisterMill$Machine", "memory", "[I", true)
  | 1 => ("RegisterMill$Machine", "funcs", "[I", true)
  | 2 => ("RegisterMill$Machine", "nexts", "[I", true)
  | 3 => ("RegisterMill$Machine", "end", "I", false)
  | 4 => ("RegisterMill$Machine", "told", "I", false)
  | 5 => ("RegisterMill$Machine", "steps", "I", false)
  | 6 => ("RegisterMill$Machine", "calls", "I", false)
  | 7 => ("RegisterMill$Machine", "nested", "I", false)
  | 8 => ("RegisterMill$StackMachine", "program", "LRegisterMill$Program;", true)
  | 9 => ("RegisterMill$StackMachine", "locals", "[I", true)
  | 10 => ("RegisterMill$StackMachine", "stack", "[I", true)
  | 11 => ("RegisterMill$StackMachine", "bottoms", "[I", true)
  | _ => ("RegisterMill$StackMachine", "top", "I", false)
def tyX8 : Nat → FieldType := fun k => match k with
  | 0 => .array .int
  | 1 => .array .int
  | 2 => .array .int
  | 3 => .int
  | 4 => .int
  | 5 => .int
  | 6 => .int
  | 7 => .int
  | 8 => .object "RegisterMill$Program"
  | 9 => .array .int
  | 10 => .array .int
  | 11 => .array .int
  | _ => .int
abbrev wsX80 : List Cond := u_ws RX8 TX8 13
theorem nmX8 : ∀ a, a < 13 → ∀ b, b < 13 → a ≠ b → (TX8 a).2.1 ≠ (TX8 b).2.1 := by decide +kernel
theorem tyX8_ok : ∀ k, k < 13 → parseFieldDescriptor (TX8 k).2.2.1 = some (tyX8 k) := by decide +kernel
abbrev cX8_init : ByteArray := prog_10_method_1_code
def yX8_init : MethodName := ⟨RX8, "<init>", "(LRegisterMill$Program;)V"⟩
abbrev cX8_begin : ByteArray := prog_10_method_2_code
def yX8_begin : MethodName := ⟨RX8, "begin", "()V"⟩
abbrev cX8_openRoom : ByteArray := prog_10_method_3_code
def yX8_openRoom : MethodName := ⟨RX8, "openRoom", "(II)V"⟩
abbrev cX8_takeAnswer : ByteArray := prog_10_method_4_code
def yX8_takeAnswer : MethodName := ⟨RX8, "takeAnswer", "(I)V"⟩
abbrev cX8_step : ByteArray := prog_10_method_5_code
def yX8_step : MethodName := ⟨RX8, "step", "(II)V"⟩
abbrev cX8_push : ByteArray := prog_10_method_6_code
def yX8_push : MethodName := ⟨RX8, "push", "(I)V"⟩
abbrev cX8_pop : ByteArray := prog_10_method_7_code
def yX8_pop : MethodName := ⟨RX8, "pop", "()I"⟩
abbrev cX8_flip : ByteArray := prog_10_method_8_code
def yX8_flip : MethodName := ⟨RX8, "flip", "()V"⟩
abbrev cX8_fetch : ByteArray := prog_10_method_9_code
def yX8_fetch : MethodName := ⟨RX8, "fetch", "(I)V"⟩
abbrev cX8_store : ByteArray := prog_10_method_10_code
def yX8_store : MethodName := ⟨RX8, "store", "(II)V"⟩
abbrev cX8_work : ByteArray := prog_10_method_11_code
def yX8_work : MethodName := ⟨RX8, "work", "(III)V"⟩
def RX9 : String := "RegisterMill$Turner"
def TX9 : u_T := fun k => match k with
  | 0 => ("RegisterMill$Turner", "program", "LRegisterMill$Program;", true)
  | 1 => ("RegisterMill$Turner", "places", "LRegisterMill$Places;", true)
  | 2 => ("RegisterMill$Turner", "live", "LRegisterMill$Live;", true)
  | 3 => ("RegisterMill$Turner", "homes", "LRegisterMill$Homes;", true)
  | 4 => ("RegisterMill$Turner", "code", "LRegisterMill$Code;", true)
  | 5 => ("RegisterMill$Turner", "writer", "LRegisterMill$Writer;", true)
  | 6 => ("RegisterMill$Turner", "placeCounts", "[I", true)
  | _ => ("RegisterMill$Turner", "registers", "I", false)
def tyX9 : Nat → FieldType := fun k => match k with
  | 0 => .object "RegisterMill$Program"
  | 1 => .object "RegisterMill$Places"
  | 2 => .object "RegisterMill$Live"
  | 3 => .object "RegisterMill$Homes"
  | 4 => .object "RegisterMill$Code"
  | 5 => .object "RegisterMill$Writer"
  | 6 => .array .int
  | _ => .int
abbrev wsX90 : List Cond := u_ws RX9 TX9 8
theorem nmX9 : ∀ a, a < 8 → ∀ b, b < 8 → a ≠ b → (TX9 a).2.1 ≠ (TX9 b).2.1 := by decide +kernel
theorem tyX9_ok : ∀ k, k < 8 → parseFieldDescriptor (TX9 k).2.2.1 = some (tyX9 k) := by decide +kernel
abbrev cX9_init : ByteArray := prog_11_method_1_code
def yX9_init : MethodName := ⟨RX9, "<init>", "(LRegisterMill$Program;)V"⟩
abbrev cX9_begin : ByteArray := prog_11_method_2_code
def yX9_begin : MethodName := ⟨RX9, "begin", "(I)V"⟩
abbrev cX9_turnFunc : ByteArray := prog_11_method_3_code
def yX9_turnFunc : MethodName := ⟨RX9, "turnFunc", "(I)V"⟩
abbrev cX9_leaveOut : ByteArray := prog_11_method_4_code
def yX9_leaveOut : MethodName := ⟨RX9, "leaveOut", "()V"⟩
def RX10 : String := "RegisterMill$Writer"
def TX10 : u_T := fun k => match k with
  | 0 => ("RegisterMill$Writer", "places", "LRegisterMill$Places;", true)
  | 1 => ("RegisterMill$Writer", "homes", "LRegisterMill$Homes;", true)
  | 2 => ("RegisterMill$Writer", "code", "LRegisterMill$Code;", true)
  | 3 => ("RegisterMill$Writer", "firstOps", "[I", true)
  | 4 => ("RegisterMill$Writer", "func", "I", false)
  | 5 => ("RegisterMill$Writer", "spareA", "I", false)
  | _ => ("RegisterMill$Writer", "spareB", "I", false)
def tyX10 : Nat → FieldType := fun k => match k with
  | 0 => .object "RegisterMill$Places"
  | 1 => .object "RegisterMill$Homes"
  | 2 => .object "RegisterMill$Code"
  | 3 => .array .int
  | 4 => .int
  | 5 => .int
  | _ => .int
abbrev wsX100 : List Cond := u_ws RX10 TX10 7
theorem nmX10 : ∀ a, a < 7 → ∀ b, b < 7 → a ≠ b → (TX10 a).2.1 ≠ (TX10 b).2.1 := by decide +kernel
theorem tyX10_ok : ∀ k, k < 7 → parseFieldDescriptor (TX10 k).2.2.1 = some (tyX10 k) := by decide +kernel
abbrev cX10_init : ByteArray := prog_12_method_1_code
def yX10_init : MethodName := ⟨RX10, "<init>", "(LRegisterMill$Places;LRegisterMill$Homes;LRegisterMill$Code;)V"⟩
abbrev cX10_begin : ByteArray := prog_12_method_2_code
def yX10_begin : MethodName := ⟨RX10, "begin", "(II)V"⟩
abbrev cX10_writeEntry : ByteArray := prog_12_method_3_code
def yX10_writeEntry : MethodName := ⟨RX10, "writeEntry", "(LRegisterMill$Program;I)V"⟩
abbrev cX10_writePlaces : ByteArray := prog_12_method_4_code
def yX10_writePlaces : MethodName := ⟨RX10, "writePlaces", "()V"⟩
abbrev cX10_writePlace : ByteArray := prog_12_method_5_code
def yX10_writePlace : MethodName := ⟨RX10, "writePlace", "(I)V"⟩
abbrev cX10_writeWork : ByteArray := prog_12_method_6_code
def yX10_writeWork : MethodName := ⟨RX10, "writeWork", "(I)V"⟩
abbrev cX10_writeRead : ByteArray := prog_12_method_7_code
def yX10_writeRead : MethodName := ⟨RX10, "writeRead", "(II)V"⟩
abbrev cX10_writeWrite : ByteArray := prog_12_method_8_code
def yX10_writeWrite : MethodName := ⟨RX10, "writeWrite", "(II)V"⟩
abbrev cX10_writeMove : ByteArray := prog_12_method_9_code
def yX10_writeMove : MethodName := ⟨RX10, "writeMove", "(II)V"⟩
abbrev cX10_writeSwap : ByteArray := prog_12_method_10_code
def yX10_writeSwap : MethodName := ⟨RX10, "writeSwap", "(II)V"⟩
abbrev cX10_writeCall : ByteArray := prog_12_method_11_code
def yX10_writeCall : MethodName := ⟨RX10, "writeCall", "(I)V"⟩
abbrev cX10_moveInto : ByteArray := prog_12_method_12_code
def yX10_moveInto : MethodName := ⟨RX10, "moveInto", "(II)V"⟩
abbrev cX10_moveFrom : ByteArray := prog_12_method_13_code
def yX10_moveFrom : MethodName := ⟨RX10, "moveFrom", "(II)V"⟩
abbrev cX10_loaded : ByteArray := prog_12_method_14_code
def yX10_loaded : MethodName := ⟨RX10, "loaded", "(II)I"⟩
abbrev cX10_target : ByteArray := prog_12_method_15_code
def yX10_target : MethodName := ⟨RX10, "target", "(I)I"⟩
abbrev cX10_saveTarget : ByteArray := prog_12_method_16_code
def yX10_saveTarget : MethodName := ⟨RX10, "saveTarget", "(I)V"⟩
def RX11 : String := "RegisterMill"
def TX11 : u_T := fun k => match k with
  | 0 => ("RegisterMill", "program", "LRegisterMill$Program;", true)
  | 1 => ("RegisterMill", "checker", "LRegisterMill$Checker;", true)
  | 2 => ("RegisterMill", "turner", "LRegisterMill$Turner;", true)
  | 3 => ("RegisterMill", "stackMachine", "LRegisterMill$Machine;", true)
  | _ => ("RegisterMill", "registerMachine", "LRegisterMill$Machine;", true)
def tyX11 : Nat → FieldType := fun k => match k with
  | 0 => .object "RegisterMill$Program"
  | 1 => .object "RegisterMill$Checker"
  | 2 => .object "RegisterMill$Turner"
  | 3 => .object "RegisterMill$Machine"
  | _ => .object "RegisterMill$Machine"
abbrev wsX110 : List Cond := u_ws RX11 TX11 5
theorem nmX11 : ∀ a, a < 5 → ∀ b, b < 5 → a ≠ b → (TX11 a).2.1 ≠ (TX11 b).2.1 := by decide +kernel
theorem tyX11_ok : ∀ k, k < 5 → parseFieldDescriptor (TX11 k).2.2.1 = some (tyX11 k) := by decide +kernel
abbrev cX11_init : ByteArray := prog_1_method_1_code
def yX11_init : MethodName := ⟨RX11, "<init>", "()V"⟩
abbrev cX11_func : ByteArray := prog_1_method_2_code
def yX11_func : MethodName := ⟨RX11, "func", "(II)I"⟩
abbrev cX11_word : ByteArray := prog_1_method_3_code
def yX11_word : MethodName := ⟨RX11, "word", "(II)I"⟩
abbrev cX11_check : ByteArray := prog_1_method_4_code
def yX11_check : MethodName := ⟨RX11, "check", "()I"⟩
abbrev cX11_depth : ByteArray := prog_1_method_5_code
def yX11_depth : MethodName := ⟨RX11, "depth", "(II)I"⟩
abbrev cX11_clear : ByteArray := prog_1_method_6_code
def yX11_clear : MethodName := ⟨RX11, "clear", "()V"⟩
abbrev cX11_turn : ByteArray := prog_1_method_7_code
def yX11_turn : MethodName := ⟨RX11, "turn", "(I)I"⟩
abbrev cX11_op : ByteArray := prog_1_method_8_code
def yX11_op : MethodName := ⟨RX11, "op", "(III)I"⟩
abbrev cX11_size : ByteArray := prog_1_method_9_code
def yX11_size : MethodName := ⟨RX11, "size", "(I)I"⟩
abbrev cX11_value : ByteArray := prog_1_method_10_code
def yX11_value : MethodName := ⟨RX11, "value", "(III)I"⟩
abbrev cX11_slots : ByteArray := prog_1_method_11_code
def yX11_slots : MethodName := ⟨RX11, "slots", "(I)I"⟩
abbrev cX11_places : ByteArray := prog_1_method_12_code
def yX11_places : MethodName := ⟨RX11, "places", "(I)I"⟩
abbrev cX11_cell : ByteArray := prog_1_method_13_code
def yX11_cell : MethodName := ⟨RX11, "cell", "(II)Z"⟩
abbrev cX11_again : ByteArray := prog_1_method_14_code
def yX11_again : MethodName := ⟨RX11, "again", "()Z"⟩
abbrev cX11_runStack : ByteArray := prog_1_method_15_code
def yX11_runStack : MethodName := ⟨RX11, "runStack", "(I)I"⟩
abbrev cX11_runRegisters : ByteArray := prog_1_method_16_code
def yX11_runRegisters : MethodName := ⟨RX11, "runRegisters", "(I)I"⟩
abbrev cX11_look : ByteArray := prog_1_method_17_code
def yX11_look : MethodName := ⟨RX11, "look", "(II)I"⟩
abbrev cX11_peek : ByteArray := prog_1_method_18_code
def yX11_peek : MethodName := ⟨RX11, "peek", "(II)I"⟩
abbrev cX11_count : ByteArray := prog_1_method_19_code
def yX11_count : MethodName := ⟨RX11, "count", "(I)I"⟩
abbrev cX11_isTurned : ByteArray := prog_1_method_20_code
def yX11_isTurned : MethodName := ⟨RX11, "isTurned", "(I)Z"⟩
abbrev cX11_machineOf : ByteArray := prog_1_method_21_code
def yX11_machineOf : MethodName := ⟨RX11, "machineOf", "(I)LRegisterMill$Machine;"⟩
abbrev cX11_beginMachines : ByteArray := prog_1_method_22_code
def yX11_beginMachines : MethodName := ⟨RX11, "beginMachines", "()V"⟩
abbrev cX11_reckon : ByteArray := prog_1_method_23_code
def yX11_reckon : MethodName := ⟨RX11, "reckon", "(III)I"⟩
def RX12 : String := "RegisterMillModel"
def TX12 : u_T := fun k => match k with
  | 0 => ("RegisterMillModel", "thrown", "I", false)
  | 1 => ("RegisterMillModel", "funcs", "I", false)
  | 2 => ("RegisterMillModel", "args", "[I", true)
  | 3 => ("RegisterMillModel", "locals", "[I", true)
  | 4 => ("RegisterMillModel", "wordsFrom", "[I", true)
  | 5 => ("RegisterMillModel", "words", "[I", true)
  | 6 => ("RegisterMillModel", "all", "I", false)
  | 7 => ("RegisterMillModel", "op", "[I", true)
  | 8 => ("RegisterMillModel", "num", "[I", true)
  | 9 => ("RegisterMillModel", "depth", "[I", true)
  | 10 => ("RegisterMillModel", "isChecked", "Z", false)
  | 11 => ("RegisterMillModel", "gone", "[Z", true)
  | 12 => ("RegisterMillModel", "places", "I", false)
  | 13 => ("RegisterMillModel", "does", "[I", true)
  | 14 => ("RegisterMillModel", "with", "[I", true)
  | 15 => ("RegisterMillModel", "value", "[I", true)
  | 16 => ("RegisterMillModel", "told", "[I", true)
  | 17 => ("RegisterMillModel", "became", "[I", true)
  | 18 => ("RegisterMillModel", "ahead", "[I", true)
  | 19 => ("RegisterMillModel", "begins", "[Z", true)
  | 20 => ("RegisterMillModel", "copy", "[I", true)
  | 21 => ("RegisterMillModel", "live", "[I", true)
  | 22 => ("RegisterMillModel", "\x72", "I", false)
  | 23 => ("RegisterMillModel", "spanFrom", "[I", true)
  | 24 => ("RegisterMillModel", "spanTo", "[I", true)
  | 25 => ("RegisterMillModel", "register", "[I", true)
  | 26 => ("RegisterMillModel", "slot", "[I", true)
  | 27 => ("RegisterMillModel", "slots", "[I", true)
  | 28 => ("RegisterMillModel", "placesOf", "[I", true)
  | 29 => ("RegisterMillModel", "holds", "[Z", true)
  | 30 => ("RegisterMillModel", "ops", "I", false)
  | 31 => ("RegisterMillModel", "code", "[I", true)
  | 32 => ("RegisterMillModel", "opsFrom", "[I", true)
  | 33 => ("RegisterMillModel", "opsOf", "[I", true)
  | 34 => ("RegisterMillModel", "isTooMuch", "Z", false)
  | 35 => ("RegisterMillModel", "now", "I", false)
  | 36 => ("RegisterMillModel", "first", "[I", true)
  | 37 => ("RegisterMillModel", "isTurned", "Z", false)
  | 38 => ("RegisterMillModel", "memory", "[I", true)
  | 39 => ("RegisterMillModel", "end", "[I", true)
  | 40 => ("RegisterMillModel", "result", "[I", true)
  | 41 => ("RegisterMillModel", "steps", "[I", true)
  | 42 => ("RegisterMillModel", "made", "[I", true)
  | 43 => ("RegisterMillModel", "calls", "[I", true)
  | 44 => ("RegisterMillModel", "inFunc", "[I", true)
  | 45 => ("RegisterMillModel", "pc", "[I", true)
  | 46 => ("RegisterMillModel", "cell", "[I", true)
  | 47 => ("RegisterMillModel", "top", "[I", true)
  | 48 => ("RegisterMillModel", "inSlot", "[I", true)
  | 49 => ("RegisterMillModel", "passed", "[I", true)
  | 50 => ("RegisterMillModel", "passing", "[I", true)
  | _ => ("RegisterMillModel", "toldBy", "[I", true)
def tyX12 : Nat → FieldType := fun k => match k with
  | 0 => .int
  | 1 => .int
  | 2 => .array .int
  | 3 => .array .int
  | 4 => .array .int
  | 5 => .array .int
  | 6 => .int
  | 7 => .array .int
  | 8 => .array .int
  | 9 => .array .int
  | 10 => .boolean
  | 11 => .array .boolean
  | 12 => .int
  | 13 => .array .int
  | 14 => .array .int
  | 15 => .array .int
  | 16 => .array .int
  | 17 => .array .int
  | 18 => .array .int
  | 19 => .array .boolean
  | 20 => .array .int
  | 21 => .array .int
  | 22 => .int
  | 23 => .array .int
  | 24 => .array .int
  | 25 => .array .int
  | 26 => .array .int
  | 27 => .array .int
  | 28 => .array .int
  | 29 => .array .boolean
  | 30 => .int
  | 31 => .array .int
  | 32 => .array .int
  | 33 => .array .int
  | 34 => .boolean
  | 35 => .int
  | 36 => .array .int
  | 37 => .boolean
  | 38 => .array .int
  | 39 => .array .int
  | 40 => .array .int
  | 41 => .array .int
  | 42 => .array .int
  | 43 => .array .int
  | 44 => .array .int
  | 45 => .array .int
  | 46 => .array .int
  | 47 => .array .int
  | 48 => .array .int
  | 49 => .array .int
  | 50 => .array .int
  | _ => .array .int
abbrev wsX120 : List Cond := u_ws RX12 TX12 52
theorem nmX12 : ∀ a, a < 52 → ∀ b, b < 52 → a ≠ b → (TX12 a).2.1 ≠ (TX12 b).2.1 := by decide +kernel
theorem tyX12_ok : ∀ k, k < 52 → parseFieldDescriptor (TX12 k).2.2.1 = some (tyX12 k) := by decide +kernel
abbrev cX12_init : ByteArray := prog_14_method_1_code
def yX12_init : MethodName := ⟨RX12, "<init>", "()V"⟩
abbrev cX12_thrown : ByteArray := prog_14_method_2_code
def yX12_thrown : MethodName := ⟨RX12, "thrown", "()I"⟩
abbrev cX12_func : ByteArray := prog_14_method_3_code
def yX12_func : MethodName := ⟨RX12, "func", "(II)I"⟩
abbrev cX12_word : ByteArray := prog_14_method_4_code
def yX12_word : MethodName := ⟨RX12, "word", "(II)I"⟩
abbrev cX12_takes : ByteArray := prog_14_method_5_code
def yX12_takes : MethodName := ⟨RX12, "takes", "(II)I"⟩
abbrev cX12_behind : ByteArray := prog_14_method_6_code
def yX12_behind : MethodName := ⟨RX12, "behind", "(III)I"⟩
abbrev cX12_isTold : ByteArray := prog_14_method_7_code
def yX12_isTold : MethodName := ⟨RX12, "isTold", "(III)Z"⟩
abbrev cX12_check : ByteArray := prog_14_method_8_code
def yX12_check : MethodName := ⟨RX12, "check", "()I"⟩
abbrev cX12_checks : ByteArray := prog_14_method_9_code
def yX12_checks : MethodName := ⟨RX12, "checks", "(I)I"⟩
abbrev cX12_looksAt : ByteArray := prog_14_method_10_code
def yX12_looksAt : MethodName := ⟨RX12, "looksAt", "(II)I"⟩
abbrev cX12_comes : ByteArray := prog_14_method_11_code
def yX12_comes : MethodName := ⟨RX12, "comes", "(III)I"⟩
abbrev cX12_depth : ByteArray := prog_14_method_12_code
def yX12_depth : MethodName := ⟨RX12, "depth", "(II)I"⟩
abbrev cX12_place : ByteArray := prog_14_method_13_code
def yX12_place : MethodName := ⟨RX12, "place", "(II)V"⟩
abbrev cX12_tells : ByteArray := prog_14_method_14_code
def yX12_tells : MethodName := ⟨RX12, "tells", "(I)V"⟩
abbrev cX12_writes : ByteArray := prog_14_method_15_code
def yX12_writes : MethodName := ⟨RX12, "writes", "(I)Z"⟩
abbrev cX12_isJump : ByteArray := prog_14_method_16_code
def yX12_isJump : MethodName := ⟨RX12, "isJump", "(I)Z"⟩
abbrev cX12_lays : ByteArray := prog_14_method_17_code
def yX12_lays : MethodName := ⟨RX12, "lays", "(I)V"⟩
abbrev cX12_lay : ByteArray := prog_14_method_18_code
def yX12_lay : MethodName := ⟨RX12, "lay", "(IIII)V"⟩
abbrev cX12_forwards : ByteArray := prog_14_method_19_code
def yX12_forwards : MethodName := ⟨RX12, "forwards", "()V"⟩
abbrev cX12_forward : ByteArray := prog_14_method_20_code
def yX12_forward : MethodName := ⟨RX12, "forward", "(I)V"⟩
abbrev cX12_forgets : ByteArray := prog_14_method_21_code
def yX12_forgets : MethodName := ⟨RX12, "forgets", "(I)V"⟩
abbrev cX12_liveBehind : ByteArray := prog_14_method_22_code
def yX12_liveBehind : MethodName := ⟨RX12, "liveBehind", "(I)I"⟩
abbrev cX12_liveAhead : ByteArray := prog_14_method_23_code
def yX12_liveAhead : MethodName := ⟨RX12, "liveAhead", "(I)I"⟩
abbrev cX12_lives : ByteArray := prog_14_method_24_code
def yX12_lives : MethodName := ⟨RX12, "lives", "()V"⟩
abbrev cX12_isLeftOut : ByteArray := prog_14_method_25_code
def yX12_isLeftOut : MethodName := ⟨RX12, "isLeftOut", "(I)Z"⟩
abbrev cX12_leavesOut : ByteArray := prog_14_method_26_code
def yX12_leavesOut : MethodName := ⟨RX12, "leavesOut", "()V"⟩
abbrev cX12_closesUp : ByteArray := prog_14_method_27_code
def yX12_closesUp : MethodName := ⟨RX12, "closesUp", "(I)V"⟩
abbrev cX12_spans : ByteArray := prog_14_method_28_code
def yX12_spans : MethodName := ⟨RX12, "spans", "(I)V"⟩
abbrev cX12_scans : ByteArray := prog_14_method_29_code
def yX12_scans : MethodName := ⟨RX12, "scans", "(II)V"⟩
abbrev cX12_emit : ByteArray := prog_14_method_30_code
def yX12_emit : MethodName := ⟨RX12, "emit", "(IIIII)V"⟩
abbrev cX12_registerOf : ByteArray := prog_14_method_31_code
def yX12_registerOf : MethodName := ⟨RX12, "registerOf", "(I)I"⟩
abbrev cX12_slotOf : ByteArray := prog_14_method_32_code
def yX12_slotOf : MethodName := ⟨RX12, "slotOf", "(I)I"⟩
abbrev cX12_read : ByteArray := prog_14_method_33_code
def yX12_read : MethodName := ⟨RX12, "read", "(II)I"⟩
abbrev cX12_written : ByteArray := prog_14_method_34_code
def yX12_written : MethodName := ⟨RX12, "written", "(I)I"⟩
abbrev cX12_saved : ByteArray := prog_14_method_35_code
def yX12_saved : MethodName := ⟨RX12, "saved", "(I)V"⟩
abbrev cX12_codes : ByteArray := prog_14_method_36_code
def yX12_codes : MethodName := ⟨RX12, "codes", "(I)V"⟩
abbrev cX12_codePlace : ByteArray := prog_14_method_37_code
def yX12_codePlace : MethodName := ⟨RX12, "codePlace", "(I)V"⟩
abbrev cX12_moves : ByteArray := prog_14_method_38_code
def yX12_moves : MethodName := ⟨RX12, "moves", "(II)V"⟩
abbrev cX12_swaps : ByteArray := prog_14_method_39_code
def yX12_swaps : MethodName := ⟨RX12, "swaps", "(IIII)V"⟩
abbrev cX12_into : ByteArray := prog_14_method_40_code
def yX12_into : MethodName := ⟨RX12, "into", "(II)V"⟩
abbrev cX12_outOf : ByteArray := prog_14_method_41_code
def yX12_outOf : MethodName := ⟨RX12, "outOf", "(II)V"⟩
abbrev cX12_turn : ByteArray := prog_14_method_42_code
def yX12_turn : MethodName := ⟨RX12, "turn", "(I)I"⟩
abbrev cX12_begin : ByteArray := prog_14_method_43_code
def yX12_begin : MethodName := ⟨RX12, "begin", "()V"⟩
abbrev cX12_enters : ByteArray := prog_14_method_44_code
def yX12_enters : MethodName := ⟨RX12, "enters", "(II)V"⟩
abbrev cX12_ends : ByteArray := prog_14_method_45_code
def yX12_ends : MethodName := ⟨RX12, "ends", "(II)V"⟩
abbrev cX12_over : ByteArray := prog_14_method_46_code
def yX12_over : MethodName := ⟨RX12, "over", "(II)V"⟩
abbrev cX12_push : ByteArray := prog_14_method_47_code
def yX12_push : MethodName := ⟨RX12, "push", "(I)V"⟩
abbrev cX12_pop : ByteArray := prog_14_method_48_code
def yX12_pop : MethodName := ⟨RX12, "pop", "()I"⟩
abbrev cX12_works : ByteArray := prog_14_method_49_code
def yX12_works : MethodName := ⟨RX12, "works", "(III)I"⟩
abbrev cX12_stepStack : ByteArray := prog_14_method_50_code
def yX12_stepStack : MethodName := ⟨RX12, "stepStack", "()V"⟩
abbrev cX12_swapTop : ByteArray := prog_14_method_51_code
def yX12_swapTop : MethodName := ⟨RX12, "swapTop", "()V"⟩
abbrev cX12_callStack : ByteArray := prog_14_method_52_code
def yX12_callStack : MethodName := ⟨RX12, "callStack", "(I)V"⟩
abbrev cX12_isCell : ByteArray := prog_14_method_53_code
def yX12_isCell : MethodName := ⟨RX12, "isCell", "(I)Z"⟩
abbrev cX12_readStack : ByteArray := prog_14_method_54_code
def yX12_readStack : MethodName := ⟨RX12, "readStack", "()V"⟩
abbrev cX12_writeStack : ByteArray := prog_14_method_55_code
def yX12_writeStack : MethodName := ⟨RX12, "writeStack", "()V"⟩
abbrev cX12_workStack : ByteArray := prog_14_method_56_code
def yX12_workStack : MethodName := ⟨RX12, "workStack", "(I)V"⟩
abbrev cX12_stepRegisters : ByteArray := prog_14_method_57_code
def yX12_stepRegisters : MethodName := ⟨RX12, "stepRegisters", "()V"⟩
abbrev cX12_stepCall : ByteArray := prog_14_method_58_code
def yX12_stepCall : MethodName := ⟨RX12, "stepCall", "(IIII)V"⟩
abbrev cX12_run : ByteArray := prog_14_method_59_code
def yX12_run : MethodName := ⟨RX12, "run", "(II)I"⟩
abbrev cX12_runStack : ByteArray := prog_14_method_60_code
def yX12_runStack : MethodName := ⟨RX12, "runStack", "(I)I"⟩
abbrev cX12_runRegisters : ByteArray := prog_14_method_61_code
def yX12_runRegisters : MethodName := ⟨RX12, "runRegisters", "(I)I"⟩
abbrev cX12_again : ByteArray := prog_14_method_62_code
def yX12_again : MethodName := ⟨RX12, "again", "()Z"⟩
abbrev cX12_cell : ByteArray := prog_14_method_63_code
def yX12_cell : MethodName := ⟨RX12, "cell", "(II)Z"⟩
abbrev cX12_clear : ByteArray := prog_14_method_64_code
def yX12_clear : MethodName := ⟨RX12, "clear", "()V"⟩
abbrev cX12_op : ByteArray := prog_14_method_65_code
def yX12_op : MethodName := ⟨RX12, "op", "(III)I"⟩
abbrev cX12_isFunc : ByteArray := prog_14_method_66_code
def yX12_isFunc : MethodName := ⟨RX12, "isFunc", "(I)Z"⟩
abbrev cX12_size : ByteArray := prog_14_method_67_code
def yX12_size : MethodName := ⟨RX12, "size", "(I)I"⟩
abbrev cX12_value : ByteArray := prog_14_method_68_code
def yX12_value : MethodName := ⟨RX12, "value", "(III)I"⟩
abbrev cX12_slots : ByteArray := prog_14_method_69_code
def yX12_slots : MethodName := ⟨RX12, "slots", "(I)I"⟩
abbrev cX12_places : ByteArray := prog_14_method_70_code
def yX12_places : MethodName := ⟨RX12, "places", "(I)I"⟩
abbrev cX12_look : ByteArray := prog_14_method_71_code
def yX12_look : MethodName := ⟨RX12, "look", "(II)I"⟩
abbrev cX12_peek : ByteArray := prog_14_method_72_code
def yX12_peek : MethodName := ⟨RX12, "peek", "(II)I"⟩
abbrev cX12_count : ByteArray := prog_14_method_73_code
def yX12_count : MethodName := ⟨RX12, "count", "(I)I"⟩
def RJx8e188 : String := "java/lang/Cloneable"
def TJx8e188 : u_T := fun k => match k with
  | _ => ("", "", "", false)
def tyJx8e188 : Nat → FieldType := fun k => match k with
  | _ => .int
abbrev wsJx8e1880 : List Cond := u_ws RJx8e188 TJx8e188 0
theorem nmJx8e188 : ∀ a, a < 0 → ∀ b, b < 0 → a ≠ b → (TJx8e188 a).2.1 ≠ (TJx8e188 b).2.1 := by decide +kernel
theorem tyJx8e188_ok : ∀ k, k < 0 → parseFieldDescriptor (TJx8e188 k).2.2.1 = some (tyJx8e188 k) := by decide +kernel
def RJ9 : String := "java/lang/Math"
def TJ9 : u_T := fun k => match k with
  | _ => ("", "", "", false)
def tyJ9 : Nat → FieldType := fun k => match k with
  | _ => .int
abbrev wsJ90 : List Cond := u_ws RJ9 TJ9 0
theorem nmJ9 : ∀ a, a < 0 → ∀ b, b < 0 → a ≠ b → (TJ9 a).2.1 ≠ (TJ9 b).2.1 := by decide +kernel
theorem tyJ9_ok : ∀ k, k < 0 → parseFieldDescriptor (TJ9 k).2.2.1 = some (tyJ9 k) := by decide +kernel
abbrev cJ9_max_7cf53 : ByteArray := prog_17_method_65_code
def yJ9_max_7cf53 : MethodName := ⟨RJ9, "max", "(II)I"⟩
abbrev cJ9_min_7cf53 : ByteArray := prog_17_method_69_code
def yJ9_min_7cf53 : MethodName := ⟨RJ9, "min", "(II)I"⟩
def RJ0 : String := "java/lang/String"
def TJ0 : u_T := fun k => match k with
  | _ => ("", "", "", false)
def tyJ0 : Nat → FieldType := fun k => match k with
  | _ => .int
abbrev wsJ00 : List Cond := u_ws RJ0 TJ0 0
theorem nmJ0 : ∀ a, a < 0 → ∀ b, b < 0 → a ≠ b → (TJ0 a).2.1 ≠ (TJ0 b).2.1 := by decide +kernel
theorem tyJ0_ok : ∀ k, k < 0 → parseFieldDescriptor (TJ0 k).2.2.1 = some (tyJ0 k) := by decide +kernel
def RJ10 : String := "java/lang/System"
def TJ10 : u_T := fun k => match k with
  | _ => ("", "", "", false)
def tyJ10 : Nat → FieldType := fun k => match k with
  | _ => .int
abbrev wsJ100 : List Cond := u_ws RJ10 TJ10 0
theorem nmJ10 : ∀ a, a < 0 → ∀ b, b < 0 → a ≠ b → (TJ10 a).2.1 ≠ (TJ10 b).2.1 := by decide +kernel
theorem tyJ10_ok : ∀ k, k < 0 → parseFieldDescriptor (TJ10 k).2.2.1 = some (tyJ10 k) := by decide +kernel
def RJ7 : String := "java/util/Arrays"
def TJ7 : u_T := fun k => match k with
  | _ => ("", "", "", false)
def tyJ7 : Nat → FieldType := fun k => match k with
  | _ => .int
abbrev wsJ70 : List Cond := u_ws RJ7 TJ7 0
theorem nmJ7 : ∀ a, a < 0 → ∀ b, b < 0 → a ≠ b → (TJ7 a).2.1 ≠ (TJ7 b).2.1 := by decide +kernel
theorem tyJ7_ok : ∀ k, k < 0 → parseFieldDescriptor (TJ7 k).2.2.1 = some (tyJ7 k) := by decide +kernel
abbrev cJ7_fill_53178 : ByteArray := prog_22_method_103_code
def yJ7_fill_53178 : MethodName := ⟨RJ7, "fill", "([II)V"⟩
abbrev cJ7_copyOf_59c91 : ByteArray := prog_22_method_123_code
def yJ7_copyOf_59c91 : MethodName := ⟨RJ7, "copyOf", "([II)[I"⟩
def RL : String := "RegisterMillLaw"
abbrev cL_op : ByteArray := method_3_code
def yL_op : MethodName := ⟨RL, "op", "(LRegisterMill;III[J)I"⟩
abbrev cL_peek : ByteArray := method_4_code
def yL_peek : MethodName := ⟨RL, "peek", "(LRegisterMill;II[J)I"⟩
abbrev cL_law : ByteArray := code
def yL_law : MethodName := ⟨RL, "law", "([I)Z"⟩
def wsX0_init : List Cond := .code yX0_init cX0_init 2 none :: ([.methodLink RX0 3 objectInit, .instanceMethod objectInit, .code objectInit ⟨#[0xb1]⟩ 1 none, .arrayClass .boolean, .fieldLink RX0 9 "RegisterMill$Checker" "passed" "[Z", .fieldLink RX0 15 "RegisterMill$Checker" "program" "LRegisterMill$Program;"] ++ wsX00)
def wsX0_leastWaiting : List Cond := .code yX0_leastWaiting cX0_leastWaiting 4 (some .int) :: ([.fieldLink RX0 39 "RegisterMill$Checker" "lowest" "I", .fieldLink RX0 15 "RegisterMill$Checker" "program" "LRegisterMill$Program;", .fieldLink RX0 36 "RegisterMill$Program" "depths" "[I", .fieldLink RX0 9 "RegisterMill$Checker" "passed" "[Z"] ++ wsX00 ++ wsX60)
def wsX6_hasFunc : List Cond := .code yX6_hasFunc cX6_hasFunc 2 (some .boolean) :: ([.fieldLink RX6 33 "RegisterMill$Program" "funcs" "I"] ++ wsX60)
def wsX0_isFormed : List Cond := .code yX0_isFormed cX0_isFormed 4 (some .boolean) :: ([.fieldLink RX0 15 "RegisterMill$Checker" "program" "LRegisterMill$Program;", .fieldLink RX0 68 "RegisterMill$Program" "locals" "[I", .fieldLink RX0 25 "RegisterMill$Program" "lengths" "[I", .methodLink RX0 71 yX6_hasFunc, .instanceMethod yX6_hasFunc, .selects RX6 yX6_hasFunc yX6_hasFunc, .initialized RX6, .code yX6_hasFunc cX6_hasFunc 2 (some .boolean), .fieldLink RX6 33 "RegisterMill$Program" "funcs" "I"] ++ wsX00 ++ wsX60)
def wsX6_takes : List Cond := .code yX6_takes cX6_takes 3 (some .int) :: ([.fieldLink RX6 9 "RegisterMill$Program" "args" "[I"] ++ wsX60)
def wsX0_reach : List Cond := .code yX0_reach cX0_reach 5 (some .boolean) :: ([.fieldLink RX0 15 "RegisterMill$Checker" "program" "LRegisterMill$Program;", .fieldLink RX0 33 "RegisterMill$Program" "starts" "[I", .fieldLink RX0 36 "RegisterMill$Program" "depths" "[I", .fieldLink RX0 39 "RegisterMill$Checker" "lowest" "I", .methodLink RX0 75 Lib.Math.min.name, .static Lib.Math.min.name, .initialized "java/lang/Math", .code Lib.Math.min.name Lib.Math.min.code 2 (some .int)] ++ wsX00 ++ wsX60)
def wsX0_faultOfWord_r1 : List Cond := [Cond.fieldLink RX0 15 "RegisterMill$Checker" "program" "LRegisterMill$Program;", Cond.fieldLink RX0 33 "RegisterMill$Program" "starts" "[I", Cond.fieldLink RX0 49 "RegisterMill$Program" "ops" "[I", Cond.fieldLink RX0 52 "RegisterMill$Program" "numbers" "[I", Cond.fieldLink RX0 36 "RegisterMill$Program" "depths" "[I", Cond.fieldLink RX0 25 "RegisterMill$Program" "lengths" "[I", Cond.methodLink RX0 55 yX0_isFormed, Cond.instanceMethod yX0_isFormed, Cond.selects RX0 yX0_isFormed yX0_isFormed, Cond.initialized RX0, Cond.code yX0_isFormed cX0_isFormed 4 (some .boolean), Cond.fieldLink RX0 68 "RegisterMill$Program" "locals" "[I", Cond.methodLink RX0 71 yX6_hasFunc, Cond.instanceMethod yX6_hasFunc, Cond.selects RX6 yX6_hasFunc yX6_hasFunc, Cond.initialized RX6, Cond.code yX6_hasFunc cX6_hasFunc 2 (some .boolean), Cond.fieldLink RX6 33 "RegisterMill$Program" "funcs" "I", Cond.methodLink RX0 59 yX6_takes, Cond.instanceMethod yX6_takes, Cond.selects RX6 yX6_takes yX6_takes, Cond.code yX6_takes cX6_takes 3 (some .int), Cond.fieldLink RX6 9 "RegisterMill$Program" "args" "[I", Cond.methodLink RX0 65 yX0_reach]
def wsX0_faultOfWord_r2 : List Cond := [Cond.instanceMethod yX0_reach, Cond.selects RX0 yX0_reach yX0_reach, Cond.code yX0_reach cX0_reach 5 (some .boolean), Cond.fieldLink RX0 39 "RegisterMill$Checker" "lowest" "I", Cond.methodLink RX0 75 Lib.Math.min.name, Cond.static Lib.Math.min.name, Cond.initialized "java/lang/Math", Cond.code Lib.Math.min.name Lib.Math.min.code 2 (some .int)]
def wsX0_faultOfWord : List Cond := .code yX0_faultOfWord cX0_faultOfWord 8 (some .int) :: ((wsX0_faultOfWord_r1 ++ wsX0_faultOfWord_r2) ++ wsX00 ++ wsX60)
def wsX0_faultOfFunc_r1 : List Cond := [Cond.fieldLink RX0 15 "RegisterMill$Checker" "program" "LRegisterMill$Program;", Cond.fieldLink RX0 33 "RegisterMill$Program" "starts" "[I", Cond.fieldLink RX0 25 "RegisterMill$Program" "lengths" "[I", Cond.fieldLink RX0 36 "RegisterMill$Program" "depths" "[I", Cond.fieldLink RX0 9 "RegisterMill$Checker" "passed" "[Z", Cond.fieldLink RX0 39 "RegisterMill$Checker" "lowest" "I", Cond.methodLink RX0 42 yX0_leastWaiting, Cond.instanceMethod yX0_leastWaiting, Cond.selects RX0 yX0_leastWaiting yX0_leastWaiting, Cond.initialized RX0, Cond.code yX0_leastWaiting cX0_leastWaiting 4 (some .int), Cond.methodLink RX0 46 yX0_faultOfWord, Cond.instanceMethod yX0_faultOfWord, Cond.selects RX0 yX0_faultOfWord yX0_faultOfWord, Cond.code yX0_faultOfWord cX0_faultOfWord 8 (some .int), Cond.fieldLink RX0 49 "RegisterMill$Program" "ops" "[I", Cond.fieldLink RX0 52 "RegisterMill$Program" "numbers" "[I", Cond.methodLink RX0 55 yX0_isFormed, Cond.instanceMethod yX0_isFormed, Cond.selects RX0 yX0_isFormed yX0_isFormed, Cond.code yX0_isFormed cX0_isFormed 4 (some .boolean), Cond.fieldLink RX0 68 "RegisterMill$Program" "locals" "[I", Cond.methodLink RX0 71 yX6_hasFunc, Cond.instanceMethod yX6_hasFunc]
def wsX0_faultOfFunc_r2 : List Cond := [Cond.selects RX6 yX6_hasFunc yX6_hasFunc, Cond.initialized RX6, Cond.code yX6_hasFunc cX6_hasFunc 2 (some .boolean), Cond.fieldLink RX6 33 "RegisterMill$Program" "funcs" "I", Cond.methodLink RX0 59 yX6_takes, Cond.instanceMethod yX6_takes, Cond.selects RX6 yX6_takes yX6_takes, Cond.code yX6_takes cX6_takes 3 (some .int), Cond.fieldLink RX6 9 "RegisterMill$Program" "args" "[I", Cond.methodLink RX0 65 yX0_reach, Cond.instanceMethod yX0_reach, Cond.selects RX0 yX0_reach yX0_reach, Cond.code yX0_reach cX0_reach 5 (some .boolean), Cond.methodLink RX0 75 Lib.Math.min.name, Cond.static Lib.Math.min.name, Cond.initialized "java/lang/Math", Cond.code Lib.Math.min.name Lib.Math.min.code 2 (some .int)]
def wsX0_faultOfFunc : List Cond := .code yX0_faultOfFunc cX0_faultOfFunc 7 (some .int) :: ((wsX0_faultOfFunc_r1 ++ wsX0_faultOfFunc_r2) ++ wsX00 ++ wsX60)
def wsX0_firstFault_r1 : List Cond := [Cond.fieldLink RX0 15 "RegisterMill$Checker" "program" "LRegisterMill$Program;", Cond.fieldLink RX0 19 "RegisterMill$Program" "funcs" "I", Cond.fieldLink RX0 25 "RegisterMill$Program" "lengths" "[I", Cond.methodLink RX0 29 yX0_faultOfFunc, Cond.instanceMethod yX0_faultOfFunc, Cond.selects RX0 yX0_faultOfFunc yX0_faultOfFunc, Cond.initialized RX0, Cond.code yX0_faultOfFunc cX0_faultOfFunc 7 (some .int), Cond.fieldLink RX0 33 "RegisterMill$Program" "starts" "[I", Cond.fieldLink RX0 36 "RegisterMill$Program" "depths" "[I", Cond.fieldLink RX0 9 "RegisterMill$Checker" "passed" "[Z", Cond.fieldLink RX0 39 "RegisterMill$Checker" "lowest" "I", Cond.methodLink RX0 42 yX0_leastWaiting, Cond.instanceMethod yX0_leastWaiting, Cond.selects RX0 yX0_leastWaiting yX0_leastWaiting, Cond.code yX0_leastWaiting cX0_leastWaiting 4 (some .int), Cond.methodLink RX0 46 yX0_faultOfWord, Cond.instanceMethod yX0_faultOfWord, Cond.selects RX0 yX0_faultOfWord yX0_faultOfWord, Cond.code yX0_faultOfWord cX0_faultOfWord 8 (some .int), Cond.fieldLink RX0 49 "RegisterMill$Program" "ops" "[I", Cond.fieldLink RX0 52 "RegisterMill$Program" "numbers" "[I", Cond.methodLink RX0 55 yX0_isFormed, Cond.instanceMethod yX0_isFormed]
def wsX0_firstFault_r2 : List Cond := [Cond.selects RX0 yX0_isFormed yX0_isFormed, Cond.code yX0_isFormed cX0_isFormed 4 (some .boolean), Cond.fieldLink RX0 68 "RegisterMill$Program" "locals" "[I", Cond.methodLink RX0 71 yX6_hasFunc, Cond.instanceMethod yX6_hasFunc, Cond.selects RX6 yX6_hasFunc yX6_hasFunc, Cond.initialized RX6, Cond.code yX6_hasFunc cX6_hasFunc 2 (some .boolean), Cond.fieldLink RX6 33 "RegisterMill$Program" "funcs" "I", Cond.methodLink RX0 59 yX6_takes, Cond.instanceMethod yX6_takes, Cond.selects RX6 yX6_takes yX6_takes, Cond.code yX6_takes cX6_takes 3 (some .int), Cond.fieldLink RX6 9 "RegisterMill$Program" "args" "[I", Cond.methodLink RX0 65 yX0_reach, Cond.instanceMethod yX0_reach, Cond.selects RX0 yX0_reach yX0_reach, Cond.code yX0_reach cX0_reach 5 (some .boolean), Cond.methodLink RX0 75 Lib.Math.min.name, Cond.static Lib.Math.min.name, Cond.initialized "java/lang/Math", Cond.code Lib.Math.min.name Lib.Math.min.code 2 (some .int)]
def wsX0_firstFault : List Cond := .code yX0_firstFault cX0_firstFault 3 (some .int) :: ((wsX0_firstFault_r1 ++ wsX0_firstFault_r2) ++ wsX00 ++ wsX60)
def wsX1_init : List Cond := .code yX1_init cX1_init 1 none :: ([.methodLink RX1 3 objectInit, .instanceMethod objectInit, .code objectInit ⟨#[0xb1]⟩ 1 none, .arrayClass .int, .fieldLink RX1 9 "RegisterMill$Code" "starts" "[I", .fieldLink RX1 15 "RegisterMill$Code" "sizes" "[I", .fieldLink RX1 18 "RegisterMill$Code" "parts" "[I"] ++ wsX10)
def wsJ7_copyOf_59c91 : List Cond := .code yJ7_copyOf_59c91 cJ7_copyOf_59c91 3 (some (.array .int)) :: ([.methodLink RJ7 316 ⟨"[I", "clone", "()Ljava/lang/Object;"⟩, .sameMethod "[I" "java/lang/Object" "clone" "()Ljava/lang/Object;", .native ⟨"java/lang/Object", "clone", "()Ljava/lang/Object;"⟩, .instanceMethod ⟨"java/lang/Object", "clone", "()Ljava/lang/Object;"⟩, .selects "[I" ⟨"[I", "clone", "()Ljava/lang/Object;"⟩ ⟨"java/lang/Object", "clone", "()Ljava/lang/Object;"⟩, .classLink RJ7 317 "[I", .arrayClass .int, .methodLink RJ7 304 Lib.Math.min.name, .static Lib.Math.min.name, .initialized "java/lang/Math", .code Lib.Math.min.name Lib.Math.min.code 2 (some .int), .methodLink RJ7 150 arraycopyName, .native arraycopyName, .static arraycopyName, .initialized "java/lang/System"])
def wsX1_open_r1 : List Cond := [Cond.fieldLink RX1 21 "RegisterMill$Code" "total" "I", Cond.fieldLink RX1 18 "RegisterMill$Code" "parts" "[I", Cond.methodLink RX1 25 Lib.Math.max.name, Cond.static Lib.Math.max.name, Cond.initialized "java/lang/Math", Cond.code Lib.Math.max.name Lib.Math.max.code 2 (some .int), Cond.fieldLink RX1 9 "RegisterMill$Code" "starts" "[I", Cond.fieldLink RX1 15 "RegisterMill$Code" "sizes" "[I", Cond.methodLink RX1 31 yJ7_copyOf_59c91, Cond.static yJ7_copyOf_59c91, Cond.initialized RJ7, Cond.code yJ7_copyOf_59c91 cJ7_copyOf_59c91 3 (some (.array .int)), Cond.methodLink RJ7 316 ⟨"[I", "clone", "()Ljava/lang/Object;"⟩, Cond.sameMethod "[I" "java/lang/Object" "clone" "()Ljava/lang/Object;", Cond.native ⟨"java/lang/Object", "clone", "()Ljava/lang/Object;"⟩, Cond.instanceMethod ⟨"java/lang/Object", "clone", "()Ljava/lang/Object;"⟩, Cond.selects "[I" ⟨"[I", "clone", "()Ljava/lang/Object;"⟩ ⟨"java/lang/Object", "clone", "()Ljava/lang/Object;"⟩, Cond.classLink RJ7 317 "[I", Cond.arrayClass .int, Cond.methodLink RJ7 304 Lib.Math.min.name, Cond.static Lib.Math.min.name, Cond.code Lib.Math.min.name Lib.Math.min.code 2 (some .int), Cond.methodLink RJ7 150 arraycopyName, Cond.native arraycopyName]
def wsX1_open_r2 : List Cond := [Cond.static arraycopyName, Cond.initialized "java/lang/System"]
def wsX1_open : List Cond := .code yX1_open cX1_open 4 none :: ((wsX1_open_r1 ++ wsX1_open_r2) ++ wsX10)
def wsX1_add : List Cond := .code yX1_add cX1_add 6 none :: ([.fieldLink RX1 21 "RegisterMill$Code" "total" "I", .fieldLink RX1 18 "RegisterMill$Code" "parts" "[I", .fieldLink RX1 15 "RegisterMill$Code" "sizes" "[I"] ++ wsX10)
def wsX1_addWork : List Cond := .code yX1_addWork cX1_addWork 7 none :: ([.fieldLink RX1 21 "RegisterMill$Code" "total" "I", .fieldLink RX1 18 "RegisterMill$Code" "parts" "[I", .methodLink RX1 37 yX1_add, .instanceMethod yX1_add, .selects RX1 yX1_add yX1_add, .initialized RX1, .code yX1_add cX1_add 6 none, .fieldLink RX1 15 "RegisterMill$Code" "sizes" "[I"] ++ wsX10)
def wsX1_part : List Cond := .code yX1_part cX1_part 4 (some .int) :: ([.fieldLink RX1 18 "RegisterMill$Code" "parts" "[I", .fieldLink RX1 9 "RegisterMill$Code" "starts" "[I"] ++ wsX10)
def wsX1_aim : List Cond := .code yX1_aim cX1_aim 5 none :: ([.fieldLink RX1 15 "RegisterMill$Code" "sizes" "[I", .fieldLink RX1 9 "RegisterMill$Code" "starts" "[I", .fieldLink RX1 18 "RegisterMill$Code" "parts" "[I"] ++ wsX10)
def wsX2_init : List Cond := .code yX2_init cX2_init 1 none :: ([.methodLink RX2 3 objectInit, .instanceMethod objectInit, .code objectInit ⟨#[0xb1]⟩ 1 none, .arrayClass .int, .fieldLink RX2 9 "RegisterMill$Homes" "firsts" "[I", .fieldLink RX2 15 "RegisterMill$Homes" "lasts" "[I", .fieldLink RX2 18 "RegisterMill$Homes" "registers" "[I", .fieldLink RX2 21 "RegisterMill$Homes" "slotNumbers" "[I", .fieldLink RX2 24 "RegisterMill$Homes" "slotCounts" "[I", .fieldLink RX2 27 "RegisterMill$Homes" "holders" "[I"] ++ wsX20)
def wsX2_registerOf : List Cond := .code yX2_registerOf cX2_registerOf 3 (some .int) :: ([.fieldLink RX2 18 "RegisterMill$Homes" "registers" "[I"] ++ wsX20)
def wsX2_slotOf : List Cond := .code yX2_slotOf cX2_slotOf 3 (some .int) :: ([.fieldLink RX2 21 "RegisterMill$Homes" "slotNumbers" "[I"] ++ wsX20)
def wsX2_tell : List Cond := .code yX2_tell cX2_tell 5 (some .int) :: ([.fieldLink RX2 9 "RegisterMill$Homes" "firsts" "[I", .fieldLink RX2 15 "RegisterMill$Homes" "lasts" "[I", .fieldLink RX2 18 "RegisterMill$Homes" "registers" "[I", .fieldLink RX2 21 "RegisterMill$Homes" "slotNumbers" "[I"] ++ wsX20)
def wsJ7_fill_53178 : List Cond := .code yJ7_fill_53178 cJ7_fill_53178 4 none :: ([])
def wsX2_forget : List Cond := .code yX2_forget cX2_forget 3 none :: ([.fieldLink RX2 9 "RegisterMill$Homes" "firsts" "[I", .fieldLink RX2 15 "RegisterMill$Homes" "lasts" "[I", .fieldLink RX2 18 "RegisterMill$Homes" "registers" "[I", .fieldLink RX2 21 "RegisterMill$Homes" "slotNumbers" "[I", .fieldLink RX2 27 "RegisterMill$Homes" "holders" "[I", .methodLink RX2 59 yJ7_fill_53178, .static yJ7_fill_53178, .initialized RJ7, .code yJ7_fill_53178 cJ7_fill_53178 4 none] ++ wsX20)
def wsX5_readSet : List Cond := .code yX5_readSet cX5_readSet 4 (some .int) :: ([.fieldLink RX5 24 "RegisterMill$Places" "readCounts" "[I", .fieldLink RX5 29 "RegisterMill$Places" "reads" "[[I"] ++ wsX50)
def wsX5_writtenSet : List Cond := .code yX5_writtenSet cX5_writtenSet 2 (some .int) :: ([.fieldLink RX5 9 "RegisterMill$Places" "kinds" "[I", .fieldLink RX5 21 "RegisterMill$Places" "written" "[I", .methodLink RX5 92 yX5_readSet, .instanceMethod yX5_readSet, .selects RX5 yX5_readSet yX5_readSet, .initialized RX5, .code yX5_readSet cX5_readSet 4 (some .int), .fieldLink RX5 24 "RegisterMill$Places" "readCounts" "[I", .fieldLink RX5 29 "RegisterMill$Places" "reads" "[[I"] ++ wsX50)
def wsX2_widen : List Cond := .code yX2_widen cX2_widen 5 none :: ([.fieldLink RX2 15 "RegisterMill$Homes" "lasts" "[I", .fieldLink RX2 9 "RegisterMill$Homes" "firsts" "[I"] ++ wsX20)
def wsX2_giveBack : List Cond := .code yX2_giveBack cX2_giveBack 5 none :: ([.fieldLink RX2 27 "RegisterMill$Homes" "holders" "[I", .fieldLink RX2 15 "RegisterMill$Homes" "lasts" "[I"] ++ wsX20)
def wsX2_longestWith : List Cond := .code yX2_longestWith cX2_longestWith 8 (some .int) :: ([.fieldLink RX2 27 "RegisterMill$Homes" "holders" "[I", .fieldLink RX2 15 "RegisterMill$Homes" "lasts" "[I"] ++ wsX20)
def wsX2_giveOne : List Cond := .code yX2_giveOne cX2_giveOne 7 none :: ([.fieldLink RX2 9 "RegisterMill$Homes" "firsts" "[I", .fieldLink RX2 27 "RegisterMill$Homes" "holders" "[I", .fieldLink RX2 18 "RegisterMill$Homes" "registers" "[I", .fieldLink RX2 21 "RegisterMill$Homes" "slotNumbers" "[I", .fieldLink RX2 24 "RegisterMill$Homes" "slotCounts" "[I", .methodLink RX2 65 yX2_giveBack, .instanceMethod yX2_giveBack, .selects RX2 yX2_giveBack yX2_giveBack, .initialized RX2, .code yX2_giveBack cX2_giveBack 5 none, .fieldLink RX2 15 "RegisterMill$Homes" "lasts" "[I", .methodLink RX2 68 yX2_longestWith, .instanceMethod yX2_longestWith, .selects RX2 yX2_longestWith yX2_longestWith, .code yX2_longestWith cX2_longestWith 8 (some .int)] ++ wsX20)
def wsX2_give_r1 : List Cond := [Cond.fieldLink RX2 24 "RegisterMill$Homes" "slotCounts" "[I", Cond.fieldLink RX2 34 "RegisterMill$Places" "total" "I", Cond.fieldLink RX2 40 "RegisterMill$Live" "ahead" "[I", Cond.fieldLink RX2 9 "RegisterMill$Homes" "firsts" "[I", Cond.methodLink RX2 30 yX2_forget, Cond.instanceMethod yX2_forget, Cond.selects RX2 yX2_forget yX2_forget, Cond.initialized RX2, Cond.code yX2_forget cX2_forget 3 none, Cond.fieldLink RX2 15 "RegisterMill$Homes" "lasts" "[I", Cond.fieldLink RX2 18 "RegisterMill$Homes" "registers" "[I", Cond.fieldLink RX2 21 "RegisterMill$Homes" "slotNumbers" "[I", Cond.fieldLink RX2 27 "RegisterMill$Homes" "holders" "[I", Cond.methodLink RX2 59 yJ7_fill_53178, Cond.static yJ7_fill_53178, Cond.initialized RJ7, Cond.code yJ7_fill_53178 cJ7_fill_53178 4 none, Cond.methodLink RX2 45 yX5_readSet, Cond.instanceMethod yX5_readSet, Cond.selects RX5 yX5_readSet yX5_readSet, Cond.initialized RX5, Cond.code yX5_readSet cX5_readSet 4 (some .int), Cond.fieldLink RX5 24 "RegisterMill$Places" "readCounts" "[I", Cond.fieldLink RX5 29 "RegisterMill$Places" "reads" "[[I"]
def wsX2_give_r2 : List Cond := [Cond.methodLink RX2 49 yX5_writtenSet, Cond.instanceMethod yX5_writtenSet, Cond.selects RX5 yX5_writtenSet yX5_writtenSet, Cond.code yX5_writtenSet cX5_writtenSet 2 (some .int), Cond.fieldLink RX5 9 "RegisterMill$Places" "kinds" "[I", Cond.fieldLink RX5 21 "RegisterMill$Places" "written" "[I", Cond.methodLink RX5 92 yX5_readSet, Cond.methodLink RX2 52 yX2_widen, Cond.instanceMethod yX2_widen, Cond.selects RX2 yX2_widen yX2_widen, Cond.code yX2_widen cX2_widen 5 none, Cond.methodLink RX2 56 yX2_giveOne, Cond.instanceMethod yX2_giveOne, Cond.selects RX2 yX2_giveOne yX2_giveOne, Cond.code yX2_giveOne cX2_giveOne 7 none, Cond.methodLink RX2 65 yX2_giveBack, Cond.instanceMethod yX2_giveBack, Cond.selects RX2 yX2_giveBack yX2_giveBack, Cond.code yX2_giveBack cX2_giveBack 5 none, Cond.methodLink RX2 68 yX2_longestWith, Cond.instanceMethod yX2_longestWith, Cond.selects RX2 yX2_longestWith yX2_longestWith, Cond.code yX2_longestWith cX2_longestWith 8 (some .int)]
def wsX2_give : List Cond := .code yX2_give cX2_give 8 none :: ((wsX2_give_r1 ++ wsX2_give_r2) ++ wsX20 ++ wsX50 ++ wsX30)
def wsX3_init : List Cond := .code yX3_init cX3_init 1 none :: ([.methodLink RX3 3 objectInit, .instanceMethod objectInit, .code objectInit ⟨#[0xb1]⟩ 1 none, .arrayClass .int, .fieldLink RX3 9 "RegisterMill$Live" "ahead" "[I", .fieldLink RX3 15 "RegisterMill$Live" "behind" "[I"] ++ wsX30)
def wsX5_goesToNext : List Cond := .code yX5_goesToNext cX5_goesToNext 2 (some .boolean) :: ([.fieldLink RX5 9 "RegisterMill$Places" "kinds" "[I", .fieldLink RX5 42 "RegisterMill$Places" "total" "I"] ++ wsX50)
def wsX5_jumps : List Cond := .code yX5_jumps cX5_jumps 2 (some .boolean) :: ([.fieldLink RX5 9 "RegisterMill$Places" "kinds" "[I"] ++ wsX50)
def wsX3_growBackwards_r1 : List Cond := [Cond.fieldLink RX3 24 "RegisterMill$Places" "total" "I", Cond.fieldLink RX3 9 "RegisterMill$Live" "ahead" "[I", Cond.fieldLink RX3 41 "RegisterMill$Places" "goals" "[I", Cond.fieldLink RX3 15 "RegisterMill$Live" "behind" "[I", Cond.methodLink RX3 34 yX5_goesToNext, Cond.instanceMethod yX5_goesToNext, Cond.selects RX5 yX5_goesToNext yX5_goesToNext, Cond.initialized RX5, Cond.code yX5_goesToNext cX5_goesToNext 2 (some .boolean), Cond.fieldLink RX5 9 "RegisterMill$Places" "kinds" "[I", Cond.fieldLink RX5 42 "RegisterMill$Places" "total" "I", Cond.methodLink RX3 38 yX5_jumps, Cond.instanceMethod yX5_jumps, Cond.selects RX5 yX5_jumps yX5_jumps, Cond.code yX5_jumps cX5_jumps 2 (some .boolean), Cond.methodLink RX3 44 yX5_readSet, Cond.instanceMethod yX5_readSet, Cond.selects RX5 yX5_readSet yX5_readSet, Cond.code yX5_readSet cX5_readSet 4 (some .int), Cond.fieldLink RX5 24 "RegisterMill$Places" "readCounts" "[I", Cond.fieldLink RX5 29 "RegisterMill$Places" "reads" "[[I", Cond.methodLink RX3 48 yX5_writtenSet, Cond.instanceMethod yX5_writtenSet, Cond.selects RX5 yX5_writtenSet yX5_writtenSet]
def wsX3_growBackwards_r2 : List Cond := [Cond.code yX5_writtenSet cX5_writtenSet 2 (some .int), Cond.fieldLink RX5 21 "RegisterMill$Places" "written" "[I", Cond.methodLink RX5 92 yX5_readSet]
def wsX3_growBackwards : List Cond := .code yX3_growBackwards cX3_growBackwards 6 (some .boolean) :: ((wsX3_growBackwards_r1 ++ wsX3_growBackwards_r2) ++ wsX50 ++ wsX30)
def wsX3_find_r1 : List Cond := [Cond.fieldLink RX3 9 "RegisterMill$Live" "ahead" "[I", Cond.fieldLink RX3 24 "RegisterMill$Places" "total" "I", Cond.methodLink RX3 18 yJ7_fill_53178, Cond.static yJ7_fill_53178, Cond.initialized RJ7, Cond.code yJ7_fill_53178 cJ7_fill_53178 4 none, Cond.methodLink RX3 30 yX3_growBackwards, Cond.instanceMethod yX3_growBackwards, Cond.selects RX3 yX3_growBackwards yX3_growBackwards, Cond.initialized RX3, Cond.code yX3_growBackwards cX3_growBackwards 6 (some .boolean), Cond.fieldLink RX3 41 "RegisterMill$Places" "goals" "[I", Cond.fieldLink RX3 15 "RegisterMill$Live" "behind" "[I", Cond.methodLink RX3 34 yX5_goesToNext, Cond.instanceMethod yX5_goesToNext, Cond.selects RX5 yX5_goesToNext yX5_goesToNext, Cond.initialized RX5, Cond.code yX5_goesToNext cX5_goesToNext 2 (some .boolean), Cond.fieldLink RX5 9 "RegisterMill$Places" "kinds" "[I", Cond.fieldLink RX5 42 "RegisterMill$Places" "total" "I", Cond.methodLink RX3 38 yX5_jumps, Cond.instanceMethod yX5_jumps, Cond.selects RX5 yX5_jumps yX5_jumps, Cond.code yX5_jumps cX5_jumps 2 (some .boolean)]
def wsX3_find_r2 : List Cond := [Cond.methodLink RX3 44 yX5_readSet, Cond.instanceMethod yX5_readSet, Cond.selects RX5 yX5_readSet yX5_readSet, Cond.code yX5_readSet cX5_readSet 4 (some .int), Cond.fieldLink RX5 24 "RegisterMill$Places" "readCounts" "[I", Cond.fieldLink RX5 29 "RegisterMill$Places" "reads" "[[I", Cond.methodLink RX3 48 yX5_writtenSet, Cond.instanceMethod yX5_writtenSet, Cond.selects RX5 yX5_writtenSet yX5_writtenSet, Cond.code yX5_writtenSet cX5_writtenSet 2 (some .int), Cond.fieldLink RX5 21 "RegisterMill$Places" "written" "[I", Cond.methodLink RX5 92 yX5_readSet]
def wsX3_find : List Cond := .code yX3_find cX3_find 4 none :: ((wsX3_find_r1 ++ wsX3_find_r2) ++ wsX30 ++ wsX50)
def wsX4_init : List Cond := .code yX4_init cX4_init 1 none :: ([.methodLink RX4 3 objectInit, .instanceMethod objectInit, .code objectInit ⟨#[0xb1]⟩ 1 none, .arrayClass .int, .fieldLink RX4 9 "RegisterMill$Machine" "memory" "[I", .fieldLink RX4 15 "RegisterMill$Machine" "funcs" "[I", .fieldLink RX4 18 "RegisterMill$Machine" "nexts" "[I"] ++ wsX70 ++ wsX80)
def wsX4_begin : List Cond := .code yX4_begin cX4_begin 1 none :: ([.fieldLink RX4 21 "RegisterMill$Machine" "end" "I", .fieldLink RX4 25 "RegisterMill$Machine" "told" "I", .fieldLink RX4 28 "RegisterMill$Machine" "steps" "I", .fieldLink RX4 31 "RegisterMill$Machine" "calls" "I", .fieldLink RX4 34 "RegisterMill$Machine" "nested" "I"] ++ wsX70 ++ wsX80)
def wsX4_finish : List Cond := .code yX4_finish cX4_finish 2 none :: ([.fieldLink RX4 21 "RegisterMill$Machine" "end" "I", .fieldLink RX4 34 "RegisterMill$Machine" "nested" "I"] ++ wsX70 ++ wsX80)
def wsX7_openRoom : List Cond := .code yX7_openRoom cX7_openRoom 6 none :: ([.fieldLink RX7 9 "RegisterMill$RegisterMachine" "registers" "[I", .fieldLink RX7 15 "RegisterMill$RegisterMachine" "slotCells" "[I"] ++ wsX70)
def wsX8_openRoom : List Cond := .code yX8_openRoom cX8_openRoom 6 none :: ([.fieldLink RX8 21 "RegisterMill$StackMachine" "program" "LRegisterMill$Program;", .fieldLink RX8 32 "RegisterMill$Program" "args" "[I", .fieldLink RX8 28 "RegisterMill$StackMachine" "top" "I", .fieldLink RX8 9 "RegisterMill$StackMachine" "locals" "[I", .fieldLink RX8 15 "RegisterMill$StackMachine" "stack" "[I", .fieldLink RX8 18 "RegisterMill$StackMachine" "bottoms" "[I"] ++ wsX80 ++ wsX60)
def wsX4_enter_r1 : List Cond := [Cond.fieldLink RX4 34 "RegisterMill$Machine" "nested" "I", Cond.fieldLink RX4 15 "RegisterMill$Machine" "funcs" "[I", Cond.fieldLink RX4 18 "RegisterMill$Machine" "nexts" "[I", Cond.fieldLink RX4 31 "RegisterMill$Machine" "calls" "I", Cond.methodLink RX4 49 ⟨"RegisterMill$Machine", "finish", "(I)V"⟩, Cond.sameMethod "RegisterMill$Machine" "RegisterMill$Machine" "finish" "(I)V", Cond.selects RX7 ⟨"RegisterMill$Machine", "finish", "(I)V"⟩ yX4_finish, Cond.instanceMethod yX4_finish, Cond.initialized RX4, Cond.code yX4_finish cX4_finish 2 none, Cond.fieldLink RX4 21 "RegisterMill$Machine" "end" "I", Cond.selects RX8 ⟨"RegisterMill$Machine", "finish", "(I)V"⟩ yX4_finish, Cond.methodLink RX4 52 ⟨"RegisterMill$Machine", "openRoom", "(II)V"⟩, Cond.sameMethod "RegisterMill$Machine" "RegisterMill$Machine" "openRoom" "(II)V", Cond.selects RX7 ⟨"RegisterMill$Machine", "openRoom", "(II)V"⟩ yX7_openRoom, Cond.instanceMethod yX7_openRoom, Cond.initialized RX7, Cond.code yX7_openRoom cX7_openRoom 6 none, Cond.fieldLink RX7 9 "RegisterMill$RegisterMachine" "registers" "[I", Cond.fieldLink RX7 15 "RegisterMill$RegisterMachine" "slotCells" "[I", Cond.selects RX8 ⟨"RegisterMill$Machine", "openRoom", "(II)V"⟩ yX8_openRoom, Cond.instanceMethod yX8_openRoom, Cond.initialized RX8, Cond.code yX8_openRoom cX8_openRoom 6 none]
def wsX4_enter_r2 : List Cond := [Cond.fieldLink RX8 21 "RegisterMill$StackMachine" "program" "LRegisterMill$Program;", Cond.fieldLink RX8 32 "RegisterMill$Program" "args" "[I", Cond.fieldLink RX8 28 "RegisterMill$StackMachine" "top" "I", Cond.fieldLink RX8 9 "RegisterMill$StackMachine" "locals" "[I", Cond.fieldLink RX8 15 "RegisterMill$StackMachine" "stack" "[I", Cond.fieldLink RX8 18 "RegisterMill$StackMachine" "bottoms" "[I"]
def wsX4_enter : List Cond := .code yX4_enter cX4_enter 2 none :: ((wsX4_enter_r1 ++ wsX4_enter_r2) ++ wsX70 ++ wsX80 ++ wsX60)
def wsX4_room : List Cond := .code yX4_room cX4_room 1 (some .int) :: ([.fieldLink RX4 34 "RegisterMill$Machine" "nested" "I"] ++ wsX70 ++ wsX80)
def wsX4_canReckon : List Cond := .code yX4_canReckon cX4_canReckon 3 (some .boolean) :: ([.methodLink RX4 49 ⟨"RegisterMill$Machine", "finish", "(I)V"⟩, .sameMethod "RegisterMill$Machine" "RegisterMill$Machine" "finish" "(I)V", .selects RX7 ⟨"RegisterMill$Machine", "finish", "(I)V"⟩ yX4_finish, .instanceMethod yX4_finish, .initialized RX4, .code yX4_finish cX4_finish 2 none, .fieldLink RX4 21 "RegisterMill$Machine" "end" "I", .fieldLink RX4 34 "RegisterMill$Machine" "nested" "I", .selects RX8 ⟨"RegisterMill$Machine", "finish", "(I)V"⟩ yX4_finish] ++ wsX70 ++ wsX80)
def wsX11_reckon : List Cond := .code yX11_reckon cX11_reckon 3 (some .int) :: ([])
def wsX7_work_r1 : List Cond := [Cond.fieldLink RX7 21 "RegisterMill$RegisterMachine" "code" "LRegisterMill$Code;", Cond.fieldLink RX7 9 "RegisterMill$RegisterMachine" "registers" "[I", Cond.methodLink RX7 38 yX1_part, Cond.instanceMethod yX1_part, Cond.selects RX1 yX1_part yX1_part, Cond.initialized RX1, Cond.code yX1_part cX1_part 4 (some .int), Cond.fieldLink RX1 18 "RegisterMill$Code" "parts" "[I", Cond.fieldLink RX1 9 "RegisterMill$Code" "starts" "[I", Cond.methodLink RX7 72 ⟨"RegisterMill$RegisterMachine", "canReckon", "(II)Z"⟩, Cond.sameMethod "RegisterMill$RegisterMachine" "RegisterMill$Machine" "canReckon" "(II)Z", Cond.selects RX7 ⟨"RegisterMill$RegisterMachine", "canReckon", "(II)Z"⟩ yX4_canReckon, Cond.instanceMethod yX4_canReckon, Cond.initialized RX4, Cond.code yX4_canReckon cX4_canReckon 3 (some .boolean), Cond.methodLink RX4 49 ⟨"RegisterMill$Machine", "finish", "(I)V"⟩, Cond.sameMethod "RegisterMill$Machine" "RegisterMill$Machine" "finish" "(I)V", Cond.selects RX7 ⟨"RegisterMill$Machine", "finish", "(I)V"⟩ yX4_finish, Cond.instanceMethod yX4_finish, Cond.code yX4_finish cX4_finish 2 none, Cond.fieldLink RX4 21 "RegisterMill$Machine" "end" "I", Cond.fieldLink RX4 34 "RegisterMill$Machine" "nested" "I", Cond.selects RX8 ⟨"RegisterMill$Machine", "finish", "(I)V"⟩ yX4_finish, Cond.static yX11_reckon]
def wsX7_work_r2 : List Cond := [Cond.initialized RX11, Cond.code yX11_reckon cX11_reckon 3 (some .int)]
def wsX7_work : List Cond := .code yX7_work cX7_work 7 none :: ((wsX7_work_r1 ++ wsX7_work_r2) ++ wsX70 ++ wsX10 ++ wsX80)
def wsX7_swap : List Cond := .code yX7_swap cX7_swap 4 none :: ([.fieldLink RX7 9 "RegisterMill$RegisterMachine" "registers" "[I"] ++ wsX70)
def wsX4_jump : List Cond := .code yX4_jump cX4_jump 2 none :: ([.fieldLink RX4 18 "RegisterMill$Machine" "nexts" "[I", .methodLink RX4 41 ⟨"RegisterMill$Machine", "room", "()I"⟩, .sameMethod "RegisterMill$Machine" "RegisterMill$Machine" "room" "()I", .selects RX7 ⟨"RegisterMill$Machine", "room", "()I"⟩ yX4_room, .instanceMethod yX4_room, .initialized RX4, .code yX4_room cX4_room 1 (some .int), .fieldLink RX4 34 "RegisterMill$Machine" "nested" "I", .selects RX8 ⟨"RegisterMill$Machine", "room", "()I"⟩ yX4_room] ++ wsX70 ++ wsX80)
def wsX7_takeAnswer : List Cond := .code yX7_takeAnswer cX7_takeAnswer 2 none :: ([.fieldLink RX7 28 "RegisterMill$RegisterMachine" "answered" "I"] ++ wsX70)
def wsX8_push : List Cond := .code yX8_push cX8_push 2 none :: ([.fieldLink RX8 15 "RegisterMill$StackMachine" "stack" "[I", .fieldLink RX8 28 "RegisterMill$StackMachine" "top" "I"] ++ wsX80)
def wsX8_takeAnswer : List Cond := .code yX8_takeAnswer cX8_takeAnswer 2 none :: ([.fieldLink RX8 18 "RegisterMill$StackMachine" "bottoms" "[I", .fieldLink RX8 28 "RegisterMill$StackMachine" "top" "I", .methodLink RX8 37 ⟨"RegisterMill$StackMachine", "room", "()I"⟩, .sameMethod "RegisterMill$StackMachine" "RegisterMill$Machine" "room" "()I", .selects RX8 ⟨"RegisterMill$StackMachine", "room", "()I"⟩ yX4_room, .instanceMethod yX4_room, .initialized RX4, .code yX4_room cX4_room 1 (some .int), .fieldLink RX4 34 "RegisterMill$Machine" "nested" "I", .methodLink RX8 41 yX8_push, .instanceMethod yX8_push, .selects RX8 yX8_push yX8_push, .initialized RX8, .code yX8_push cX8_push 2 none, .fieldLink RX8 15 "RegisterMill$StackMachine" "stack" "[I"] ++ wsX80 ++ wsX70)
def wsX4_leave_r1 : List Cond := [Cond.fieldLink RX4 34 "RegisterMill$Machine" "nested" "I", Cond.fieldLink RX4 25 "RegisterMill$Machine" "told" "I", Cond.methodLink RX4 49 ⟨"RegisterMill$Machine", "finish", "(I)V"⟩, Cond.sameMethod "RegisterMill$Machine" "RegisterMill$Machine" "finish" "(I)V", Cond.selects RX7 ⟨"RegisterMill$Machine", "finish", "(I)V"⟩ yX4_finish, Cond.instanceMethod yX4_finish, Cond.initialized RX4, Cond.code yX4_finish cX4_finish 2 none, Cond.fieldLink RX4 21 "RegisterMill$Machine" "end" "I", Cond.selects RX8 ⟨"RegisterMill$Machine", "finish", "(I)V"⟩ yX4_finish, Cond.methodLink RX4 55 ⟨"RegisterMill$Machine", "takeAnswer", "(I)V"⟩, Cond.sameMethod "RegisterMill$Machine" "RegisterMill$Machine" "takeAnswer" "(I)V", Cond.selects RX7 ⟨"RegisterMill$Machine", "takeAnswer", "(I)V"⟩ yX7_takeAnswer, Cond.instanceMethod yX7_takeAnswer, Cond.initialized RX7, Cond.code yX7_takeAnswer cX7_takeAnswer 2 none, Cond.fieldLink RX7 28 "RegisterMill$RegisterMachine" "answered" "I", Cond.selects RX8 ⟨"RegisterMill$Machine", "takeAnswer", "(I)V"⟩ yX8_takeAnswer, Cond.instanceMethod yX8_takeAnswer, Cond.initialized RX8, Cond.code yX8_takeAnswer cX8_takeAnswer 2 none, Cond.fieldLink RX8 18 "RegisterMill$StackMachine" "bottoms" "[I", Cond.fieldLink RX8 28 "RegisterMill$StackMachine" "top" "I", Cond.methodLink RX8 37 ⟨"RegisterMill$StackMachine", "room", "()I"⟩]
def wsX4_leave_r2 : List Cond := [Cond.sameMethod "RegisterMill$StackMachine" "RegisterMill$Machine" "room" "()I", Cond.selects RX8 ⟨"RegisterMill$StackMachine", "room", "()I"⟩ yX4_room, Cond.instanceMethod yX4_room, Cond.code yX4_room cX4_room 1 (some .int), Cond.methodLink RX8 41 yX8_push, Cond.instanceMethod yX8_push, Cond.selects RX8 yX8_push yX8_push, Cond.code yX8_push cX8_push 2 none, Cond.fieldLink RX8 15 "RegisterMill$StackMachine" "stack" "[I"]
def wsX4_leave : List Cond := .code yX4_leave cX4_leave 2 none :: ((wsX4_leave_r1 ++ wsX4_leave_r2) ++ wsX70 ++ wsX80)
def wsX4_hasCell : List Cond := .code yX4_hasCell cX4_hasCell 2 (some .boolean) :: ([.methodLink RX4 49 ⟨"RegisterMill$Machine", "finish", "(I)V"⟩, .sameMethod "RegisterMill$Machine" "RegisterMill$Machine" "finish" "(I)V", .selects RX7 ⟨"RegisterMill$Machine", "finish", "(I)V"⟩ yX4_finish, .instanceMethod yX4_finish, .initialized RX4, .code yX4_finish cX4_finish 2 none, .fieldLink RX4 21 "RegisterMill$Machine" "end" "I", .fieldLink RX4 34 "RegisterMill$Machine" "nested" "I", .selects RX8 ⟨"RegisterMill$Machine", "finish", "(I)V"⟩ yX4_finish] ++ wsX70 ++ wsX80)
def wsX7_fetch : List Cond := .code yX7_fetch cX7_fetch 3 none :: ([.fieldLink RX7 9 "RegisterMill$RegisterMachine" "registers" "[I", .fieldLink RX7 83 "RegisterMill$RegisterMachine" "memory" "[I", .sameField "RegisterMill$RegisterMachine" "RegisterMill$Machine" "memory" "[I", .methodLink RX7 79 ⟨"RegisterMill$RegisterMachine", "hasCell", "(I)Z"⟩, .sameMethod "RegisterMill$RegisterMachine" "RegisterMill$Machine" "hasCell" "(I)Z", .selects RX7 ⟨"RegisterMill$RegisterMachine", "hasCell", "(I)Z"⟩ yX4_hasCell, .instanceMethod yX4_hasCell, .initialized RX4, .code yX4_hasCell cX4_hasCell 2 (some .boolean), .methodLink RX4 49 ⟨"RegisterMill$Machine", "finish", "(I)V"⟩, .sameMethod "RegisterMill$Machine" "RegisterMill$Machine" "finish" "(I)V", .selects RX7 ⟨"RegisterMill$Machine", "finish", "(I)V"⟩ yX4_finish, .instanceMethod yX4_finish, .code yX4_finish cX4_finish 2 none, .fieldLink RX4 21 "RegisterMill$Machine" "end" "I", .fieldLink RX4 34 "RegisterMill$Machine" "nested" "I", .selects RX8 ⟨"RegisterMill$Machine", "finish", "(I)V"⟩ yX4_finish] ++ wsX70 ++ wsX80)
def wsX7_store : List Cond := .code yX7_store cX7_store 3 none :: ([.fieldLink RX7 83 "RegisterMill$RegisterMachine" "memory" "[I", .sameField "RegisterMill$RegisterMachine" "RegisterMill$Machine" "memory" "[I", .methodLink RX7 79 ⟨"RegisterMill$RegisterMachine", "hasCell", "(I)Z"⟩, .sameMethod "RegisterMill$RegisterMachine" "RegisterMill$Machine" "hasCell" "(I)Z", .selects RX7 ⟨"RegisterMill$RegisterMachine", "hasCell", "(I)Z"⟩ yX4_hasCell, .instanceMethod yX4_hasCell, .initialized RX4, .code yX4_hasCell cX4_hasCell 2 (some .boolean), .methodLink RX4 49 ⟨"RegisterMill$Machine", "finish", "(I)V"⟩, .sameMethod "RegisterMill$Machine" "RegisterMill$Machine" "finish" "(I)V", .selects RX7 ⟨"RegisterMill$Machine", "finish", "(I)V"⟩ yX4_finish, .instanceMethod yX4_finish, .code yX4_finish cX4_finish 2 none, .fieldLink RX4 21 "RegisterMill$Machine" "end" "I", .fieldLink RX4 34 "RegisterMill$Machine" "nested" "I", .selects RX8 ⟨"RegisterMill$Machine", "finish", "(I)V"⟩ yX4_finish] ++ wsX70 ++ wsX80)
def wsX7_step_r1 : List Cond := [Cond.fieldLink RX7 21 "RegisterMill$RegisterMachine" "code" "LRegisterMill$Code;", Cond.fieldLink RX7 9 "RegisterMill$RegisterMachine" "registers" "[I", Cond.fieldLink RX7 15 "RegisterMill$RegisterMachine" "slotCells" "[I", Cond.fieldLink RX7 18 "RegisterMill$RegisterMachine" "passed" "[I", Cond.fieldLink RX7 28 "RegisterMill$RegisterMachine" "answered" "I", Cond.methodLink RX7 38 yX1_part, Cond.instanceMethod yX1_part, Cond.selects RX1 yX1_part yX1_part, Cond.initialized RX1, Cond.code yX1_part cX1_part 4 (some .int), Cond.fieldLink RX1 18 "RegisterMill$Code" "parts" "[I", Cond.fieldLink RX1 9 "RegisterMill$Code" "starts" "[I", Cond.methodLink RX7 44 ⟨"RegisterMill$RegisterMachine", "room", "()I"⟩, Cond.sameMethod "RegisterMill$RegisterMachine" "RegisterMill$Machine" "room" "()I", Cond.selects RX7 ⟨"RegisterMill$RegisterMachine", "room", "()I"⟩ yX4_room, Cond.instanceMethod yX4_room, Cond.initialized RX4, Cond.code yX4_room cX4_room 1 (some .int), Cond.fieldLink RX4 34 "RegisterMill$Machine" "nested" "I", Cond.methodLink RX7 48 yX7_work, Cond.instanceMethod yX7_work, Cond.selects RX7 yX7_work yX7_work, Cond.initialized RX7, Cond.code yX7_work cX7_work 7 none]
def wsX7_step_r2 : List Cond := [Cond.methodLink RX7 72 ⟨"RegisterMill$RegisterMachine", "canReckon", "(II)Z"⟩, Cond.sameMethod "RegisterMill$RegisterMachine" "RegisterMill$Machine" "canReckon" "(II)Z", Cond.selects RX7 ⟨"RegisterMill$RegisterMachine", "canReckon", "(II)Z"⟩ yX4_canReckon, Cond.instanceMethod yX4_canReckon, Cond.code yX4_canReckon cX4_canReckon 3 (some .boolean), Cond.methodLink RX4 49 ⟨"RegisterMill$Machine", "finish", "(I)V"⟩, Cond.sameMethod "RegisterMill$Machine" "RegisterMill$Machine" "finish" "(I)V", Cond.selects RX7 ⟨"RegisterMill$Machine", "finish", "(I)V"⟩ yX4_finish, Cond.instanceMethod yX4_finish, Cond.code yX4_finish cX4_finish 2 none, Cond.fieldLink RX4 21 "RegisterMill$Machine" "end" "I", Cond.selects RX8 ⟨"RegisterMill$Machine", "finish", "(I)V"⟩ yX4_finish, Cond.static yX11_reckon, Cond.initialized RX11, Cond.code yX11_reckon cX11_reckon 3 (some .int), Cond.methodLink RX7 52 yX7_swap, Cond.instanceMethod yX7_swap, Cond.selects RX7 yX7_swap yX7_swap, Cond.code yX7_swap cX7_swap 4 none, Cond.methodLink RX7 56 ⟨"RegisterMill$RegisterMachine", "jump", "(I)V"⟩, Cond.sameMethod "RegisterMill$RegisterMachine" "RegisterMill$Machine" "jump" "(I)V", Cond.selects RX7 ⟨"RegisterMill$RegisterMachine", "jump", "(I)V"⟩ yX4_jump, Cond.instanceMethod yX4_jump, Cond.code yX4_jump cX4_jump 2 none]
def wsX7_step_r3 : List Cond := [Cond.fieldLink RX4 18 "RegisterMill$Machine" "nexts" "[I", Cond.methodLink RX4 41 ⟨"RegisterMill$Machine", "room", "()I"⟩, Cond.sameMethod "RegisterMill$Machine" "RegisterMill$Machine" "room" "()I", Cond.selects RX7 ⟨"RegisterMill$Machine", "room", "()I"⟩ yX4_room, Cond.selects RX8 ⟨"RegisterMill$Machine", "room", "()I"⟩ yX4_room, Cond.methodLink RX7 60 ⟨"RegisterMill$RegisterMachine", "leave", "(I)V"⟩, Cond.sameMethod "RegisterMill$RegisterMachine" "RegisterMill$Machine" "leave" "(I)V", Cond.selects RX7 ⟨"RegisterMill$RegisterMachine", "leave", "(I)V"⟩ yX4_leave, Cond.instanceMethod yX4_leave, Cond.code yX4_leave cX4_leave 2 none, Cond.fieldLink RX4 25 "RegisterMill$Machine" "told" "I", Cond.methodLink RX4 55 ⟨"RegisterMill$Machine", "takeAnswer", "(I)V"⟩, Cond.sameMethod "RegisterMill$Machine" "RegisterMill$Machine" "takeAnswer" "(I)V", Cond.selects RX7 ⟨"RegisterMill$Machine", "takeAnswer", "(I)V"⟩ yX7_takeAnswer, Cond.instanceMethod yX7_takeAnswer, Cond.code yX7_takeAnswer cX7_takeAnswer 2 none, Cond.selects RX8 ⟨"RegisterMill$Machine", "takeAnswer", "(I)V"⟩ yX8_takeAnswer, Cond.instanceMethod yX8_takeAnswer, Cond.initialized RX8, Cond.code yX8_takeAnswer cX8_takeAnswer 2 none, Cond.fieldLink RX8 18 "RegisterMill$StackMachine" "bottoms" "[I", Cond.fieldLink RX8 28 "RegisterMill$StackMachine" "top" "I", Cond.methodLink RX8 37 ⟨"RegisterMill$StackMachine", "room", "()I"⟩, Cond.sameMethod "RegisterMill$StackMachine" "RegisterMill$Machine" "room" "()I"]
def wsX7_step_r4 : List Cond := [Cond.selects RX8 ⟨"RegisterMill$StackMachine", "room", "()I"⟩ yX4_room, Cond.methodLink RX8 41 yX8_push, Cond.instanceMethod yX8_push, Cond.selects RX8 yX8_push yX8_push, Cond.code yX8_push cX8_push 2 none, Cond.fieldLink RX8 15 "RegisterMill$StackMachine" "stack" "[I", Cond.methodLink RX7 63 yX7_fetch, Cond.instanceMethod yX7_fetch, Cond.selects RX7 yX7_fetch yX7_fetch, Cond.code yX7_fetch cX7_fetch 3 none, Cond.fieldLink RX7 83 "RegisterMill$RegisterMachine" "memory" "[I", Cond.sameField "RegisterMill$RegisterMachine" "RegisterMill$Machine" "memory" "[I", Cond.methodLink RX7 79 ⟨"RegisterMill$RegisterMachine", "hasCell", "(I)Z"⟩, Cond.sameMethod "RegisterMill$RegisterMachine" "RegisterMill$Machine" "hasCell" "(I)Z", Cond.selects RX7 ⟨"RegisterMill$RegisterMachine", "hasCell", "(I)Z"⟩ yX4_hasCell, Cond.instanceMethod yX4_hasCell, Cond.code yX4_hasCell cX4_hasCell 2 (some .boolean), Cond.methodLink RX7 66 yX7_store, Cond.instanceMethod yX7_store, Cond.selects RX7 yX7_store yX7_store, Cond.code yX7_store cX7_store 3 none, Cond.methodLink RX7 69 ⟨"RegisterMill$RegisterMachine", "enter", "(I)V"⟩, Cond.sameMethod "RegisterMill$RegisterMachine" "RegisterMill$Machine" "enter" "(I)V", Cond.selects RX7 ⟨"RegisterMill$RegisterMachine", "enter", "(I)V"⟩ yX4_enter]
def wsX7_step_r5 : List Cond := [Cond.instanceMethod yX4_enter, Cond.code yX4_enter cX4_enter 2 none, Cond.fieldLink RX4 15 "RegisterMill$Machine" "funcs" "[I", Cond.fieldLink RX4 31 "RegisterMill$Machine" "calls" "I", Cond.methodLink RX4 52 ⟨"RegisterMill$Machine", "openRoom", "(II)V"⟩, Cond.sameMethod "RegisterMill$Machine" "RegisterMill$Machine" "openRoom" "(II)V", Cond.selects RX7 ⟨"RegisterMill$Machine", "openRoom", "(II)V"⟩ yX7_openRoom, Cond.instanceMethod yX7_openRoom, Cond.code yX7_openRoom cX7_openRoom 6 none, Cond.selects RX8 ⟨"RegisterMill$Machine", "openRoom", "(II)V"⟩ yX8_openRoom, Cond.instanceMethod yX8_openRoom, Cond.code yX8_openRoom cX8_openRoom 6 none, Cond.fieldLink RX8 21 "RegisterMill$StackMachine" "program" "LRegisterMill$Program;", Cond.fieldLink RX8 32 "RegisterMill$Program" "args" "[I", Cond.fieldLink RX8 9 "RegisterMill$StackMachine" "locals" "[I"]
def wsX7_step : List Cond := .code yX7_step cX7_step 6 none :: ((wsX7_step_r1 ++ (wsX7_step_r2 ++ (wsX7_step_r3 ++ (wsX7_step_r4 ++ wsX7_step_r5)))) ++ wsX70 ++ wsX10 ++ wsX80 ++ wsX60)
def wsX8_pop : List Cond := .code yX8_pop cX8_pop 1 (some .int) :: ([.fieldLink RX8 28 "RegisterMill$StackMachine" "top" "I", .fieldLink RX8 15 "RegisterMill$StackMachine" "stack" "[I"] ++ wsX80)
def wsX8_flip : List Cond := .code yX8_flip cX8_flip 3 none :: ([.methodLink RX8 54 yX8_pop, .instanceMethod yX8_pop, .selects RX8 yX8_pop yX8_pop, .initialized RX8, .code yX8_pop cX8_pop 1 (some .int), .fieldLink RX8 28 "RegisterMill$StackMachine" "top" "I", .fieldLink RX8 15 "RegisterMill$StackMachine" "stack" "[I", .methodLink RX8 41 yX8_push, .instanceMethod yX8_push, .selects RX8 yX8_push yX8_push, .code yX8_push cX8_push 2 none] ++ wsX80)
def wsX8_fetch : List Cond := .code yX8_fetch cX8_fetch 2 none :: ([.fieldLink RX8 84 "RegisterMill$StackMachine" "memory" "[I", .sameField "RegisterMill$StackMachine" "RegisterMill$Machine" "memory" "[I", .methodLink RX8 80 ⟨"RegisterMill$StackMachine", "hasCell", "(I)Z"⟩, .sameMethod "RegisterMill$StackMachine" "RegisterMill$Machine" "hasCell" "(I)Z", .selects RX8 ⟨"RegisterMill$StackMachine", "hasCell", "(I)Z"⟩ yX4_hasCell, .instanceMethod yX4_hasCell, .initialized RX4, .code yX4_hasCell cX4_hasCell 2 (some .boolean), .methodLink RX4 49 ⟨"RegisterMill$Machine", "finish", "(I)V"⟩, .sameMethod "RegisterMill$Machine" "RegisterMill$Machine" "finish" "(I)V", .selects RX7 ⟨"RegisterMill$Machine", "finish", "(I)V"⟩ yX4_finish, .instanceMethod yX4_finish, .code yX4_finish cX4_finish 2 none, .fieldLink RX4 21 "RegisterMill$Machine" "end" "I", .fieldLink RX4 34 "RegisterMill$Machine" "nested" "I", .selects RX8 ⟨"RegisterMill$Machine", "finish", "(I)V"⟩ yX4_finish, .methodLink RX8 41 yX8_push, .instanceMethod yX8_push, .selects RX8 yX8_push yX8_push, .initialized RX8, .code yX8_push cX8_push 2 none, .fieldLink RX8 15 "RegisterMill$StackMachine" "stack" "[I", .fieldLink RX8 28 "RegisterMill$StackMachine" "top" "I"] ++ wsX70 ++ wsX80)
def wsX8_store : List Cond := .code yX8_store cX8_store 3 none :: ([.fieldLink RX8 84 "RegisterMill$StackMachine" "memory" "[I", .sameField "RegisterMill$StackMachine" "RegisterMill$Machine" "memory" "[I", .methodLink RX8 80 ⟨"RegisterMill$StackMachine", "hasCell", "(I)Z"⟩, .sameMethod "RegisterMill$StackMachine" "RegisterMill$Machine" "hasCell" "(I)Z", .selects RX8 ⟨"RegisterMill$StackMachine", "hasCell", "(I)Z"⟩ yX4_hasCell, .instanceMethod yX4_hasCell, .initialized RX4, .code yX4_hasCell cX4_hasCell 2 (some .boolean), .methodLink RX4 49 ⟨"RegisterMill$Machine", "finish", "(I)V"⟩, .sameMethod "RegisterMill$Machine" "RegisterMill$Machine" "finish" "(I)V", .selects RX7 ⟨"RegisterMill$Machine", "finish", "(I)V"⟩ yX4_finish, .instanceMethod yX4_finish, .code yX4_finish cX4_finish 2 none, .fieldLink RX4 21 "RegisterMill$Machine" "end" "I", .fieldLink RX4 34 "RegisterMill$Machine" "nested" "I", .selects RX8 ⟨"RegisterMill$Machine", "finish", "(I)V"⟩ yX4_finish] ++ wsX70 ++ wsX80)
def wsX8_work : List Cond := .code yX8_work cX8_work 4 none :: ([.methodLink RX8 87 ⟨"RegisterMill$StackMachine", "canReckon", "(II)Z"⟩, .sameMethod "RegisterMill$StackMachine" "RegisterMill$Machine" "canReckon" "(II)Z", .selects RX8 ⟨"RegisterMill$StackMachine", "canReckon", "(II)Z"⟩ yX4_canReckon, .instanceMethod yX4_canReckon, .initialized RX4, .code yX4_canReckon cX4_canReckon 3 (some .boolean), .methodLink RX4 49 ⟨"RegisterMill$Machine", "finish", "(I)V"⟩, .sameMethod "RegisterMill$Machine" "RegisterMill$Machine" "finish" "(I)V", .selects RX7 ⟨"RegisterMill$Machine", "finish", "(I)V"⟩ yX4_finish, .instanceMethod yX4_finish, .code yX4_finish cX4_finish 2 none, .fieldLink RX4 21 "RegisterMill$Machine" "end" "I", .fieldLink RX4 34 "RegisterMill$Machine" "nested" "I", .selects RX8 ⟨"RegisterMill$Machine", "finish", "(I)V"⟩ yX4_finish, .static yX11_reckon, .initialized RX11, .code yX11_reckon cX11_reckon 3 (some .int), .methodLink RX8 41 yX8_push, .instanceMethod yX8_push, .selects RX8 yX8_push yX8_push, .initialized RX8, .code yX8_push cX8_push 2 none, .fieldLink RX8 15 "RegisterMill$StackMachine" "stack" "[I", .fieldLink RX8 28 "RegisterMill$StackMachine" "top" "I"] ++ wsX70 ++ wsX80)
def wsX8_step_r1 : List Cond := [Cond.fieldLink RX8 21 "RegisterMill$StackMachine" "program" "LRegisterMill$Program;", Cond.fieldLink RX8 45 "RegisterMill$Program" "ops" "[I", Cond.fieldLink RX8 48 "RegisterMill$Program" "starts" "[I", Cond.fieldLink RX8 51 "RegisterMill$Program" "numbers" "[I", Cond.fieldLink RX8 9 "RegisterMill$StackMachine" "locals" "[I", Cond.fieldLink RX8 15 "RegisterMill$StackMachine" "stack" "[I", Cond.fieldLink RX8 28 "RegisterMill$StackMachine" "top" "I", Cond.methodLink RX8 41 yX8_push, Cond.instanceMethod yX8_push, Cond.selects RX8 yX8_push yX8_push, Cond.initialized RX8, Cond.code yX8_push cX8_push 2 none, Cond.methodLink RX8 37 ⟨"RegisterMill$StackMachine", "room", "()I"⟩, Cond.sameMethod "RegisterMill$StackMachine" "RegisterMill$Machine" "room" "()I", Cond.selects RX8 ⟨"RegisterMill$StackMachine", "room", "()I"⟩ yX4_room, Cond.instanceMethod yX4_room, Cond.initialized RX4, Cond.code yX4_room cX4_room 1 (some .int), Cond.fieldLink RX4 34 "RegisterMill$Machine" "nested" "I", Cond.methodLink RX8 54 yX8_pop, Cond.instanceMethod yX8_pop, Cond.selects RX8 yX8_pop yX8_pop, Cond.code yX8_pop cX8_pop 1 (some .int), Cond.methodLink RX8 57 yX8_flip]
def wsX8_step_r2 : List Cond := [Cond.instanceMethod yX8_flip, Cond.selects RX8 yX8_flip yX8_flip, Cond.code yX8_flip cX8_flip 3 none, Cond.methodLink RX8 60 ⟨"RegisterMill$StackMachine", "jump", "(I)V"⟩, Cond.sameMethod "RegisterMill$StackMachine" "RegisterMill$Machine" "jump" "(I)V", Cond.selects RX8 ⟨"RegisterMill$StackMachine", "jump", "(I)V"⟩ yX4_jump, Cond.instanceMethod yX4_jump, Cond.code yX4_jump cX4_jump 2 none, Cond.fieldLink RX4 18 "RegisterMill$Machine" "nexts" "[I", Cond.methodLink RX4 41 ⟨"RegisterMill$Machine", "room", "()I"⟩, Cond.sameMethod "RegisterMill$Machine" "RegisterMill$Machine" "room" "()I", Cond.selects RX7 ⟨"RegisterMill$Machine", "room", "()I"⟩ yX4_room, Cond.selects RX8 ⟨"RegisterMill$Machine", "room", "()I"⟩ yX4_room, Cond.methodLink RX8 63 ⟨"RegisterMill$StackMachine", "enter", "(I)V"⟩, Cond.sameMethod "RegisterMill$StackMachine" "RegisterMill$Machine" "enter" "(I)V", Cond.selects RX8 ⟨"RegisterMill$StackMachine", "enter", "(I)V"⟩ yX4_enter, Cond.instanceMethod yX4_enter, Cond.code yX4_enter cX4_enter 2 none, Cond.fieldLink RX4 15 "RegisterMill$Machine" "funcs" "[I", Cond.fieldLink RX4 31 "RegisterMill$Machine" "calls" "I", Cond.methodLink RX4 49 ⟨"RegisterMill$Machine", "finish", "(I)V"⟩, Cond.sameMethod "RegisterMill$Machine" "RegisterMill$Machine" "finish" "(I)V", Cond.selects RX7 ⟨"RegisterMill$Machine", "finish", "(I)V"⟩ yX4_finish, Cond.instanceMethod yX4_finish]
def wsX8_step_r3 : List Cond := [Cond.code yX4_finish cX4_finish 2 none, Cond.fieldLink RX4 21 "RegisterMill$Machine" "end" "I", Cond.selects RX8 ⟨"RegisterMill$Machine", "finish", "(I)V"⟩ yX4_finish, Cond.methodLink RX4 52 ⟨"RegisterMill$Machine", "openRoom", "(II)V"⟩, Cond.sameMethod "RegisterMill$Machine" "RegisterMill$Machine" "openRoom" "(II)V", Cond.selects RX7 ⟨"RegisterMill$Machine", "openRoom", "(II)V"⟩ yX7_openRoom, Cond.instanceMethod yX7_openRoom, Cond.initialized RX7, Cond.code yX7_openRoom cX7_openRoom 6 none, Cond.fieldLink RX7 9 "RegisterMill$RegisterMachine" "registers" "[I", Cond.fieldLink RX7 15 "RegisterMill$RegisterMachine" "slotCells" "[I", Cond.selects RX8 ⟨"RegisterMill$Machine", "openRoom", "(II)V"⟩ yX8_openRoom, Cond.instanceMethod yX8_openRoom, Cond.code yX8_openRoom cX8_openRoom 6 none, Cond.fieldLink RX8 32 "RegisterMill$Program" "args" "[I", Cond.fieldLink RX8 18 "RegisterMill$StackMachine" "bottoms" "[I", Cond.methodLink RX8 66 ⟨"RegisterMill$StackMachine", "leave", "(I)V"⟩, Cond.sameMethod "RegisterMill$StackMachine" "RegisterMill$Machine" "leave" "(I)V", Cond.selects RX8 ⟨"RegisterMill$StackMachine", "leave", "(I)V"⟩ yX4_leave, Cond.instanceMethod yX4_leave, Cond.code yX4_leave cX4_leave 2 none, Cond.fieldLink RX4 25 "RegisterMill$Machine" "told" "I", Cond.methodLink RX4 55 ⟨"RegisterMill$Machine", "takeAnswer", "(I)V"⟩, Cond.sameMethod "RegisterMill$Machine" "RegisterMill$Machine" "takeAnswer" "(I)V"]
def wsX8_step_r4 : List Cond := [Cond.selects RX7 ⟨"RegisterMill$Machine", "takeAnswer", "(I)V"⟩ yX7_takeAnswer, Cond.instanceMethod yX7_takeAnswer, Cond.code yX7_takeAnswer cX7_takeAnswer 2 none, Cond.fieldLink RX7 28 "RegisterMill$RegisterMachine" "answered" "I", Cond.selects RX8 ⟨"RegisterMill$Machine", "takeAnswer", "(I)V"⟩ yX8_takeAnswer, Cond.instanceMethod yX8_takeAnswer, Cond.code yX8_takeAnswer cX8_takeAnswer 2 none, Cond.methodLink RX8 69 yX8_fetch, Cond.instanceMethod yX8_fetch, Cond.selects RX8 yX8_fetch yX8_fetch, Cond.code yX8_fetch cX8_fetch 2 none, Cond.fieldLink RX8 84 "RegisterMill$StackMachine" "memory" "[I", Cond.sameField "RegisterMill$StackMachine" "RegisterMill$Machine" "memory" "[I", Cond.methodLink RX8 80 ⟨"RegisterMill$StackMachine", "hasCell", "(I)Z"⟩, Cond.sameMethod "RegisterMill$StackMachine" "RegisterMill$Machine" "hasCell" "(I)Z", Cond.selects RX8 ⟨"RegisterMill$StackMachine", "hasCell", "(I)Z"⟩ yX4_hasCell, Cond.instanceMethod yX4_hasCell, Cond.code yX4_hasCell cX4_hasCell 2 (some .boolean), Cond.methodLink RX8 72 yX8_store, Cond.instanceMethod yX8_store, Cond.selects RX8 yX8_store yX8_store, Cond.code yX8_store cX8_store 3 none, Cond.methodLink RX8 76 yX8_work, Cond.instanceMethod yX8_work]
def wsX8_step_r5 : List Cond := [Cond.selects RX8 yX8_work yX8_work, Cond.code yX8_work cX8_work 4 none, Cond.methodLink RX8 87 ⟨"RegisterMill$StackMachine", "canReckon", "(II)Z"⟩, Cond.sameMethod "RegisterMill$StackMachine" "RegisterMill$Machine" "canReckon" "(II)Z", Cond.selects RX8 ⟨"RegisterMill$StackMachine", "canReckon", "(II)Z"⟩ yX4_canReckon, Cond.instanceMethod yX4_canReckon, Cond.code yX4_canReckon cX4_canReckon 3 (some .boolean), Cond.static yX11_reckon, Cond.initialized RX11, Cond.code yX11_reckon cX11_reckon 3 (some .int)]
def wsX8_step : List Cond := .code yX8_step cX8_step 5 none :: ((wsX8_step_r1 ++ (wsX8_step_r2 ++ (wsX8_step_r3 ++ (wsX8_step_r4 ++ wsX8_step_r5)))) ++ wsX80 ++ wsX60 ++ wsX70)
def wsX4_goOn_r1 : List Cond := [Cond.fieldLink RX4 21 "RegisterMill$Machine" "end" "I", Cond.fieldLink RX4 34 "RegisterMill$Machine" "nested" "I", Cond.fieldLink RX4 28 "RegisterMill$Machine" "steps" "I", Cond.fieldLink RX4 18 "RegisterMill$Machine" "nexts" "[I", Cond.fieldLink RX4 15 "RegisterMill$Machine" "funcs" "[I", Cond.methodLink RX4 37 ⟨"RegisterMill$Machine", "enter", "(I)V"⟩, Cond.sameMethod "RegisterMill$Machine" "RegisterMill$Machine" "enter" "(I)V", Cond.selects RX7 ⟨"RegisterMill$Machine", "enter", "(I)V"⟩ yX4_enter, Cond.instanceMethod yX4_enter, Cond.initialized RX4, Cond.code yX4_enter cX4_enter 2 none, Cond.fieldLink RX4 31 "RegisterMill$Machine" "calls" "I", Cond.methodLink RX4 49 ⟨"RegisterMill$Machine", "finish", "(I)V"⟩, Cond.sameMethod "RegisterMill$Machine" "RegisterMill$Machine" "finish" "(I)V", Cond.selects RX7 ⟨"RegisterMill$Machine", "finish", "(I)V"⟩ yX4_finish, Cond.instanceMethod yX4_finish, Cond.code yX4_finish cX4_finish 2 none, Cond.selects RX8 ⟨"RegisterMill$Machine", "finish", "(I)V"⟩ yX4_finish, Cond.methodLink RX4 52 ⟨"RegisterMill$Machine", "openRoom", "(II)V"⟩, Cond.sameMethod "RegisterMill$Machine" "RegisterMill$Machine" "openRoom" "(II)V", Cond.selects RX7 ⟨"RegisterMill$Machine", "openRoom", "(II)V"⟩ yX7_openRoom, Cond.instanceMethod yX7_openRoom, Cond.initialized RX7, Cond.code yX7_openRoom cX7_openRoom 6 none]
def wsX4_goOn_r2 : List Cond := [Cond.fieldLink RX7 9 "RegisterMill$RegisterMachine" "registers" "[I", Cond.fieldLink RX7 15 "RegisterMill$RegisterMachine" "slotCells" "[I", Cond.selects RX8 ⟨"RegisterMill$Machine", "openRoom", "(II)V"⟩ yX8_openRoom, Cond.instanceMethod yX8_openRoom, Cond.initialized RX8, Cond.code yX8_openRoom cX8_openRoom 6 none, Cond.fieldLink RX8 21 "RegisterMill$StackMachine" "program" "LRegisterMill$Program;", Cond.fieldLink RX8 32 "RegisterMill$Program" "args" "[I", Cond.fieldLink RX8 28 "RegisterMill$StackMachine" "top" "I", Cond.fieldLink RX8 9 "RegisterMill$StackMachine" "locals" "[I", Cond.fieldLink RX8 15 "RegisterMill$StackMachine" "stack" "[I", Cond.fieldLink RX8 18 "RegisterMill$StackMachine" "bottoms" "[I", Cond.selects RX8 ⟨"RegisterMill$Machine", "enter", "(I)V"⟩ yX4_enter, Cond.methodLink RX4 41 ⟨"RegisterMill$Machine", "room", "()I"⟩, Cond.sameMethod "RegisterMill$Machine" "RegisterMill$Machine" "room" "()I", Cond.selects RX7 ⟨"RegisterMill$Machine", "room", "()I"⟩ yX4_room, Cond.instanceMethod yX4_room, Cond.code yX4_room cX4_room 1 (some .int), Cond.selects RX8 ⟨"RegisterMill$Machine", "room", "()I"⟩ yX4_room, Cond.methodLink RX4 45 ⟨"RegisterMill$Machine", "step", "(II)V"⟩, Cond.sameMethod "RegisterMill$Machine" "RegisterMill$Machine" "step" "(II)V", Cond.selects RX7 ⟨"RegisterMill$Machine", "step", "(II)V"⟩ yX7_step, Cond.instanceMethod yX7_step, Cond.code yX7_step cX7_step 6 none]
def wsX4_goOn_r3 : List Cond := [Cond.fieldLink RX7 21 "RegisterMill$RegisterMachine" "code" "LRegisterMill$Code;", Cond.fieldLink RX7 18 "RegisterMill$RegisterMachine" "passed" "[I", Cond.fieldLink RX7 28 "RegisterMill$RegisterMachine" "answered" "I", Cond.methodLink RX7 38 yX1_part, Cond.instanceMethod yX1_part, Cond.selects RX1 yX1_part yX1_part, Cond.initialized RX1, Cond.code yX1_part cX1_part 4 (some .int), Cond.fieldLink RX1 18 "RegisterMill$Code" "parts" "[I", Cond.fieldLink RX1 9 "RegisterMill$Code" "starts" "[I", Cond.methodLink RX7 44 ⟨"RegisterMill$RegisterMachine", "room", "()I"⟩, Cond.sameMethod "RegisterMill$RegisterMachine" "RegisterMill$Machine" "room" "()I", Cond.selects RX7 ⟨"RegisterMill$RegisterMachine", "room", "()I"⟩ yX4_room, Cond.methodLink RX7 48 yX7_work, Cond.instanceMethod yX7_work, Cond.selects RX7 yX7_work yX7_work, Cond.code yX7_work cX7_work 7 none, Cond.methodLink RX7 72 ⟨"RegisterMill$RegisterMachine", "canReckon", "(II)Z"⟩, Cond.sameMethod "RegisterMill$RegisterMachine" "RegisterMill$Machine" "canReckon" "(II)Z", Cond.selects RX7 ⟨"RegisterMill$RegisterMachine", "canReckon", "(II)Z"⟩ yX4_canReckon, Cond.instanceMethod yX4_canReckon, Cond.code yX4_canReckon cX4_canReckon 3 (some .boolean), Cond.static yX11_reckon, Cond.initialized RX11]
def wsX4_goOn_r4 : List Cond := [Cond.code yX11_reckon cX11_reckon 3 (some .int), Cond.methodLink RX7 52 yX7_swap, Cond.instanceMethod yX7_swap, Cond.selects RX7 yX7_swap yX7_swap, Cond.code yX7_swap cX7_swap 4 none, Cond.methodLink RX7 56 ⟨"RegisterMill$RegisterMachine", "jump", "(I)V"⟩, Cond.sameMethod "RegisterMill$RegisterMachine" "RegisterMill$Machine" "jump" "(I)V", Cond.selects RX7 ⟨"RegisterMill$RegisterMachine", "jump", "(I)V"⟩ yX4_jump, Cond.instanceMethod yX4_jump, Cond.code yX4_jump cX4_jump 2 none, Cond.methodLink RX7 60 ⟨"RegisterMill$RegisterMachine", "leave", "(I)V"⟩, Cond.sameMethod "RegisterMill$RegisterMachine" "RegisterMill$Machine" "leave" "(I)V", Cond.selects RX7 ⟨"RegisterMill$RegisterMachine", "leave", "(I)V"⟩ yX4_leave, Cond.instanceMethod yX4_leave, Cond.code yX4_leave cX4_leave 2 none, Cond.fieldLink RX4 25 "RegisterMill$Machine" "told" "I", Cond.methodLink RX4 55 ⟨"RegisterMill$Machine", "takeAnswer", "(I)V"⟩, Cond.sameMethod "RegisterMill$Machine" "RegisterMill$Machine" "takeAnswer" "(I)V", Cond.selects RX7 ⟨"RegisterMill$Machine", "takeAnswer", "(I)V"⟩ yX7_takeAnswer, Cond.instanceMethod yX7_takeAnswer, Cond.code yX7_takeAnswer cX7_takeAnswer 2 none, Cond.selects RX8 ⟨"RegisterMill$Machine", "takeAnswer", "(I)V"⟩ yX8_takeAnswer, Cond.instanceMethod yX8_takeAnswer, Cond.code yX8_takeAnswer cX8_takeAnswer 2 none]
def wsX4_goOn_r5 : List Cond := [Cond.methodLink RX8 37 ⟨"RegisterMill$StackMachine", "room", "()I"⟩, Cond.sameMethod "RegisterMill$StackMachine" "RegisterMill$Machine" "room" "()I", Cond.selects RX8 ⟨"RegisterMill$StackMachine", "room", "()I"⟩ yX4_room, Cond.methodLink RX8 41 yX8_push, Cond.instanceMethod yX8_push, Cond.selects RX8 yX8_push yX8_push, Cond.code yX8_push cX8_push 2 none, Cond.methodLink RX7 63 yX7_fetch, Cond.instanceMethod yX7_fetch, Cond.selects RX7 yX7_fetch yX7_fetch, Cond.code yX7_fetch cX7_fetch 3 none, Cond.fieldLink RX7 83 "RegisterMill$RegisterMachine" "memory" "[I", Cond.sameField "RegisterMill$RegisterMachine" "RegisterMill$Machine" "memory" "[I", Cond.methodLink RX7 79 ⟨"RegisterMill$RegisterMachine", "hasCell", "(I)Z"⟩, Cond.sameMethod "RegisterMill$RegisterMachine" "RegisterMill$Machine" "hasCell" "(I)Z", Cond.selects RX7 ⟨"RegisterMill$RegisterMachine", "hasCell", "(I)Z"⟩ yX4_hasCell, Cond.instanceMethod yX4_hasCell, Cond.code yX4_hasCell cX4_hasCell 2 (some .boolean), Cond.methodLink RX7 66 yX7_store, Cond.instanceMethod yX7_store, Cond.selects RX7 yX7_store yX7_store, Cond.code yX7_store cX7_store 3 none, Cond.methodLink RX7 69 ⟨"RegisterMill$RegisterMachine", "enter", "(I)V"⟩, Cond.sameMethod "RegisterMill$RegisterMachine" "RegisterMill$Machine" "enter" "(I)V"]
def wsX4_goOn_r6 : List Cond := [Cond.selects RX7 ⟨"RegisterMill$RegisterMachine", "enter", "(I)V"⟩ yX4_enter, Cond.selects RX8 ⟨"RegisterMill$Machine", "step", "(II)V"⟩ yX8_step, Cond.instanceMethod yX8_step, Cond.code yX8_step cX8_step 5 none, Cond.fieldLink RX8 45 "RegisterMill$Program" "ops" "[I", Cond.fieldLink RX8 48 "RegisterMill$Program" "starts" "[I", Cond.fieldLink RX8 51 "RegisterMill$Program" "numbers" "[I", Cond.methodLink RX8 54 yX8_pop, Cond.instanceMethod yX8_pop, Cond.selects RX8 yX8_pop yX8_pop, Cond.code yX8_pop cX8_pop 1 (some .int), Cond.methodLink RX8 57 yX8_flip, Cond.instanceMethod yX8_flip, Cond.selects RX8 yX8_flip yX8_flip, Cond.code yX8_flip cX8_flip 3 none, Cond.methodLink RX8 60 ⟨"RegisterMill$StackMachine", "jump", "(I)V"⟩, Cond.sameMethod "RegisterMill$StackMachine" "RegisterMill$Machine" "jump" "(I)V", Cond.selects RX8 ⟨"RegisterMill$StackMachine", "jump", "(I)V"⟩ yX4_jump, Cond.methodLink RX8 63 ⟨"RegisterMill$StackMachine", "enter", "(I)V"⟩, Cond.sameMethod "RegisterMill$StackMachine" "RegisterMill$Machine" "enter" "(I)V", Cond.selects RX8 ⟨"RegisterMill$StackMachine", "enter", "(I)V"⟩ yX4_enter, Cond.methodLink RX8 66 ⟨"RegisterMill$StackMachine", "leave", "(I)V"⟩, Cond.sameMethod "RegisterMill$StackMachine" "RegisterMill$Machine" "leave" "(I)V", Cond.selects RX8 ⟨"RegisterMill$StackMachine", "leave", "(I)V"⟩ yX4_leave]
def wsX4_goOn_r7 : List Cond := [Cond.methodLink RX8 69 yX8_fetch, Cond.instanceMethod yX8_fetch, Cond.selects RX8 yX8_fetch yX8_fetch, Cond.code yX8_fetch cX8_fetch 2 none, Cond.fieldLink RX8 84 "RegisterMill$StackMachine" "memory" "[I", Cond.sameField "RegisterMill$StackMachine" "RegisterMill$Machine" "memory" "[I", Cond.methodLink RX8 80 ⟨"RegisterMill$StackMachine", "hasCell", "(I)Z"⟩, Cond.sameMethod "RegisterMill$StackMachine" "RegisterMill$Machine" "hasCell" "(I)Z", Cond.selects RX8 ⟨"RegisterMill$StackMachine", "hasCell", "(I)Z"⟩ yX4_hasCell, Cond.methodLink RX8 72 yX8_store, Cond.instanceMethod yX8_store, Cond.selects RX8 yX8_store yX8_store, Cond.code yX8_store cX8_store 3 none, Cond.methodLink RX8 76 yX8_work, Cond.instanceMethod yX8_work, Cond.selects RX8 yX8_work yX8_work, Cond.code yX8_work cX8_work 4 none, Cond.methodLink RX8 87 ⟨"RegisterMill$StackMachine", "canReckon", "(II)Z"⟩, Cond.sameMethod "RegisterMill$StackMachine" "RegisterMill$Machine" "canReckon" "(II)Z", Cond.selects RX8 ⟨"RegisterMill$StackMachine", "canReckon", "(II)Z"⟩ yX4_canReckon]
def wsX4_goOn : List Cond := .code yX4_goOn cX4_goOn 4 (some .int) :: ((wsX4_goOn_r1 ++ (wsX4_goOn_r2 ++ (wsX4_goOn_r3 ++ (wsX4_goOn_r4 ++ (wsX4_goOn_r5 ++ (wsX4_goOn_r6 ++ wsX4_goOn_r7)))))) ++ wsX70 ++ wsX80 ++ wsX60 ++ wsX10)
def wsX4_tell : List Cond := .code yX4_tell cX4_tell 2 (some .int) :: ([.fieldLink RX4 21 "RegisterMill$Machine" "end" "I", .fieldLink RX4 25 "RegisterMill$Machine" "told" "I", .fieldLink RX4 28 "RegisterMill$Machine" "steps" "I", .fieldLink RX4 31 "RegisterMill$Machine" "calls" "I", .fieldLink RX4 34 "RegisterMill$Machine" "nested" "I"] ++ wsX70 ++ wsX80)
def wsX5_init : List Cond := .code yX5_init cX5_init 1 none :: ([.methodLink RX5 3 objectInit, .instanceMethod objectInit, .code objectInit ⟨#[0xb1]⟩ 1 none, .arrayClass .int, .fieldLink RX5 9 "RegisterMill$Places" "kinds" "[I", .fieldLink RX5 15 "RegisterMill$Places" "numbers" "[I", .fieldLink RX5 18 "RegisterMill$Places" "goals" "[I", .fieldLink RX5 21 "RegisterMill$Places" "written" "[I", .fieldLink RX5 24 "RegisterMill$Places" "readCounts" "[I", .classLink RX5 27 "[[I", .fieldLink RX5 29 "RegisterMill$Places" "reads" "[[I", .fieldLink RX5 32 "RegisterMill$Places" "newNumbers" "[I", .arrayClass .boolean, .fieldLink RX5 35 "RegisterMill$Places" "blockStarts" "[Z", .fieldLink RX5 39 "RegisterMill$Places" "copyOf" "[I"] ++ wsX50)
def wsX5_add : List Cond := .code yX5_add cX5_add 4 none :: ([.fieldLink RX5 9 "RegisterMill$Places" "kinds" "[I", .fieldLink RX5 42 "RegisterMill$Places" "total" "I", .fieldLink RX5 21 "RegisterMill$Places" "written" "[I", .fieldLink RX5 15 "RegisterMill$Places" "numbers" "[I", .fieldLink RX5 18 "RegisterMill$Places" "goals" "[I", .fieldLink RX5 24 "RegisterMill$Places" "readCounts" "[I"] ++ wsX50)
def wsX5_addRead : List Cond := .code yX5_addRead cX5_addRead 3 none :: ([.fieldLink RX5 42 "RegisterMill$Places" "total" "I", .fieldLink RX5 29 "RegisterMill$Places" "reads" "[[I", .fieldLink RX5 24 "RegisterMill$Places" "readCounts" "[I"] ++ wsX50)
def wsX5_addReading : List Cond := .code yX5_addReading cX5_addReading 4 none :: ([.methodLink RX5 71 yX5_add, .instanceMethod yX5_add, .selects RX5 yX5_add yX5_add, .initialized RX5, .code yX5_add cX5_add 4 none, .fieldLink RX5 9 "RegisterMill$Places" "kinds" "[I", .fieldLink RX5 42 "RegisterMill$Places" "total" "I", .fieldLink RX5 21 "RegisterMill$Places" "written" "[I", .fieldLink RX5 15 "RegisterMill$Places" "numbers" "[I", .fieldLink RX5 18 "RegisterMill$Places" "goals" "[I", .fieldLink RX5 24 "RegisterMill$Places" "readCounts" "[I", .methodLink RX5 78 yX5_addRead, .instanceMethod yX5_addRead, .selects RX5 yX5_addRead yX5_addRead, .code yX5_addRead cX5_addRead 3 none, .fieldLink RX5 29 "RegisterMill$Places" "reads" "[[I"] ++ wsX50)
def wsX5_addCall : List Cond := .code yX5_addCall cX5_addCall 5 none :: ([.methodLink RX5 71 yX5_add, .instanceMethod yX5_add, .selects RX5 yX5_add yX5_add, .initialized RX5, .code yX5_add cX5_add 4 none, .fieldLink RX5 9 "RegisterMill$Places" "kinds" "[I", .fieldLink RX5 42 "RegisterMill$Places" "total" "I", .fieldLink RX5 21 "RegisterMill$Places" "written" "[I", .fieldLink RX5 15 "RegisterMill$Places" "numbers" "[I", .fieldLink RX5 18 "RegisterMill$Places" "goals" "[I", .fieldLink RX5 24 "RegisterMill$Places" "readCounts" "[I", .methodLink RX5 78 yX5_addRead, .instanceMethod yX5_addRead, .selects RX5 yX5_addRead yX5_addRead, .code yX5_addRead cX5_addRead 3 none, .fieldLink RX5 29 "RegisterMill$Places" "reads" "[[I"] ++ wsX50)
def wsX5_become_r1 : List Cond := [Cond.fieldLink RX5 67 "RegisterMill$Program" "numbers" "[I", Cond.fieldLink RX5 54 "RegisterMill$Program" "depths" "[I", Cond.fieldLink RX5 68 "RegisterMill$Program" "ops" "[I", Cond.fieldLink RX5 18 "RegisterMill$Places" "goals" "[I", Cond.fieldLink RX5 42 "RegisterMill$Places" "total" "I", Cond.fieldLink RX5 82 "RegisterMill$Program" "args" "[I", Cond.methodLink RX5 71 yX5_add, Cond.instanceMethod yX5_add, Cond.selects RX5 yX5_add yX5_add, Cond.initialized RX5, Cond.code yX5_add cX5_add 4 none, Cond.fieldLink RX5 9 "RegisterMill$Places" "kinds" "[I", Cond.fieldLink RX5 21 "RegisterMill$Places" "written" "[I", Cond.fieldLink RX5 15 "RegisterMill$Places" "numbers" "[I", Cond.fieldLink RX5 24 "RegisterMill$Places" "readCounts" "[I", Cond.methodLink RX5 75 yX5_addReading, Cond.instanceMethod yX5_addReading, Cond.selects RX5 yX5_addReading yX5_addReading, Cond.code yX5_addReading cX5_addReading 4 none, Cond.methodLink RX5 78 yX5_addRead, Cond.instanceMethod yX5_addRead, Cond.selects RX5 yX5_addRead yX5_addRead, Cond.code yX5_addRead cX5_addRead 3 none, Cond.fieldLink RX5 29 "RegisterMill$Places" "reads" "[[I"]
def wsX5_become_r2 : List Cond := [Cond.methodLink RX5 85 yX5_addCall, Cond.instanceMethod yX5_addCall, Cond.selects RX5 yX5_addCall yX5_addCall, Cond.code yX5_addCall cX5_addCall 5 none]
def wsX5_become : List Cond := .code yX5_become cX5_become 6 none :: ((wsX5_become_r1 ++ wsX5_become_r2) ++ wsX60 ++ wsX50)
def wsX5_aimAnew : List Cond := .code yX5_aimAnew cX5_aimAnew 2 none :: ([.fieldLink RX5 42 "RegisterMill$Places" "total" "I", .fieldLink RX5 18 "RegisterMill$Places" "goals" "[I", .fieldLink RX5 32 "RegisterMill$Places" "newNumbers" "[I", .methodLink RX5 88 yX5_jumps, .instanceMethod yX5_jumps, .selects RX5 yX5_jumps yX5_jumps, .initialized RX5, .code yX5_jumps cX5_jumps 2 (some .boolean), .fieldLink RX5 9 "RegisterMill$Places" "kinds" "[I"] ++ wsX50)
def wsX5_build_r1 : List Cond := [Cond.fieldLink RX5 42 "RegisterMill$Places" "total" "I", Cond.fieldLink RX5 46 "RegisterMill$Program" "starts" "[I", Cond.fieldLink RX5 51 "RegisterMill$Program" "lengths" "[I", Cond.fieldLink RX5 32 "RegisterMill$Places" "newNumbers" "[I", Cond.fieldLink RX5 54 "RegisterMill$Program" "depths" "[I", Cond.fieldLink RX5 57 "RegisterMill$Program" "locals" "[I", Cond.methodLink RX5 60 yX5_become, Cond.instanceMethod yX5_become, Cond.selects RX5 yX5_become yX5_become, Cond.initialized RX5, Cond.code yX5_become cX5_become 6 none, Cond.fieldLink RX5 67 "RegisterMill$Program" "numbers" "[I", Cond.fieldLink RX5 68 "RegisterMill$Program" "ops" "[I", Cond.fieldLink RX5 18 "RegisterMill$Places" "goals" "[I", Cond.fieldLink RX5 82 "RegisterMill$Program" "args" "[I", Cond.methodLink RX5 71 yX5_add, Cond.instanceMethod yX5_add, Cond.selects RX5 yX5_add yX5_add, Cond.code yX5_add cX5_add 4 none, Cond.fieldLink RX5 9 "RegisterMill$Places" "kinds" "[I", Cond.fieldLink RX5 21 "RegisterMill$Places" "written" "[I", Cond.fieldLink RX5 15 "RegisterMill$Places" "numbers" "[I", Cond.fieldLink RX5 24 "RegisterMill$Places" "readCounts" "[I", Cond.methodLink RX5 75 yX5_addReading]
def wsX5_build_r2 : List Cond := [Cond.instanceMethod yX5_addReading, Cond.selects RX5 yX5_addReading yX5_addReading, Cond.code yX5_addReading cX5_addReading 4 none, Cond.methodLink RX5 78 yX5_addRead, Cond.instanceMethod yX5_addRead, Cond.selects RX5 yX5_addRead yX5_addRead, Cond.code yX5_addRead cX5_addRead 3 none, Cond.fieldLink RX5 29 "RegisterMill$Places" "reads" "[[I", Cond.methodLink RX5 85 yX5_addCall, Cond.instanceMethod yX5_addCall, Cond.selects RX5 yX5_addCall yX5_addCall, Cond.code yX5_addCall cX5_addCall 5 none, Cond.methodLink RX5 64 yX5_aimAnew, Cond.instanceMethod yX5_aimAnew, Cond.selects RX5 yX5_aimAnew yX5_aimAnew, Cond.code yX5_aimAnew cX5_aimAnew 2 none, Cond.methodLink RX5 88 yX5_jumps, Cond.instanceMethod yX5_jumps, Cond.selects RX5 yX5_jumps yX5_jumps, Cond.code yX5_jumps cX5_jumps 2 (some .boolean)]
def wsX5_build : List Cond := .code yX5_build cX5_build 5 none :: ((wsX5_build_r1 ++ wsX5_build_r2) ++ wsX50 ++ wsX60)
def wsX5_markBlockStarts : List Cond := .code yX5_markBlockStarts cX5_markBlockStarts 2 none :: ([.fieldLink RX5 42 "RegisterMill$Places" "total" "I", .fieldLink RX5 35 "RegisterMill$Places" "blockStarts" "[Z", .fieldLink RX5 9 "RegisterMill$Places" "kinds" "[I", .fieldLink RX5 18 "RegisterMill$Places" "goals" "[I", .methodLink RX5 88 yX5_jumps, .instanceMethod yX5_jumps, .selects RX5 yX5_jumps yX5_jumps, .initialized RX5, .code yX5_jumps cX5_jumps 2 (some .boolean)] ++ wsX50)
def wsX5_forwardReads : List Cond := .code yX5_forwardReads cX5_forwardReads 4 none :: ([.fieldLink RX5 9 "RegisterMill$Places" "kinds" "[I", .fieldLink RX5 24 "RegisterMill$Places" "readCounts" "[I", .fieldLink RX5 39 "RegisterMill$Places" "copyOf" "[I", .fieldLink RX5 29 "RegisterMill$Places" "reads" "[[I"] ++ wsX50)
def wsX5_forgetWritten : List Cond := .code yX5_forgetWritten cX5_forgetWritten 4 none :: ([.fieldLink RX5 39 "RegisterMill$Places" "copyOf" "[I"] ++ wsX50)
def wsX5_forward_r1 : List Cond := [Cond.fieldLink RX5 42 "RegisterMill$Places" "total" "I", Cond.fieldLink RX5 35 "RegisterMill$Places" "blockStarts" "[Z", Cond.fieldLink RX5 39 "RegisterMill$Places" "copyOf" "[I", Cond.fieldLink RX5 9 "RegisterMill$Places" "kinds" "[I", Cond.fieldLink RX5 21 "RegisterMill$Places" "written" "[I", Cond.fieldLink RX5 29 "RegisterMill$Places" "reads" "[[I", Cond.methodLink RX5 96 yX5_markBlockStarts, Cond.instanceMethod yX5_markBlockStarts, Cond.selects RX5 yX5_markBlockStarts yX5_markBlockStarts, Cond.initialized RX5, Cond.code yX5_markBlockStarts cX5_markBlockStarts 2 none, Cond.fieldLink RX5 18 "RegisterMill$Places" "goals" "[I", Cond.methodLink RX5 88 yX5_jumps, Cond.instanceMethod yX5_jumps, Cond.selects RX5 yX5_jumps yX5_jumps, Cond.code yX5_jumps cX5_jumps 2 (some .boolean), Cond.methodLink RX5 99 yJ7_fill_53178, Cond.static yJ7_fill_53178, Cond.initialized RJ7, Cond.code yJ7_fill_53178 cJ7_fill_53178 4 none, Cond.methodLink RX5 105 yX5_forwardReads, Cond.instanceMethod yX5_forwardReads, Cond.selects RX5 yX5_forwardReads yX5_forwardReads, Cond.code yX5_forwardReads cX5_forwardReads 4 none]
def wsX5_forward_r2 : List Cond := [Cond.fieldLink RX5 24 "RegisterMill$Places" "readCounts" "[I", Cond.methodLink RX5 108 yX5_writtenSet, Cond.instanceMethod yX5_writtenSet, Cond.selects RX5 yX5_writtenSet yX5_writtenSet, Cond.code yX5_writtenSet cX5_writtenSet 2 (some .int), Cond.methodLink RX5 92 yX5_readSet, Cond.instanceMethod yX5_readSet, Cond.selects RX5 yX5_readSet yX5_readSet, Cond.code yX5_readSet cX5_readSet 4 (some .int), Cond.methodLink RX5 111 yX5_forgetWritten, Cond.instanceMethod yX5_forgetWritten, Cond.selects RX5 yX5_forgetWritten yX5_forgetWritten, Cond.code yX5_forgetWritten cX5_forgetWritten 4 none]
def wsX5_forward : List Cond := .code yX5_forward cX5_forward 2 none :: ((wsX5_forward_r1 ++ wsX5_forward_r2) ++ wsX50)
def wsX5_isUseless : List Cond := .code yX5_isUseless cX5_isUseless 4 (some .boolean) :: ([.fieldLink RX5 9 "RegisterMill$Places" "kinds" "[I", .fieldLink RX5 21 "RegisterMill$Places" "written" "[I", .fieldLink RX5 29 "RegisterMill$Places" "reads" "[[I", .fieldLink RX5 122 "RegisterMill$Live" "behind" "[I"] ++ wsX50 ++ wsX30)
def wsX5_copyPlace : List Cond := .code yX5_copyPlace cX5_copyPlace 4 none :: ([.fieldLink RX5 9 "RegisterMill$Places" "kinds" "[I", .fieldLink RX5 15 "RegisterMill$Places" "numbers" "[I", .fieldLink RX5 18 "RegisterMill$Places" "goals" "[I", .fieldLink RX5 21 "RegisterMill$Places" "written" "[I", .fieldLink RX5 24 "RegisterMill$Places" "readCounts" "[I", .fieldLink RX5 29 "RegisterMill$Places" "reads" "[[I"] ++ wsX50)
def wsX5_dropUseless_r1 : List Cond := [Cond.fieldLink RX5 42 "RegisterMill$Places" "total" "I", Cond.fieldLink RX5 32 "RegisterMill$Places" "newNumbers" "[I", Cond.methodLink RX5 114 yX5_isUseless, Cond.instanceMethod yX5_isUseless, Cond.selects RX5 yX5_isUseless yX5_isUseless, Cond.initialized RX5, Cond.code yX5_isUseless cX5_isUseless 4 (some .boolean), Cond.fieldLink RX5 9 "RegisterMill$Places" "kinds" "[I", Cond.fieldLink RX5 21 "RegisterMill$Places" "written" "[I", Cond.fieldLink RX5 29 "RegisterMill$Places" "reads" "[[I", Cond.fieldLink RX5 122 "RegisterMill$Live" "behind" "[I", Cond.methodLink RX5 118 yX5_copyPlace, Cond.instanceMethod yX5_copyPlace, Cond.selects RX5 yX5_copyPlace yX5_copyPlace, Cond.code yX5_copyPlace cX5_copyPlace 4 none, Cond.fieldLink RX5 15 "RegisterMill$Places" "numbers" "[I", Cond.fieldLink RX5 18 "RegisterMill$Places" "goals" "[I", Cond.fieldLink RX5 24 "RegisterMill$Places" "readCounts" "[I", Cond.methodLink RX5 64 yX5_aimAnew, Cond.instanceMethod yX5_aimAnew, Cond.selects RX5 yX5_aimAnew yX5_aimAnew, Cond.code yX5_aimAnew cX5_aimAnew 2 none, Cond.methodLink RX5 88 yX5_jumps, Cond.instanceMethod yX5_jumps]
def wsX5_dropUseless_r2 : List Cond := [Cond.selects RX5 yX5_jumps yX5_jumps, Cond.code yX5_jumps cX5_jumps 2 (some .boolean)]
def wsX5_dropUseless : List Cond := .code yX5_dropUseless cX5_dropUseless 4 (some .boolean) :: ((wsX5_dropUseless_r1 ++ wsX5_dropUseless_r2) ++ wsX50 ++ wsX30)
def wsX6_init : List Cond := .code yX6_init cX6_init 1 none :: ([.methodLink RX6 3 objectInit, .instanceMethod objectInit, .code objectInit ⟨#[0xb1]⟩ 1 none, .arrayClass .int, .fieldLink RX6 9 "RegisterMill$Program" "args" "[I", .fieldLink RX6 15 "RegisterMill$Program" "locals" "[I", .fieldLink RX6 18 "RegisterMill$Program" "starts" "[I", .fieldLink RX6 21 "RegisterMill$Program" "lengths" "[I", .fieldLink RX6 24 "RegisterMill$Program" "ops" "[I", .fieldLink RX6 27 "RegisterMill$Program" "numbers" "[I", .fieldLink RX6 30 "RegisterMill$Program" "depths" "[I"] ++ wsX60)
def wsX6_addFunc : List Cond := .code yX6_addFunc cX6_addFunc 3 (some .int) :: ([.fieldLink RX6 9 "RegisterMill$Program" "args" "[I", .fieldLink RX6 33 "RegisterMill$Program" "funcs" "I", .fieldLink RX6 15 "RegisterMill$Program" "locals" "[I", .fieldLink RX6 18 "RegisterMill$Program" "starts" "[I", .fieldLink RX6 37 "RegisterMill$Program" "words" "I", .fieldLink RX6 21 "RegisterMill$Program" "lengths" "[I"] ++ wsX60)
def wsX6_addWord : List Cond := .code yX6_addWord cX6_addWord 4 (some .int) :: ([.fieldLink RX6 33 "RegisterMill$Program" "funcs" "I", .fieldLink RX6 24 "RegisterMill$Program" "ops" "[I", .fieldLink RX6 37 "RegisterMill$Program" "words" "I", .fieldLink RX6 27 "RegisterMill$Program" "numbers" "[I", .fieldLink RX6 21 "RegisterMill$Program" "lengths" "[I"] ++ wsX60)
def wsX6_empty : List Cond := .code yX6_empty cX6_empty 1 none :: ([.fieldLink RX6 33 "RegisterMill$Program" "funcs" "I", .fieldLink RX6 37 "RegisterMill$Program" "words" "I", .fieldLink RX6 40 "RegisterMill$Program" "checked" "Z"] ++ wsX60)
def wsX7_init : List Cond := .code yX7_init cX7_init 2 none :: ([.arrayClass .int, .fieldLink RX7 9 "RegisterMill$RegisterMachine" "registers" "[I", .fieldLink RX7 15 "RegisterMill$RegisterMachine" "slotCells" "[I", .fieldLink RX7 18 "RegisterMill$RegisterMachine" "passed" "[I", .fieldLink RX7 21 "RegisterMill$RegisterMachine" "code" "LRegisterMill$Code;", .instanceMethod yX4_init, .initialized RX4, .code yX4_init cX4_init 1 none, .methodLink RX4 3 objectInit, .instanceMethod objectInit, .code objectInit ⟨#[0xb1]⟩ 1 none, .fieldLink RX4 9 "RegisterMill$Machine" "memory" "[I", .fieldLink RX4 15 "RegisterMill$Machine" "funcs" "[I", .fieldLink RX4 18 "RegisterMill$Machine" "nexts" "[I"] ++ wsX70 ++ wsX80)
def wsX7_begin : List Cond := .code yX7_begin cX7_begin 1 none :: ([.fieldLink RX7 28 "RegisterMill$RegisterMachine" "answered" "I", .fieldLink RX7 18 "RegisterMill$RegisterMachine" "passed" "[I", .methodLink RX7 25 yX4_begin, .sameMethod "RegisterMill$Machine" "RegisterMill$Machine" "begin" "()V", .superclass RX7 RX4, .instanceMethod yX4_begin, .initialized RX4, .code yX4_begin cX4_begin 1 none, .fieldLink RX4 21 "RegisterMill$Machine" "end" "I", .fieldLink RX4 25 "RegisterMill$Machine" "told" "I", .fieldLink RX4 28 "RegisterMill$Machine" "steps" "I", .fieldLink RX4 31 "RegisterMill$Machine" "calls" "I", .fieldLink RX4 34 "RegisterMill$Machine" "nested" "I", .methodLink RX7 32 yJ7_fill_53178, .static yJ7_fill_53178, .initialized RJ7, .code yJ7_fill_53178 cJ7_fill_53178 4 none] ++ wsX70 ++ wsX80)
def wsX8_init : List Cond := .code yX8_init cX8_init 2 none :: ([.arrayClass .int, .fieldLink RX8 9 "RegisterMill$StackMachine" "locals" "[I", .fieldLink RX8 15 "RegisterMill$StackMachine" "stack" "[I", .fieldLink RX8 18 "RegisterMill$StackMachine" "bottoms" "[I", .fieldLink RX8 21 "RegisterMill$StackMachine" "program" "LRegisterMill$Program;", .instanceMethod yX4_init, .initialized RX4, .code yX4_init cX4_init 1 none, .methodLink RX4 3 objectInit, .instanceMethod objectInit, .code objectInit ⟨#[0xb1]⟩ 1 none, .fieldLink RX4 9 "RegisterMill$Machine" "memory" "[I", .fieldLink RX4 15 "RegisterMill$Machine" "funcs" "[I", .fieldLink RX4 18 "RegisterMill$Machine" "nexts" "[I"] ++ wsX80 ++ wsX70)
def wsX8_begin : List Cond := .code yX8_begin cX8_begin 1 none :: ([.fieldLink RX8 28 "RegisterMill$StackMachine" "top" "I", .methodLink RX8 25 yX4_begin, .sameMethod "RegisterMill$Machine" "RegisterMill$Machine" "begin" "()V", .superclass RX8 RX4, .instanceMethod yX4_begin, .initialized RX4, .code yX4_begin cX4_begin 1 none, .fieldLink RX4 21 "RegisterMill$Machine" "end" "I", .fieldLink RX4 25 "RegisterMill$Machine" "told" "I", .fieldLink RX4 28 "RegisterMill$Machine" "steps" "I", .fieldLink RX4 31 "RegisterMill$Machine" "calls" "I", .fieldLink RX4 34 "RegisterMill$Machine" "nested" "I"] ++ wsX80 ++ wsX70)
def wsX10_init : List Cond := .code yX10_init cX10_init 4 none :: ([.methodLink RX10 3 objectInit, .instanceMethod objectInit, .code objectInit ⟨#[0xb1]⟩ 1 none, .arrayClass .int, .fieldLink RX10 9 "RegisterMill$Writer" "firstOps" "[I", .fieldLink RX10 15 "RegisterMill$Writer" "places" "LRegisterMill$Places;", .fieldLink RX10 19 "RegisterMill$Writer" "homes" "LRegisterMill$Homes;", .fieldLink RX10 23 "RegisterMill$Writer" "code" "LRegisterMill$Code;"] ++ wsX100)
def wsX9_init_r1 : List Cond := [Cond.methodLink RX9 3 objectInit, Cond.instanceMethod objectInit, Cond.code objectInit ⟨#[0xb1]⟩ 1 none, Cond.classLink RX9 9 RX5, Cond.instantiable RX5 10, Cond.initialized RX5, Cond.fieldLink RX9 12 "RegisterMill$Turner" "places" "LRegisterMill$Places;", Cond.classLink RX9 18 RX3, Cond.instantiable RX3 2, Cond.initialized RX3, Cond.fieldLink RX9 21 "RegisterMill$Turner" "live" "LRegisterMill$Live;", Cond.classLink RX9 25 RX2, Cond.instantiable RX2 6, Cond.initialized RX2, Cond.fieldLink RX9 28 "RegisterMill$Turner" "homes" "LRegisterMill$Homes;", Cond.classLink RX9 32 RX1, Cond.instantiable RX1 4, Cond.initialized RX1, Cond.fieldLink RX9 35 "RegisterMill$Turner" "code" "LRegisterMill$Code;", Cond.arrayClass .int, Cond.fieldLink RX9 39 "RegisterMill$Turner" "placeCounts" "[I", Cond.fieldLink RX9 43 "RegisterMill$Turner" "program" "LRegisterMill$Program;", Cond.classLink RX9 47 RX10, Cond.instantiable RX10 7]
def wsX9_init_r2 : List Cond := [Cond.initialized RX10, Cond.fieldLink RX9 52 "RegisterMill$Turner" "writer" "LRegisterMill$Writer;", Cond.instanceMethod yX5_init, Cond.code yX5_init cX5_init 1 none, Cond.methodLink RX5 3 objectInit, Cond.fieldLink RX5 9 "RegisterMill$Places" "kinds" "[I", Cond.fieldLink RX5 15 "RegisterMill$Places" "numbers" "[I", Cond.fieldLink RX5 18 "RegisterMill$Places" "goals" "[I", Cond.fieldLink RX5 21 "RegisterMill$Places" "written" "[I", Cond.fieldLink RX5 24 "RegisterMill$Places" "readCounts" "[I", Cond.classLink RX5 27 "[[I", Cond.fieldLink RX5 29 "RegisterMill$Places" "reads" "[[I", Cond.fieldLink RX5 32 "RegisterMill$Places" "newNumbers" "[I", Cond.arrayClass .boolean, Cond.fieldLink RX5 35 "RegisterMill$Places" "blockStarts" "[Z", Cond.fieldLink RX5 39 "RegisterMill$Places" "copyOf" "[I", Cond.instanceMethod yX3_init, Cond.code yX3_init cX3_init 1 none, Cond.methodLink RX3 3 objectInit, Cond.fieldLink RX3 9 "RegisterMill$Live" "ahead" "[I", Cond.fieldLink RX3 15 "RegisterMill$Live" "behind" "[I", Cond.instanceMethod yX2_init, Cond.code yX2_init cX2_init 1 none, Cond.methodLink RX2 3 objectInit]
def wsX9_init_r3 : List Cond := [Cond.fieldLink RX2 9 "RegisterMill$Homes" "firsts" "[I", Cond.fieldLink RX2 15 "RegisterMill$Homes" "lasts" "[I", Cond.fieldLink RX2 18 "RegisterMill$Homes" "registers" "[I", Cond.fieldLink RX2 21 "RegisterMill$Homes" "slotNumbers" "[I", Cond.fieldLink RX2 24 "RegisterMill$Homes" "slotCounts" "[I", Cond.fieldLink RX2 27 "RegisterMill$Homes" "holders" "[I", Cond.instanceMethod yX1_init, Cond.code yX1_init cX1_init 1 none, Cond.methodLink RX1 3 objectInit, Cond.fieldLink RX1 9 "RegisterMill$Code" "starts" "[I", Cond.fieldLink RX1 15 "RegisterMill$Code" "sizes" "[I", Cond.fieldLink RX1 18 "RegisterMill$Code" "parts" "[I", Cond.methodLink RX9 49 yX10_init, Cond.instanceMethod yX10_init, Cond.code yX10_init cX10_init 4 none, Cond.methodLink RX10 3 objectInit, Cond.fieldLink RX10 9 "RegisterMill$Writer" "firstOps" "[I", Cond.fieldLink RX10 15 "RegisterMill$Writer" "places" "LRegisterMill$Places;", Cond.fieldLink RX10 19 "RegisterMill$Writer" "homes" "LRegisterMill$Homes;", Cond.fieldLink RX10 23 "RegisterMill$Writer" "code" "LRegisterMill$Code;"]
def wsX9_init : List Cond := .code yX9_init cX9_init 2 none :: ((wsX9_init_r1 ++ (wsX9_init_r2 ++ wsX9_init_r3)) ++ wsX50 ++ wsX90 ++ wsX30 ++ wsX20 ++ wsX10 ++ wsX100)
def wsX9_begin : List Cond := .code yX9_begin cX9_begin 2 none :: ([.fieldLink RX9 56 "RegisterMill$Turner" "registers" "I", .fieldLink RX9 35 "RegisterMill$Turner" "code" "LRegisterMill$Code;", .fieldLink RX9 60 "RegisterMill$Code" "total" "I"] ++ wsX90 ++ wsX10)
def wsX9_leaveOut_r1 : List Cond := [Cond.fieldLink RX9 12 "RegisterMill$Turner" "places" "LRegisterMill$Places;", Cond.fieldLink RX9 73 "RegisterMill$Places" "total" "I", Cond.fieldLink RX9 21 "RegisterMill$Turner" "live" "LRegisterMill$Live;", Cond.methodLink RX9 91 yX3_find, Cond.instanceMethod yX3_find, Cond.selects RX3 yX3_find yX3_find, Cond.initialized RX3, Cond.code yX3_find cX3_find 4 none, Cond.fieldLink RX3 9 "RegisterMill$Live" "ahead" "[I", Cond.fieldLink RX3 24 "RegisterMill$Places" "total" "I", Cond.methodLink RX3 18 yJ7_fill_53178, Cond.static yJ7_fill_53178, Cond.initialized RJ7, Cond.code yJ7_fill_53178 cJ7_fill_53178 4 none, Cond.methodLink RX3 30 yX3_growBackwards, Cond.instanceMethod yX3_growBackwards, Cond.selects RX3 yX3_growBackwards yX3_growBackwards, Cond.code yX3_growBackwards cX3_growBackwards 6 (some .boolean), Cond.fieldLink RX3 41 "RegisterMill$Places" "goals" "[I", Cond.fieldLink RX3 15 "RegisterMill$Live" "behind" "[I", Cond.methodLink RX3 34 yX5_goesToNext, Cond.instanceMethod yX5_goesToNext, Cond.selects RX5 yX5_goesToNext yX5_goesToNext, Cond.initialized RX5]
def wsX9_leaveOut_r2 : List Cond := [Cond.code yX5_goesToNext cX5_goesToNext 2 (some .boolean), Cond.fieldLink RX5 9 "RegisterMill$Places" "kinds" "[I", Cond.fieldLink RX5 42 "RegisterMill$Places" "total" "I", Cond.methodLink RX3 38 yX5_jumps, Cond.instanceMethod yX5_jumps, Cond.selects RX5 yX5_jumps yX5_jumps, Cond.code yX5_jumps cX5_jumps 2 (some .boolean), Cond.methodLink RX3 44 yX5_readSet, Cond.instanceMethod yX5_readSet, Cond.selects RX5 yX5_readSet yX5_readSet, Cond.code yX5_readSet cX5_readSet 4 (some .int), Cond.fieldLink RX5 24 "RegisterMill$Places" "readCounts" "[I", Cond.fieldLink RX5 29 "RegisterMill$Places" "reads" "[[I", Cond.methodLink RX3 48 yX5_writtenSet, Cond.instanceMethod yX5_writtenSet, Cond.selects RX5 yX5_writtenSet yX5_writtenSet, Cond.code yX5_writtenSet cX5_writtenSet 2 (some .int), Cond.fieldLink RX5 21 "RegisterMill$Places" "written" "[I", Cond.methodLink RX5 92 yX5_readSet, Cond.methodLink RX9 95 yX5_dropUseless, Cond.instanceMethod yX5_dropUseless, Cond.selects RX5 yX5_dropUseless yX5_dropUseless, Cond.code yX5_dropUseless cX5_dropUseless 4 (some .boolean), Cond.fieldLink RX5 32 "RegisterMill$Places" "newNumbers" "[I"]
def wsX9_leaveOut_r3 : List Cond := [Cond.methodLink RX5 114 yX5_isUseless, Cond.instanceMethod yX5_isUseless, Cond.selects RX5 yX5_isUseless yX5_isUseless, Cond.code yX5_isUseless cX5_isUseless 4 (some .boolean), Cond.fieldLink RX5 122 "RegisterMill$Live" "behind" "[I", Cond.methodLink RX5 118 yX5_copyPlace, Cond.instanceMethod yX5_copyPlace, Cond.selects RX5 yX5_copyPlace yX5_copyPlace, Cond.code yX5_copyPlace cX5_copyPlace 4 none, Cond.fieldLink RX5 15 "RegisterMill$Places" "numbers" "[I", Cond.fieldLink RX5 18 "RegisterMill$Places" "goals" "[I", Cond.methodLink RX5 64 yX5_aimAnew, Cond.instanceMethod yX5_aimAnew, Cond.selects RX5 yX5_aimAnew yX5_aimAnew, Cond.code yX5_aimAnew cX5_aimAnew 2 none, Cond.methodLink RX5 88 yX5_jumps]
def wsX9_leaveOut : List Cond := .code yX9_leaveOut cX9_leaveOut 3 none :: ((wsX9_leaveOut_r1 ++ (wsX9_leaveOut_r2 ++ wsX9_leaveOut_r3)) ++ wsX90 ++ wsX50 ++ wsX30)
def wsX10_begin_r1 : List Cond := [Cond.fieldLink RX10 27 "RegisterMill$Writer" "func" "I", Cond.fieldLink RX10 31 "RegisterMill$Writer" "spareA" "I", Cond.fieldLink RX10 34 "RegisterMill$Writer" "spareB" "I", Cond.fieldLink RX10 23 "RegisterMill$Writer" "code" "LRegisterMill$Code;", Cond.fieldLink RX10 15 "RegisterMill$Writer" "places" "LRegisterMill$Places;", Cond.fieldLink RX10 37 "RegisterMill$Places" "total" "I", Cond.methodLink RX10 42 yX1_open, Cond.instanceMethod yX1_open, Cond.selects RX1 yX1_open yX1_open, Cond.initialized RX1, Cond.code yX1_open cX1_open 4 none, Cond.fieldLink RX1 21 "RegisterMill$Code" "total" "I", Cond.fieldLink RX1 18 "RegisterMill$Code" "parts" "[I", Cond.methodLink RX1 25 Lib.Math.max.name, Cond.static Lib.Math.max.name, Cond.initialized "java/lang/Math", Cond.code Lib.Math.max.name Lib.Math.max.code 2 (some .int), Cond.fieldLink RX1 9 "RegisterMill$Code" "starts" "[I", Cond.fieldLink RX1 15 "RegisterMill$Code" "sizes" "[I", Cond.methodLink RX1 31 yJ7_copyOf_59c91, Cond.static yJ7_copyOf_59c91, Cond.initialized RJ7, Cond.code yJ7_copyOf_59c91 cJ7_copyOf_59c91 3 (some (.array .int)), Cond.methodLink RJ7 316 ⟨"[I", "clone", "()Ljava/lang/Object;"⟩]
def wsX10_begin_r2 : List Cond := [Cond.sameMethod "[I" "java/lang/Object" "clone" "()Ljava/lang/Object;", Cond.native ⟨"java/lang/Object", "clone", "()Ljava/lang/Object;"⟩, Cond.instanceMethod ⟨"java/lang/Object", "clone", "()Ljava/lang/Object;"⟩, Cond.selects "[I" ⟨"[I", "clone", "()Ljava/lang/Object;"⟩ ⟨"java/lang/Object", "clone", "()Ljava/lang/Object;"⟩, Cond.classLink RJ7 317 "[I", Cond.arrayClass .int, Cond.methodLink RJ7 304 Lib.Math.min.name, Cond.static Lib.Math.min.name, Cond.code Lib.Math.min.name Lib.Math.min.code 2 (some .int), Cond.methodLink RJ7 150 arraycopyName, Cond.native arraycopyName, Cond.static arraycopyName, Cond.initialized "java/lang/System"]
def wsX10_begin : List Cond := .code yX10_begin cX10_begin 3 none :: ((wsX10_begin_r1 ++ wsX10_begin_r2) ++ wsX100 ++ wsX50 ++ wsX10)
def wsX10_target : List Cond := .code yX10_target cX10_target 2 (some .int) :: ([.fieldLink RX10 19 "RegisterMill$Writer" "homes" "LRegisterMill$Homes;", .fieldLink RX10 27 "RegisterMill$Writer" "func" "I", .fieldLink RX10 31 "RegisterMill$Writer" "spareA" "I", .methodLink RX10 120 yX2_slotOf, .instanceMethod yX2_slotOf, .selects RX2 yX2_slotOf yX2_slotOf, .initialized RX2, .code yX2_slotOf cX2_slotOf 3 (some .int), .fieldLink RX2 21 "RegisterMill$Homes" "slotNumbers" "[I", .methodLink RX10 125 yX2_registerOf, .instanceMethod yX2_registerOf, .selects RX2 yX2_registerOf yX2_registerOf, .code yX2_registerOf cX2_registerOf 3 (some .int), .fieldLink RX2 18 "RegisterMill$Homes" "registers" "[I"] ++ wsX100 ++ wsX20)
def wsX10_saveTarget : List Cond := .code yX10_saveTarget cX10_saveTarget 3 none :: ([.fieldLink RX10 19 "RegisterMill$Writer" "homes" "LRegisterMill$Homes;", .fieldLink RX10 27 "RegisterMill$Writer" "func" "I", .fieldLink RX10 23 "RegisterMill$Writer" "code" "LRegisterMill$Code;", .fieldLink RX10 31 "RegisterMill$Writer" "spareA" "I", .methodLink RX10 120 yX2_slotOf, .instanceMethod yX2_slotOf, .selects RX2 yX2_slotOf yX2_slotOf, .initialized RX2, .code yX2_slotOf cX2_slotOf 3 (some .int), .fieldLink RX2 21 "RegisterMill$Homes" "slotNumbers" "[I", .methodLink RX10 60 yX1_add, .instanceMethod yX1_add, .selects RX1 yX1_add yX1_add, .initialized RX1, .code yX1_add cX1_add 6 none, .fieldLink RX1 21 "RegisterMill$Code" "total" "I", .fieldLink RX1 18 "RegisterMill$Code" "parts" "[I", .fieldLink RX1 15 "RegisterMill$Code" "sizes" "[I"] ++ wsX100 ++ wsX20 ++ wsX10)
def wsX10_writeEntry_r1 : List Cond := [Cond.fieldLink RX10 48 "RegisterMill$Program" "locals" "[I", Cond.fieldLink RX10 27 "RegisterMill$Writer" "func" "I", Cond.fieldLink RX10 53 "RegisterMill$Program" "args" "[I", Cond.fieldLink RX10 23 "RegisterMill$Writer" "code" "LRegisterMill$Code;", Cond.methodLink RX10 56 yX10_target, Cond.instanceMethod yX10_target, Cond.selects RX10 yX10_target yX10_target, Cond.initialized RX10, Cond.code yX10_target cX10_target 2 (some .int), Cond.fieldLink RX10 19 "RegisterMill$Writer" "homes" "LRegisterMill$Homes;", Cond.fieldLink RX10 31 "RegisterMill$Writer" "spareA" "I", Cond.methodLink RX10 120 yX2_slotOf, Cond.instanceMethod yX2_slotOf, Cond.selects RX2 yX2_slotOf yX2_slotOf, Cond.initialized RX2, Cond.code yX2_slotOf cX2_slotOf 3 (some .int), Cond.fieldLink RX2 21 "RegisterMill$Homes" "slotNumbers" "[I", Cond.methodLink RX10 125 yX2_registerOf, Cond.instanceMethod yX2_registerOf, Cond.selects RX2 yX2_registerOf yX2_registerOf, Cond.code yX2_registerOf cX2_registerOf 3 (some .int), Cond.fieldLink RX2 18 "RegisterMill$Homes" "registers" "[I", Cond.methodLink RX10 60 yX1_add, Cond.instanceMethod yX1_add]
def wsX10_writeEntry_r2 : List Cond := [Cond.selects RX1 yX1_add yX1_add, Cond.initialized RX1, Cond.code yX1_add cX1_add 6 none, Cond.fieldLink RX1 21 "RegisterMill$Code" "total" "I", Cond.fieldLink RX1 18 "RegisterMill$Code" "parts" "[I", Cond.fieldLink RX1 15 "RegisterMill$Code" "sizes" "[I", Cond.methodLink RX10 64 yX10_saveTarget, Cond.instanceMethod yX10_saveTarget, Cond.selects RX10 yX10_saveTarget yX10_saveTarget, Cond.code yX10_saveTarget cX10_saveTarget 3 none]
def wsX10_writeEntry : List Cond := .code yX10_writeEntry cX10_writeEntry 4 none :: ((wsX10_writeEntry_r1 ++ wsX10_writeEntry_r2) ++ wsX60 ++ wsX100 ++ wsX20 ++ wsX10)
def wsX10_moveInto : List Cond := .code yX10_moveInto cX10_moveInto 4 none :: ([.fieldLink RX10 19 "RegisterMill$Writer" "homes" "LRegisterMill$Homes;", .fieldLink RX10 27 "RegisterMill$Writer" "func" "I", .fieldLink RX10 23 "RegisterMill$Writer" "code" "LRegisterMill$Code;", .methodLink RX10 120 yX2_slotOf, .instanceMethod yX2_slotOf, .selects RX2 yX2_slotOf yX2_slotOf, .initialized RX2, .code yX2_slotOf cX2_slotOf 3 (some .int), .fieldLink RX2 21 "RegisterMill$Homes" "slotNumbers" "[I", .methodLink RX10 60 yX1_add, .instanceMethod yX1_add, .selects RX1 yX1_add yX1_add, .initialized RX1, .code yX1_add cX1_add 6 none, .fieldLink RX1 21 "RegisterMill$Code" "total" "I", .fieldLink RX1 18 "RegisterMill$Code" "parts" "[I", .fieldLink RX1 15 "RegisterMill$Code" "sizes" "[I", .methodLink RX10 125 yX2_registerOf, .instanceMethod yX2_registerOf, .selects RX2 yX2_registerOf yX2_registerOf, .code yX2_registerOf cX2_registerOf 3 (some .int), .fieldLink RX2 18 "RegisterMill$Homes" "registers" "[I"] ++ wsX100 ++ wsX20 ++ wsX10)
def wsX10_writeMove_r1 : List Cond := [Cond.fieldLink RX10 19 "RegisterMill$Writer" "homes" "LRegisterMill$Homes;", Cond.fieldLink RX10 27 "RegisterMill$Writer" "func" "I", Cond.fieldLink RX10 23 "RegisterMill$Writer" "code" "LRegisterMill$Code;", Cond.fieldLink RX10 31 "RegisterMill$Writer" "spareA" "I", Cond.methodLink RX10 120 yX2_slotOf, Cond.instanceMethod yX2_slotOf, Cond.selects RX2 yX2_slotOf yX2_slotOf, Cond.initialized RX2, Cond.code yX2_slotOf cX2_slotOf 3 (some .int), Cond.fieldLink RX2 21 "RegisterMill$Homes" "slotNumbers" "[I", Cond.methodLink RX10 125 yX2_registerOf, Cond.instanceMethod yX2_registerOf, Cond.selects RX2 yX2_registerOf yX2_registerOf, Cond.code yX2_registerOf cX2_registerOf 3 (some .int), Cond.fieldLink RX2 18 "RegisterMill$Homes" "registers" "[I", Cond.methodLink RX10 128 yX10_moveInto, Cond.instanceMethod yX10_moveInto, Cond.selects RX10 yX10_moveInto yX10_moveInto, Cond.initialized RX10, Cond.code yX10_moveInto cX10_moveInto 4 none, Cond.methodLink RX10 60 yX1_add, Cond.instanceMethod yX1_add, Cond.selects RX1 yX1_add yX1_add, Cond.initialized RX1]
def wsX10_writeMove_r2 : List Cond := [Cond.code yX1_add cX1_add 6 none, Cond.fieldLink RX1 21 "RegisterMill$Code" "total" "I", Cond.fieldLink RX1 18 "RegisterMill$Code" "parts" "[I", Cond.fieldLink RX1 15 "RegisterMill$Code" "sizes" "[I"]
def wsX10_writeMove : List Cond := .code yX10_writeMove cX10_writeMove 5 none :: ((wsX10_writeMove_r1 ++ wsX10_writeMove_r2) ++ wsX100 ++ wsX20 ++ wsX10)
def wsX10_loaded : List Cond := .code yX10_loaded cX10_loaded 4 (some .int) :: ([.fieldLink RX10 19 "RegisterMill$Writer" "homes" "LRegisterMill$Homes;", .fieldLink RX10 27 "RegisterMill$Writer" "func" "I", .fieldLink RX10 23 "RegisterMill$Writer" "code" "LRegisterMill$Code;", .methodLink RX10 120 yX2_slotOf, .instanceMethod yX2_slotOf, .selects RX2 yX2_slotOf yX2_slotOf, .initialized RX2, .code yX2_slotOf cX2_slotOf 3 (some .int), .fieldLink RX2 21 "RegisterMill$Homes" "slotNumbers" "[I", .methodLink RX10 125 yX2_registerOf, .instanceMethod yX2_registerOf, .selects RX2 yX2_registerOf yX2_registerOf, .code yX2_registerOf cX2_registerOf 3 (some .int), .fieldLink RX2 18 "RegisterMill$Homes" "registers" "[I", .methodLink RX10 60 yX1_add, .instanceMethod yX1_add, .selects RX1 yX1_add yX1_add, .initialized RX1, .code yX1_add cX1_add 6 none, .fieldLink RX1 21 "RegisterMill$Code" "total" "I", .fieldLink RX1 18 "RegisterMill$Code" "parts" "[I", .fieldLink RX1 15 "RegisterMill$Code" "sizes" "[I"] ++ wsX100 ++ wsX20 ++ wsX10)
def wsX10_writeWork_r1 : List Cond := [Cond.fieldLink RX10 15 "RegisterMill$Writer" "places" "LRegisterMill$Places;", Cond.fieldLink RX10 87 "RegisterMill$Places" "reads" "[[I", Cond.fieldLink RX10 31 "RegisterMill$Writer" "spareA" "I", Cond.fieldLink RX10 34 "RegisterMill$Writer" "spareB" "I", Cond.fieldLink RX10 81 "RegisterMill$Places" "written" "[I", Cond.fieldLink RX10 23 "RegisterMill$Writer" "code" "LRegisterMill$Code;", Cond.fieldLink RX10 27 "RegisterMill$Writer" "func" "I", Cond.fieldLink RX10 84 "RegisterMill$Places" "numbers" "[I", Cond.methodLink RX10 103 yX10_loaded, Cond.instanceMethod yX10_loaded, Cond.selects RX10 yX10_loaded yX10_loaded, Cond.initialized RX10, Cond.code yX10_loaded cX10_loaded 4 (some .int), Cond.fieldLink RX10 19 "RegisterMill$Writer" "homes" "LRegisterMill$Homes;", Cond.methodLink RX10 120 yX2_slotOf, Cond.instanceMethod yX2_slotOf, Cond.selects RX2 yX2_slotOf yX2_slotOf, Cond.initialized RX2, Cond.code yX2_slotOf cX2_slotOf 3 (some .int), Cond.fieldLink RX2 21 "RegisterMill$Homes" "slotNumbers" "[I", Cond.methodLink RX10 125 yX2_registerOf, Cond.instanceMethod yX2_registerOf, Cond.selects RX2 yX2_registerOf yX2_registerOf, Cond.code yX2_registerOf cX2_registerOf 3 (some .int)]
def wsX10_writeWork_r2 : List Cond := [Cond.fieldLink RX2 18 "RegisterMill$Homes" "registers" "[I", Cond.methodLink RX10 60 yX1_add, Cond.instanceMethod yX1_add, Cond.selects RX1 yX1_add yX1_add, Cond.initialized RX1, Cond.code yX1_add cX1_add 6 none, Cond.fieldLink RX1 21 "RegisterMill$Code" "total" "I", Cond.fieldLink RX1 18 "RegisterMill$Code" "parts" "[I", Cond.fieldLink RX1 15 "RegisterMill$Code" "sizes" "[I", Cond.methodLink RX10 56 yX10_target, Cond.instanceMethod yX10_target, Cond.selects RX10 yX10_target yX10_target, Cond.code yX10_target cX10_target 2 (some .int), Cond.methodLink RX10 116 yX1_addWork, Cond.instanceMethod yX1_addWork, Cond.selects RX1 yX1_addWork yX1_addWork, Cond.code yX1_addWork cX1_addWork 7 none, Cond.methodLink RX1 37 yX1_add, Cond.methodLink RX10 64 yX10_saveTarget, Cond.instanceMethod yX10_saveTarget, Cond.selects RX10 yX10_saveTarget yX10_saveTarget, Cond.code yX10_saveTarget cX10_saveTarget 3 none]
def wsX10_writeWork : List Cond := .code yX10_writeWork cX10_writeWork 5 none :: ((wsX10_writeWork_r1 ++ wsX10_writeWork_r2) ++ wsX100 ++ wsX50 ++ wsX20 ++ wsX10)
def wsX10_moveFrom : List Cond := .code yX10_moveFrom cX10_moveFrom 4 none :: ([.fieldLink RX10 19 "RegisterMill$Writer" "homes" "LRegisterMill$Homes;", .fieldLink RX10 27 "RegisterMill$Writer" "func" "I", .fieldLink RX10 23 "RegisterMill$Writer" "code" "LRegisterMill$Code;", .methodLink RX10 120 yX2_slotOf, .instanceMethod yX2_slotOf, .selects RX2 yX2_slotOf yX2_slotOf, .initialized RX2, .code yX2_slotOf cX2_slotOf 3 (some .int), .fieldLink RX2 21 "RegisterMill$Homes" "slotNumbers" "[I", .methodLink RX10 60 yX1_add, .instanceMethod yX1_add, .selects RX1 yX1_add yX1_add, .initialized RX1, .code yX1_add cX1_add 6 none, .fieldLink RX1 21 "RegisterMill$Code" "total" "I", .fieldLink RX1 18 "RegisterMill$Code" "parts" "[I", .fieldLink RX1 15 "RegisterMill$Code" "sizes" "[I", .methodLink RX10 125 yX2_registerOf, .instanceMethod yX2_registerOf, .selects RX2 yX2_registerOf yX2_registerOf, .code yX2_registerOf cX2_registerOf 3 (some .int), .fieldLink RX2 18 "RegisterMill$Homes" "registers" "[I"] ++ wsX100 ++ wsX20 ++ wsX10)
def wsX10_writeSwap_r1 : List Cond := [Cond.fieldLink RX10 19 "RegisterMill$Writer" "homes" "LRegisterMill$Homes;", Cond.fieldLink RX10 27 "RegisterMill$Writer" "func" "I", Cond.fieldLink RX10 23 "RegisterMill$Writer" "code" "LRegisterMill$Code;", Cond.fieldLink RX10 31 "RegisterMill$Writer" "spareA" "I", Cond.fieldLink RX10 34 "RegisterMill$Writer" "spareB" "I", Cond.methodLink RX10 120 yX2_slotOf, Cond.instanceMethod yX2_slotOf, Cond.selects RX2 yX2_slotOf yX2_slotOf, Cond.initialized RX2, Cond.code yX2_slotOf cX2_slotOf 3 (some .int), Cond.fieldLink RX2 21 "RegisterMill$Homes" "slotNumbers" "[I", Cond.methodLink RX10 125 yX2_registerOf, Cond.instanceMethod yX2_registerOf, Cond.selects RX2 yX2_registerOf yX2_registerOf, Cond.code yX2_registerOf cX2_registerOf 3 (some .int), Cond.fieldLink RX2 18 "RegisterMill$Homes" "registers" "[I", Cond.methodLink RX10 60 yX1_add, Cond.instanceMethod yX1_add, Cond.selects RX1 yX1_add yX1_add, Cond.initialized RX1, Cond.code yX1_add cX1_add 6 none, Cond.fieldLink RX1 21 "RegisterMill$Code" "total" "I", Cond.fieldLink RX1 18 "RegisterMill$Code" "parts" "[I", Cond.fieldLink RX1 15 "RegisterMill$Code" "sizes" "[I"]
def wsX10_writeSwap_r2 : List Cond := [Cond.methodLink RX10 128 yX10_moveInto, Cond.instanceMethod yX10_moveInto, Cond.selects RX10 yX10_moveInto yX10_moveInto, Cond.initialized RX10, Cond.code yX10_moveInto cX10_moveInto 4 none, Cond.methodLink RX10 131 yX10_moveFrom, Cond.instanceMethod yX10_moveFrom, Cond.selects RX10 yX10_moveFrom yX10_moveFrom, Cond.code yX10_moveFrom cX10_moveFrom 4 none]
def wsX10_writeSwap : List Cond := .code yX10_writeSwap cX10_writeSwap 4 none :: ((wsX10_writeSwap_r1 ++ wsX10_writeSwap_r2) ++ wsX100 ++ wsX20 ++ wsX10)
def wsX10_writeRead_r1 : List Cond := [Cond.fieldLink RX10 31 "RegisterMill$Writer" "spareA" "I", Cond.fieldLink RX10 23 "RegisterMill$Writer" "code" "LRegisterMill$Code;", Cond.fieldLink RX10 27 "RegisterMill$Writer" "func" "I", Cond.methodLink RX10 103 yX10_loaded, Cond.instanceMethod yX10_loaded, Cond.selects RX10 yX10_loaded yX10_loaded, Cond.initialized RX10, Cond.code yX10_loaded cX10_loaded 4 (some .int), Cond.fieldLink RX10 19 "RegisterMill$Writer" "homes" "LRegisterMill$Homes;", Cond.methodLink RX10 120 yX2_slotOf, Cond.instanceMethod yX2_slotOf, Cond.selects RX2 yX2_slotOf yX2_slotOf, Cond.initialized RX2, Cond.code yX2_slotOf cX2_slotOf 3 (some .int), Cond.fieldLink RX2 21 "RegisterMill$Homes" "slotNumbers" "[I", Cond.methodLink RX10 125 yX2_registerOf, Cond.instanceMethod yX2_registerOf, Cond.selects RX2 yX2_registerOf yX2_registerOf, Cond.code yX2_registerOf cX2_registerOf 3 (some .int), Cond.fieldLink RX2 18 "RegisterMill$Homes" "registers" "[I", Cond.methodLink RX10 60 yX1_add, Cond.instanceMethod yX1_add, Cond.selects RX1 yX1_add yX1_add, Cond.initialized RX1]
def wsX10_writeRead_r2 : List Cond := [Cond.code yX1_add cX1_add 6 none, Cond.fieldLink RX1 21 "RegisterMill$Code" "total" "I", Cond.fieldLink RX1 18 "RegisterMill$Code" "parts" "[I", Cond.fieldLink RX1 15 "RegisterMill$Code" "sizes" "[I", Cond.methodLink RX10 56 yX10_target, Cond.instanceMethod yX10_target, Cond.selects RX10 yX10_target yX10_target, Cond.code yX10_target cX10_target 2 (some .int), Cond.methodLink RX10 64 yX10_saveTarget, Cond.instanceMethod yX10_saveTarget, Cond.selects RX10 yX10_saveTarget yX10_saveTarget, Cond.code yX10_saveTarget cX10_saveTarget 3 none]
def wsX10_writeRead : List Cond := .code yX10_writeRead cX10_writeRead 4 none :: ((wsX10_writeRead_r1 ++ wsX10_writeRead_r2) ++ wsX100 ++ wsX20 ++ wsX10)
def wsX10_writeWrite_r1 : List Cond := [Cond.fieldLink RX10 31 "RegisterMill$Writer" "spareA" "I", Cond.fieldLink RX10 34 "RegisterMill$Writer" "spareB" "I", Cond.fieldLink RX10 23 "RegisterMill$Writer" "code" "LRegisterMill$Code;", Cond.fieldLink RX10 27 "RegisterMill$Writer" "func" "I", Cond.methodLink RX10 103 yX10_loaded, Cond.instanceMethod yX10_loaded, Cond.selects RX10 yX10_loaded yX10_loaded, Cond.initialized RX10, Cond.code yX10_loaded cX10_loaded 4 (some .int), Cond.fieldLink RX10 19 "RegisterMill$Writer" "homes" "LRegisterMill$Homes;", Cond.methodLink RX10 120 yX2_slotOf, Cond.instanceMethod yX2_slotOf, Cond.selects RX2 yX2_slotOf yX2_slotOf, Cond.initialized RX2, Cond.code yX2_slotOf cX2_slotOf 3 (some .int), Cond.fieldLink RX2 21 "RegisterMill$Homes" "slotNumbers" "[I", Cond.methodLink RX10 125 yX2_registerOf, Cond.instanceMethod yX2_registerOf, Cond.selects RX2 yX2_registerOf yX2_registerOf, Cond.code yX2_registerOf cX2_registerOf 3 (some .int), Cond.fieldLink RX2 18 "RegisterMill$Homes" "registers" "[I", Cond.methodLink RX10 60 yX1_add, Cond.instanceMethod yX1_add, Cond.selects RX1 yX1_add yX1_add]
def wsX10_writeWrite_r2 : List Cond := [Cond.initialized RX1, Cond.code yX1_add cX1_add 6 none, Cond.fieldLink RX1 21 "RegisterMill$Code" "total" "I", Cond.fieldLink RX1 18 "RegisterMill$Code" "parts" "[I", Cond.fieldLink RX1 15 "RegisterMill$Code" "sizes" "[I"]
def wsX10_writeWrite : List Cond := .code yX10_writeWrite cX10_writeWrite 5 none :: ((wsX10_writeWrite_r1 ++ wsX10_writeWrite_r2) ++ wsX100 ++ wsX20 ++ wsX10)
def wsX10_writeCall_r1 : List Cond := [Cond.fieldLink RX10 15 "RegisterMill$Writer" "places" "LRegisterMill$Places;", Cond.fieldLink RX10 134 "RegisterMill$Places" "readCounts" "[I", Cond.fieldLink RX10 23 "RegisterMill$Writer" "code" "LRegisterMill$Code;", Cond.fieldLink RX10 27 "RegisterMill$Writer" "func" "I", Cond.fieldLink RX10 87 "RegisterMill$Places" "reads" "[[I", Cond.fieldLink RX10 31 "RegisterMill$Writer" "spareA" "I", Cond.fieldLink RX10 84 "RegisterMill$Places" "numbers" "[I", Cond.fieldLink RX10 81 "RegisterMill$Places" "written" "[I", Cond.methodLink RX10 103 yX10_loaded, Cond.instanceMethod yX10_loaded, Cond.selects RX10 yX10_loaded yX10_loaded, Cond.initialized RX10, Cond.code yX10_loaded cX10_loaded 4 (some .int), Cond.fieldLink RX10 19 "RegisterMill$Writer" "homes" "LRegisterMill$Homes;", Cond.methodLink RX10 120 yX2_slotOf, Cond.instanceMethod yX2_slotOf, Cond.selects RX2 yX2_slotOf yX2_slotOf, Cond.initialized RX2, Cond.code yX2_slotOf cX2_slotOf 3 (some .int), Cond.fieldLink RX2 21 "RegisterMill$Homes" "slotNumbers" "[I", Cond.methodLink RX10 125 yX2_registerOf, Cond.instanceMethod yX2_registerOf, Cond.selects RX2 yX2_registerOf yX2_registerOf, Cond.code yX2_registerOf cX2_registerOf 3 (some .int)]
def wsX10_writeCall_r2 : List Cond := [Cond.fieldLink RX2 18 "RegisterMill$Homes" "registers" "[I", Cond.methodLink RX10 60 yX1_add, Cond.instanceMethod yX1_add, Cond.selects RX1 yX1_add yX1_add, Cond.initialized RX1, Cond.code yX1_add cX1_add 6 none, Cond.fieldLink RX1 21 "RegisterMill$Code" "total" "I", Cond.fieldLink RX1 18 "RegisterMill$Code" "parts" "[I", Cond.fieldLink RX1 15 "RegisterMill$Code" "sizes" "[I", Cond.methodLink RX10 56 yX10_target, Cond.instanceMethod yX10_target, Cond.selects RX10 yX10_target yX10_target, Cond.code yX10_target cX10_target 2 (some .int), Cond.methodLink RX10 64 yX10_saveTarget, Cond.instanceMethod yX10_saveTarget, Cond.selects RX10 yX10_saveTarget yX10_saveTarget, Cond.code yX10_saveTarget cX10_saveTarget 3 none]
def wsX10_writeCall : List Cond := .code yX10_writeCall cX10_writeCall 3 none :: ((wsX10_writeCall_r1 ++ wsX10_writeCall_r2) ++ wsX100 ++ wsX50 ++ wsX20 ++ wsX10)
def wsX10_writePlace_r1 : List Cond := [Cond.fieldLink RX10 15 "RegisterMill$Writer" "places" "LRegisterMill$Places;", Cond.fieldLink RX10 78 "RegisterMill$Places" "kinds" "[I", Cond.fieldLink RX10 23 "RegisterMill$Writer" "code" "LRegisterMill$Code;", Cond.fieldLink RX10 27 "RegisterMill$Writer" "func" "I", Cond.fieldLink RX10 81 "RegisterMill$Places" "written" "[I", Cond.fieldLink RX10 84 "RegisterMill$Places" "numbers" "[I", Cond.fieldLink RX10 87 "RegisterMill$Places" "reads" "[[I", Cond.fieldLink RX10 100 "RegisterMill$Places" "goals" "[I", Cond.fieldLink RX10 31 "RegisterMill$Writer" "spareA" "I", Cond.methodLink RX10 56 yX10_target, Cond.instanceMethod yX10_target, Cond.selects RX10 yX10_target yX10_target, Cond.initialized RX10, Cond.code yX10_target cX10_target 2 (some .int), Cond.fieldLink RX10 19 "RegisterMill$Writer" "homes" "LRegisterMill$Homes;", Cond.methodLink RX10 120 yX2_slotOf, Cond.instanceMethod yX2_slotOf, Cond.selects RX2 yX2_slotOf yX2_slotOf, Cond.initialized RX2, Cond.code yX2_slotOf cX2_slotOf 3 (some .int), Cond.fieldLink RX2 21 "RegisterMill$Homes" "slotNumbers" "[I", Cond.methodLink RX10 125 yX2_registerOf, Cond.instanceMethod yX2_registerOf, Cond.selects RX2 yX2_registerOf yX2_registerOf]
def wsX10_writePlace_r2 : List Cond := [Cond.code yX2_registerOf cX2_registerOf 3 (some .int), Cond.fieldLink RX2 18 "RegisterMill$Homes" "registers" "[I", Cond.methodLink RX10 60 yX1_add, Cond.instanceMethod yX1_add, Cond.selects RX1 yX1_add yX1_add, Cond.initialized RX1, Cond.code yX1_add cX1_add 6 none, Cond.fieldLink RX1 21 "RegisterMill$Code" "total" "I", Cond.fieldLink RX1 18 "RegisterMill$Code" "parts" "[I", Cond.fieldLink RX1 15 "RegisterMill$Code" "sizes" "[I", Cond.methodLink RX10 64 yX10_saveTarget, Cond.instanceMethod yX10_saveTarget, Cond.selects RX10 yX10_saveTarget yX10_saveTarget, Cond.code yX10_saveTarget cX10_saveTarget 3 none, Cond.methodLink RX10 91 yX10_writeMove, Cond.instanceMethod yX10_writeMove, Cond.selects RX10 yX10_writeMove yX10_writeMove, Cond.code yX10_writeMove cX10_writeMove 5 none, Cond.methodLink RX10 128 yX10_moveInto, Cond.instanceMethod yX10_moveInto, Cond.selects RX10 yX10_moveInto yX10_moveInto, Cond.code yX10_moveInto cX10_moveInto 4 none, Cond.methodLink RX10 94 yX10_writeWork, Cond.instanceMethod yX10_writeWork]
def wsX10_writePlace_r3 : List Cond := [Cond.selects RX10 yX10_writeWork yX10_writeWork, Cond.code yX10_writeWork cX10_writeWork 5 none, Cond.fieldLink RX10 34 "RegisterMill$Writer" "spareB" "I", Cond.methodLink RX10 103 yX10_loaded, Cond.instanceMethod yX10_loaded, Cond.selects RX10 yX10_loaded yX10_loaded, Cond.code yX10_loaded cX10_loaded 4 (some .int), Cond.methodLink RX10 116 yX1_addWork, Cond.instanceMethod yX1_addWork, Cond.selects RX1 yX1_addWork yX1_addWork, Cond.code yX1_addWork cX1_addWork 7 none, Cond.methodLink RX1 37 yX1_add, Cond.methodLink RX10 97 yX10_writeSwap, Cond.instanceMethod yX10_writeSwap, Cond.selects RX10 yX10_writeSwap yX10_writeSwap, Cond.code yX10_writeSwap cX10_writeSwap 4 none, Cond.methodLink RX10 131 yX10_moveFrom, Cond.instanceMethod yX10_moveFrom, Cond.selects RX10 yX10_moveFrom yX10_moveFrom, Cond.code yX10_moveFrom cX10_moveFrom 4 none, Cond.methodLink RX10 107 yX10_writeRead, Cond.instanceMethod yX10_writeRead, Cond.selects RX10 yX10_writeRead yX10_writeRead, Cond.code yX10_writeRead cX10_writeRead 4 none]
def wsX10_writePlace_r4 : List Cond := [Cond.methodLink RX10 110 yX10_writeWrite, Cond.instanceMethod yX10_writeWrite, Cond.selects RX10 yX10_writeWrite yX10_writeWrite, Cond.code yX10_writeWrite cX10_writeWrite 5 none, Cond.methodLink RX10 113 yX10_writeCall, Cond.instanceMethod yX10_writeCall, Cond.selects RX10 yX10_writeCall yX10_writeCall, Cond.code yX10_writeCall cX10_writeCall 3 none, Cond.fieldLink RX10 134 "RegisterMill$Places" "readCounts" "[I"]
def wsX10_writePlace : List Cond := .code yX10_writePlace cX10_writePlace 2 none :: ((wsX10_writePlace_r1 ++ (wsX10_writePlace_r2 ++ (wsX10_writePlace_r3 ++ wsX10_writePlace_r4))) ++ wsX100 ++ wsX50 ++ wsX20 ++ wsX10)
def wsX10_writePlaces_r1 : List Cond := [Cond.fieldLink RX10 15 "RegisterMill$Writer" "places" "LRegisterMill$Places;", Cond.fieldLink RX10 37 "RegisterMill$Places" "total" "I", Cond.fieldLink RX10 9 "RegisterMill$Writer" "firstOps" "[I", Cond.fieldLink RX10 23 "RegisterMill$Writer" "code" "LRegisterMill$Code;", Cond.fieldLink RX10 68 "RegisterMill$Code" "sizes" "[I", Cond.fieldLink RX10 27 "RegisterMill$Writer" "func" "I", Cond.methodLink RX10 71 yX10_writePlace, Cond.instanceMethod yX10_writePlace, Cond.selects RX10 yX10_writePlace yX10_writePlace, Cond.initialized RX10, Cond.code yX10_writePlace cX10_writePlace 2 none, Cond.fieldLink RX10 78 "RegisterMill$Places" "kinds" "[I", Cond.fieldLink RX10 81 "RegisterMill$Places" "written" "[I", Cond.fieldLink RX10 84 "RegisterMill$Places" "numbers" "[I", Cond.fieldLink RX10 87 "RegisterMill$Places" "reads" "[[I", Cond.fieldLink RX10 100 "RegisterMill$Places" "goals" "[I", Cond.fieldLink RX10 31 "RegisterMill$Writer" "spareA" "I", Cond.methodLink RX10 56 yX10_target, Cond.instanceMethod yX10_target, Cond.selects RX10 yX10_target yX10_target, Cond.code yX10_target cX10_target 2 (some .int), Cond.fieldLink RX10 19 "RegisterMill$Writer" "homes" "LRegisterMill$Homes;", Cond.methodLink RX10 120 yX2_slotOf, Cond.instanceMethod yX2_slotOf]
def wsX10_writePlaces_r2 : List Cond := [Cond.selects RX2 yX2_slotOf yX2_slotOf, Cond.initialized RX2, Cond.code yX2_slotOf cX2_slotOf 3 (some .int), Cond.fieldLink RX2 21 "RegisterMill$Homes" "slotNumbers" "[I", Cond.methodLink RX10 125 yX2_registerOf, Cond.instanceMethod yX2_registerOf, Cond.selects RX2 yX2_registerOf yX2_registerOf, Cond.code yX2_registerOf cX2_registerOf 3 (some .int), Cond.fieldLink RX2 18 "RegisterMill$Homes" "registers" "[I", Cond.methodLink RX10 60 yX1_add, Cond.instanceMethod yX1_add, Cond.selects RX1 yX1_add yX1_add, Cond.initialized RX1, Cond.code yX1_add cX1_add 6 none, Cond.fieldLink RX1 21 "RegisterMill$Code" "total" "I", Cond.fieldLink RX1 18 "RegisterMill$Code" "parts" "[I", Cond.fieldLink RX1 15 "RegisterMill$Code" "sizes" "[I", Cond.methodLink RX10 64 yX10_saveTarget, Cond.instanceMethod yX10_saveTarget, Cond.selects RX10 yX10_saveTarget yX10_saveTarget, Cond.code yX10_saveTarget cX10_saveTarget 3 none, Cond.methodLink RX10 91 yX10_writeMove, Cond.instanceMethod yX10_writeMove, Cond.selects RX10 yX10_writeMove yX10_writeMove]
def wsX10_writePlaces_r3 : List Cond := [Cond.code yX10_writeMove cX10_writeMove 5 none, Cond.methodLink RX10 128 yX10_moveInto, Cond.instanceMethod yX10_moveInto, Cond.selects RX10 yX10_moveInto yX10_moveInto, Cond.code yX10_moveInto cX10_moveInto 4 none, Cond.methodLink RX10 94 yX10_writeWork, Cond.instanceMethod yX10_writeWork, Cond.selects RX10 yX10_writeWork yX10_writeWork, Cond.code yX10_writeWork cX10_writeWork 5 none, Cond.fieldLink RX10 34 "RegisterMill$Writer" "spareB" "I", Cond.methodLink RX10 103 yX10_loaded, Cond.instanceMethod yX10_loaded, Cond.selects RX10 yX10_loaded yX10_loaded, Cond.code yX10_loaded cX10_loaded 4 (some .int), Cond.methodLink RX10 116 yX1_addWork, Cond.instanceMethod yX1_addWork, Cond.selects RX1 yX1_addWork yX1_addWork, Cond.code yX1_addWork cX1_addWork 7 none, Cond.methodLink RX1 37 yX1_add, Cond.methodLink RX10 97 yX10_writeSwap, Cond.instanceMethod yX10_writeSwap, Cond.selects RX10 yX10_writeSwap yX10_writeSwap, Cond.code yX10_writeSwap cX10_writeSwap 4 none, Cond.methodLink RX10 131 yX10_moveFrom]
def wsX10_writePlaces_r4 : List Cond := [Cond.instanceMethod yX10_moveFrom, Cond.selects RX10 yX10_moveFrom yX10_moveFrom, Cond.code yX10_moveFrom cX10_moveFrom 4 none, Cond.methodLink RX10 107 yX10_writeRead, Cond.instanceMethod yX10_writeRead, Cond.selects RX10 yX10_writeRead yX10_writeRead, Cond.code yX10_writeRead cX10_writeRead 4 none, Cond.methodLink RX10 110 yX10_writeWrite, Cond.instanceMethod yX10_writeWrite, Cond.selects RX10 yX10_writeWrite yX10_writeWrite, Cond.code yX10_writeWrite cX10_writeWrite 5 none, Cond.methodLink RX10 113 yX10_writeCall, Cond.instanceMethod yX10_writeCall, Cond.selects RX10 yX10_writeCall yX10_writeCall, Cond.code yX10_writeCall cX10_writeCall 3 none, Cond.fieldLink RX10 134 "RegisterMill$Places" "readCounts" "[I", Cond.methodLink RX10 74 yX1_aim, Cond.instanceMethod yX1_aim, Cond.selects RX1 yX1_aim yX1_aim, Cond.code yX1_aim cX1_aim 5 none, Cond.fieldLink RX1 9 "RegisterMill$Code" "starts" "[I"]
def wsX10_writePlaces : List Cond := .code yX10_writePlaces cX10_writePlaces 2 none :: ((wsX10_writePlaces_r1 ++ (wsX10_writePlaces_r2 ++ (wsX10_writePlaces_r3 ++ wsX10_writePlaces_r4))) ++ wsX100 ++ wsX50 ++ wsX10 ++ wsX20)
def wsX9_turnFunc_r1 : List Cond := [Cond.fieldLink RX9 12 "RegisterMill$Turner" "places" "LRegisterMill$Places;", Cond.fieldLink RX9 43 "RegisterMill$Turner" "program" "LRegisterMill$Program;", Cond.fieldLink RX9 39 "RegisterMill$Turner" "placeCounts" "[I", Cond.fieldLink RX9 73 "RegisterMill$Places" "total" "I", Cond.fieldLink RX9 28 "RegisterMill$Turner" "homes" "LRegisterMill$Homes;", Cond.fieldLink RX9 21 "RegisterMill$Turner" "live" "LRegisterMill$Live;", Cond.fieldLink RX9 56 "RegisterMill$Turner" "registers" "I", Cond.fieldLink RX9 52 "RegisterMill$Turner" "writer" "LRegisterMill$Writer;", Cond.fieldLink RX9 82 "RegisterMill$Live" "ahead" "[I", Cond.methodLink RX9 63 yX5_build, Cond.instanceMethod yX5_build, Cond.selects RX5 yX5_build yX5_build, Cond.initialized RX5, Cond.code yX5_build cX5_build 5 none, Cond.fieldLink RX5 42 "RegisterMill$Places" "total" "I", Cond.fieldLink RX5 46 "RegisterMill$Program" "starts" "[I", Cond.fieldLink RX5 51 "RegisterMill$Program" "lengths" "[I", Cond.fieldLink RX5 32 "RegisterMill$Places" "newNumbers" "[I", Cond.fieldLink RX5 54 "RegisterMill$Program" "depths" "[I", Cond.fieldLink RX5 57 "RegisterMill$Program" "locals" "[I", Cond.methodLink RX5 60 yX5_become, Cond.instanceMethod yX5_become, Cond.selects RX5 yX5_become yX5_become, Cond.code yX5_become cX5_become 6 none]
def wsX9_turnFunc_r2 : List Cond := [Cond.fieldLink RX5 67 "RegisterMill$Program" "numbers" "[I", Cond.fieldLink RX5 68 "RegisterMill$Program" "ops" "[I", Cond.fieldLink RX5 18 "RegisterMill$Places" "goals" "[I", Cond.fieldLink RX5 82 "RegisterMill$Program" "args" "[I", Cond.methodLink RX5 71 yX5_add, Cond.instanceMethod yX5_add, Cond.selects RX5 yX5_add yX5_add, Cond.code yX5_add cX5_add 4 none, Cond.fieldLink RX5 9 "RegisterMill$Places" "kinds" "[I", Cond.fieldLink RX5 21 "RegisterMill$Places" "written" "[I", Cond.fieldLink RX5 15 "RegisterMill$Places" "numbers" "[I", Cond.fieldLink RX5 24 "RegisterMill$Places" "readCounts" "[I", Cond.methodLink RX5 75 yX5_addReading, Cond.instanceMethod yX5_addReading, Cond.selects RX5 yX5_addReading yX5_addReading, Cond.code yX5_addReading cX5_addReading 4 none, Cond.methodLink RX5 78 yX5_addRead, Cond.instanceMethod yX5_addRead, Cond.selects RX5 yX5_addRead yX5_addRead, Cond.code yX5_addRead cX5_addRead 3 none, Cond.fieldLink RX5 29 "RegisterMill$Places" "reads" "[[I", Cond.methodLink RX5 85 yX5_addCall, Cond.instanceMethod yX5_addCall, Cond.selects RX5 yX5_addCall yX5_addCall]
def wsX9_turnFunc_r3 : List Cond := [Cond.code yX5_addCall cX5_addCall 5 none, Cond.methodLink RX5 64 yX5_aimAnew, Cond.instanceMethod yX5_aimAnew, Cond.selects RX5 yX5_aimAnew yX5_aimAnew, Cond.code yX5_aimAnew cX5_aimAnew 2 none, Cond.methodLink RX5 88 yX5_jumps, Cond.instanceMethod yX5_jumps, Cond.selects RX5 yX5_jumps yX5_jumps, Cond.code yX5_jumps cX5_jumps 2 (some .boolean), Cond.methodLink RX9 67 yX5_forward, Cond.instanceMethod yX5_forward, Cond.selects RX5 yX5_forward yX5_forward, Cond.code yX5_forward cX5_forward 2 none, Cond.fieldLink RX5 35 "RegisterMill$Places" "blockStarts" "[Z", Cond.fieldLink RX5 39 "RegisterMill$Places" "copyOf" "[I", Cond.methodLink RX5 96 yX5_markBlockStarts, Cond.instanceMethod yX5_markBlockStarts, Cond.selects RX5 yX5_markBlockStarts yX5_markBlockStarts, Cond.code yX5_markBlockStarts cX5_markBlockStarts 2 none, Cond.methodLink RX5 99 yJ7_fill_53178, Cond.static yJ7_fill_53178, Cond.initialized RJ7, Cond.code yJ7_fill_53178 cJ7_fill_53178 4 none, Cond.methodLink RX5 105 yX5_forwardReads]
def wsX9_turnFunc_r4 : List Cond := [Cond.instanceMethod yX5_forwardReads, Cond.selects RX5 yX5_forwardReads yX5_forwardReads, Cond.code yX5_forwardReads cX5_forwardReads 4 none, Cond.methodLink RX5 108 yX5_writtenSet, Cond.instanceMethod yX5_writtenSet, Cond.selects RX5 yX5_writtenSet yX5_writtenSet, Cond.code yX5_writtenSet cX5_writtenSet 2 (some .int), Cond.methodLink RX5 92 yX5_readSet, Cond.instanceMethod yX5_readSet, Cond.selects RX5 yX5_readSet yX5_readSet, Cond.code yX5_readSet cX5_readSet 4 (some .int), Cond.methodLink RX5 111 yX5_forgetWritten, Cond.instanceMethod yX5_forgetWritten, Cond.selects RX5 yX5_forgetWritten yX5_forgetWritten, Cond.code yX5_forgetWritten cX5_forgetWritten 4 none, Cond.methodLink RX9 70 yX9_leaveOut, Cond.instanceMethod yX9_leaveOut, Cond.selects RX9 yX9_leaveOut yX9_leaveOut, Cond.initialized RX9, Cond.code yX9_leaveOut cX9_leaveOut 3 none, Cond.methodLink RX9 91 yX3_find, Cond.instanceMethod yX3_find, Cond.selects RX3 yX3_find yX3_find, Cond.initialized RX3]
def wsX9_turnFunc_r5 : List Cond := [Cond.code yX3_find cX3_find 4 none, Cond.fieldLink RX3 9 "RegisterMill$Live" "ahead" "[I", Cond.fieldLink RX3 24 "RegisterMill$Places" "total" "I", Cond.methodLink RX3 18 yJ7_fill_53178, Cond.methodLink RX3 30 yX3_growBackwards, Cond.instanceMethod yX3_growBackwards, Cond.selects RX3 yX3_growBackwards yX3_growBackwards, Cond.code yX3_growBackwards cX3_growBackwards 6 (some .boolean), Cond.fieldLink RX3 41 "RegisterMill$Places" "goals" "[I", Cond.fieldLink RX3 15 "RegisterMill$Live" "behind" "[I", Cond.methodLink RX3 34 yX5_goesToNext, Cond.instanceMethod yX5_goesToNext, Cond.selects RX5 yX5_goesToNext yX5_goesToNext, Cond.code yX5_goesToNext cX5_goesToNext 2 (some .boolean), Cond.methodLink RX3 38 yX5_jumps, Cond.methodLink RX3 44 yX5_readSet, Cond.methodLink RX3 48 yX5_writtenSet, Cond.methodLink RX9 95 yX5_dropUseless, Cond.instanceMethod yX5_dropUseless, Cond.selects RX5 yX5_dropUseless yX5_dropUseless, Cond.code yX5_dropUseless cX5_dropUseless 4 (some .boolean), Cond.methodLink RX5 114 yX5_isUseless, Cond.instanceMethod yX5_isUseless, Cond.selects RX5 yX5_isUseless yX5_isUseless]
def wsX9_turnFunc_r6 : List Cond := [Cond.code yX5_isUseless cX5_isUseless 4 (some .boolean), Cond.fieldLink RX5 122 "RegisterMill$Live" "behind" "[I", Cond.methodLink RX5 118 yX5_copyPlace, Cond.instanceMethod yX5_copyPlace, Cond.selects RX5 yX5_copyPlace yX5_copyPlace, Cond.code yX5_copyPlace cX5_copyPlace 4 none, Cond.methodLink RX9 74 yX2_give, Cond.instanceMethod yX2_give, Cond.selects RX2 yX2_give yX2_give, Cond.initialized RX2, Cond.code yX2_give cX2_give 8 none, Cond.fieldLink RX2 24 "RegisterMill$Homes" "slotCounts" "[I", Cond.fieldLink RX2 34 "RegisterMill$Places" "total" "I", Cond.fieldLink RX2 40 "RegisterMill$Live" "ahead" "[I", Cond.fieldLink RX2 9 "RegisterMill$Homes" "firsts" "[I", Cond.methodLink RX2 30 yX2_forget, Cond.instanceMethod yX2_forget, Cond.selects RX2 yX2_forget yX2_forget, Cond.code yX2_forget cX2_forget 3 none, Cond.fieldLink RX2 15 "RegisterMill$Homes" "lasts" "[I", Cond.fieldLink RX2 18 "RegisterMill$Homes" "registers" "[I", Cond.fieldLink RX2 21 "RegisterMill$Homes" "slotNumbers" "[I", Cond.fieldLink RX2 27 "RegisterMill$Homes" "holders" "[I", Cond.methodLink RX2 59 yJ7_fill_53178]
def wsX9_turnFunc_r7 : List Cond := [Cond.methodLink RX2 45 yX5_readSet, Cond.methodLink RX2 49 yX5_writtenSet, Cond.methodLink RX2 52 yX2_widen, Cond.instanceMethod yX2_widen, Cond.selects RX2 yX2_widen yX2_widen, Cond.code yX2_widen cX2_widen 5 none, Cond.methodLink RX2 56 yX2_giveOne, Cond.instanceMethod yX2_giveOne, Cond.selects RX2 yX2_giveOne yX2_giveOne, Cond.code yX2_giveOne cX2_giveOne 7 none, Cond.methodLink RX2 65 yX2_giveBack, Cond.instanceMethod yX2_giveBack, Cond.selects RX2 yX2_giveBack yX2_giveBack, Cond.code yX2_giveBack cX2_giveBack 5 none, Cond.methodLink RX2 68 yX2_longestWith, Cond.instanceMethod yX2_longestWith, Cond.selects RX2 yX2_longestWith yX2_longestWith, Cond.code yX2_longestWith cX2_longestWith 8 (some .int), Cond.methodLink RX9 78 yX10_begin, Cond.instanceMethod yX10_begin, Cond.selects RX10 yX10_begin yX10_begin, Cond.initialized RX10, Cond.code yX10_begin cX10_begin 3 none, Cond.fieldLink RX10 27 "RegisterMill$Writer" "func" "I"]
def wsX9_turnFunc_r8 : List Cond := [Cond.fieldLink RX10 31 "RegisterMill$Writer" "spareA" "I", Cond.fieldLink RX10 34 "RegisterMill$Writer" "spareB" "I", Cond.fieldLink RX10 23 "RegisterMill$Writer" "code" "LRegisterMill$Code;", Cond.fieldLink RX10 15 "RegisterMill$Writer" "places" "LRegisterMill$Places;", Cond.fieldLink RX10 37 "RegisterMill$Places" "total" "I", Cond.methodLink RX10 42 yX1_open, Cond.instanceMethod yX1_open, Cond.selects RX1 yX1_open yX1_open, Cond.initialized RX1, Cond.code yX1_open cX1_open 4 none, Cond.fieldLink RX1 21 "RegisterMill$Code" "total" "I", Cond.fieldLink RX1 18 "RegisterMill$Code" "parts" "[I", Cond.methodLink RX1 25 Lib.Math.max.name, Cond.static Lib.Math.max.name, Cond.initialized "java/lang/Math", Cond.code Lib.Math.max.name Lib.Math.max.code 2 (some .int), Cond.fieldLink RX1 9 "RegisterMill$Code" "starts" "[I", Cond.fieldLink RX1 15 "RegisterMill$Code" "sizes" "[I", Cond.methodLink RX1 31 yJ7_copyOf_59c91, Cond.static yJ7_copyOf_59c91, Cond.code yJ7_copyOf_59c91 cJ7_copyOf_59c91 3 (some (.array .int)), Cond.methodLink RJ7 316 ⟨"[I", "clone", "()Ljava/lang/Object;"⟩, Cond.sameMethod "[I" "java/lang/Object" "clone" "()Ljava/lang/Object;", Cond.native ⟨"java/lang/Object", "clone", "()Ljava/lang/Object;"⟩]
def wsX9_turnFunc_r9 : List Cond := [Cond.instanceMethod ⟨"java/lang/Object", "clone", "()Ljava/lang/Object;"⟩, Cond.selects "[I" ⟨"[I", "clone", "()Ljava/lang/Object;"⟩ ⟨"java/lang/Object", "clone", "()Ljava/lang/Object;"⟩, Cond.classLink RJ7 317 "[I", Cond.arrayClass .int, Cond.methodLink RJ7 304 Lib.Math.min.name, Cond.static Lib.Math.min.name, Cond.code Lib.Math.min.name Lib.Math.min.code 2 (some .int), Cond.methodLink RJ7 150 arraycopyName, Cond.native arraycopyName, Cond.static arraycopyName, Cond.initialized "java/lang/System", Cond.methodLink RX9 85 yX10_writeEntry, Cond.instanceMethod yX10_writeEntry, Cond.selects RX10 yX10_writeEntry yX10_writeEntry, Cond.code yX10_writeEntry cX10_writeEntry 4 none, Cond.fieldLink RX10 48 "RegisterMill$Program" "locals" "[I", Cond.fieldLink RX10 53 "RegisterMill$Program" "args" "[I", Cond.methodLink RX10 56 yX10_target, Cond.instanceMethod yX10_target, Cond.selects RX10 yX10_target yX10_target, Cond.code yX10_target cX10_target 2 (some .int), Cond.fieldLink RX10 19 "RegisterMill$Writer" "homes" "LRegisterMill$Homes;", Cond.methodLink RX10 120 yX2_slotOf, Cond.instanceMethod yX2_slotOf]
def wsX9_turnFunc_r10 : List Cond := [Cond.selects RX2 yX2_slotOf yX2_slotOf, Cond.code yX2_slotOf cX2_slotOf 3 (some .int), Cond.methodLink RX10 125 yX2_registerOf, Cond.instanceMethod yX2_registerOf, Cond.selects RX2 yX2_registerOf yX2_registerOf, Cond.code yX2_registerOf cX2_registerOf 3 (some .int), Cond.methodLink RX10 60 yX1_add, Cond.instanceMethod yX1_add, Cond.selects RX1 yX1_add yX1_add, Cond.code yX1_add cX1_add 6 none, Cond.methodLink RX10 64 yX10_saveTarget, Cond.instanceMethod yX10_saveTarget, Cond.selects RX10 yX10_saveTarget yX10_saveTarget, Cond.code yX10_saveTarget cX10_saveTarget 3 none, Cond.methodLink RX9 88 yX10_writePlaces, Cond.instanceMethod yX10_writePlaces, Cond.selects RX10 yX10_writePlaces yX10_writePlaces, Cond.code yX10_writePlaces cX10_writePlaces 2 none, Cond.fieldLink RX10 9 "RegisterMill$Writer" "firstOps" "[I", Cond.fieldLink RX10 68 "RegisterMill$Code" "sizes" "[I", Cond.methodLink RX10 71 yX10_writePlace, Cond.instanceMethod yX10_writePlace, Cond.selects RX10 yX10_writePlace yX10_writePlace, Cond.code yX10_writePlace cX10_writePlace 2 none]
def wsX9_turnFunc_r11 : List Cond := [Cond.fieldLink RX10 78 "RegisterMill$Places" "kinds" "[I", Cond.fieldLink RX10 81 "RegisterMill$Places" "written" "[I", Cond.fieldLink RX10 84 "RegisterMill$Places" "numbers" "[I", Cond.fieldLink RX10 87 "RegisterMill$Places" "reads" "[[I", Cond.fieldLink RX10 100 "RegisterMill$Places" "goals" "[I", Cond.methodLink RX10 91 yX10_writeMove, Cond.instanceMethod yX10_writeMove, Cond.selects RX10 yX10_writeMove yX10_writeMove, Cond.code yX10_writeMove cX10_writeMove 5 none, Cond.methodLink RX10 128 yX10_moveInto, Cond.instanceMethod yX10_moveInto, Cond.selects RX10 yX10_moveInto yX10_moveInto, Cond.code yX10_moveInto cX10_moveInto 4 none, Cond.methodLink RX10 94 yX10_writeWork, Cond.instanceMethod yX10_writeWork, Cond.selects RX10 yX10_writeWork yX10_writeWork, Cond.code yX10_writeWork cX10_writeWork 5 none, Cond.methodLink RX10 103 yX10_loaded, Cond.instanceMethod yX10_loaded, Cond.selects RX10 yX10_loaded yX10_loaded, Cond.code yX10_loaded cX10_loaded 4 (some .int), Cond.methodLink RX10 116 yX1_addWork, Cond.instanceMethod yX1_addWork, Cond.selects RX1 yX1_addWork yX1_addWork]
def wsX9_turnFunc_r12 : List Cond := [Cond.code yX1_addWork cX1_addWork 7 none, Cond.methodLink RX1 37 yX1_add, Cond.methodLink RX10 97 yX10_writeSwap, Cond.instanceMethod yX10_writeSwap, Cond.selects RX10 yX10_writeSwap yX10_writeSwap, Cond.code yX10_writeSwap cX10_writeSwap 4 none, Cond.methodLink RX10 131 yX10_moveFrom, Cond.instanceMethod yX10_moveFrom, Cond.selects RX10 yX10_moveFrom yX10_moveFrom, Cond.code yX10_moveFrom cX10_moveFrom 4 none, Cond.methodLink RX10 107 yX10_writeRead, Cond.instanceMethod yX10_writeRead, Cond.selects RX10 yX10_writeRead yX10_writeRead, Cond.code yX10_writeRead cX10_writeRead 4 none, Cond.methodLink RX10 110 yX10_writeWrite, Cond.instanceMethod yX10_writeWrite, Cond.selects RX10 yX10_writeWrite yX10_writeWrite, Cond.code yX10_writeWrite cX10_writeWrite 5 none, Cond.methodLink RX10 113 yX10_writeCall, Cond.instanceMethod yX10_writeCall, Cond.selects RX10 yX10_writeCall yX10_writeCall, Cond.code yX10_writeCall cX10_writeCall 3 none, Cond.fieldLink RX10 134 "RegisterMill$Places" "readCounts" "[I", Cond.methodLink RX10 74 yX1_aim]
def wsX9_turnFunc_r13 : List Cond := [Cond.instanceMethod yX1_aim, Cond.selects RX1 yX1_aim yX1_aim, Cond.code yX1_aim cX1_aim 5 none]
def wsX9_turnFunc : List Cond := .code yX9_turnFunc cX9_turnFunc 2 none :: ((wsX9_turnFunc_r1 ++ (wsX9_turnFunc_r2 ++ (wsX9_turnFunc_r3 ++ (wsX9_turnFunc_r4 ++ (wsX9_turnFunc_r5 ++ (wsX9_turnFunc_r6 ++ (wsX9_turnFunc_r7 ++ (wsX9_turnFunc_r8 ++ (wsX9_turnFunc_r9 ++ (wsX9_turnFunc_r10 ++ (wsX9_turnFunc_r11 ++ (wsX9_turnFunc_r12 ++ wsX9_turnFunc_r13)))))))))))) ++ wsX90 ++ wsX50 ++ wsX30 ++ wsX60 ++ wsX20 ++ wsX100 ++ wsX10)
def wsX11_init_r1 : List Cond := [Cond.methodLink RX11 3 objectInit, Cond.instanceMethod objectInit, Cond.code objectInit ⟨#[0xb1]⟩ 1 none, Cond.classLink RX11 9 RX6, Cond.instantiable RX6 10, Cond.initialized RX6, Cond.fieldLink RX11 12 "RegisterMill" "program" "LRegisterMill$Program;", Cond.classLink RX11 16 RX0, Cond.instantiable RX0 3, Cond.initialized RX0, Cond.fieldLink RX11 21 "RegisterMill" "checker" "LRegisterMill$Checker;", Cond.classLink RX11 25 RX9, Cond.instantiable RX9 8, Cond.initialized RX9, Cond.fieldLink RX11 28 "RegisterMill" "turner" "LRegisterMill$Turner;", Cond.classLink RX11 32 RX8, Cond.instantiable RX8 13, Cond.initialized RX8, Cond.fieldLink RX11 35 "RegisterMill" "stackMachine" "LRegisterMill$Machine;", Cond.classLink RX11 39 RX7, Cond.instantiable RX7 13, Cond.initialized RX7, Cond.fieldLink RX11 41 "RegisterMill$Turner" "code" "LRegisterMill$Code;", Cond.fieldLink RX11 48 "RegisterMill" "registerMachine" "LRegisterMill$Machine;"]
def wsX11_init_r2 : List Cond := [Cond.instanceMethod yX6_init, Cond.code yX6_init cX6_init 1 none, Cond.methodLink RX6 3 objectInit, Cond.arrayClass .int, Cond.fieldLink RX6 9 "RegisterMill$Program" "args" "[I", Cond.fieldLink RX6 15 "RegisterMill$Program" "locals" "[I", Cond.fieldLink RX6 18 "RegisterMill$Program" "starts" "[I", Cond.fieldLink RX6 21 "RegisterMill$Program" "lengths" "[I", Cond.fieldLink RX6 24 "RegisterMill$Program" "ops" "[I", Cond.fieldLink RX6 27 "RegisterMill$Program" "numbers" "[I", Cond.fieldLink RX6 30 "RegisterMill$Program" "depths" "[I", Cond.methodLink RX11 18 yX0_init, Cond.instanceMethod yX0_init, Cond.code yX0_init cX0_init 2 none, Cond.methodLink RX0 3 objectInit, Cond.arrayClass .boolean, Cond.fieldLink RX0 9 "RegisterMill$Checker" "passed" "[Z", Cond.fieldLink RX0 15 "RegisterMill$Checker" "program" "LRegisterMill$Program;", Cond.methodLink RX11 27 yX9_init, Cond.instanceMethod yX9_init, Cond.code yX9_init cX9_init 2 none, Cond.methodLink RX9 3 objectInit, Cond.classLink RX9 9 RX5, Cond.instantiable RX5 10]
def wsX11_init_r3 : List Cond := [Cond.initialized RX5, Cond.fieldLink RX9 12 "RegisterMill$Turner" "places" "LRegisterMill$Places;", Cond.classLink RX9 18 RX3, Cond.instantiable RX3 2, Cond.initialized RX3, Cond.fieldLink RX9 21 "RegisterMill$Turner" "live" "LRegisterMill$Live;", Cond.classLink RX9 25 RX2, Cond.instantiable RX2 6, Cond.initialized RX2, Cond.fieldLink RX9 28 "RegisterMill$Turner" "homes" "LRegisterMill$Homes;", Cond.classLink RX9 32 RX1, Cond.instantiable RX1 4, Cond.initialized RX1, Cond.fieldLink RX9 35 "RegisterMill$Turner" "code" "LRegisterMill$Code;", Cond.fieldLink RX9 39 "RegisterMill$Turner" "placeCounts" "[I", Cond.fieldLink RX9 43 "RegisterMill$Turner" "program" "LRegisterMill$Program;", Cond.classLink RX9 47 RX10, Cond.instantiable RX10 7, Cond.initialized RX10, Cond.fieldLink RX9 52 "RegisterMill$Turner" "writer" "LRegisterMill$Writer;", Cond.instanceMethod yX5_init, Cond.code yX5_init cX5_init 1 none, Cond.methodLink RX5 3 objectInit, Cond.fieldLink RX5 9 "RegisterMill$Places" "kinds" "[I"]
def wsX11_init_r4 : List Cond := [Cond.fieldLink RX5 15 "RegisterMill$Places" "numbers" "[I", Cond.fieldLink RX5 18 "RegisterMill$Places" "goals" "[I", Cond.fieldLink RX5 21 "RegisterMill$Places" "written" "[I", Cond.fieldLink RX5 24 "RegisterMill$Places" "readCounts" "[I", Cond.classLink RX5 27 "[[I", Cond.fieldLink RX5 29 "RegisterMill$Places" "reads" "[[I", Cond.fieldLink RX5 32 "RegisterMill$Places" "newNumbers" "[I", Cond.fieldLink RX5 35 "RegisterMill$Places" "blockStarts" "[Z", Cond.fieldLink RX5 39 "RegisterMill$Places" "copyOf" "[I", Cond.instanceMethod yX3_init, Cond.code yX3_init cX3_init 1 none, Cond.methodLink RX3 3 objectInit, Cond.fieldLink RX3 9 "RegisterMill$Live" "ahead" "[I", Cond.fieldLink RX3 15 "RegisterMill$Live" "behind" "[I", Cond.instanceMethod yX2_init, Cond.code yX2_init cX2_init 1 none, Cond.methodLink RX2 3 objectInit, Cond.fieldLink RX2 9 "RegisterMill$Homes" "firsts" "[I", Cond.fieldLink RX2 15 "RegisterMill$Homes" "lasts" "[I", Cond.fieldLink RX2 18 "RegisterMill$Homes" "registers" "[I", Cond.fieldLink RX2 21 "RegisterMill$Homes" "slotNumbers" "[I", Cond.fieldLink RX2 24 "RegisterMill$Homes" "slotCounts" "[I", Cond.fieldLink RX2 27 "RegisterMill$Homes" "holders" "[I", Cond.instanceMethod yX1_init]
def wsX11_init_r5 : List Cond := [Cond.code yX1_init cX1_init 1 none, Cond.methodLink RX1 3 objectInit, Cond.fieldLink RX1 9 "RegisterMill$Code" "starts" "[I", Cond.fieldLink RX1 15 "RegisterMill$Code" "sizes" "[I", Cond.fieldLink RX1 18 "RegisterMill$Code" "parts" "[I", Cond.methodLink RX9 49 yX10_init, Cond.instanceMethod yX10_init, Cond.code yX10_init cX10_init 4 none, Cond.methodLink RX10 3 objectInit, Cond.fieldLink RX10 9 "RegisterMill$Writer" "firstOps" "[I", Cond.fieldLink RX10 15 "RegisterMill$Writer" "places" "LRegisterMill$Places;", Cond.fieldLink RX10 19 "RegisterMill$Writer" "homes" "LRegisterMill$Homes;", Cond.fieldLink RX10 23 "RegisterMill$Writer" "code" "LRegisterMill$Code;", Cond.methodLink RX11 34 yX8_init, Cond.instanceMethod yX8_init, Cond.code yX8_init cX8_init 2 none, Cond.fieldLink RX8 9 "RegisterMill$StackMachine" "locals" "[I", Cond.fieldLink RX8 15 "RegisterMill$StackMachine" "stack" "[I", Cond.fieldLink RX8 18 "RegisterMill$StackMachine" "bottoms" "[I", Cond.fieldLink RX8 21 "RegisterMill$StackMachine" "program" "LRegisterMill$Program;", Cond.instanceMethod yX4_init, Cond.initialized RX4, Cond.code yX4_init cX4_init 1 none, Cond.methodLink RX4 3 objectInit]
def wsX11_init_r6 : List Cond := [Cond.fieldLink RX4 9 "RegisterMill$Machine" "memory" "[I", Cond.fieldLink RX4 15 "RegisterMill$Machine" "funcs" "[I", Cond.fieldLink RX4 18 "RegisterMill$Machine" "nexts" "[I", Cond.methodLink RX11 45 yX7_init, Cond.instanceMethod yX7_init, Cond.code yX7_init cX7_init 2 none, Cond.fieldLink RX7 9 "RegisterMill$RegisterMachine" "registers" "[I", Cond.fieldLink RX7 15 "RegisterMill$RegisterMachine" "slotCells" "[I", Cond.fieldLink RX7 18 "RegisterMill$RegisterMachine" "passed" "[I", Cond.fieldLink RX7 21 "RegisterMill$RegisterMachine" "code" "LRegisterMill$Code;"]
def wsX11_init : List Cond := .code yX11_init cX11_init 1 none :: ((wsX11_init_r1 ++ (wsX11_init_r2 ++ (wsX11_init_r3 ++ (wsX11_init_r4 ++ (wsX11_init_r5 ++ wsX11_init_r6))))) ++ wsX60 ++ wsX110 ++ wsX00 ++ wsX90 ++ wsX80 ++ wsX70 ++ wsX50 ++ wsX30 ++ wsX20 ++ wsX10 ++ wsX100)
def wsX11_func : List Cond := .code yX11_func cX11_func 4 (some .int) :: ([.fieldLink RX11 12 "RegisterMill" "program" "LRegisterMill$Program;", .fieldLink RX11 51 "RegisterMill$Program" "checked" "Z", .fieldLink RX11 55 "RegisterMill$Program" "funcs" "I", .methodLink RX11 59 yX6_addFunc, .instanceMethod yX6_addFunc, .selects RX6 yX6_addFunc yX6_addFunc, .initialized RX6, .code yX6_addFunc cX6_addFunc 3 (some .int), .fieldLink RX6 9 "RegisterMill$Program" "args" "[I", .fieldLink RX6 33 "RegisterMill$Program" "funcs" "I", .fieldLink RX6 15 "RegisterMill$Program" "locals" "[I", .fieldLink RX6 18 "RegisterMill$Program" "starts" "[I", .fieldLink RX6 37 "RegisterMill$Program" "words" "I", .fieldLink RX6 21 "RegisterMill$Program" "lengths" "[I"] ++ wsX110 ++ wsX60)
def wsX11_word : List Cond := .code yX11_word cX11_word 3 (some .int) :: ([.fieldLink RX11 12 "RegisterMill" "program" "LRegisterMill$Program;", .fieldLink RX11 55 "RegisterMill$Program" "funcs" "I", .fieldLink RX11 51 "RegisterMill$Program" "checked" "Z", .fieldLink RX11 63 "RegisterMill$Program" "words" "I", .methodLink RX11 66 yX6_addWord, .instanceMethod yX6_addWord, .selects RX6 yX6_addWord yX6_addWord, .initialized RX6, .code yX6_addWord cX6_addWord 4 (some .int), .fieldLink RX6 33 "RegisterMill$Program" "funcs" "I", .fieldLink RX6 24 "RegisterMill$Program" "ops" "[I", .fieldLink RX6 37 "RegisterMill$Program" "words" "I", .fieldLink RX6 27 "RegisterMill$Program" "numbers" "[I", .fieldLink RX6 21 "RegisterMill$Program" "lengths" "[I"] ++ wsX110 ++ wsX60)
def wsX11_check_r1 : List Cond := [Cond.fieldLink RX11 12 "RegisterMill" "program" "LRegisterMill$Program;", Cond.fieldLink RX11 51 "RegisterMill$Program" "checked" "Z", Cond.fieldLink RX11 21 "RegisterMill" "checker" "LRegisterMill$Checker;", Cond.methodLink RX11 69 yX0_firstFault, Cond.instanceMethod yX0_firstFault, Cond.selects RX0 yX0_firstFault yX0_firstFault, Cond.initialized RX0, Cond.code yX0_firstFault cX0_firstFault 3 (some .int), Cond.fieldLink RX0 15 "RegisterMill$Checker" "program" "LRegisterMill$Program;", Cond.fieldLink RX0 19 "RegisterMill$Program" "funcs" "I", Cond.fieldLink RX0 25 "RegisterMill$Program" "lengths" "[I", Cond.methodLink RX0 29 yX0_faultOfFunc, Cond.instanceMethod yX0_faultOfFunc, Cond.selects RX0 yX0_faultOfFunc yX0_faultOfFunc, Cond.code yX0_faultOfFunc cX0_faultOfFunc 7 (some .int), Cond.fieldLink RX0 33 "RegisterMill$Program" "starts" "[I", Cond.fieldLink RX0 36 "RegisterMill$Program" "depths" "[I", Cond.fieldLink RX0 9 "RegisterMill$Checker" "passed" "[Z", Cond.fieldLink RX0 39 "RegisterMill$Checker" "lowest" "I", Cond.methodLink RX0 42 yX0_leastWaiting, Cond.instanceMethod yX0_leastWaiting, Cond.selects RX0 yX0_leastWaiting yX0_leastWaiting, Cond.code yX0_leastWaiting cX0_leastWaiting 4 (some .int), Cond.methodLink RX0 46 yX0_faultOfWord]
def wsX11_check_r2 : List Cond := [Cond.instanceMethod yX0_faultOfWord, Cond.selects RX0 yX0_faultOfWord yX0_faultOfWord, Cond.code yX0_faultOfWord cX0_faultOfWord 8 (some .int), Cond.fieldLink RX0 49 "RegisterMill$Program" "ops" "[I", Cond.fieldLink RX0 52 "RegisterMill$Program" "numbers" "[I", Cond.methodLink RX0 55 yX0_isFormed, Cond.instanceMethod yX0_isFormed, Cond.selects RX0 yX0_isFormed yX0_isFormed, Cond.code yX0_isFormed cX0_isFormed 4 (some .boolean), Cond.fieldLink RX0 68 "RegisterMill$Program" "locals" "[I", Cond.methodLink RX0 71 yX6_hasFunc, Cond.instanceMethod yX6_hasFunc, Cond.selects RX6 yX6_hasFunc yX6_hasFunc, Cond.initialized RX6, Cond.code yX6_hasFunc cX6_hasFunc 2 (some .boolean), Cond.fieldLink RX6 33 "RegisterMill$Program" "funcs" "I", Cond.methodLink RX0 59 yX6_takes, Cond.instanceMethod yX6_takes, Cond.selects RX6 yX6_takes yX6_takes, Cond.code yX6_takes cX6_takes 3 (some .int), Cond.fieldLink RX6 9 "RegisterMill$Program" "args" "[I", Cond.methodLink RX0 65 yX0_reach, Cond.instanceMethod yX0_reach, Cond.selects RX0 yX0_reach yX0_reach]
def wsX11_check_r3 : List Cond := [Cond.code yX0_reach cX0_reach 5 (some .boolean), Cond.methodLink RX0 75 Lib.Math.min.name, Cond.static Lib.Math.min.name, Cond.initialized "java/lang/Math", Cond.code Lib.Math.min.name Lib.Math.min.code 2 (some .int)]
def wsX11_check : List Cond := .code yX11_check cX11_check 2 (some .int) :: ((wsX11_check_r1 ++ (wsX11_check_r2 ++ wsX11_check_r3)) ++ wsX110 ++ wsX60 ++ wsX00)
def wsX11_depth : List Cond := .code yX11_depth cX11_depth 3 (some .int) :: ([.fieldLink RX11 12 "RegisterMill" "program" "LRegisterMill$Program;", .fieldLink RX11 51 "RegisterMill$Program" "checked" "Z", .fieldLink RX11 77 "RegisterMill$Program" "lengths" "[I", .fieldLink RX11 81 "RegisterMill$Program" "depths" "[I", .fieldLink RX11 84 "RegisterMill$Program" "starts" "[I", .methodLink RX11 73 yX6_hasFunc, .instanceMethod yX6_hasFunc, .selects RX6 yX6_hasFunc yX6_hasFunc, .initialized RX6, .code yX6_hasFunc cX6_hasFunc 2 (some .boolean), .fieldLink RX6 33 "RegisterMill$Program" "funcs" "I"] ++ wsX110 ++ wsX60)
def wsX11_beginMachines_r1 : List Cond := [Cond.fieldLink RX11 35 "RegisterMill" "stackMachine" "LRegisterMill$Machine;", Cond.fieldLink RX11 48 "RegisterMill" "registerMachine" "LRegisterMill$Machine;", Cond.methodLink RX11 168 ⟨"RegisterMill$Machine", "begin", "()V"⟩, Cond.sameMethod "RegisterMill$Machine" "RegisterMill$Machine" "begin" "()V", Cond.instanceMethod ⟨"RegisterMill$Machine", "begin", "()V"⟩, Cond.selects RX7 ⟨"RegisterMill$Machine", "begin", "()V"⟩ yX7_begin, Cond.instanceMethod yX7_begin, Cond.initialized RX7, Cond.code yX7_begin cX7_begin 1 none, Cond.fieldLink RX7 28 "RegisterMill$RegisterMachine" "answered" "I", Cond.fieldLink RX7 18 "RegisterMill$RegisterMachine" "passed" "[I", Cond.methodLink RX7 25 yX4_begin, Cond.superclass RX7 RX4, Cond.instanceMethod yX4_begin, Cond.initialized RX4, Cond.code yX4_begin cX4_begin 1 none, Cond.fieldLink RX4 21 "RegisterMill$Machine" "end" "I", Cond.fieldLink RX4 25 "RegisterMill$Machine" "told" "I", Cond.fieldLink RX4 28 "RegisterMill$Machine" "steps" "I", Cond.fieldLink RX4 31 "RegisterMill$Machine" "calls" "I", Cond.fieldLink RX4 34 "RegisterMill$Machine" "nested" "I", Cond.methodLink RX7 32 yJ7_fill_53178, Cond.static yJ7_fill_53178, Cond.initialized RJ7]
def wsX11_beginMachines_r2 : List Cond := [Cond.code yJ7_fill_53178 cJ7_fill_53178 4 none, Cond.selects RX8 ⟨"RegisterMill$Machine", "begin", "()V"⟩ yX8_begin, Cond.instanceMethod yX8_begin, Cond.initialized RX8, Cond.code yX8_begin cX8_begin 1 none, Cond.fieldLink RX8 28 "RegisterMill$StackMachine" "top" "I", Cond.methodLink RX8 25 yX4_begin, Cond.superclass RX8 RX4]
def wsX11_beginMachines : List Cond := .code yX11_beginMachines cX11_beginMachines 1 none :: ((wsX11_beginMachines_r1 ++ wsX11_beginMachines_r2) ++ wsX110 ++ wsX70 ++ wsX80)
def wsX11_clear_r1 : List Cond := [Cond.fieldLink RX11 12 "RegisterMill" "program" "LRegisterMill$Program;", Cond.fieldLink RX11 28 "RegisterMill" "turner" "LRegisterMill$Turner;", Cond.fieldLink RX11 90 "RegisterMill$Turner" "registers" "I", Cond.fieldLink RX11 35 "RegisterMill" "stackMachine" "LRegisterMill$Machine;", Cond.fieldLink RX11 96 "RegisterMill$Machine" "memory" "[I", Cond.fieldLink RX11 48 "RegisterMill" "registerMachine" "LRegisterMill$Machine;", Cond.methodLink RX11 87 yX6_empty, Cond.instanceMethod yX6_empty, Cond.selects RX6 yX6_empty yX6_empty, Cond.initialized RX6, Cond.code yX6_empty cX6_empty 1 none, Cond.fieldLink RX6 33 "RegisterMill$Program" "funcs" "I", Cond.fieldLink RX6 37 "RegisterMill$Program" "words" "I", Cond.fieldLink RX6 40 "RegisterMill$Program" "checked" "Z", Cond.methodLink RX11 93 yX11_beginMachines, Cond.instanceMethod yX11_beginMachines, Cond.selects RX11 yX11_beginMachines yX11_beginMachines, Cond.initialized RX11, Cond.code yX11_beginMachines cX11_beginMachines 1 none, Cond.methodLink RX11 168 ⟨"RegisterMill$Machine", "begin", "()V"⟩, Cond.sameMethod "RegisterMill$Machine" "RegisterMill$Machine" "begin" "()V", Cond.instanceMethod ⟨"RegisterMill$Machine", "begin", "()V"⟩, Cond.selects RX7 ⟨"RegisterMill$Machine", "begin", "()V"⟩ yX7_begin, Cond.instanceMethod yX7_begin]
def wsX11_clear_r2 : List Cond := [Cond.initialized RX7, Cond.code yX7_begin cX7_begin 1 none, Cond.fieldLink RX7 28 "RegisterMill$RegisterMachine" "answered" "I", Cond.fieldLink RX7 18 "RegisterMill$RegisterMachine" "passed" "[I", Cond.methodLink RX7 25 yX4_begin, Cond.superclass RX7 RX4, Cond.instanceMethod yX4_begin, Cond.initialized RX4, Cond.code yX4_begin cX4_begin 1 none, Cond.fieldLink RX4 21 "RegisterMill$Machine" "end" "I", Cond.fieldLink RX4 25 "RegisterMill$Machine" "told" "I", Cond.fieldLink RX4 28 "RegisterMill$Machine" "steps" "I", Cond.fieldLink RX4 31 "RegisterMill$Machine" "calls" "I", Cond.fieldLink RX4 34 "RegisterMill$Machine" "nested" "I", Cond.methodLink RX7 32 yJ7_fill_53178, Cond.static yJ7_fill_53178, Cond.initialized RJ7, Cond.code yJ7_fill_53178 cJ7_fill_53178 4 none, Cond.selects RX8 ⟨"RegisterMill$Machine", "begin", "()V"⟩ yX8_begin, Cond.instanceMethod yX8_begin, Cond.initialized RX8, Cond.code yX8_begin cX8_begin 1 none, Cond.fieldLink RX8 28 "RegisterMill$StackMachine" "top" "I", Cond.methodLink RX8 25 yX4_begin]
def wsX11_clear_r3 : List Cond := [Cond.superclass RX8 RX4, Cond.methodLink RX11 101 yJ7_fill_53178]
def wsX11_clear : List Cond := .code yX11_clear cX11_clear 1 none :: ((wsX11_clear_r1 ++ (wsX11_clear_r2 ++ wsX11_clear_r3)) ++ wsX110 ++ wsX90 ++ wsX70 ++ wsX80 ++ wsX60)
def wsX11_turn_r1 : List Cond := [Cond.fieldLink RX11 12 "RegisterMill" "program" "LRegisterMill$Program;", Cond.fieldLink RX11 51 "RegisterMill$Program" "checked" "Z", Cond.fieldLink RX11 28 "RegisterMill" "turner" "LRegisterMill$Turner;", Cond.fieldLink RX11 55 "RegisterMill$Program" "funcs" "I", Cond.fieldLink RX11 41 "RegisterMill$Turner" "code" "LRegisterMill$Code;", Cond.fieldLink RX11 114 "RegisterMill$Code" "total" "I", Cond.methodLink RX11 107 yX9_begin, Cond.instanceMethod yX9_begin, Cond.selects RX9 yX9_begin yX9_begin, Cond.initialized RX9, Cond.code yX9_begin cX9_begin 2 none, Cond.fieldLink RX9 56 "RegisterMill$Turner" "registers" "I", Cond.fieldLink RX9 35 "RegisterMill$Turner" "code" "LRegisterMill$Code;", Cond.fieldLink RX9 60 "RegisterMill$Code" "total" "I", Cond.methodLink RX11 111 yX9_turnFunc, Cond.instanceMethod yX9_turnFunc, Cond.selects RX9 yX9_turnFunc yX9_turnFunc, Cond.code yX9_turnFunc cX9_turnFunc 2 none, Cond.fieldLink RX9 12 "RegisterMill$Turner" "places" "LRegisterMill$Places;", Cond.fieldLink RX9 43 "RegisterMill$Turner" "program" "LRegisterMill$Program;", Cond.fieldLink RX9 39 "RegisterMill$Turner" "placeCounts" "[I", Cond.fieldLink RX9 73 "RegisterMill$Places" "total" "I", Cond.fieldLink RX9 28 "RegisterMill$Turner" "homes" "LRegisterMill$Homes;", Cond.fieldLink RX9 21 "RegisterMill$Turner" "live" "LRegisterMill$Live;"]
def wsX11_turn_r2 : List Cond := [Cond.fieldLink RX9 52 "RegisterMill$Turner" "writer" "LRegisterMill$Writer;", Cond.fieldLink RX9 82 "RegisterMill$Live" "ahead" "[I", Cond.methodLink RX9 63 yX5_build, Cond.instanceMethod yX5_build, Cond.selects RX5 yX5_build yX5_build, Cond.initialized RX5, Cond.code yX5_build cX5_build 5 none, Cond.fieldLink RX5 42 "RegisterMill$Places" "total" "I", Cond.fieldLink RX5 46 "RegisterMill$Program" "starts" "[I", Cond.fieldLink RX5 51 "RegisterMill$Program" "lengths" "[I", Cond.fieldLink RX5 32 "RegisterMill$Places" "newNumbers" "[I", Cond.fieldLink RX5 54 "RegisterMill$Program" "depths" "[I", Cond.fieldLink RX5 57 "RegisterMill$Program" "locals" "[I", Cond.methodLink RX5 60 yX5_become, Cond.instanceMethod yX5_become, Cond.selects RX5 yX5_become yX5_become, Cond.code yX5_become cX5_become 6 none, Cond.fieldLink RX5 67 "RegisterMill$Program" "numbers" "[I", Cond.fieldLink RX5 68 "RegisterMill$Program" "ops" "[I", Cond.fieldLink RX5 18 "RegisterMill$Places" "goals" "[I", Cond.fieldLink RX5 82 "RegisterMill$Program" "args" "[I", Cond.methodLink RX5 71 yX5_add, Cond.instanceMethod yX5_add, Cond.selects RX5 yX5_add yX5_add]
def wsX11_turn_r3 : List Cond := [Cond.code yX5_add cX5_add 4 none, Cond.fieldLink RX5 9 "RegisterMill$Places" "kinds" "[I", Cond.fieldLink RX5 21 "RegisterMill$Places" "written" "[I", Cond.fieldLink RX5 15 "RegisterMill$Places" "numbers" "[I", Cond.fieldLink RX5 24 "RegisterMill$Places" "readCounts" "[I", Cond.methodLink RX5 75 yX5_addReading, Cond.instanceMethod yX5_addReading, Cond.selects RX5 yX5_addReading yX5_addReading, Cond.code yX5_addReading cX5_addReading 4 none, Cond.methodLink RX5 78 yX5_addRead, Cond.instanceMethod yX5_addRead, Cond.selects RX5 yX5_addRead yX5_addRead, Cond.code yX5_addRead cX5_addRead 3 none, Cond.fieldLink RX5 29 "RegisterMill$Places" "reads" "[[I", Cond.methodLink RX5 85 yX5_addCall, Cond.instanceMethod yX5_addCall, Cond.selects RX5 yX5_addCall yX5_addCall, Cond.code yX5_addCall cX5_addCall 5 none, Cond.methodLink RX5 64 yX5_aimAnew, Cond.instanceMethod yX5_aimAnew, Cond.selects RX5 yX5_aimAnew yX5_aimAnew, Cond.code yX5_aimAnew cX5_aimAnew 2 none, Cond.methodLink RX5 88 yX5_jumps, Cond.instanceMethod yX5_jumps]
def wsX11_turn_r4 : List Cond := [Cond.selects RX5 yX5_jumps yX5_jumps, Cond.code yX5_jumps cX5_jumps 2 (some .boolean), Cond.methodLink RX9 67 yX5_forward, Cond.instanceMethod yX5_forward, Cond.selects RX5 yX5_forward yX5_forward, Cond.code yX5_forward cX5_forward 2 none, Cond.fieldLink RX5 35 "RegisterMill$Places" "blockStarts" "[Z", Cond.fieldLink RX5 39 "RegisterMill$Places" "copyOf" "[I", Cond.methodLink RX5 96 yX5_markBlockStarts, Cond.instanceMethod yX5_markBlockStarts, Cond.selects RX5 yX5_markBlockStarts yX5_markBlockStarts, Cond.code yX5_markBlockStarts cX5_markBlockStarts 2 none, Cond.methodLink RX5 99 yJ7_fill_53178, Cond.static yJ7_fill_53178, Cond.initialized RJ7, Cond.code yJ7_fill_53178 cJ7_fill_53178 4 none, Cond.methodLink RX5 105 yX5_forwardReads, Cond.instanceMethod yX5_forwardReads, Cond.selects RX5 yX5_forwardReads yX5_forwardReads, Cond.code yX5_forwardReads cX5_forwardReads 4 none, Cond.methodLink RX5 108 yX5_writtenSet, Cond.instanceMethod yX5_writtenSet, Cond.selects RX5 yX5_writtenSet yX5_writtenSet, Cond.code yX5_writtenSet cX5_writtenSet 2 (some .int)]
def wsX11_turn_r5 : List Cond := [Cond.methodLink RX5 92 yX5_readSet, Cond.instanceMethod yX5_readSet, Cond.selects RX5 yX5_readSet yX5_readSet, Cond.code yX5_readSet cX5_readSet 4 (some .int), Cond.methodLink RX5 111 yX5_forgetWritten, Cond.instanceMethod yX5_forgetWritten, Cond.selects RX5 yX5_forgetWritten yX5_forgetWritten, Cond.code yX5_forgetWritten cX5_forgetWritten 4 none, Cond.methodLink RX9 70 yX9_leaveOut, Cond.instanceMethod yX9_leaveOut, Cond.selects RX9 yX9_leaveOut yX9_leaveOut, Cond.code yX9_leaveOut cX9_leaveOut 3 none, Cond.methodLink RX9 91 yX3_find, Cond.instanceMethod yX3_find, Cond.selects RX3 yX3_find yX3_find, Cond.initialized RX3, Cond.code yX3_find cX3_find 4 none, Cond.fieldLink RX3 9 "RegisterMill$Live" "ahead" "[I", Cond.fieldLink RX3 24 "RegisterMill$Places" "total" "I", Cond.methodLink RX3 18 yJ7_fill_53178, Cond.methodLink RX3 30 yX3_growBackwards, Cond.instanceMethod yX3_growBackwards, Cond.selects RX3 yX3_growBackwards yX3_growBackwards, Cond.code yX3_growBackwards cX3_growBackwards 6 (some .boolean)]
def wsX11_turn_r6 : List Cond := [Cond.fieldLink RX3 41 "RegisterMill$Places" "goals" "[I", Cond.fieldLink RX3 15 "RegisterMill$Live" "behind" "[I", Cond.methodLink RX3 34 yX5_goesToNext, Cond.instanceMethod yX5_goesToNext, Cond.selects RX5 yX5_goesToNext yX5_goesToNext, Cond.code yX5_goesToNext cX5_goesToNext 2 (some .boolean), Cond.methodLink RX3 38 yX5_jumps, Cond.methodLink RX3 44 yX5_readSet, Cond.methodLink RX3 48 yX5_writtenSet, Cond.methodLink RX9 95 yX5_dropUseless, Cond.instanceMethod yX5_dropUseless, Cond.selects RX5 yX5_dropUseless yX5_dropUseless, Cond.code yX5_dropUseless cX5_dropUseless 4 (some .boolean), Cond.methodLink RX5 114 yX5_isUseless, Cond.instanceMethod yX5_isUseless, Cond.selects RX5 yX5_isUseless yX5_isUseless, Cond.code yX5_isUseless cX5_isUseless 4 (some .boolean), Cond.fieldLink RX5 122 "RegisterMill$Live" "behind" "[I", Cond.methodLink RX5 118 yX5_copyPlace, Cond.instanceMethod yX5_copyPlace, Cond.selects RX5 yX5_copyPlace yX5_copyPlace, Cond.code yX5_copyPlace cX5_copyPlace 4 none, Cond.methodLink RX9 74 yX2_give, Cond.instanceMethod yX2_give]
def wsX11_turn_r7 : List Cond := [Cond.selects RX2 yX2_give yX2_give, Cond.initialized RX2, Cond.code yX2_give cX2_give 8 none, Cond.fieldLink RX2 24 "RegisterMill$Homes" "slotCounts" "[I", Cond.fieldLink RX2 34 "RegisterMill$Places" "total" "I", Cond.fieldLink RX2 40 "RegisterMill$Live" "ahead" "[I", Cond.fieldLink RX2 9 "RegisterMill$Homes" "firsts" "[I", Cond.methodLink RX2 30 yX2_forget, Cond.instanceMethod yX2_forget, Cond.selects RX2 yX2_forget yX2_forget, Cond.code yX2_forget cX2_forget 3 none, Cond.fieldLink RX2 15 "RegisterMill$Homes" "lasts" "[I", Cond.fieldLink RX2 18 "RegisterMill$Homes" "registers" "[I", Cond.fieldLink RX2 21 "RegisterMill$Homes" "slotNumbers" "[I", Cond.fieldLink RX2 27 "RegisterMill$Homes" "holders" "[I", Cond.methodLink RX2 59 yJ7_fill_53178, Cond.methodLink RX2 45 yX5_readSet, Cond.methodLink RX2 49 yX5_writtenSet, Cond.methodLink RX2 52 yX2_widen, Cond.instanceMethod yX2_widen, Cond.selects RX2 yX2_widen yX2_widen, Cond.code yX2_widen cX2_widen 5 none, Cond.methodLink RX2 56 yX2_giveOne, Cond.instanceMethod yX2_giveOne]
def wsX11_turn_r8 : List Cond := [Cond.selects RX2 yX2_giveOne yX2_giveOne, Cond.code yX2_giveOne cX2_giveOne 7 none, Cond.methodLink RX2 65 yX2_giveBack, Cond.instanceMethod yX2_giveBack, Cond.selects RX2 yX2_giveBack yX2_giveBack, Cond.code yX2_giveBack cX2_giveBack 5 none, Cond.methodLink RX2 68 yX2_longestWith, Cond.instanceMethod yX2_longestWith, Cond.selects RX2 yX2_longestWith yX2_longestWith, Cond.code yX2_longestWith cX2_longestWith 8 (some .int), Cond.methodLink RX9 78 yX10_begin, Cond.instanceMethod yX10_begin, Cond.selects RX10 yX10_begin yX10_begin, Cond.initialized RX10, Cond.code yX10_begin cX10_begin 3 none, Cond.fieldLink RX10 27 "RegisterMill$Writer" "func" "I", Cond.fieldLink RX10 31 "RegisterMill$Writer" "spareA" "I", Cond.fieldLink RX10 34 "RegisterMill$Writer" "spareB" "I", Cond.fieldLink RX10 23 "RegisterMill$Writer" "code" "LRegisterMill$Code;", Cond.fieldLink RX10 15 "RegisterMill$Writer" "places" "LRegisterMill$Places;", Cond.fieldLink RX10 37 "RegisterMill$Places" "total" "I", Cond.methodLink RX10 42 yX1_open, Cond.instanceMethod yX1_open, Cond.selects RX1 yX1_open yX1_open]
def wsX11_turn_r9 : List Cond := [Cond.initialized RX1, Cond.code yX1_open cX1_open 4 none, Cond.fieldLink RX1 21 "RegisterMill$Code" "total" "I", Cond.fieldLink RX1 18 "RegisterMill$Code" "parts" "[I", Cond.methodLink RX1 25 Lib.Math.max.name, Cond.static Lib.Math.max.name, Cond.initialized "java/lang/Math", Cond.code Lib.Math.max.name Lib.Math.max.code 2 (some .int), Cond.fieldLink RX1 9 "RegisterMill$Code" "starts" "[I", Cond.fieldLink RX1 15 "RegisterMill$Code" "sizes" "[I", Cond.methodLink RX1 31 yJ7_copyOf_59c91, Cond.static yJ7_copyOf_59c91, Cond.code yJ7_copyOf_59c91 cJ7_copyOf_59c91 3 (some (.array .int)), Cond.methodLink RJ7 316 ⟨"[I", "clone", "()Ljava/lang/Object;"⟩, Cond.sameMethod "[I" "java/lang/Object" "clone" "()Ljava/lang/Object;", Cond.native ⟨"java/lang/Object", "clone", "()Ljava/lang/Object;"⟩, Cond.instanceMethod ⟨"java/lang/Object", "clone", "()Ljava/lang/Object;"⟩, Cond.selects "[I" ⟨"[I", "clone", "()Ljava/lang/Object;"⟩ ⟨"java/lang/Object", "clone", "()Ljava/lang/Object;"⟩, Cond.classLink RJ7 317 "[I", Cond.arrayClass .int, Cond.methodLink RJ7 304 Lib.Math.min.name, Cond.static Lib.Math.min.name, Cond.code Lib.Math.min.name Lib.Math.min.code 2 (some .int), Cond.methodLink RJ7 150 arraycopyName]
def wsX11_turn_r10 : List Cond := [Cond.native arraycopyName, Cond.static arraycopyName, Cond.initialized "java/lang/System", Cond.methodLink RX9 85 yX10_writeEntry, Cond.instanceMethod yX10_writeEntry, Cond.selects RX10 yX10_writeEntry yX10_writeEntry, Cond.code yX10_writeEntry cX10_writeEntry 4 none, Cond.fieldLink RX10 48 "RegisterMill$Program" "locals" "[I", Cond.fieldLink RX10 53 "RegisterMill$Program" "args" "[I", Cond.methodLink RX10 56 yX10_target, Cond.instanceMethod yX10_target, Cond.selects RX10 yX10_target yX10_target, Cond.code yX10_target cX10_target 2 (some .int), Cond.fieldLink RX10 19 "RegisterMill$Writer" "homes" "LRegisterMill$Homes;", Cond.methodLink RX10 120 yX2_slotOf, Cond.instanceMethod yX2_slotOf, Cond.selects RX2 yX2_slotOf yX2_slotOf, Cond.code yX2_slotOf cX2_slotOf 3 (some .int), Cond.methodLink RX10 125 yX2_registerOf, Cond.instanceMethod yX2_registerOf, Cond.selects RX2 yX2_registerOf yX2_registerOf, Cond.code yX2_registerOf cX2_registerOf 3 (some .int), Cond.methodLink RX10 60 yX1_add, Cond.instanceMethod yX1_add]
def wsX11_turn_r11 : List Cond := [Cond.selects RX1 yX1_add yX1_add, Cond.code yX1_add cX1_add 6 none, Cond.methodLink RX10 64 yX10_saveTarget, Cond.instanceMethod yX10_saveTarget, Cond.selects RX10 yX10_saveTarget yX10_saveTarget, Cond.code yX10_saveTarget cX10_saveTarget 3 none, Cond.methodLink RX9 88 yX10_writePlaces, Cond.instanceMethod yX10_writePlaces, Cond.selects RX10 yX10_writePlaces yX10_writePlaces, Cond.code yX10_writePlaces cX10_writePlaces 2 none, Cond.fieldLink RX10 9 "RegisterMill$Writer" "firstOps" "[I", Cond.fieldLink RX10 68 "RegisterMill$Code" "sizes" "[I", Cond.methodLink RX10 71 yX10_writePlace, Cond.instanceMethod yX10_writePlace, Cond.selects RX10 yX10_writePlace yX10_writePlace, Cond.code yX10_writePlace cX10_writePlace 2 none, Cond.fieldLink RX10 78 "RegisterMill$Places" "kinds" "[I", Cond.fieldLink RX10 81 "RegisterMill$Places" "written" "[I", Cond.fieldLink RX10 84 "RegisterMill$Places" "numbers" "[I", Cond.fieldLink RX10 87 "RegisterMill$Places" "reads" "[[I", Cond.fieldLink RX10 100 "RegisterMill$Places" "goals" "[I", Cond.methodLink RX10 91 yX10_writeMove, Cond.instanceMethod yX10_writeMove, Cond.selects RX10 yX10_writeMove yX10_writeMove]
def wsX11_turn_r12 : List Cond := [Cond.code yX10_writeMove cX10_writeMove 5 none, Cond.methodLink RX10 128 yX10_moveInto, Cond.instanceMethod yX10_moveInto, Cond.selects RX10 yX10_moveInto yX10_moveInto, Cond.code yX10_moveInto cX10_moveInto 4 none, Cond.methodLink RX10 94 yX10_writeWork, Cond.instanceMethod yX10_writeWork, Cond.selects RX10 yX10_writeWork yX10_writeWork, Cond.code yX10_writeWork cX10_writeWork 5 none, Cond.methodLink RX10 103 yX10_loaded, Cond.instanceMethod yX10_loaded, Cond.selects RX10 yX10_loaded yX10_loaded, Cond.code yX10_loaded cX10_loaded 4 (some .int), Cond.methodLink RX10 116 yX1_addWork, Cond.instanceMethod yX1_addWork, Cond.selects RX1 yX1_addWork yX1_addWork, Cond.code yX1_addWork cX1_addWork 7 none, Cond.methodLink RX1 37 yX1_add, Cond.methodLink RX10 97 yX10_writeSwap, Cond.instanceMethod yX10_writeSwap, Cond.selects RX10 yX10_writeSwap yX10_writeSwap, Cond.code yX10_writeSwap cX10_writeSwap 4 none, Cond.methodLink RX10 131 yX10_moveFrom, Cond.instanceMethod yX10_moveFrom]
def wsX11_turn_r13 : List Cond := [Cond.selects RX10 yX10_moveFrom yX10_moveFrom, Cond.code yX10_moveFrom cX10_moveFrom 4 none, Cond.methodLink RX10 107 yX10_writeRead, Cond.instanceMethod yX10_writeRead, Cond.selects RX10 yX10_writeRead yX10_writeRead, Cond.code yX10_writeRead cX10_writeRead 4 none, Cond.methodLink RX10 110 yX10_writeWrite, Cond.instanceMethod yX10_writeWrite, Cond.selects RX10 yX10_writeWrite yX10_writeWrite, Cond.code yX10_writeWrite cX10_writeWrite 5 none, Cond.methodLink RX10 113 yX10_writeCall, Cond.instanceMethod yX10_writeCall, Cond.selects RX10 yX10_writeCall yX10_writeCall, Cond.code yX10_writeCall cX10_writeCall 3 none, Cond.fieldLink RX10 134 "RegisterMill$Places" "readCounts" "[I", Cond.methodLink RX10 74 yX1_aim, Cond.instanceMethod yX1_aim, Cond.selects RX1 yX1_aim yX1_aim, Cond.code yX1_aim cX1_aim 5 none, Cond.methodLink RX11 93 yX11_beginMachines, Cond.instanceMethod yX11_beginMachines, Cond.selects RX11 yX11_beginMachines yX11_beginMachines, Cond.initialized RX11, Cond.code yX11_beginMachines cX11_beginMachines 1 none]
def wsX11_turn_r14 : List Cond := [Cond.fieldLink RX11 35 "RegisterMill" "stackMachine" "LRegisterMill$Machine;", Cond.fieldLink RX11 48 "RegisterMill" "registerMachine" "LRegisterMill$Machine;", Cond.methodLink RX11 168 ⟨"RegisterMill$Machine", "begin", "()V"⟩, Cond.sameMethod "RegisterMill$Machine" "RegisterMill$Machine" "begin" "()V", Cond.instanceMethod ⟨"RegisterMill$Machine", "begin", "()V"⟩, Cond.selects RX7 ⟨"RegisterMill$Machine", "begin", "()V"⟩ yX7_begin, Cond.instanceMethod yX7_begin, Cond.initialized RX7, Cond.code yX7_begin cX7_begin 1 none, Cond.fieldLink RX7 28 "RegisterMill$RegisterMachine" "answered" "I", Cond.fieldLink RX7 18 "RegisterMill$RegisterMachine" "passed" "[I", Cond.methodLink RX7 25 yX4_begin, Cond.superclass RX7 RX4, Cond.instanceMethod yX4_begin, Cond.initialized RX4, Cond.code yX4_begin cX4_begin 1 none, Cond.fieldLink RX4 21 "RegisterMill$Machine" "end" "I", Cond.fieldLink RX4 25 "RegisterMill$Machine" "told" "I", Cond.fieldLink RX4 28 "RegisterMill$Machine" "steps" "I", Cond.fieldLink RX4 31 "RegisterMill$Machine" "calls" "I", Cond.fieldLink RX4 34 "RegisterMill$Machine" "nested" "I", Cond.methodLink RX7 32 yJ7_fill_53178, Cond.selects RX8 ⟨"RegisterMill$Machine", "begin", "()V"⟩ yX8_begin, Cond.instanceMethod yX8_begin]
def wsX11_turn_r15 : List Cond := [Cond.initialized RX8, Cond.code yX8_begin cX8_begin 1 none, Cond.fieldLink RX8 28 "RegisterMill$StackMachine" "top" "I", Cond.methodLink RX8 25 yX4_begin, Cond.superclass RX8 RX4]
def wsX11_turn : List Cond := .code yX11_turn cX11_turn 3 (some .int) :: ((wsX11_turn_r1 ++ (wsX11_turn_r2 ++ (wsX11_turn_r3 ++ (wsX11_turn_r4 ++ (wsX11_turn_r5 ++ (wsX11_turn_r6 ++ (wsX11_turn_r7 ++ (wsX11_turn_r8 ++ (wsX11_turn_r9 ++ (wsX11_turn_r10 ++ (wsX11_turn_r11 ++ (wsX11_turn_r12 ++ (wsX11_turn_r13 ++ (wsX11_turn_r14 ++ wsX11_turn_r15)))))))))))))) ++ wsX110 ++ wsX60 ++ wsX90 ++ wsX10 ++ wsX50 ++ wsX30 ++ wsX20 ++ wsX100 ++ wsX70 ++ wsX80)
def wsX11_isTurned : List Cond := .code yX11_isTurned cX11_isTurned 2 (some .boolean) :: ([.fieldLink RX11 28 "RegisterMill" "turner" "LRegisterMill$Turner;", .fieldLink RX11 90 "RegisterMill$Turner" "registers" "I", .fieldLink RX11 12 "RegisterMill" "program" "LRegisterMill$Program;", .methodLink RX11 73 yX6_hasFunc, .instanceMethod yX6_hasFunc, .selects RX6 yX6_hasFunc yX6_hasFunc, .initialized RX6, .code yX6_hasFunc cX6_hasFunc 2 (some .boolean), .fieldLink RX6 33 "RegisterMill$Program" "funcs" "I"] ++ wsX110 ++ wsX90 ++ wsX60)
def wsX11_op_r1 : List Cond := [Cond.classLink RX11 125 "java/util/NoSuchElementException", Cond.initialized "java/util/NoSuchElementException", Cond.fieldLink RX11 28 "RegisterMill" "turner" "LRegisterMill$Turner;", Cond.fieldLink RX11 41 "RegisterMill$Turner" "code" "LRegisterMill$Code;", Cond.fieldLink RX11 122 "RegisterMill$Code" "sizes" "[I", Cond.methodLink RX11 119 yX11_isTurned, Cond.instanceMethod yX11_isTurned, Cond.selects RX11 yX11_isTurned yX11_isTurned, Cond.initialized RX11, Cond.code yX11_isTurned cX11_isTurned 2 (some .boolean), Cond.fieldLink RX11 90 "RegisterMill$Turner" "registers" "I", Cond.fieldLink RX11 12 "RegisterMill" "program" "LRegisterMill$Program;", Cond.methodLink RX11 73 yX6_hasFunc, Cond.instanceMethod yX6_hasFunc, Cond.selects RX6 yX6_hasFunc yX6_hasFunc, Cond.initialized RX6, Cond.code yX6_hasFunc cX6_hasFunc 2 (some .boolean), Cond.fieldLink RX6 33 "RegisterMill$Program" "funcs" "I", Cond.methodLink RX11 134 yX1_part, Cond.instanceMethod yX1_part, Cond.selects RX1 yX1_part yX1_part, Cond.initialized RX1, Cond.code yX1_part cX1_part 4 (some .int), Cond.fieldLink RX1 18 "RegisterMill$Code" "parts" "[I"]
def wsX11_op_r2 : List Cond := [Cond.fieldLink RX1 9 "RegisterMill$Code" "starts" "[I"]
def wsX11_op : List Cond := .code yX11_op cX11_op 4 (some .int) :: ((wsX11_op_r1 ++ wsX11_op_r2) ++ wsX110 ++ wsX90 ++ wsX10 ++ wsX60 ++ (vx_atS RX11 129 "java/util/NoSuchElementException" ["java/lang/RuntimeException", "java/lang/Exception"]).filter goodWord)
def wsX11_size : List Cond := .code yX11_size cX11_size 2 (some .int) :: ([.fieldLink RX11 28 "RegisterMill" "turner" "LRegisterMill$Turner;", .fieldLink RX11 41 "RegisterMill$Turner" "code" "LRegisterMill$Code;", .fieldLink RX11 122 "RegisterMill$Code" "sizes" "[I", .methodLink RX11 119 yX11_isTurned, .instanceMethod yX11_isTurned, .selects RX11 yX11_isTurned yX11_isTurned, .initialized RX11, .code yX11_isTurned cX11_isTurned 2 (some .boolean), .fieldLink RX11 90 "RegisterMill$Turner" "registers" "I", .fieldLink RX11 12 "RegisterMill" "program" "LRegisterMill$Program;", .methodLink RX11 73 yX6_hasFunc, .instanceMethod yX6_hasFunc, .selects RX6 yX6_hasFunc yX6_hasFunc, .initialized RX6, .code yX6_hasFunc cX6_hasFunc 2 (some .boolean), .fieldLink RX6 33 "RegisterMill$Program" "funcs" "I"] ++ wsX110 ++ wsX90 ++ wsX10 ++ wsX60)
def wsX11_value_r1 : List Cond := [Cond.fieldLink RX11 12 "RegisterMill" "program" "LRegisterMill$Program;", Cond.fieldLink RX11 138 "RegisterMill$Program" "locals" "[I", Cond.fieldLink RX11 28 "RegisterMill" "turner" "LRegisterMill$Turner;", Cond.fieldLink RX11 141 "RegisterMill$Turner" "homes" "LRegisterMill$Homes;", Cond.methodLink RX11 119 yX11_isTurned, Cond.instanceMethod yX11_isTurned, Cond.selects RX11 yX11_isTurned yX11_isTurned, Cond.initialized RX11, Cond.code yX11_isTurned cX11_isTurned 2 (some .boolean), Cond.fieldLink RX11 90 "RegisterMill$Turner" "registers" "I", Cond.methodLink RX11 73 yX6_hasFunc, Cond.instanceMethod yX6_hasFunc, Cond.selects RX6 yX6_hasFunc yX6_hasFunc, Cond.initialized RX6, Cond.code yX6_hasFunc cX6_hasFunc 2 (some .boolean), Cond.fieldLink RX6 33 "RegisterMill$Program" "funcs" "I", Cond.methodLink RX11 145 yX2_tell, Cond.instanceMethod yX2_tell, Cond.selects RX2 yX2_tell yX2_tell, Cond.initialized RX2, Cond.code yX2_tell cX2_tell 5 (some .int), Cond.fieldLink RX2 9 "RegisterMill$Homes" "firsts" "[I", Cond.fieldLink RX2 15 "RegisterMill$Homes" "lasts" "[I", Cond.fieldLink RX2 18 "RegisterMill$Homes" "registers" "[I"]
def wsX11_value_r2 : List Cond := [Cond.fieldLink RX2 21 "RegisterMill$Homes" "slotNumbers" "[I"]
def wsX11_value : List Cond := .code yX11_value cX11_value 4 (some .int) :: ((wsX11_value_r1 ++ wsX11_value_r2) ++ wsX110 ++ wsX60 ++ wsX90 ++ wsX20)
def wsX11_slots : List Cond := .code yX11_slots cX11_slots 2 (some .int) :: ([.fieldLink RX11 28 "RegisterMill" "turner" "LRegisterMill$Turner;", .fieldLink RX11 141 "RegisterMill$Turner" "homes" "LRegisterMill$Homes;", .fieldLink RX11 150 "RegisterMill$Homes" "slotCounts" "[I", .methodLink RX11 119 yX11_isTurned, .instanceMethod yX11_isTurned, .selects RX11 yX11_isTurned yX11_isTurned, .initialized RX11, .code yX11_isTurned cX11_isTurned 2 (some .boolean), .fieldLink RX11 90 "RegisterMill$Turner" "registers" "I", .fieldLink RX11 12 "RegisterMill" "program" "LRegisterMill$Program;", .methodLink RX11 73 yX6_hasFunc, .instanceMethod yX6_hasFunc, .selects RX6 yX6_hasFunc yX6_hasFunc, .initialized RX6, .code yX6_hasFunc cX6_hasFunc 2 (some .boolean), .fieldLink RX6 33 "RegisterMill$Program" "funcs" "I"] ++ wsX110 ++ wsX90 ++ wsX20 ++ wsX60)
def wsX11_places : List Cond := .code yX11_places cX11_places 2 (some .int) :: ([.fieldLink RX11 28 "RegisterMill" "turner" "LRegisterMill$Turner;", .fieldLink RX11 153 "RegisterMill$Turner" "placeCounts" "[I", .methodLink RX11 119 yX11_isTurned, .instanceMethod yX11_isTurned, .selects RX11 yX11_isTurned yX11_isTurned, .initialized RX11, .code yX11_isTurned cX11_isTurned 2 (some .boolean), .fieldLink RX11 90 "RegisterMill$Turner" "registers" "I", .fieldLink RX11 12 "RegisterMill" "program" "LRegisterMill$Program;", .methodLink RX11 73 yX6_hasFunc, .instanceMethod yX6_hasFunc, .selects RX6 yX6_hasFunc yX6_hasFunc, .initialized RX6, .code yX6_hasFunc cX6_hasFunc 2 (some .boolean), .fieldLink RX6 33 "RegisterMill$Program" "funcs" "I"] ++ wsX110 ++ wsX90 ++ wsX60)
def wsX11_cell : List Cond := .code yX11_cell cX11_cell 3 (some .boolean) :: ([.fieldLink RX11 35 "RegisterMill" "stackMachine" "LRegisterMill$Machine;", .fieldLink RX11 96 "RegisterMill$Machine" "memory" "[I", .fieldLink RX11 48 "RegisterMill" "registerMachine" "LRegisterMill$Machine;"] ++ wsX110 ++ wsX70 ++ wsX80)
def wsX11_again_r1 : List Cond := [Cond.fieldLink RX11 12 "RegisterMill" "program" "LRegisterMill$Program;", Cond.fieldLink RX11 51 "RegisterMill$Program" "checked" "Z", Cond.methodLink RX11 93 yX11_beginMachines, Cond.instanceMethod yX11_beginMachines, Cond.selects RX11 yX11_beginMachines yX11_beginMachines, Cond.initialized RX11, Cond.code yX11_beginMachines cX11_beginMachines 1 none, Cond.fieldLink RX11 35 "RegisterMill" "stackMachine" "LRegisterMill$Machine;", Cond.fieldLink RX11 48 "RegisterMill" "registerMachine" "LRegisterMill$Machine;", Cond.methodLink RX11 168 ⟨"RegisterMill$Machine", "begin", "()V"⟩, Cond.sameMethod "RegisterMill$Machine" "RegisterMill$Machine" "begin" "()V", Cond.instanceMethod ⟨"RegisterMill$Machine", "begin", "()V"⟩, Cond.selects RX7 ⟨"RegisterMill$Machine", "begin", "()V"⟩ yX7_begin, Cond.instanceMethod yX7_begin, Cond.initialized RX7, Cond.code yX7_begin cX7_begin 1 none, Cond.fieldLink RX7 28 "RegisterMill$RegisterMachine" "answered" "I", Cond.fieldLink RX7 18 "RegisterMill$RegisterMachine" "passed" "[I", Cond.methodLink RX7 25 yX4_begin, Cond.superclass RX7 RX4, Cond.instanceMethod yX4_begin, Cond.initialized RX4, Cond.code yX4_begin cX4_begin 1 none, Cond.fieldLink RX4 21 "RegisterMill$Machine" "end" "I"]
def wsX11_again_r2 : List Cond := [Cond.fieldLink RX4 25 "RegisterMill$Machine" "told" "I", Cond.fieldLink RX4 28 "RegisterMill$Machine" "steps" "I", Cond.fieldLink RX4 31 "RegisterMill$Machine" "calls" "I", Cond.fieldLink RX4 34 "RegisterMill$Machine" "nested" "I", Cond.methodLink RX7 32 yJ7_fill_53178, Cond.static yJ7_fill_53178, Cond.initialized RJ7, Cond.code yJ7_fill_53178 cJ7_fill_53178 4 none, Cond.selects RX8 ⟨"RegisterMill$Machine", "begin", "()V"⟩ yX8_begin, Cond.instanceMethod yX8_begin, Cond.initialized RX8, Cond.code yX8_begin cX8_begin 1 none, Cond.fieldLink RX8 28 "RegisterMill$StackMachine" "top" "I", Cond.methodLink RX8 25 yX4_begin, Cond.superclass RX8 RX4]
def wsX11_again : List Cond := .code yX11_again cX11_again 1 (some .boolean) :: ((wsX11_again_r1 ++ wsX11_again_r2) ++ wsX110 ++ wsX60 ++ wsX70 ++ wsX80)
def wsX11_runStack_r1 : List Cond := [Cond.fieldLink RX11 12 "RegisterMill" "program" "LRegisterMill$Program;", Cond.fieldLink RX11 51 "RegisterMill$Program" "checked" "Z", Cond.fieldLink RX11 35 "RegisterMill" "stackMachine" "LRegisterMill$Machine;", Cond.methodLink RX11 156 ⟨"RegisterMill$Machine", "goOn", "(I)I"⟩, Cond.sameMethod "RegisterMill$Machine" "RegisterMill$Machine" "goOn" "(I)I", Cond.selects RX7 ⟨"RegisterMill$Machine", "goOn", "(I)I"⟩ yX4_goOn, Cond.instanceMethod yX4_goOn, Cond.initialized RX4, Cond.code yX4_goOn cX4_goOn 4 (some .int), Cond.fieldLink RX4 21 "RegisterMill$Machine" "end" "I", Cond.fieldLink RX4 34 "RegisterMill$Machine" "nested" "I", Cond.fieldLink RX4 28 "RegisterMill$Machine" "steps" "I", Cond.fieldLink RX4 18 "RegisterMill$Machine" "nexts" "[I", Cond.fieldLink RX4 15 "RegisterMill$Machine" "funcs" "[I", Cond.methodLink RX4 37 ⟨"RegisterMill$Machine", "enter", "(I)V"⟩, Cond.sameMethod "RegisterMill$Machine" "RegisterMill$Machine" "enter" "(I)V", Cond.selects RX7 ⟨"RegisterMill$Machine", "enter", "(I)V"⟩ yX4_enter, Cond.instanceMethod yX4_enter, Cond.code yX4_enter cX4_enter 2 none, Cond.fieldLink RX4 31 "RegisterMill$Machine" "calls" "I", Cond.methodLink RX4 49 ⟨"RegisterMill$Machine", "finish", "(I)V"⟩, Cond.sameMethod "RegisterMill$Machine" "RegisterMill$Machine" "finish" "(I)V", Cond.selects RX7 ⟨"RegisterMill$Machine", "finish", "(I)V"⟩ yX4_finish, Cond.instanceMethod yX4_finish]
def wsX11_runStack_r2 : List Cond := [Cond.code yX4_finish cX4_finish 2 none, Cond.selects RX8 ⟨"RegisterMill$Machine", "finish", "(I)V"⟩ yX4_finish, Cond.methodLink RX4 52 ⟨"RegisterMill$Machine", "openRoom", "(II)V"⟩, Cond.sameMethod "RegisterMill$Machine" "RegisterMill$Machine" "openRoom" "(II)V", Cond.selects RX7 ⟨"RegisterMill$Machine", "openRoom", "(II)V"⟩ yX7_openRoom, Cond.instanceMethod yX7_openRoom, Cond.initialized RX7, Cond.code yX7_openRoom cX7_openRoom 6 none, Cond.fieldLink RX7 9 "RegisterMill$RegisterMachine" "registers" "[I", Cond.fieldLink RX7 15 "RegisterMill$RegisterMachine" "slotCells" "[I", Cond.selects RX8 ⟨"RegisterMill$Machine", "openRoom", "(II)V"⟩ yX8_openRoom, Cond.instanceMethod yX8_openRoom, Cond.initialized RX8, Cond.code yX8_openRoom cX8_openRoom 6 none, Cond.fieldLink RX8 21 "RegisterMill$StackMachine" "program" "LRegisterMill$Program;", Cond.fieldLink RX8 32 "RegisterMill$Program" "args" "[I", Cond.fieldLink RX8 28 "RegisterMill$StackMachine" "top" "I", Cond.fieldLink RX8 9 "RegisterMill$StackMachine" "locals" "[I", Cond.fieldLink RX8 15 "RegisterMill$StackMachine" "stack" "[I", Cond.fieldLink RX8 18 "RegisterMill$StackMachine" "bottoms" "[I", Cond.selects RX8 ⟨"RegisterMill$Machine", "enter", "(I)V"⟩ yX4_enter, Cond.methodLink RX4 41 ⟨"RegisterMill$Machine", "room", "()I"⟩, Cond.sameMethod "RegisterMill$Machine" "RegisterMill$Machine" "room" "()I", Cond.selects RX7 ⟨"RegisterMill$Machine", "room", "()I"⟩ yX4_room]
def wsX11_runStack_r3 : List Cond := [Cond.instanceMethod yX4_room, Cond.code yX4_room cX4_room 1 (some .int), Cond.selects RX8 ⟨"RegisterMill$Machine", "room", "()I"⟩ yX4_room, Cond.methodLink RX4 45 ⟨"RegisterMill$Machine", "step", "(II)V"⟩, Cond.sameMethod "RegisterMill$Machine" "RegisterMill$Machine" "step" "(II)V", Cond.selects RX7 ⟨"RegisterMill$Machine", "step", "(II)V"⟩ yX7_step, Cond.instanceMethod yX7_step, Cond.code yX7_step cX7_step 6 none, Cond.fieldLink RX7 21 "RegisterMill$RegisterMachine" "code" "LRegisterMill$Code;", Cond.fieldLink RX7 18 "RegisterMill$RegisterMachine" "passed" "[I", Cond.fieldLink RX7 28 "RegisterMill$RegisterMachine" "answered" "I", Cond.methodLink RX7 38 yX1_part, Cond.instanceMethod yX1_part, Cond.selects RX1 yX1_part yX1_part, Cond.initialized RX1, Cond.code yX1_part cX1_part 4 (some .int), Cond.fieldLink RX1 18 "RegisterMill$Code" "parts" "[I", Cond.fieldLink RX1 9 "RegisterMill$Code" "starts" "[I", Cond.methodLink RX7 44 ⟨"RegisterMill$RegisterMachine", "room", "()I"⟩, Cond.sameMethod "RegisterMill$RegisterMachine" "RegisterMill$Machine" "room" "()I", Cond.selects RX7 ⟨"RegisterMill$RegisterMachine", "room", "()I"⟩ yX4_room, Cond.methodLink RX7 48 yX7_work, Cond.instanceMethod yX7_work, Cond.selects RX7 yX7_work yX7_work]
def wsX11_runStack_r4 : List Cond := [Cond.code yX7_work cX7_work 7 none, Cond.methodLink RX7 72 ⟨"RegisterMill$RegisterMachine", "canReckon", "(II)Z"⟩, Cond.sameMethod "RegisterMill$RegisterMachine" "RegisterMill$Machine" "canReckon" "(II)Z", Cond.selects RX7 ⟨"RegisterMill$RegisterMachine", "canReckon", "(II)Z"⟩ yX4_canReckon, Cond.instanceMethod yX4_canReckon, Cond.code yX4_canReckon cX4_canReckon 3 (some .boolean), Cond.static yX11_reckon, Cond.initialized RX11, Cond.code yX11_reckon cX11_reckon 3 (some .int), Cond.methodLink RX7 52 yX7_swap, Cond.instanceMethod yX7_swap, Cond.selects RX7 yX7_swap yX7_swap, Cond.code yX7_swap cX7_swap 4 none, Cond.methodLink RX7 56 ⟨"RegisterMill$RegisterMachine", "jump", "(I)V"⟩, Cond.sameMethod "RegisterMill$RegisterMachine" "RegisterMill$Machine" "jump" "(I)V", Cond.selects RX7 ⟨"RegisterMill$RegisterMachine", "jump", "(I)V"⟩ yX4_jump, Cond.instanceMethod yX4_jump, Cond.code yX4_jump cX4_jump 2 none, Cond.methodLink RX7 60 ⟨"RegisterMill$RegisterMachine", "leave", "(I)V"⟩, Cond.sameMethod "RegisterMill$RegisterMachine" "RegisterMill$Machine" "leave" "(I)V", Cond.selects RX7 ⟨"RegisterMill$RegisterMachine", "leave", "(I)V"⟩ yX4_leave, Cond.instanceMethod yX4_leave, Cond.code yX4_leave cX4_leave 2 none, Cond.fieldLink RX4 25 "RegisterMill$Machine" "told" "I"]
def wsX11_runStack_r5 : List Cond := [Cond.methodLink RX4 55 ⟨"RegisterMill$Machine", "takeAnswer", "(I)V"⟩, Cond.sameMethod "RegisterMill$Machine" "RegisterMill$Machine" "takeAnswer" "(I)V", Cond.selects RX7 ⟨"RegisterMill$Machine", "takeAnswer", "(I)V"⟩ yX7_takeAnswer, Cond.instanceMethod yX7_takeAnswer, Cond.code yX7_takeAnswer cX7_takeAnswer 2 none, Cond.selects RX8 ⟨"RegisterMill$Machine", "takeAnswer", "(I)V"⟩ yX8_takeAnswer, Cond.instanceMethod yX8_takeAnswer, Cond.code yX8_takeAnswer cX8_takeAnswer 2 none, Cond.methodLink RX8 37 ⟨"RegisterMill$StackMachine", "room", "()I"⟩, Cond.sameMethod "RegisterMill$StackMachine" "RegisterMill$Machine" "room" "()I", Cond.selects RX8 ⟨"RegisterMill$StackMachine", "room", "()I"⟩ yX4_room, Cond.methodLink RX8 41 yX8_push, Cond.instanceMethod yX8_push, Cond.selects RX8 yX8_push yX8_push, Cond.code yX8_push cX8_push 2 none, Cond.methodLink RX7 63 yX7_fetch, Cond.instanceMethod yX7_fetch, Cond.selects RX7 yX7_fetch yX7_fetch, Cond.code yX7_fetch cX7_fetch 3 none, Cond.fieldLink RX7 83 "RegisterMill$RegisterMachine" "memory" "[I", Cond.sameField "RegisterMill$RegisterMachine" "RegisterMill$Machine" "memory" "[I", Cond.methodLink RX7 79 ⟨"RegisterMill$RegisterMachine", "hasCell", "(I)Z"⟩, Cond.sameMethod "RegisterMill$RegisterMachine" "RegisterMill$Machine" "hasCell" "(I)Z", Cond.selects RX7 ⟨"RegisterMill$RegisterMachine", "hasCell", "(I)Z"⟩ yX4_hasCell]
def wsX11_runStack_r6 : List Cond := [Cond.instanceMethod yX4_hasCell, Cond.code yX4_hasCell cX4_hasCell 2 (some .boolean), Cond.methodLink RX7 66 yX7_store, Cond.instanceMethod yX7_store, Cond.selects RX7 yX7_store yX7_store, Cond.code yX7_store cX7_store 3 none, Cond.methodLink RX7 69 ⟨"RegisterMill$RegisterMachine", "enter", "(I)V"⟩, Cond.sameMethod "RegisterMill$RegisterMachine" "RegisterMill$Machine" "enter" "(I)V", Cond.selects RX7 ⟨"RegisterMill$RegisterMachine", "enter", "(I)V"⟩ yX4_enter, Cond.selects RX8 ⟨"RegisterMill$Machine", "step", "(II)V"⟩ yX8_step, Cond.instanceMethod yX8_step, Cond.code yX8_step cX8_step 5 none, Cond.fieldLink RX8 45 "RegisterMill$Program" "ops" "[I", Cond.fieldLink RX8 48 "RegisterMill$Program" "starts" "[I", Cond.fieldLink RX8 51 "RegisterMill$Program" "numbers" "[I", Cond.methodLink RX8 54 yX8_pop, Cond.instanceMethod yX8_pop, Cond.selects RX8 yX8_pop yX8_pop, Cond.code yX8_pop cX8_pop 1 (some .int), Cond.methodLink RX8 57 yX8_flip, Cond.instanceMethod yX8_flip, Cond.selects RX8 yX8_flip yX8_flip, Cond.code yX8_flip cX8_flip 3 none, Cond.methodLink RX8 60 ⟨"RegisterMill$StackMachine", "jump", "(I)V"⟩]
def wsX11_runStack_r7 : List Cond := [Cond.sameMethod "RegisterMill$StackMachine" "RegisterMill$Machine" "jump" "(I)V", Cond.selects RX8 ⟨"RegisterMill$StackMachine", "jump", "(I)V"⟩ yX4_jump, Cond.methodLink RX8 63 ⟨"RegisterMill$StackMachine", "enter", "(I)V"⟩, Cond.sameMethod "RegisterMill$StackMachine" "RegisterMill$Machine" "enter" "(I)V", Cond.selects RX8 ⟨"RegisterMill$StackMachine", "enter", "(I)V"⟩ yX4_enter, Cond.methodLink RX8 66 ⟨"RegisterMill$StackMachine", "leave", "(I)V"⟩, Cond.sameMethod "RegisterMill$StackMachine" "RegisterMill$Machine" "leave" "(I)V", Cond.selects RX8 ⟨"RegisterMill$StackMachine", "leave", "(I)V"⟩ yX4_leave, Cond.methodLink RX8 69 yX8_fetch, Cond.instanceMethod yX8_fetch, Cond.selects RX8 yX8_fetch yX8_fetch, Cond.code yX8_fetch cX8_fetch 2 none, Cond.fieldLink RX8 84 "RegisterMill$StackMachine" "memory" "[I", Cond.sameField "RegisterMill$StackMachine" "RegisterMill$Machine" "memory" "[I", Cond.methodLink RX8 80 ⟨"RegisterMill$StackMachine", "hasCell", "(I)Z"⟩, Cond.sameMethod "RegisterMill$StackMachine" "RegisterMill$Machine" "hasCell" "(I)Z", Cond.selects RX8 ⟨"RegisterMill$StackMachine", "hasCell", "(I)Z"⟩ yX4_hasCell, Cond.methodLink RX8 72 yX8_store, Cond.instanceMethod yX8_store, Cond.selects RX8 yX8_store yX8_store, Cond.code yX8_store cX8_store 3 none, Cond.methodLink RX8 76 yX8_work, Cond.instanceMethod yX8_work, Cond.selects RX8 yX8_work yX8_work]
def wsX11_runStack_r8 : List Cond := [Cond.code yX8_work cX8_work 4 none, Cond.methodLink RX8 87 ⟨"RegisterMill$StackMachine", "canReckon", "(II)Z"⟩, Cond.sameMethod "RegisterMill$StackMachine" "RegisterMill$Machine" "canReckon" "(II)Z", Cond.selects RX8 ⟨"RegisterMill$StackMachine", "canReckon", "(II)Z"⟩ yX4_canReckon, Cond.selects RX8 ⟨"RegisterMill$Machine", "goOn", "(I)I"⟩ yX4_goOn]
def wsX11_runStack : List Cond := .code yX11_runStack cX11_runStack 2 (some .int) :: ((wsX11_runStack_r1 ++ (wsX11_runStack_r2 ++ (wsX11_runStack_r3 ++ (wsX11_runStack_r4 ++ (wsX11_runStack_r5 ++ (wsX11_runStack_r6 ++ (wsX11_runStack_r7 ++ wsX11_runStack_r8))))))) ++ wsX110 ++ wsX60 ++ wsX70 ++ wsX80 ++ wsX10)
def wsX11_runRegisters_r1 : List Cond := [Cond.fieldLink RX11 28 "RegisterMill" "turner" "LRegisterMill$Turner;", Cond.fieldLink RX11 90 "RegisterMill$Turner" "registers" "I", Cond.fieldLink RX11 48 "RegisterMill" "registerMachine" "LRegisterMill$Machine;", Cond.methodLink RX11 156 ⟨"RegisterMill$Machine", "goOn", "(I)I"⟩, Cond.sameMethod "RegisterMill$Machine" "RegisterMill$Machine" "goOn" "(I)I", Cond.selects RX7 ⟨"RegisterMill$Machine", "goOn", "(I)I"⟩ yX4_goOn, Cond.instanceMethod yX4_goOn, Cond.initialized RX4, Cond.code yX4_goOn cX4_goOn 4 (some .int), Cond.fieldLink RX4 21 "RegisterMill$Machine" "end" "I", Cond.fieldLink RX4 34 "RegisterMill$Machine" "nested" "I", Cond.fieldLink RX4 28 "RegisterMill$Machine" "steps" "I", Cond.fieldLink RX4 18 "RegisterMill$Machine" "nexts" "[I", Cond.fieldLink RX4 15 "RegisterMill$Machine" "funcs" "[I", Cond.methodLink RX4 37 ⟨"RegisterMill$Machine", "enter", "(I)V"⟩, Cond.sameMethod "RegisterMill$Machine" "RegisterMill$Machine" "enter" "(I)V", Cond.selects RX7 ⟨"RegisterMill$Machine", "enter", "(I)V"⟩ yX4_enter, Cond.instanceMethod yX4_enter, Cond.code yX4_enter cX4_enter 2 none, Cond.fieldLink RX4 31 "RegisterMill$Machine" "calls" "I", Cond.methodLink RX4 49 ⟨"RegisterMill$Machine", "finish", "(I)V"⟩, Cond.sameMethod "RegisterMill$Machine" "RegisterMill$Machine" "finish" "(I)V", Cond.selects RX7 ⟨"RegisterMill$Machine", "finish", "(I)V"⟩ yX4_finish, Cond.instanceMethod yX4_finish]
def wsX11_runRegisters_r2 : List Cond := [Cond.code yX4_finish cX4_finish 2 none, Cond.selects RX8 ⟨"RegisterMill$Machine", "finish", "(I)V"⟩ yX4_finish, Cond.methodLink RX4 52 ⟨"RegisterMill$Machine", "openRoom", "(II)V"⟩, Cond.sameMethod "RegisterMill$Machine" "RegisterMill$Machine" "openRoom" "(II)V", Cond.selects RX7 ⟨"RegisterMill$Machine", "openRoom", "(II)V"⟩ yX7_openRoom, Cond.instanceMethod yX7_openRoom, Cond.initialized RX7, Cond.code yX7_openRoom cX7_openRoom 6 none, Cond.fieldLink RX7 9 "RegisterMill$RegisterMachine" "registers" "[I", Cond.fieldLink RX7 15 "RegisterMill$RegisterMachine" "slotCells" "[I", Cond.selects RX8 ⟨"RegisterMill$Machine", "openRoom", "(II)V"⟩ yX8_openRoom, Cond.instanceMethod yX8_openRoom, Cond.initialized RX8, Cond.code yX8_openRoom cX8_openRoom 6 none, Cond.fieldLink RX8 21 "RegisterMill$StackMachine" "program" "LRegisterMill$Program;", Cond.fieldLink RX8 32 "RegisterMill$Program" "args" "[I", Cond.fieldLink RX8 28 "RegisterMill$StackMachine" "top" "I", Cond.fieldLink RX8 9 "RegisterMill$StackMachine" "locals" "[I", Cond.fieldLink RX8 15 "RegisterMill$StackMachine" "stack" "[I", Cond.fieldLink RX8 18 "RegisterMill$StackMachine" "bottoms" "[I", Cond.selects RX8 ⟨"RegisterMill$Machine", "enter", "(I)V"⟩ yX4_enter, Cond.methodLink RX4 41 ⟨"RegisterMill$Machine", "room", "()I"⟩, Cond.sameMethod "RegisterMill$Machine" "RegisterMill$Machine" "room" "()I", Cond.selects RX7 ⟨"RegisterMill$Machine", "room", "()I"⟩ yX4_room]
def wsX11_runRegisters_r3 : List Cond := [Cond.instanceMethod yX4_room, Cond.code yX4_room cX4_room 1 (some .int), Cond.selects RX8 ⟨"RegisterMill$Machine", "room", "()I"⟩ yX4_room, Cond.methodLink RX4 45 ⟨"RegisterMill$Machine", "step", "(II)V"⟩, Cond.sameMethod "RegisterMill$Machine" "RegisterMill$Machine" "step" "(II)V", Cond.selects RX7 ⟨"RegisterMill$Machine", "step", "(II)V"⟩ yX7_step, Cond.instanceMethod yX7_step, Cond.code yX7_step cX7_step 6 none, Cond.fieldLink RX7 21 "RegisterMill$RegisterMachine" "code" "LRegisterMill$Code;", Cond.fieldLink RX7 18 "RegisterMill$RegisterMachine" "passed" "[I", Cond.fieldLink RX7 28 "RegisterMill$RegisterMachine" "answered" "I", Cond.methodLink RX7 38 yX1_part, Cond.instanceMethod yX1_part, Cond.selects RX1 yX1_part yX1_part, Cond.initialized RX1, Cond.code yX1_part cX1_part 4 (some .int), Cond.fieldLink RX1 18 "RegisterMill$Code" "parts" "[I", Cond.fieldLink RX1 9 "RegisterMill$Code" "starts" "[I", Cond.methodLink RX7 44 ⟨"RegisterMill$RegisterMachine", "room", "()I"⟩, Cond.sameMethod "RegisterMill$RegisterMachine" "RegisterMill$Machine" "room" "()I", Cond.selects RX7 ⟨"RegisterMill$RegisterMachine", "room", "()I"⟩ yX4_room, Cond.methodLink RX7 48 yX7_work, Cond.instanceMethod yX7_work, Cond.selects RX7 yX7_work yX7_work]
def wsX11_runRegisters_r4 : List Cond := [Cond.code yX7_work cX7_work 7 none, Cond.methodLink RX7 72 ⟨"RegisterMill$RegisterMachine", "canReckon", "(II)Z"⟩, Cond.sameMethod "RegisterMill$RegisterMachine" "RegisterMill$Machine" "canReckon" "(II)Z", Cond.selects RX7 ⟨"RegisterMill$RegisterMachine", "canReckon", "(II)Z"⟩ yX4_canReckon, Cond.instanceMethod yX4_canReckon, Cond.code yX4_canReckon cX4_canReckon 3 (some .boolean), Cond.static yX11_reckon, Cond.initialized RX11, Cond.code yX11_reckon cX11_reckon 3 (some .int), Cond.methodLink RX7 52 yX7_swap, Cond.instanceMethod yX7_swap, Cond.selects RX7 yX7_swap yX7_swap, Cond.code yX7_swap cX7_swap 4 none, Cond.methodLink RX7 56 ⟨"RegisterMill$RegisterMachine", "jump", "(I)V"⟩, Cond.sameMethod "RegisterMill$RegisterMachine" "RegisterMill$Machine" "jump" "(I)V", Cond.selects RX7 ⟨"RegisterMill$RegisterMachine", "jump", "(I)V"⟩ yX4_jump, Cond.instanceMethod yX4_jump, Cond.code yX4_jump cX4_jump 2 none, Cond.methodLink RX7 60 ⟨"RegisterMill$RegisterMachine", "leave", "(I)V"⟩, Cond.sameMethod "RegisterMill$RegisterMachine" "RegisterMill$Machine" "leave" "(I)V", Cond.selects RX7 ⟨"RegisterMill$RegisterMachine", "leave", "(I)V"⟩ yX4_leave, Cond.instanceMethod yX4_leave, Cond.code yX4_leave cX4_leave 2 none, Cond.fieldLink RX4 25 "RegisterMill$Machine" "told" "I"]
def wsX11_runRegisters_r5 : List Cond := [Cond.methodLink RX4 55 ⟨"RegisterMill$Machine", "takeAnswer", "(I)V"⟩, Cond.sameMethod "RegisterMill$Machine" "RegisterMill$Machine" "takeAnswer" "(I)V", Cond.selects RX7 ⟨"RegisterMill$Machine", "takeAnswer", "(I)V"⟩ yX7_takeAnswer, Cond.instanceMethod yX7_takeAnswer, Cond.code yX7_takeAnswer cX7_takeAnswer 2 none, Cond.selects RX8 ⟨"RegisterMill$Machine", "takeAnswer", "(I)V"⟩ yX8_takeAnswer, Cond.instanceMethod yX8_takeAnswer, Cond.code yX8_takeAnswer cX8_takeAnswer 2 none, Cond.methodLink RX8 37 ⟨"RegisterMill$StackMachine", "room", "()I"⟩, Cond.sameMethod "RegisterMill$StackMachine" "RegisterMill$Machine" "room" "()I", Cond.selects RX8 ⟨"RegisterMill$StackMachine", "room", "()I"⟩ yX4_room, Cond.methodLink RX8 41 yX8_push, Cond.instanceMethod yX8_push, Cond.selects RX8 yX8_push yX8_push, Cond.code yX8_push cX8_push 2 none, Cond.methodLink RX7 63 yX7_fetch, Cond.instanceMethod yX7_fetch, Cond.selects RX7 yX7_fetch yX7_fetch, Cond.code yX7_fetch cX7_fetch 3 none, Cond.fieldLink RX7 83 "RegisterMill$RegisterMachine" "memory" "[I", Cond.sameField "RegisterMill$RegisterMachine" "RegisterMill$Machine" "memory" "[I", Cond.methodLink RX7 79 ⟨"RegisterMill$RegisterMachine", "hasCell", "(I)Z"⟩, Cond.sameMethod "RegisterMill$RegisterMachine" "RegisterMill$Machine" "hasCell" "(I)Z", Cond.selects RX7 ⟨"RegisterMill$RegisterMachine", "hasCell", "(I)Z"⟩ yX4_hasCell]
def wsX11_runRegisters_r6 : List Cond := [Cond.instanceMethod yX4_hasCell, Cond.code yX4_hasCell cX4_hasCell 2 (some .boolean), Cond.methodLink RX7 66 yX7_store, Cond.instanceMethod yX7_store, Cond.selects RX7 yX7_store yX7_store, Cond.code yX7_store cX7_store 3 none, Cond.methodLink RX7 69 ⟨"RegisterMill$RegisterMachine", "enter", "(I)V"⟩, Cond.sameMethod "RegisterMill$RegisterMachine" "RegisterMill$Machine" "enter" "(I)V", Cond.selects RX7 ⟨"RegisterMill$RegisterMachine", "enter", "(I)V"⟩ yX4_enter, Cond.selects RX8 ⟨"RegisterMill$Machine", "step", "(II)V"⟩ yX8_step, Cond.instanceMethod yX8_step, Cond.code yX8_step cX8_step 5 none, Cond.fieldLink RX8 45 "RegisterMill$Program" "ops" "[I", Cond.fieldLink RX8 48 "RegisterMill$Program" "starts" "[I", Cond.fieldLink RX8 51 "RegisterMill$Program" "numbers" "[I", Cond.methodLink RX8 54 yX8_pop, Cond.instanceMethod yX8_pop, Cond.selects RX8 yX8_pop yX8_pop, Cond.code yX8_pop cX8_pop 1 (some .int), Cond.methodLink RX8 57 yX8_flip, Cond.instanceMethod yX8_flip, Cond.selects RX8 yX8_flip yX8_flip, Cond.code yX8_flip cX8_flip 3 none, Cond.methodLink RX8 60 ⟨"RegisterMill$StackMachine", "jump", "(I)V"⟩]
def wsX11_runRegisters_r7 : List Cond := [Cond.sameMethod "RegisterMill$StackMachine" "RegisterMill$Machine" "jump" "(I)V", Cond.selects RX8 ⟨"RegisterMill$StackMachine", "jump", "(I)V"⟩ yX4_jump, Cond.methodLink RX8 63 ⟨"RegisterMill$StackMachine", "enter", "(I)V"⟩, Cond.sameMethod "RegisterMill$StackMachine" "RegisterMill$Machine" "enter" "(I)V", Cond.selects RX8 ⟨"RegisterMill$StackMachine", "enter", "(I)V"⟩ yX4_enter, Cond.methodLink RX8 66 ⟨"RegisterMill$StackMachine", "leave", "(I)V"⟩, Cond.sameMethod "RegisterMill$StackMachine" "RegisterMill$Machine" "leave" "(I)V", Cond.selects RX8 ⟨"RegisterMill$StackMachine", "leave", "(I)V"⟩ yX4_leave, Cond.methodLink RX8 69 yX8_fetch, Cond.instanceMethod yX8_fetch, Cond.selects RX8 yX8_fetch yX8_fetch, Cond.code yX8_fetch cX8_fetch 2 none, Cond.fieldLink RX8 84 "RegisterMill$StackMachine" "memory" "[I", Cond.sameField "RegisterMill$StackMachine" "RegisterMill$Machine" "memory" "[I", Cond.methodLink RX8 80 ⟨"RegisterMill$StackMachine", "hasCell", "(I)Z"⟩, Cond.sameMethod "RegisterMill$StackMachine" "RegisterMill$Machine" "hasCell" "(I)Z", Cond.selects RX8 ⟨"RegisterMill$StackMachine", "hasCell", "(I)Z"⟩ yX4_hasCell, Cond.methodLink RX8 72 yX8_store, Cond.instanceMethod yX8_store, Cond.selects RX8 yX8_store yX8_store, Cond.code yX8_store cX8_store 3 none, Cond.methodLink RX8 76 yX8_work, Cond.instanceMethod yX8_work, Cond.selects RX8 yX8_work yX8_work]
def wsX11_runRegisters_r8 : List Cond := [Cond.code yX8_work cX8_work 4 none, Cond.methodLink RX8 87 ⟨"RegisterMill$StackMachine", "canReckon", "(II)Z"⟩, Cond.sameMethod "RegisterMill$StackMachine" "RegisterMill$Machine" "canReckon" "(II)Z", Cond.selects RX8 ⟨"RegisterMill$StackMachine", "canReckon", "(II)Z"⟩ yX4_canReckon, Cond.selects RX8 ⟨"RegisterMill$Machine", "goOn", "(I)I"⟩ yX4_goOn]
def wsX11_runRegisters : List Cond := .code yX11_runRegisters cX11_runRegisters 2 (some .int) :: ((wsX11_runRegisters_r1 ++ (wsX11_runRegisters_r2 ++ (wsX11_runRegisters_r3 ++ (wsX11_runRegisters_r4 ++ (wsX11_runRegisters_r5 ++ (wsX11_runRegisters_r6 ++ (wsX11_runRegisters_r7 ++ wsX11_runRegisters_r8))))))) ++ wsX110 ++ wsX90 ++ wsX70 ++ wsX80 ++ wsX60 ++ wsX10)
def wsX11_machineOf : List Cond := .code yX11_machineOf cX11_machineOf 2 (some (.object "RegisterMill$Machine")) :: ([.fieldLink RX11 35 "RegisterMill" "stackMachine" "LRegisterMill$Machine;", .fieldLink RX11 48 "RegisterMill" "registerMachine" "LRegisterMill$Machine;"] ++ wsX110)
def wsX11_look : List Cond := .code yX11_look cX11_look 3 (some .int) :: ([.methodLink RX11 160 yX11_machineOf, .instanceMethod yX11_machineOf, .selects RX11 yX11_machineOf yX11_machineOf, .initialized RX11, .code yX11_machineOf cX11_machineOf 2 (some (.object "RegisterMill$Machine")), .fieldLink RX11 35 "RegisterMill" "stackMachine" "LRegisterMill$Machine;", .fieldLink RX11 48 "RegisterMill" "registerMachine" "LRegisterMill$Machine;", .methodLink RX11 164 ⟨"RegisterMill$Machine", "tell", "(I)I"⟩, .sameMethod "RegisterMill$Machine" "RegisterMill$Machine" "tell" "(I)I", .selects RX7 ⟨"RegisterMill$Machine", "tell", "(I)I"⟩ yX4_tell, .instanceMethod yX4_tell, .initialized RX4, .code yX4_tell cX4_tell 2 (some .int), .fieldLink RX4 21 "RegisterMill$Machine" "end" "I", .fieldLink RX4 25 "RegisterMill$Machine" "told" "I", .fieldLink RX4 28 "RegisterMill$Machine" "steps" "I", .fieldLink RX4 31 "RegisterMill$Machine" "calls" "I", .fieldLink RX4 34 "RegisterMill$Machine" "nested" "I", .selects RX8 ⟨"RegisterMill$Machine", "tell", "(I)I"⟩ yX4_tell] ++ wsX110 ++ wsX70 ++ wsX80)
def wsX11_peek : List Cond := .code yX11_peek cX11_peek 3 (some .int) :: ([.classLink RX11 125 "java/util/NoSuchElementException", .initialized "java/util/NoSuchElementException", .fieldLink RX11 96 "RegisterMill$Machine" "memory" "[I", .methodLink RX11 160 yX11_machineOf, .instanceMethod yX11_machineOf, .selects RX11 yX11_machineOf yX11_machineOf, .initialized RX11, .code yX11_machineOf cX11_machineOf 2 (some (.object "RegisterMill$Machine")), .fieldLink RX11 35 "RegisterMill" "stackMachine" "LRegisterMill$Machine;", .fieldLink RX11 48 "RegisterMill" "registerMachine" "LRegisterMill$Machine;"] ++ wsX70 ++ wsX80 ++ wsX110 ++ (vx_atS RX11 129 "java/util/NoSuchElementException" ["java/lang/RuntimeException", "java/lang/Exception"]).filter goodWord)
def wsX11_count : List Cond := .code yX11_count cX11_count 2 (some .int) :: ([.fieldLink RX11 12 "RegisterMill" "program" "LRegisterMill$Program;", .fieldLink RX11 55 "RegisterMill$Program" "funcs" "I", .fieldLink RX11 63 "RegisterMill$Program" "words" "I", .fieldLink RX11 51 "RegisterMill$Program" "checked" "Z", .fieldLink RX11 28 "RegisterMill" "turner" "LRegisterMill$Turner;", .fieldLink RX11 90 "RegisterMill$Turner" "registers" "I", .fieldLink RX11 41 "RegisterMill$Turner" "code" "LRegisterMill$Code;", .fieldLink RX11 114 "RegisterMill$Code" "total" "I"] ++ wsX110 ++ wsX60 ++ wsX90 ++ wsX10)
def wsX12_init_r1 : List Cond := [Cond.methodLink RX12 1 objectInit, Cond.instanceMethod objectInit, Cond.code objectInit ⟨#[0xb1]⟩ 1 none, Cond.arrayClass .int, Cond.fieldLink RX12 7 "RegisterMillModel" "args" "[I", Cond.fieldLink RX12 13 "RegisterMillModel" "locals" "[I", Cond.fieldLink RX12 16 "RegisterMillModel" "wordsFrom" "[I", Cond.fieldLink RX12 19 "RegisterMillModel" "words" "[I", Cond.fieldLink RX12 22 "RegisterMillModel" "op" "[I", Cond.fieldLink RX12 25 "RegisterMillModel" "num" "[I", Cond.fieldLink RX12 28 "RegisterMillModel" "depth" "[I", Cond.arrayClass .boolean, Cond.fieldLink RX12 31 "RegisterMillModel" "gone" "[Z", Cond.fieldLink RX12 35 "RegisterMillModel" "does" "[I", Cond.fieldLink RX12 38 "RegisterMillModel" "with" "[I", Cond.fieldLink RX12 41 "RegisterMillModel" "value" "[I", Cond.fieldLink RX12 44 "RegisterMillModel" "told" "[I", Cond.fieldLink RX12 47 "RegisterMillModel" "became" "[I", Cond.fieldLink RX12 50 "RegisterMillModel" "ahead" "[I", Cond.fieldLink RX12 53 "RegisterMillModel" "begins" "[Z", Cond.fieldLink RX12 56 "RegisterMillModel" "copy" "[I", Cond.fieldLink RX12 59 "RegisterMillModel" "live" "[I", Cond.fieldLink RX12 62 "RegisterMillModel" "spanFrom" "[I", Cond.fieldLink RX12 65 "RegisterMillModel" "spanTo" "[I"]
def wsX12_init_r2 : List Cond := [Cond.fieldLink RX12 68 "RegisterMillModel" "register" "[I", Cond.fieldLink RX12 71 "RegisterMillModel" "slot" "[I", Cond.fieldLink RX12 74 "RegisterMillModel" "slots" "[I", Cond.fieldLink RX12 77 "RegisterMillModel" "placesOf" "[I", Cond.fieldLink RX12 80 "RegisterMillModel" "holds" "[Z", Cond.fieldLink RX12 83 "RegisterMillModel" "code" "[I", Cond.fieldLink RX12 86 "RegisterMillModel" "opsFrom" "[I", Cond.fieldLink RX12 89 "RegisterMillModel" "opsOf" "[I", Cond.fieldLink RX12 92 "RegisterMillModel" "first" "[I", Cond.fieldLink RX12 95 "RegisterMillModel" "memory" "[I", Cond.fieldLink RX12 98 "RegisterMillModel" "end" "[I", Cond.fieldLink RX12 101 "RegisterMillModel" "result" "[I", Cond.fieldLink RX12 104 "RegisterMillModel" "steps" "[I", Cond.fieldLink RX12 107 "RegisterMillModel" "made" "[I", Cond.fieldLink RX12 110 "RegisterMillModel" "calls" "[I", Cond.fieldLink RX12 113 "RegisterMillModel" "inFunc" "[I", Cond.fieldLink RX12 116 "RegisterMillModel" "pc" "[I", Cond.fieldLink RX12 119 "RegisterMillModel" "cell" "[I", Cond.fieldLink RX12 122 "RegisterMillModel" "top" "[I", Cond.fieldLink RX12 125 "RegisterMillModel" "inSlot" "[I", Cond.fieldLink RX12 128 "RegisterMillModel" "passed" "[I", Cond.fieldLink RX12 131 "RegisterMillModel" "passing" "[I", Cond.fieldLink RX12 134 "RegisterMillModel" "toldBy" "[I"]
def wsX12_init : List Cond := .code yX12_init cX12_init 1 none :: ((wsX12_init_r1 ++ wsX12_init_r2) ++ wsX120)
def wsX12_thrown : List Cond := .code yX12_thrown cX12_thrown 1 (some .int) :: ([.fieldLink RX12 137 "RegisterMillModel" "thrown" "I"] ++ wsX120)
def wsX12_func : List Cond := .code yX12_func cX12_func 3 (some .int) :: ([.fieldLink RX12 137 "RegisterMillModel" "thrown" "I", .fieldLink RX12 141 "RegisterMillModel" "funcs" "I", .fieldLink RX12 144 "RegisterMillModel" "isChecked" "Z", .fieldLink RX12 7 "RegisterMillModel" "args" "[I", .fieldLink RX12 13 "RegisterMillModel" "locals" "[I", .fieldLink RX12 16 "RegisterMillModel" "wordsFrom" "[I", .fieldLink RX12 148 "RegisterMillModel" "all" "I", .fieldLink RX12 19 "RegisterMillModel" "words" "[I"] ++ wsX120)
def wsX12_word : List Cond := .code yX12_word cX12_word 3 (some .int) :: ([.fieldLink RX12 137 "RegisterMillModel" "thrown" "I", .fieldLink RX12 141 "RegisterMillModel" "funcs" "I", .fieldLink RX12 148 "RegisterMillModel" "all" "I", .fieldLink RX12 144 "RegisterMillModel" "isChecked" "Z", .fieldLink RX12 22 "RegisterMillModel" "op" "[I", .fieldLink RX12 25 "RegisterMillModel" "num" "[I", .fieldLink RX12 19 "RegisterMillModel" "words" "[I"] ++ wsX120)
def wsX12_takes : List Cond := .code yX12_takes cX12_takes 3 (some .int) :: ([.fieldLink RX12 7 "RegisterMillModel" "args" "[I"] ++ wsX120)
def wsX12_behind : List Cond := .code yX12_behind cX12_behind 5 (some .int) :: ([.methodLink RX12 151 yX12_takes, .instanceMethod yX12_takes, .selects RX12 yX12_takes yX12_takes, .initialized RX12, .code yX12_takes cX12_takes 3 (some .int), .fieldLink RX12 7 "RegisterMillModel" "args" "[I"] ++ wsX120)
def wsX12_isTold : List Cond := .code yX12_isTold cX12_isTold 4 (some .boolean) :: ([.fieldLink RX12 13 "RegisterMillModel" "locals" "[I", .fieldLink RX12 19 "RegisterMillModel" "words" "[I", .fieldLink RX12 141 "RegisterMillModel" "funcs" "I"] ++ wsX120)
def wsX12_comes : List Cond := .code yX12_comes cX12_comes 5 (some .int) :: ([.fieldLink RX12 16 "RegisterMillModel" "wordsFrom" "[I", .fieldLink RX12 28 "RegisterMillModel" "depth" "[I"] ++ wsX120)
def wsX12_looksAt_r1 : List Cond := [Cond.fieldLink RX12 22 "RegisterMillModel" "op" "[I", Cond.fieldLink RX12 16 "RegisterMillModel" "wordsFrom" "[I", Cond.fieldLink RX12 25 "RegisterMillModel" "num" "[I", Cond.fieldLink RX12 28 "RegisterMillModel" "depth" "[I", Cond.fieldLink RX12 19 "RegisterMillModel" "words" "[I", Cond.methodLink RX12 165 yX12_isTold, Cond.instanceMethod yX12_isTold, Cond.selects RX12 yX12_isTold yX12_isTold, Cond.initialized RX12, Cond.code yX12_isTold cX12_isTold 4 (some .boolean), Cond.fieldLink RX12 13 "RegisterMillModel" "locals" "[I", Cond.fieldLink RX12 141 "RegisterMillModel" "funcs" "I", Cond.methodLink RX12 151 yX12_takes, Cond.instanceMethod yX12_takes, Cond.selects RX12 yX12_takes yX12_takes, Cond.code yX12_takes cX12_takes 3 (some .int), Cond.fieldLink RX12 7 "RegisterMillModel" "args" "[I", Cond.methodLink RX12 169 yX12_behind, Cond.instanceMethod yX12_behind, Cond.selects RX12 yX12_behind yX12_behind, Cond.code yX12_behind cX12_behind 5 (some .int), Cond.methodLink RX12 173 yX12_comes, Cond.instanceMethod yX12_comes, Cond.selects RX12 yX12_comes yX12_comes]
def wsX12_looksAt_r2 : List Cond := [Cond.code yX12_comes cX12_comes 5 (some .int)]
def wsX12_looksAt : List Cond := .code yX12_looksAt cX12_looksAt 8 (some .int) :: ((wsX12_looksAt_r1 ++ wsX12_looksAt_r2) ++ wsX120)
def wsX12_checks_r1 : List Cond := [Cond.fieldLink RX12 16 "RegisterMillModel" "wordsFrom" "[I", Cond.fieldLink RX12 19 "RegisterMillModel" "words" "[I", Cond.fieldLink RX12 28 "RegisterMillModel" "depth" "[I", Cond.fieldLink RX12 31 "RegisterMillModel" "gone" "[Z", Cond.methodLink RX12 162 yX12_looksAt, Cond.instanceMethod yX12_looksAt, Cond.selects RX12 yX12_looksAt yX12_looksAt, Cond.initialized RX12, Cond.code yX12_looksAt cX12_looksAt 8 (some .int), Cond.fieldLink RX12 22 "RegisterMillModel" "op" "[I", Cond.fieldLink RX12 25 "RegisterMillModel" "num" "[I", Cond.methodLink RX12 165 yX12_isTold, Cond.instanceMethod yX12_isTold, Cond.selects RX12 yX12_isTold yX12_isTold, Cond.code yX12_isTold cX12_isTold 4 (some .boolean), Cond.fieldLink RX12 13 "RegisterMillModel" "locals" "[I", Cond.fieldLink RX12 141 "RegisterMillModel" "funcs" "I", Cond.methodLink RX12 151 yX12_takes, Cond.instanceMethod yX12_takes, Cond.selects RX12 yX12_takes yX12_takes, Cond.code yX12_takes cX12_takes 3 (some .int), Cond.fieldLink RX12 7 "RegisterMillModel" "args" "[I", Cond.methodLink RX12 169 yX12_behind, Cond.instanceMethod yX12_behind]
def wsX12_checks_r2 : List Cond := [Cond.selects RX12 yX12_behind yX12_behind, Cond.code yX12_behind cX12_behind 5 (some .int), Cond.methodLink RX12 173 yX12_comes, Cond.instanceMethod yX12_comes, Cond.selects RX12 yX12_comes yX12_comes, Cond.code yX12_comes cX12_comes 5 (some .int)]
def wsX12_checks : List Cond := .code yX12_checks cX12_checks 5 (some .int) :: ((wsX12_checks_r1 ++ wsX12_checks_r2) ++ wsX120)
def wsX12_begin : List Cond := .code yX12_begin cX12_begin 2 none :: ([.fieldLink RX12 98 "RegisterMillModel" "end" "[I", .fieldLink RX12 101 "RegisterMillModel" "result" "[I", .fieldLink RX12 104 "RegisterMillModel" "steps" "[I", .fieldLink RX12 107 "RegisterMillModel" "made" "[I", .fieldLink RX12 110 "RegisterMillModel" "calls" "[I", .fieldLink RX12 134 "RegisterMillModel" "toldBy" "[I", .fieldLink RX12 131 "RegisterMillModel" "passing" "[I"] ++ wsX120)
def wsX12_check_r1 : List Cond := [Cond.fieldLink RX12 137 "RegisterMillModel" "thrown" "I", Cond.fieldLink RX12 144 "RegisterMillModel" "isChecked" "Z", Cond.fieldLink RX12 141 "RegisterMillModel" "funcs" "I", Cond.fieldLink RX12 19 "RegisterMillModel" "words" "[I", Cond.methodLink RX12 155 yX12_checks, Cond.instanceMethod yX12_checks, Cond.selects RX12 yX12_checks yX12_checks, Cond.initialized RX12, Cond.code yX12_checks cX12_checks 5 (some .int), Cond.fieldLink RX12 16 "RegisterMillModel" "wordsFrom" "[I", Cond.fieldLink RX12 28 "RegisterMillModel" "depth" "[I", Cond.fieldLink RX12 31 "RegisterMillModel" "gone" "[Z", Cond.methodLink RX12 162 yX12_looksAt, Cond.instanceMethod yX12_looksAt, Cond.selects RX12 yX12_looksAt yX12_looksAt, Cond.code yX12_looksAt cX12_looksAt 8 (some .int), Cond.fieldLink RX12 22 "RegisterMillModel" "op" "[I", Cond.fieldLink RX12 25 "RegisterMillModel" "num" "[I", Cond.methodLink RX12 165 yX12_isTold, Cond.instanceMethod yX12_isTold, Cond.selects RX12 yX12_isTold yX12_isTold, Cond.code yX12_isTold cX12_isTold 4 (some .boolean), Cond.fieldLink RX12 13 "RegisterMillModel" "locals" "[I", Cond.methodLink RX12 151 yX12_takes]
def wsX12_check_r2 : List Cond := [Cond.instanceMethod yX12_takes, Cond.selects RX12 yX12_takes yX12_takes, Cond.code yX12_takes cX12_takes 3 (some .int), Cond.fieldLink RX12 7 "RegisterMillModel" "args" "[I", Cond.methodLink RX12 169 yX12_behind, Cond.instanceMethod yX12_behind, Cond.selects RX12 yX12_behind yX12_behind, Cond.code yX12_behind cX12_behind 5 (some .int), Cond.methodLink RX12 173 yX12_comes, Cond.instanceMethod yX12_comes, Cond.selects RX12 yX12_comes yX12_comes, Cond.code yX12_comes cX12_comes 5 (some .int), Cond.methodLink RX12 159 yX12_begin, Cond.instanceMethod yX12_begin, Cond.selects RX12 yX12_begin yX12_begin, Cond.code yX12_begin cX12_begin 2 none, Cond.fieldLink RX12 98 "RegisterMillModel" "end" "[I", Cond.fieldLink RX12 101 "RegisterMillModel" "result" "[I", Cond.fieldLink RX12 104 "RegisterMillModel" "steps" "[I", Cond.fieldLink RX12 107 "RegisterMillModel" "made" "[I", Cond.fieldLink RX12 110 "RegisterMillModel" "calls" "[I", Cond.fieldLink RX12 134 "RegisterMillModel" "toldBy" "[I", Cond.fieldLink RX12 131 "RegisterMillModel" "passing" "[I"]
def wsX12_check : List Cond := .code yX12_check cX12_check 3 (some .int) :: ((wsX12_check_r1 ++ wsX12_check_r2) ++ wsX120)
def wsX12_depth : List Cond := .code yX12_depth cX12_depth 3 (some .int) :: ([.fieldLink RX12 137 "RegisterMillModel" "thrown" "I", .fieldLink RX12 144 "RegisterMillModel" "isChecked" "Z", .fieldLink RX12 141 "RegisterMillModel" "funcs" "I", .fieldLink RX12 19 "RegisterMillModel" "words" "[I", .fieldLink RX12 28 "RegisterMillModel" "depth" "[I", .fieldLink RX12 16 "RegisterMillModel" "wordsFrom" "[I"] ++ wsX120)
def wsX12_place : List Cond := .code yX12_place cX12_place 3 none :: ([.fieldLink RX12 35 "RegisterMillModel" "does" "[I", .fieldLink RX12 176 "RegisterMillModel" "places" "I", .fieldLink RX12 38 "RegisterMillModel" "with" "[I", .fieldLink RX12 44 "RegisterMillModel" "told" "[I"] ++ wsX120)
def wsX12_tells : List Cond := .code yX12_tells cX12_tells 2 none :: ([.fieldLink RX12 41 "RegisterMillModel" "value" "[I", .fieldLink RX12 176 "RegisterMillModel" "places" "I", .fieldLink RX12 44 "RegisterMillModel" "told" "[I"] ++ wsX120)
def wsX12_writes : List Cond := .code yX12_writes cX12_writes 1 (some .boolean) :: ([])
def wsX12_isJump : List Cond := .code yX12_isJump cX12_isJump 1 (some .boolean) :: ([])
def wsX12_lay : List Cond := .code yX12_lay cX12_lay 6 none :: ([.fieldLink RX12 7 "RegisterMillModel" "args" "[I", .methodLink RX12 187 yX12_place, .instanceMethod yX12_place, .selects RX12 yX12_place yX12_place, .initialized RX12, .code yX12_place cX12_place 3 none, .fieldLink RX12 35 "RegisterMillModel" "does" "[I", .fieldLink RX12 176 "RegisterMillModel" "places" "I", .fieldLink RX12 38 "RegisterMillModel" "with" "[I", .fieldLink RX12 44 "RegisterMillModel" "told" "[I", .methodLink RX12 191 yX12_tells, .instanceMethod yX12_tells, .selects RX12 yX12_tells yX12_tells, .code yX12_tells cX12_tells 2 none, .fieldLink RX12 41 "RegisterMillModel" "value" "[I"] ++ wsX120)
def wsX12_lays_r1 : List Cond := [Cond.fieldLink RX12 176 "RegisterMillModel" "places" "I", Cond.fieldLink RX12 16 "RegisterMillModel" "wordsFrom" "[I", Cond.fieldLink RX12 19 "RegisterMillModel" "words" "[I", Cond.fieldLink RX12 47 "RegisterMillModel" "became" "[I", Cond.fieldLink RX12 28 "RegisterMillModel" "depth" "[I", Cond.fieldLink RX12 22 "RegisterMillModel" "op" "[I", Cond.fieldLink RX12 25 "RegisterMillModel" "num" "[I", Cond.fieldLink RX12 13 "RegisterMillModel" "locals" "[I", Cond.fieldLink RX12 35 "RegisterMillModel" "does" "[I", Cond.fieldLink RX12 38 "RegisterMillModel" "with" "[I", Cond.methodLink RX12 179 yX12_lay, Cond.instanceMethod yX12_lay, Cond.selects RX12 yX12_lay yX12_lay, Cond.initialized RX12, Cond.code yX12_lay cX12_lay 6 none, Cond.fieldLink RX12 7 "RegisterMillModel" "args" "[I", Cond.methodLink RX12 187 yX12_place, Cond.instanceMethod yX12_place, Cond.selects RX12 yX12_place yX12_place, Cond.code yX12_place cX12_place 3 none, Cond.fieldLink RX12 44 "RegisterMillModel" "told" "[I", Cond.methodLink RX12 191 yX12_tells, Cond.instanceMethod yX12_tells, Cond.selects RX12 yX12_tells yX12_tells]
def wsX12_lays_r2 : List Cond := [Cond.code yX12_tells cX12_tells 2 none, Cond.fieldLink RX12 41 "RegisterMillModel" "value" "[I", Cond.methodLink RX12 183 yX12_isJump, Cond.static yX12_isJump, Cond.code yX12_isJump cX12_isJump 1 (some .boolean)]
def wsX12_lays : List Cond := .code yX12_lays cX12_lays 4 none :: ((wsX12_lays_r1 ++ wsX12_lays_r2) ++ wsX120)
def wsX12_forgets : List Cond := .code yX12_forgets cX12_forgets 3 none :: ([.fieldLink RX12 56 "RegisterMillModel" "copy" "[I"] ++ wsX120)
def wsX12_forward : List Cond := .code yX12_forward cX12_forward 5 none :: ([.fieldLink RX12 35 "RegisterMillModel" "does" "[I", .fieldLink RX12 44 "RegisterMillModel" "told" "[I", .fieldLink RX12 41 "RegisterMillModel" "value" "[I", .fieldLink RX12 56 "RegisterMillModel" "copy" "[I", .methodLink RX12 198 yX12_writes, .static yX12_writes, .initialized RX12, .code yX12_writes cX12_writes 1 (some .boolean), .methodLink RX12 201 yX12_forgets, .instanceMethod yX12_forgets, .selects RX12 yX12_forgets yX12_forgets, .code yX12_forgets cX12_forgets 3 none] ++ wsX120)
def wsX12_forwards : List Cond := .code yX12_forwards cX12_forwards 3 none :: ([.fieldLink RX12 176 "RegisterMillModel" "places" "I", .fieldLink RX12 53 "RegisterMillModel" "begins" "[Z", .fieldLink RX12 35 "RegisterMillModel" "does" "[I", .fieldLink RX12 38 "RegisterMillModel" "with" "[I", .fieldLink RX12 56 "RegisterMillModel" "copy" "[I", .methodLink RX12 183 yX12_isJump, .static yX12_isJump, .initialized RX12, .code yX12_isJump cX12_isJump 1 (some .boolean), .methodLink RX12 195 yX12_forward, .instanceMethod yX12_forward, .selects RX12 yX12_forward yX12_forward, .code yX12_forward cX12_forward 5 none, .fieldLink RX12 44 "RegisterMillModel" "told" "[I", .fieldLink RX12 41 "RegisterMillModel" "value" "[I", .methodLink RX12 198 yX12_writes, .static yX12_writes, .code yX12_writes cX12_writes 1 (some .boolean), .methodLink RX12 201 yX12_forgets, .instanceMethod yX12_forgets, .selects RX12 yX12_forgets yX12_forgets, .code yX12_forgets cX12_forgets 3 none] ++ wsX120)
def wsX12_liveBehind : List Cond := .code yX12_liveBehind cX12_liveBehind 4 (some .int) :: ([.fieldLink RX12 35 "RegisterMillModel" "does" "[I", .fieldLink RX12 59 "RegisterMillModel" "live" "[I", .fieldLink RX12 38 "RegisterMillModel" "with" "[I", .methodLink RX12 183 yX12_isJump, .static yX12_isJump, .initialized RX12, .code yX12_isJump cX12_isJump 1 (some .boolean)] ++ wsX120)
def wsX12_liveAhead : List Cond := .code yX12_liveAhead cX12_liveAhead 5 (some .int) :: ([.fieldLink RX12 35 "RegisterMillModel" "does" "[I", .fieldLink RX12 41 "RegisterMillModel" "value" "[I", .fieldLink RX12 44 "RegisterMillModel" "told" "[I", .methodLink RX12 204 yX12_liveBehind, .instanceMethod yX12_liveBehind, .selects RX12 yX12_liveBehind yX12_liveBehind, .initialized RX12, .code yX12_liveBehind cX12_liveBehind 4 (some .int), .fieldLink RX12 59 "RegisterMillModel" "live" "[I", .fieldLink RX12 38 "RegisterMillModel" "with" "[I", .methodLink RX12 183 yX12_isJump, .static yX12_isJump, .code yX12_isJump cX12_isJump 1 (some .boolean), .methodLink RX12 198 yX12_writes, .static yX12_writes, .code yX12_writes cX12_writes 1 (some .boolean)] ++ wsX120)
def wsX12_lives : List Cond := .code yX12_lives cX12_lives 4 none :: ([.fieldLink RX12 176 "RegisterMillModel" "places" "I", .fieldLink RX12 59 "RegisterMillModel" "live" "[I", .methodLink RX12 207 yX12_liveAhead, .instanceMethod yX12_liveAhead, .selects RX12 yX12_liveAhead yX12_liveAhead, .initialized RX12, .code yX12_liveAhead cX12_liveAhead 5 (some .int), .fieldLink RX12 35 "RegisterMillModel" "does" "[I", .fieldLink RX12 41 "RegisterMillModel" "value" "[I", .fieldLink RX12 44 "RegisterMillModel" "told" "[I", .methodLink RX12 204 yX12_liveBehind, .instanceMethod yX12_liveBehind, .selects RX12 yX12_liveBehind yX12_liveBehind, .code yX12_liveBehind cX12_liveBehind 4 (some .int), .fieldLink RX12 38 "RegisterMillModel" "with" "[I", .methodLink RX12 183 yX12_isJump, .static yX12_isJump, .code yX12_isJump cX12_isJump 1 (some .boolean), .methodLink RX12 198 yX12_writes, .static yX12_writes, .code yX12_writes cX12_writes 1 (some .boolean)] ++ wsX120)
def wsX12_isLeftOut : List Cond := .code yX12_isLeftOut cX12_isLeftOut 3 (some .boolean) :: ([.fieldLink RX12 35 "RegisterMillModel" "does" "[I", .fieldLink RX12 41 "RegisterMillModel" "value" "[I", .methodLink RX12 204 yX12_liveBehind, .instanceMethod yX12_liveBehind, .selects RX12 yX12_liveBehind yX12_liveBehind, .initialized RX12, .code yX12_liveBehind cX12_liveBehind 4 (some .int), .fieldLink RX12 59 "RegisterMillModel" "live" "[I", .fieldLink RX12 38 "RegisterMillModel" "with" "[I", .methodLink RX12 183 yX12_isJump, .static yX12_isJump, .code yX12_isJump cX12_isJump 1 (some .boolean)] ++ wsX120)
def wsX12_closesUp : List Cond := .code yX12_closesUp cX12_closesUp 5 none :: ([.fieldLink RX12 176 "RegisterMillModel" "places" "I", .fieldLink RX12 50 "RegisterMillModel" "ahead" "[I", .fieldLink RX12 35 "RegisterMillModel" "does" "[I", .fieldLink RX12 38 "RegisterMillModel" "with" "[I", .fieldLink RX12 44 "RegisterMillModel" "told" "[I", .fieldLink RX12 41 "RegisterMillModel" "value" "[I", .methodLink RX12 183 yX12_isJump, .static yX12_isJump, .initialized RX12, .code yX12_isJump cX12_isJump 1 (some .boolean)] ++ wsX120)
def wsX12_leavesOut_r1 : List Cond := [Cond.fieldLink RX12 176 "RegisterMillModel" "places" "I", Cond.fieldLink RX12 50 "RegisterMillModel" "ahead" "[I", Cond.methodLink RX12 210 yX12_lives, Cond.instanceMethod yX12_lives, Cond.selects RX12 yX12_lives yX12_lives, Cond.initialized RX12, Cond.code yX12_lives cX12_lives 4 none, Cond.fieldLink RX12 59 "RegisterMillModel" "live" "[I", Cond.methodLink RX12 207 yX12_liveAhead, Cond.instanceMethod yX12_liveAhead, Cond.selects RX12 yX12_liveAhead yX12_liveAhead, Cond.code yX12_liveAhead cX12_liveAhead 5 (some .int), Cond.fieldLink RX12 35 "RegisterMillModel" "does" "[I", Cond.fieldLink RX12 41 "RegisterMillModel" "value" "[I", Cond.fieldLink RX12 44 "RegisterMillModel" "told" "[I", Cond.methodLink RX12 204 yX12_liveBehind, Cond.instanceMethod yX12_liveBehind, Cond.selects RX12 yX12_liveBehind yX12_liveBehind, Cond.code yX12_liveBehind cX12_liveBehind 4 (some .int), Cond.fieldLink RX12 38 "RegisterMillModel" "with" "[I", Cond.methodLink RX12 183 yX12_isJump, Cond.static yX12_isJump, Cond.code yX12_isJump cX12_isJump 1 (some .boolean), Cond.methodLink RX12 198 yX12_writes]
def wsX12_leavesOut_r2 : List Cond := [Cond.static yX12_writes, Cond.code yX12_writes cX12_writes 1 (some .boolean), Cond.methodLink RX12 213 yX12_isLeftOut, Cond.instanceMethod yX12_isLeftOut, Cond.selects RX12 yX12_isLeftOut yX12_isLeftOut, Cond.code yX12_isLeftOut cX12_isLeftOut 3 (some .boolean), Cond.methodLink RX12 216 yX12_closesUp, Cond.instanceMethod yX12_closesUp, Cond.selects RX12 yX12_closesUp yX12_closesUp, Cond.code yX12_closesUp cX12_closesUp 5 none]
def wsX12_leavesOut : List Cond := .code yX12_leavesOut cX12_leavesOut 4 none :: ((wsX12_leavesOut_r1 ++ wsX12_leavesOut_r2) ++ wsX120)
def wsX12_scans : List Cond := .code yX12_scans cX12_scans 9 none :: ([.fieldLink RX12 62 "RegisterMillModel" "spanFrom" "[I", .fieldLink RX12 80 "RegisterMillModel" "holds" "[Z", .fieldLink RX12 65 "RegisterMillModel" "spanTo" "[I", .fieldLink RX12 68 "RegisterMillModel" "register" "[I", .fieldLink RX12 222 "RegisterMillModel" "\x72" "I", .fieldLink RX12 71 "RegisterMillModel" "slot" "[I", .fieldLink RX12 74 "RegisterMillModel" "slots" "[I"] ++ wsX120)
def wsX12_spans : List Cond := .code yX12_spans cX12_spans 5 none :: ([.fieldLink RX12 62 "RegisterMillModel" "spanFrom" "[I", .fieldLink RX12 65 "RegisterMillModel" "spanTo" "[I", .fieldLink RX12 68 "RegisterMillModel" "register" "[I", .fieldLink RX12 71 "RegisterMillModel" "slot" "[I", .fieldLink RX12 80 "RegisterMillModel" "holds" "[Z", .fieldLink RX12 176 "RegisterMillModel" "places" "I", .fieldLink RX12 59 "RegisterMillModel" "live" "[I", .fieldLink RX12 44 "RegisterMillModel" "told" "[I", .fieldLink RX12 41 "RegisterMillModel" "value" "[I", .fieldLink RX12 74 "RegisterMillModel" "slots" "[I", .methodLink RX12 219 yX12_scans, .instanceMethod yX12_scans, .selects RX12 yX12_scans yX12_scans, .initialized RX12, .code yX12_scans cX12_scans 9 none, .fieldLink RX12 222 "RegisterMillModel" "\x72" "I"] ++ wsX120)
def wsX12_emit : List Cond := .code yX12_emit cX12_emit 6 none :: ([.fieldLink RX12 225 "RegisterMillModel" "ops" "I", .fieldLink RX12 228 "RegisterMillModel" "isTooMuch" "Z", .fieldLink RX12 83 "RegisterMillModel" "code" "[I"] ++ wsX120)
def wsX12_registerOf : List Cond := .code yX12_registerOf cX12_registerOf 2 (some .int) :: ([.fieldLink RX12 68 "RegisterMillModel" "register" "[I", .fieldLink RX12 231 "RegisterMillModel" "now" "I"] ++ wsX120)
def wsX12_slotOf : List Cond := .code yX12_slotOf cX12_slotOf 2 (some .int) :: ([.fieldLink RX12 71 "RegisterMillModel" "slot" "[I", .fieldLink RX12 231 "RegisterMillModel" "now" "I"] ++ wsX120)
def wsX12_read : List Cond := .code yX12_read cX12_read 3 (some .int) :: ([.methodLink RX12 234 yX12_slotOf, .instanceMethod yX12_slotOf, .selects RX12 yX12_slotOf yX12_slotOf, .initialized RX12, .code yX12_slotOf cX12_slotOf 2 (some .int), .fieldLink RX12 71 "RegisterMillModel" "slot" "[I", .fieldLink RX12 231 "RegisterMillModel" "now" "I", .methodLink RX12 237 yX12_registerOf, .instanceMethod yX12_registerOf, .selects RX12 yX12_registerOf yX12_registerOf, .code yX12_registerOf cX12_registerOf 2 (some .int), .fieldLink RX12 68 "RegisterMillModel" "register" "[I", .methodLink RX12 240 yX12_emit, .instanceMethod yX12_emit, .selects RX12 yX12_emit yX12_emit, .code yX12_emit cX12_emit 6 none, .fieldLink RX12 225 "RegisterMillModel" "ops" "I", .fieldLink RX12 228 "RegisterMillModel" "isTooMuch" "Z", .fieldLink RX12 83 "RegisterMillModel" "code" "[I"] ++ wsX120)
def wsX12_written : List Cond := .code yX12_written cX12_written 2 (some .int) :: ([.fieldLink RX12 222 "RegisterMillModel" "\x72" "I", .methodLink RX12 234 yX12_slotOf, .instanceMethod yX12_slotOf, .selects RX12 yX12_slotOf yX12_slotOf, .initialized RX12, .code yX12_slotOf cX12_slotOf 2 (some .int), .fieldLink RX12 71 "RegisterMillModel" "slot" "[I", .fieldLink RX12 231 "RegisterMillModel" "now" "I", .methodLink RX12 237 yX12_registerOf, .instanceMethod yX12_registerOf, .selects RX12 yX12_registerOf yX12_registerOf, .code yX12_registerOf cX12_registerOf 2 (some .int), .fieldLink RX12 68 "RegisterMillModel" "register" "[I"] ++ wsX120)
def wsX12_saved : List Cond := .code yX12_saved cX12_saved 2 none :: ([.fieldLink RX12 222 "RegisterMillModel" "\x72" "I", .methodLink RX12 234 yX12_slotOf, .instanceMethod yX12_slotOf, .selects RX12 yX12_slotOf yX12_slotOf, .initialized RX12, .code yX12_slotOf cX12_slotOf 2 (some .int), .fieldLink RX12 71 "RegisterMillModel" "slot" "[I", .fieldLink RX12 231 "RegisterMillModel" "now" "I", .methodLink RX12 240 yX12_emit, .instanceMethod yX12_emit, .selects RX12 yX12_emit yX12_emit, .code yX12_emit cX12_emit 6 none, .fieldLink RX12 225 "RegisterMillModel" "ops" "I", .fieldLink RX12 228 "RegisterMillModel" "isTooMuch" "Z", .fieldLink RX12 83 "RegisterMillModel" "code" "[I"] ++ wsX120)
def wsX12_moves : List Cond := .code yX12_moves cX12_moves 3 none :: ([.fieldLink RX12 222 "RegisterMillModel" "\x72" "I", .methodLink RX12 234 yX12_slotOf, .instanceMethod yX12_slotOf, .selects RX12 yX12_slotOf yX12_slotOf, .initialized RX12, .code yX12_slotOf cX12_slotOf 2 (some .int), .fieldLink RX12 71 "RegisterMillModel" "slot" "[I", .fieldLink RX12 231 "RegisterMillModel" "now" "I", .methodLink RX12 237 yX12_registerOf, .instanceMethod yX12_registerOf, .selects RX12 yX12_registerOf yX12_registerOf, .code yX12_registerOf cX12_registerOf 2 (some .int), .fieldLink RX12 68 "RegisterMillModel" "register" "[I", .methodLink RX12 240 yX12_emit, .instanceMethod yX12_emit, .selects RX12 yX12_emit yX12_emit, .code yX12_emit cX12_emit 6 none, .fieldLink RX12 225 "RegisterMillModel" "ops" "I", .fieldLink RX12 228 "RegisterMillModel" "isTooMuch" "Z", .fieldLink RX12 83 "RegisterMillModel" "code" "[I"] ++ wsX120)
def wsX12_into : List Cond := .code yX12_into cX12_into 3 none :: ([.methodLink RX12 234 yX12_slotOf, .instanceMethod yX12_slotOf, .selects RX12 yX12_slotOf yX12_slotOf, .initialized RX12, .code yX12_slotOf cX12_slotOf 2 (some .int), .fieldLink RX12 71 "RegisterMillModel" "slot" "[I", .fieldLink RX12 231 "RegisterMillModel" "now" "I", .methodLink RX12 237 yX12_registerOf, .instanceMethod yX12_registerOf, .selects RX12 yX12_registerOf yX12_registerOf, .code yX12_registerOf cX12_registerOf 2 (some .int), .fieldLink RX12 68 "RegisterMillModel" "register" "[I", .methodLink RX12 240 yX12_emit, .instanceMethod yX12_emit, .selects RX12 yX12_emit yX12_emit, .code yX12_emit cX12_emit 6 none, .fieldLink RX12 225 "RegisterMillModel" "ops" "I", .fieldLink RX12 228 "RegisterMillModel" "isTooMuch" "Z", .fieldLink RX12 83 "RegisterMillModel" "code" "[I"] ++ wsX120)
def wsX12_outOf : List Cond := .code yX12_outOf cX12_outOf 3 none :: ([.methodLink RX12 234 yX12_slotOf, .instanceMethod yX12_slotOf, .selects RX12 yX12_slotOf yX12_slotOf, .initialized RX12, .code yX12_slotOf cX12_slotOf 2 (some .int), .fieldLink RX12 71 "RegisterMillModel" "slot" "[I", .fieldLink RX12 231 "RegisterMillModel" "now" "I", .methodLink RX12 237 yX12_registerOf, .instanceMethod yX12_registerOf, .selects RX12 yX12_registerOf yX12_registerOf, .code yX12_registerOf cX12_registerOf 2 (some .int), .fieldLink RX12 68 "RegisterMillModel" "register" "[I", .methodLink RX12 240 yX12_emit, .instanceMethod yX12_emit, .selects RX12 yX12_emit yX12_emit, .code yX12_emit cX12_emit 6 none, .fieldLink RX12 225 "RegisterMillModel" "ops" "I", .fieldLink RX12 228 "RegisterMillModel" "isTooMuch" "Z", .fieldLink RX12 83 "RegisterMillModel" "code" "[I"] ++ wsX120)
def wsX12_swaps_r1 : List Cond := [Cond.methodLink RX12 234 yX12_slotOf, Cond.instanceMethod yX12_slotOf, Cond.selects RX12 yX12_slotOf yX12_slotOf, Cond.initialized RX12, Cond.code yX12_slotOf cX12_slotOf 2 (some .int), Cond.fieldLink RX12 71 "RegisterMillModel" "slot" "[I", Cond.fieldLink RX12 231 "RegisterMillModel" "now" "I", Cond.methodLink RX12 237 yX12_registerOf, Cond.instanceMethod yX12_registerOf, Cond.selects RX12 yX12_registerOf yX12_registerOf, Cond.code yX12_registerOf cX12_registerOf 2 (some .int), Cond.fieldLink RX12 68 "RegisterMillModel" "register" "[I", Cond.methodLink RX12 240 yX12_emit, Cond.instanceMethod yX12_emit, Cond.selects RX12 yX12_emit yX12_emit, Cond.code yX12_emit cX12_emit 6 none, Cond.fieldLink RX12 225 "RegisterMillModel" "ops" "I", Cond.fieldLink RX12 228 "RegisterMillModel" "isTooMuch" "Z", Cond.fieldLink RX12 83 "RegisterMillModel" "code" "[I", Cond.methodLink RX12 262 yX12_into, Cond.instanceMethod yX12_into, Cond.selects RX12 yX12_into yX12_into, Cond.code yX12_into cX12_into 3 none, Cond.methodLink RX12 265 yX12_outOf]
def wsX12_swaps_r2 : List Cond := [Cond.instanceMethod yX12_outOf, Cond.selects RX12 yX12_outOf yX12_outOf, Cond.code yX12_outOf cX12_outOf 3 none]
def wsX12_swaps : List Cond := .code yX12_swaps cX12_swaps 5 none :: ((wsX12_swaps_r1 ++ wsX12_swaps_r2) ++ wsX120)
def wsX12_codePlace_r1 : List Cond := [Cond.fieldLink RX12 222 "RegisterMillModel" "\x72" "I", Cond.fieldLink RX12 41 "RegisterMillModel" "value" "[I", Cond.fieldLink RX12 35 "RegisterMillModel" "does" "[I", Cond.fieldLink RX12 38 "RegisterMillModel" "with" "[I", Cond.fieldLink RX12 44 "RegisterMillModel" "told" "[I", Cond.methodLink RX12 244 yX12_written, Cond.instanceMethod yX12_written, Cond.selects RX12 yX12_written yX12_written, Cond.initialized RX12, Cond.code yX12_written cX12_written 2 (some .int), Cond.methodLink RX12 234 yX12_slotOf, Cond.instanceMethod yX12_slotOf, Cond.selects RX12 yX12_slotOf yX12_slotOf, Cond.code yX12_slotOf cX12_slotOf 2 (some .int), Cond.fieldLink RX12 71 "RegisterMillModel" "slot" "[I", Cond.fieldLink RX12 231 "RegisterMillModel" "now" "I", Cond.methodLink RX12 237 yX12_registerOf, Cond.instanceMethod yX12_registerOf, Cond.selects RX12 yX12_registerOf yX12_registerOf, Cond.code yX12_registerOf cX12_registerOf 2 (some .int), Cond.fieldLink RX12 68 "RegisterMillModel" "register" "[I", Cond.methodLink RX12 240 yX12_emit, Cond.instanceMethod yX12_emit, Cond.selects RX12 yX12_emit yX12_emit]
def wsX12_codePlace_r2 : List Cond := [Cond.code yX12_emit cX12_emit 6 none, Cond.fieldLink RX12 225 "RegisterMillModel" "ops" "I", Cond.fieldLink RX12 228 "RegisterMillModel" "isTooMuch" "Z", Cond.fieldLink RX12 83 "RegisterMillModel" "code" "[I", Cond.methodLink RX12 247 yX12_saved, Cond.instanceMethod yX12_saved, Cond.selects RX12 yX12_saved yX12_saved, Cond.code yX12_saved cX12_saved 2 none, Cond.methodLink RX12 253 yX12_moves, Cond.instanceMethod yX12_moves, Cond.selects RX12 yX12_moves yX12_moves, Cond.code yX12_moves cX12_moves 3 none, Cond.methodLink RX12 256 yX12_read, Cond.instanceMethod yX12_read, Cond.selects RX12 yX12_read yX12_read, Cond.code yX12_read cX12_read 3 (some .int), Cond.methodLink RX12 259 yX12_swaps, Cond.instanceMethod yX12_swaps, Cond.selects RX12 yX12_swaps yX12_swaps, Cond.code yX12_swaps cX12_swaps 5 none, Cond.methodLink RX12 262 yX12_into, Cond.instanceMethod yX12_into, Cond.selects RX12 yX12_into yX12_into, Cond.code yX12_into cX12_into 3 none]
def wsX12_codePlace_r3 : List Cond := [Cond.methodLink RX12 265 yX12_outOf, Cond.instanceMethod yX12_outOf, Cond.selects RX12 yX12_outOf yX12_outOf, Cond.code yX12_outOf cX12_outOf 3 none]
def wsX12_codePlace : List Cond := .code yX12_codePlace cX12_codePlace 10 none :: ((wsX12_codePlace_r1 ++ (wsX12_codePlace_r2 ++ wsX12_codePlace_r3)) ++ wsX120)
def wsX12_codes_r1 : List Cond := [Cond.fieldLink RX12 231 "RegisterMillModel" "now" "I", Cond.fieldLink RX12 86 "RegisterMillModel" "opsFrom" "[I", Cond.fieldLink RX12 225 "RegisterMillModel" "ops" "I", Cond.fieldLink RX12 13 "RegisterMillModel" "locals" "[I", Cond.fieldLink RX12 176 "RegisterMillModel" "places" "I", Cond.fieldLink RX12 59 "RegisterMillModel" "live" "[I", Cond.fieldLink RX12 7 "RegisterMillModel" "args" "[I", Cond.fieldLink RX12 92 "RegisterMillModel" "first" "[I", Cond.fieldLink RX12 89 "RegisterMillModel" "opsOf" "[I", Cond.fieldLink RX12 83 "RegisterMillModel" "code" "[I", Cond.methodLink RX12 244 yX12_written, Cond.instanceMethod yX12_written, Cond.selects RX12 yX12_written yX12_written, Cond.initialized RX12, Cond.code yX12_written cX12_written 2 (some .int), Cond.fieldLink RX12 222 "RegisterMillModel" "\x72" "I", Cond.methodLink RX12 234 yX12_slotOf, Cond.instanceMethod yX12_slotOf, Cond.selects RX12 yX12_slotOf yX12_slotOf, Cond.code yX12_slotOf cX12_slotOf 2 (some .int), Cond.fieldLink RX12 71 "RegisterMillModel" "slot" "[I", Cond.methodLink RX12 237 yX12_registerOf, Cond.instanceMethod yX12_registerOf, Cond.selects RX12 yX12_registerOf yX12_registerOf]
def wsX12_codes_r2 : List Cond := [Cond.code yX12_registerOf cX12_registerOf 2 (some .int), Cond.fieldLink RX12 68 "RegisterMillModel" "register" "[I", Cond.methodLink RX12 240 yX12_emit, Cond.instanceMethod yX12_emit, Cond.selects RX12 yX12_emit yX12_emit, Cond.code yX12_emit cX12_emit 6 none, Cond.fieldLink RX12 228 "RegisterMillModel" "isTooMuch" "Z", Cond.methodLink RX12 247 yX12_saved, Cond.instanceMethod yX12_saved, Cond.selects RX12 yX12_saved yX12_saved, Cond.code yX12_saved cX12_saved 2 none, Cond.methodLink RX12 250 yX12_codePlace, Cond.instanceMethod yX12_codePlace, Cond.selects RX12 yX12_codePlace yX12_codePlace, Cond.code yX12_codePlace cX12_codePlace 10 none, Cond.fieldLink RX12 41 "RegisterMillModel" "value" "[I", Cond.fieldLink RX12 35 "RegisterMillModel" "does" "[I", Cond.fieldLink RX12 38 "RegisterMillModel" "with" "[I", Cond.fieldLink RX12 44 "RegisterMillModel" "told" "[I", Cond.methodLink RX12 253 yX12_moves, Cond.instanceMethod yX12_moves, Cond.selects RX12 yX12_moves yX12_moves, Cond.code yX12_moves cX12_moves 3 none, Cond.methodLink RX12 256 yX12_read]
def wsX12_codes_r3 : List Cond := [Cond.instanceMethod yX12_read, Cond.selects RX12 yX12_read yX12_read, Cond.code yX12_read cX12_read 3 (some .int), Cond.methodLink RX12 259 yX12_swaps, Cond.instanceMethod yX12_swaps, Cond.selects RX12 yX12_swaps yX12_swaps, Cond.code yX12_swaps cX12_swaps 5 none, Cond.methodLink RX12 262 yX12_into, Cond.instanceMethod yX12_into, Cond.selects RX12 yX12_into yX12_into, Cond.code yX12_into cX12_into 3 none, Cond.methodLink RX12 265 yX12_outOf, Cond.instanceMethod yX12_outOf, Cond.selects RX12 yX12_outOf yX12_outOf, Cond.code yX12_outOf cX12_outOf 3 none]
def wsX12_codes : List Cond := .code yX12_codes cX12_codes 3 none :: ((wsX12_codes_r1 ++ (wsX12_codes_r2 ++ wsX12_codes_r3)) ++ wsX120)
def wsX12_turn_r1 : List Cond := [Cond.fieldLink RX12 137 "RegisterMillModel" "thrown" "I", Cond.fieldLink RX12 144 "RegisterMillModel" "isChecked" "Z", Cond.fieldLink RX12 268 "RegisterMillModel" "isTurned" "Z", Cond.fieldLink RX12 228 "RegisterMillModel" "isTooMuch" "Z", Cond.fieldLink RX12 222 "RegisterMillModel" "\x72" "I", Cond.fieldLink RX12 225 "RegisterMillModel" "ops" "I", Cond.fieldLink RX12 141 "RegisterMillModel" "funcs" "I", Cond.fieldLink RX12 77 "RegisterMillModel" "placesOf" "[I", Cond.fieldLink RX12 176 "RegisterMillModel" "places" "I", Cond.methodLink RX12 271 yX12_lays, Cond.instanceMethod yX12_lays, Cond.selects RX12 yX12_lays yX12_lays, Cond.initialized RX12, Cond.code yX12_lays cX12_lays 4 none, Cond.fieldLink RX12 16 "RegisterMillModel" "wordsFrom" "[I", Cond.fieldLink RX12 19 "RegisterMillModel" "words" "[I", Cond.fieldLink RX12 47 "RegisterMillModel" "became" "[I", Cond.fieldLink RX12 28 "RegisterMillModel" "depth" "[I", Cond.fieldLink RX12 22 "RegisterMillModel" "op" "[I", Cond.fieldLink RX12 25 "RegisterMillModel" "num" "[I", Cond.fieldLink RX12 13 "RegisterMillModel" "locals" "[I", Cond.fieldLink RX12 35 "RegisterMillModel" "does" "[I", Cond.fieldLink RX12 38 "RegisterMillModel" "with" "[I", Cond.methodLink RX12 179 yX12_lay]
def wsX12_turn_r2 : List Cond := [Cond.instanceMethod yX12_lay, Cond.selects RX12 yX12_lay yX12_lay, Cond.code yX12_lay cX12_lay 6 none, Cond.fieldLink RX12 7 "RegisterMillModel" "args" "[I", Cond.methodLink RX12 187 yX12_place, Cond.instanceMethod yX12_place, Cond.selects RX12 yX12_place yX12_place, Cond.code yX12_place cX12_place 3 none, Cond.fieldLink RX12 44 "RegisterMillModel" "told" "[I", Cond.methodLink RX12 191 yX12_tells, Cond.instanceMethod yX12_tells, Cond.selects RX12 yX12_tells yX12_tells, Cond.code yX12_tells cX12_tells 2 none, Cond.fieldLink RX12 41 "RegisterMillModel" "value" "[I", Cond.methodLink RX12 183 yX12_isJump, Cond.static yX12_isJump, Cond.code yX12_isJump cX12_isJump 1 (some .boolean), Cond.methodLink RX12 274 yX12_forwards, Cond.instanceMethod yX12_forwards, Cond.selects RX12 yX12_forwards yX12_forwards, Cond.code yX12_forwards cX12_forwards 3 none, Cond.fieldLink RX12 53 "RegisterMillModel" "begins" "[Z", Cond.fieldLink RX12 56 "RegisterMillModel" "copy" "[I", Cond.methodLink RX12 195 yX12_forward]
def wsX12_turn_r3 : List Cond := [Cond.instanceMethod yX12_forward, Cond.selects RX12 yX12_forward yX12_forward, Cond.code yX12_forward cX12_forward 5 none, Cond.methodLink RX12 198 yX12_writes, Cond.static yX12_writes, Cond.code yX12_writes cX12_writes 1 (some .boolean), Cond.methodLink RX12 201 yX12_forgets, Cond.instanceMethod yX12_forgets, Cond.selects RX12 yX12_forgets yX12_forgets, Cond.code yX12_forgets cX12_forgets 3 none, Cond.methodLink RX12 277 yX12_leavesOut, Cond.instanceMethod yX12_leavesOut, Cond.selects RX12 yX12_leavesOut yX12_leavesOut, Cond.code yX12_leavesOut cX12_leavesOut 4 none, Cond.fieldLink RX12 50 "RegisterMillModel" "ahead" "[I", Cond.methodLink RX12 210 yX12_lives, Cond.instanceMethod yX12_lives, Cond.selects RX12 yX12_lives yX12_lives, Cond.code yX12_lives cX12_lives 4 none, Cond.fieldLink RX12 59 "RegisterMillModel" "live" "[I", Cond.methodLink RX12 207 yX12_liveAhead, Cond.instanceMethod yX12_liveAhead, Cond.selects RX12 yX12_liveAhead yX12_liveAhead, Cond.code yX12_liveAhead cX12_liveAhead 5 (some .int)]
def wsX12_turn_r4 : List Cond := [Cond.methodLink RX12 204 yX12_liveBehind, Cond.instanceMethod yX12_liveBehind, Cond.selects RX12 yX12_liveBehind yX12_liveBehind, Cond.code yX12_liveBehind cX12_liveBehind 4 (some .int), Cond.methodLink RX12 213 yX12_isLeftOut, Cond.instanceMethod yX12_isLeftOut, Cond.selects RX12 yX12_isLeftOut yX12_isLeftOut, Cond.code yX12_isLeftOut cX12_isLeftOut 3 (some .boolean), Cond.methodLink RX12 216 yX12_closesUp, Cond.instanceMethod yX12_closesUp, Cond.selects RX12 yX12_closesUp yX12_closesUp, Cond.code yX12_closesUp cX12_closesUp 5 none, Cond.methodLink RX12 280 yX12_spans, Cond.instanceMethod yX12_spans, Cond.selects RX12 yX12_spans yX12_spans, Cond.code yX12_spans cX12_spans 5 none, Cond.fieldLink RX12 62 "RegisterMillModel" "spanFrom" "[I", Cond.fieldLink RX12 65 "RegisterMillModel" "spanTo" "[I", Cond.fieldLink RX12 68 "RegisterMillModel" "register" "[I", Cond.fieldLink RX12 71 "RegisterMillModel" "slot" "[I", Cond.fieldLink RX12 80 "RegisterMillModel" "holds" "[Z", Cond.fieldLink RX12 74 "RegisterMillModel" "slots" "[I", Cond.methodLink RX12 219 yX12_scans, Cond.instanceMethod yX12_scans]
def wsX12_turn_r5 : List Cond := [Cond.selects RX12 yX12_scans yX12_scans, Cond.code yX12_scans cX12_scans 9 none, Cond.methodLink RX12 283 yX12_codes, Cond.instanceMethod yX12_codes, Cond.selects RX12 yX12_codes yX12_codes, Cond.code yX12_codes cX12_codes 3 none, Cond.fieldLink RX12 231 "RegisterMillModel" "now" "I", Cond.fieldLink RX12 86 "RegisterMillModel" "opsFrom" "[I", Cond.fieldLink RX12 92 "RegisterMillModel" "first" "[I", Cond.fieldLink RX12 89 "RegisterMillModel" "opsOf" "[I", Cond.fieldLink RX12 83 "RegisterMillModel" "code" "[I", Cond.methodLink RX12 244 yX12_written, Cond.instanceMethod yX12_written, Cond.selects RX12 yX12_written yX12_written, Cond.code yX12_written cX12_written 2 (some .int), Cond.methodLink RX12 234 yX12_slotOf, Cond.instanceMethod yX12_slotOf, Cond.selects RX12 yX12_slotOf yX12_slotOf, Cond.code yX12_slotOf cX12_slotOf 2 (some .int), Cond.methodLink RX12 237 yX12_registerOf, Cond.instanceMethod yX12_registerOf, Cond.selects RX12 yX12_registerOf yX12_registerOf, Cond.code yX12_registerOf cX12_registerOf 2 (some .int), Cond.methodLink RX12 240 yX12_emit]
def wsX12_turn_r6 : List Cond := [Cond.instanceMethod yX12_emit, Cond.selects RX12 yX12_emit yX12_emit, Cond.code yX12_emit cX12_emit 6 none, Cond.methodLink RX12 247 yX12_saved, Cond.instanceMethod yX12_saved, Cond.selects RX12 yX12_saved yX12_saved, Cond.code yX12_saved cX12_saved 2 none, Cond.methodLink RX12 250 yX12_codePlace, Cond.instanceMethod yX12_codePlace, Cond.selects RX12 yX12_codePlace yX12_codePlace, Cond.code yX12_codePlace cX12_codePlace 10 none, Cond.methodLink RX12 253 yX12_moves, Cond.instanceMethod yX12_moves, Cond.selects RX12 yX12_moves yX12_moves, Cond.code yX12_moves cX12_moves 3 none, Cond.methodLink RX12 256 yX12_read, Cond.instanceMethod yX12_read, Cond.selects RX12 yX12_read yX12_read, Cond.code yX12_read cX12_read 3 (some .int), Cond.methodLink RX12 259 yX12_swaps, Cond.instanceMethod yX12_swaps, Cond.selects RX12 yX12_swaps yX12_swaps, Cond.code yX12_swaps cX12_swaps 5 none, Cond.methodLink RX12 262 yX12_into]
def wsX12_turn_r7 : List Cond := [Cond.instanceMethod yX12_into, Cond.selects RX12 yX12_into yX12_into, Cond.code yX12_into cX12_into 3 none, Cond.methodLink RX12 265 yX12_outOf, Cond.instanceMethod yX12_outOf, Cond.selects RX12 yX12_outOf yX12_outOf, Cond.code yX12_outOf cX12_outOf 3 none, Cond.methodLink RX12 159 yX12_begin, Cond.instanceMethod yX12_begin, Cond.selects RX12 yX12_begin yX12_begin, Cond.code yX12_begin cX12_begin 2 none, Cond.fieldLink RX12 98 "RegisterMillModel" "end" "[I", Cond.fieldLink RX12 101 "RegisterMillModel" "result" "[I", Cond.fieldLink RX12 104 "RegisterMillModel" "steps" "[I", Cond.fieldLink RX12 107 "RegisterMillModel" "made" "[I", Cond.fieldLink RX12 110 "RegisterMillModel" "calls" "[I", Cond.fieldLink RX12 134 "RegisterMillModel" "toldBy" "[I", Cond.fieldLink RX12 131 "RegisterMillModel" "passing" "[I"]
def wsX12_turn : List Cond := .code yX12_turn cX12_turn 3 (some .int) :: ((wsX12_turn_r1 ++ (wsX12_turn_r2 ++ (wsX12_turn_r3 ++ (wsX12_turn_r4 ++ (wsX12_turn_r5 ++ (wsX12_turn_r6 ++ wsX12_turn_r7)))))) ++ wsX120)
def wsX12_enters : List Cond := .code yX12_enters cX12_enters 5 none :: ([.fieldLink RX12 110 "RegisterMillModel" "calls" "[I", .fieldLink RX12 107 "RegisterMillModel" "made" "[I", .fieldLink RX12 113 "RegisterMillModel" "inFunc" "[I", .fieldLink RX12 116 "RegisterMillModel" "pc" "[I", .fieldLink RX12 119 "RegisterMillModel" "cell" "[I", .fieldLink RX12 7 "RegisterMillModel" "args" "[I", .fieldLink RX12 131 "RegisterMillModel" "passing" "[I", .fieldLink RX12 125 "RegisterMillModel" "inSlot" "[I", .fieldLink RX12 128 "RegisterMillModel" "passed" "[I", .fieldLink RX12 122 "RegisterMillModel" "top" "[I", .fieldLink RX12 13 "RegisterMillModel" "locals" "[I"] ++ wsX120)
def wsX12_ends : List Cond := .code yX12_ends cX12_ends 3 none :: ([.fieldLink RX12 98 "RegisterMillModel" "end" "[I", .fieldLink RX12 110 "RegisterMillModel" "calls" "[I"] ++ wsX120)
def wsX12_push : List Cond := .code yX12_push cX12_push 3 none :: ([.fieldLink RX12 110 "RegisterMillModel" "calls" "[I", .fieldLink RX12 119 "RegisterMillModel" "cell" "[I", .fieldLink RX12 122 "RegisterMillModel" "top" "[I"] ++ wsX120)
def wsX12_over : List Cond := .code yX12_over cX12_over 3 none :: ([.fieldLink RX12 110 "RegisterMillModel" "calls" "[I", .fieldLink RX12 101 "RegisterMillModel" "result" "[I", .fieldLink RX12 134 "RegisterMillModel" "toldBy" "[I", .methodLink RX12 286 yX12_ends, .instanceMethod yX12_ends, .selects RX12 yX12_ends yX12_ends, .initialized RX12, .code yX12_ends cX12_ends 3 none, .fieldLink RX12 98 "RegisterMillModel" "end" "[I", .methodLink RX12 289 yX12_push, .instanceMethod yX12_push, .selects RX12 yX12_push yX12_push, .code yX12_push cX12_push 3 none, .fieldLink RX12 119 "RegisterMillModel" "cell" "[I", .fieldLink RX12 122 "RegisterMillModel" "top" "[I"] ++ wsX120)
def wsX12_pop : List Cond := .code yX12_pop cX12_pop 2 (some .int) :: ([.fieldLink RX12 110 "RegisterMillModel" "calls" "[I", .fieldLink RX12 122 "RegisterMillModel" "top" "[I", .fieldLink RX12 119 "RegisterMillModel" "cell" "[I"] ++ wsX120)
def wsX12_works : List Cond := .code yX12_works cX12_works 4 (some .int) :: ([])
def wsX12_swapTop : List Cond := .code yX12_swapTop cX12_swapTop 3 none :: ([.methodLink RX12 295 yX12_pop, .instanceMethod yX12_pop, .selects RX12 yX12_pop yX12_pop, .initialized RX12, .code yX12_pop cX12_pop 2 (some .int), .fieldLink RX12 110 "RegisterMillModel" "calls" "[I", .fieldLink RX12 122 "RegisterMillModel" "top" "[I", .fieldLink RX12 119 "RegisterMillModel" "cell" "[I", .methodLink RX12 289 yX12_push, .instanceMethod yX12_push, .selects RX12 yX12_push yX12_push, .code yX12_push cX12_push 3 none] ++ wsX120)
def wsX12_callStack_r1 : List Cond := [Cond.fieldLink RX12 110 "RegisterMillModel" "calls" "[I", Cond.fieldLink RX12 7 "RegisterMillModel" "args" "[I", Cond.fieldLink RX12 131 "RegisterMillModel" "passing" "[I", Cond.methodLink RX12 286 yX12_ends, Cond.instanceMethod yX12_ends, Cond.selects RX12 yX12_ends yX12_ends, Cond.initialized RX12, Cond.code yX12_ends cX12_ends 3 none, Cond.fieldLink RX12 98 "RegisterMillModel" "end" "[I", Cond.methodLink RX12 295 yX12_pop, Cond.instanceMethod yX12_pop, Cond.selects RX12 yX12_pop yX12_pop, Cond.code yX12_pop cX12_pop 2 (some .int), Cond.fieldLink RX12 122 "RegisterMillModel" "top" "[I", Cond.fieldLink RX12 119 "RegisterMillModel" "cell" "[I", Cond.methodLink RX12 292 yX12_enters, Cond.instanceMethod yX12_enters, Cond.selects RX12 yX12_enters yX12_enters, Cond.code yX12_enters cX12_enters 5 none, Cond.fieldLink RX12 107 "RegisterMillModel" "made" "[I", Cond.fieldLink RX12 113 "RegisterMillModel" "inFunc" "[I", Cond.fieldLink RX12 116 "RegisterMillModel" "pc" "[I", Cond.fieldLink RX12 125 "RegisterMillModel" "inSlot" "[I", Cond.fieldLink RX12 128 "RegisterMillModel" "passed" "[I"]
def wsX12_callStack_r2 : List Cond := [Cond.fieldLink RX12 13 "RegisterMillModel" "locals" "[I"]
def wsX12_callStack : List Cond := .code yX12_callStack cX12_callStack 3 none :: ((wsX12_callStack_r1 ++ wsX12_callStack_r2) ++ wsX120)
def wsX12_isCell : List Cond := .code yX12_isCell cX12_isCell 1 (some .boolean) :: ([])
def wsX12_readStack : List Cond := .code yX12_readStack cX12_readStack 2 none :: ([.fieldLink RX12 95 "RegisterMillModel" "memory" "[I", .methodLink RX12 295 yX12_pop, .instanceMethod yX12_pop, .selects RX12 yX12_pop yX12_pop, .initialized RX12, .code yX12_pop cX12_pop 2 (some .int), .fieldLink RX12 110 "RegisterMillModel" "calls" "[I", .fieldLink RX12 122 "RegisterMillModel" "top" "[I", .fieldLink RX12 119 "RegisterMillModel" "cell" "[I", .methodLink RX12 317 yX12_isCell, .static yX12_isCell, .code yX12_isCell cX12_isCell 1 (some .boolean), .methodLink RX12 286 yX12_ends, .instanceMethod yX12_ends, .selects RX12 yX12_ends yX12_ends, .code yX12_ends cX12_ends 3 none, .fieldLink RX12 98 "RegisterMillModel" "end" "[I", .methodLink RX12 289 yX12_push, .instanceMethod yX12_push, .selects RX12 yX12_push yX12_push, .code yX12_push cX12_push 3 none] ++ wsX120)
def wsX12_writeStack : List Cond := .code yX12_writeStack cX12_writeStack 3 none :: ([.fieldLink RX12 95 "RegisterMillModel" "memory" "[I", .methodLink RX12 295 yX12_pop, .instanceMethod yX12_pop, .selects RX12 yX12_pop yX12_pop, .initialized RX12, .code yX12_pop cX12_pop 2 (some .int), .fieldLink RX12 110 "RegisterMillModel" "calls" "[I", .fieldLink RX12 122 "RegisterMillModel" "top" "[I", .fieldLink RX12 119 "RegisterMillModel" "cell" "[I", .methodLink RX12 317 yX12_isCell, .static yX12_isCell, .code yX12_isCell cX12_isCell 1 (some .boolean), .methodLink RX12 286 yX12_ends, .instanceMethod yX12_ends, .selects RX12 yX12_ends yX12_ends, .code yX12_ends cX12_ends 3 none, .fieldLink RX12 98 "RegisterMillModel" "end" "[I"] ++ wsX120)
def wsX12_workStack : List Cond := .code yX12_workStack cX12_workStack 4 none :: ([.methodLink RX12 295 yX12_pop, .instanceMethod yX12_pop, .selects RX12 yX12_pop yX12_pop, .initialized RX12, .code yX12_pop cX12_pop 2 (some .int), .fieldLink RX12 110 "RegisterMillModel" "calls" "[I", .fieldLink RX12 122 "RegisterMillModel" "top" "[I", .fieldLink RX12 119 "RegisterMillModel" "cell" "[I", .methodLink RX12 286 yX12_ends, .instanceMethod yX12_ends, .selects RX12 yX12_ends yX12_ends, .code yX12_ends cX12_ends 3 none, .fieldLink RX12 98 "RegisterMillModel" "end" "[I", .methodLink RX12 320 yX12_works, .instanceMethod yX12_works, .selects RX12 yX12_works yX12_works, .code yX12_works cX12_works 4 (some .int), .methodLink RX12 289 yX12_push, .instanceMethod yX12_push, .selects RX12 yX12_push yX12_push, .code yX12_push cX12_push 3 none] ++ wsX120)
def wsX12_stepStack_r1 : List Cond := [Cond.fieldLink RX12 110 "RegisterMillModel" "calls" "[I", Cond.fieldLink RX12 16 "RegisterMillModel" "wordsFrom" "[I", Cond.fieldLink RX12 113 "RegisterMillModel" "inFunc" "[I", Cond.fieldLink RX12 116 "RegisterMillModel" "pc" "[I", Cond.fieldLink RX12 25 "RegisterMillModel" "num" "[I", Cond.fieldLink RX12 104 "RegisterMillModel" "steps" "[I", Cond.fieldLink RX12 22 "RegisterMillModel" "op" "[I", Cond.fieldLink RX12 119 "RegisterMillModel" "cell" "[I", Cond.fieldLink RX12 122 "RegisterMillModel" "top" "[I", Cond.methodLink RX12 292 yX12_enters, Cond.instanceMethod yX12_enters, Cond.selects RX12 yX12_enters yX12_enters, Cond.initialized RX12, Cond.code yX12_enters cX12_enters 5 none, Cond.fieldLink RX12 107 "RegisterMillModel" "made" "[I", Cond.fieldLink RX12 7 "RegisterMillModel" "args" "[I", Cond.fieldLink RX12 131 "RegisterMillModel" "passing" "[I", Cond.fieldLink RX12 125 "RegisterMillModel" "inSlot" "[I", Cond.fieldLink RX12 128 "RegisterMillModel" "passed" "[I", Cond.fieldLink RX12 13 "RegisterMillModel" "locals" "[I", Cond.methodLink RX12 289 yX12_push, Cond.instanceMethod yX12_push, Cond.selects RX12 yX12_push yX12_push, Cond.code yX12_push cX12_push 3 none]
def wsX12_stepStack_r2 : List Cond := [Cond.methodLink RX12 295 yX12_pop, Cond.instanceMethod yX12_pop, Cond.selects RX12 yX12_pop yX12_pop, Cond.code yX12_pop cX12_pop 2 (some .int), Cond.methodLink RX12 299 yX12_swapTop, Cond.instanceMethod yX12_swapTop, Cond.selects RX12 yX12_swapTop yX12_swapTop, Cond.code yX12_swapTop cX12_swapTop 3 none, Cond.methodLink RX12 302 yX12_callStack, Cond.instanceMethod yX12_callStack, Cond.selects RX12 yX12_callStack yX12_callStack, Cond.code yX12_callStack cX12_callStack 3 none, Cond.methodLink RX12 286 yX12_ends, Cond.instanceMethod yX12_ends, Cond.selects RX12 yX12_ends yX12_ends, Cond.code yX12_ends cX12_ends 3 none, Cond.fieldLink RX12 98 "RegisterMillModel" "end" "[I", Cond.methodLink RX12 305 yX12_over, Cond.instanceMethod yX12_over, Cond.selects RX12 yX12_over yX12_over, Cond.code yX12_over cX12_over 3 none, Cond.fieldLink RX12 101 "RegisterMillModel" "result" "[I", Cond.fieldLink RX12 134 "RegisterMillModel" "toldBy" "[I", Cond.methodLink RX12 308 yX12_readStack]
def wsX12_stepStack_r3 : List Cond := [Cond.instanceMethod yX12_readStack, Cond.selects RX12 yX12_readStack yX12_readStack, Cond.code yX12_readStack cX12_readStack 2 none, Cond.fieldLink RX12 95 "RegisterMillModel" "memory" "[I", Cond.methodLink RX12 317 yX12_isCell, Cond.static yX12_isCell, Cond.code yX12_isCell cX12_isCell 1 (some .boolean), Cond.methodLink RX12 311 yX12_writeStack, Cond.instanceMethod yX12_writeStack, Cond.selects RX12 yX12_writeStack yX12_writeStack, Cond.code yX12_writeStack cX12_writeStack 3 none, Cond.methodLink RX12 314 yX12_workStack, Cond.instanceMethod yX12_workStack, Cond.selects RX12 yX12_workStack yX12_workStack, Cond.code yX12_workStack cX12_workStack 4 none, Cond.methodLink RX12 320 yX12_works, Cond.instanceMethod yX12_works, Cond.selects RX12 yX12_works yX12_works, Cond.code yX12_works cX12_works 4 (some .int)]
def wsX12_stepStack : List Cond := .code yX12_stepStack cX12_stepStack 4 none :: ((wsX12_stepStack_r1 ++ (wsX12_stepStack_r2 ++ wsX12_stepStack_r3)) ++ wsX120)
def wsX12_stepCall : List Cond := .code yX12_stepCall cX12_stepCall 6 none :: ([.fieldLink RX12 119 "RegisterMillModel" "cell" "[I", .fieldLink RX12 125 "RegisterMillModel" "inSlot" "[I", .fieldLink RX12 128 "RegisterMillModel" "passed" "[I", .fieldLink RX12 131 "RegisterMillModel" "passing" "[I", .fieldLink RX12 134 "RegisterMillModel" "toldBy" "[I", .fieldLink RX12 110 "RegisterMillModel" "calls" "[I", .methodLink RX12 286 yX12_ends, .instanceMethod yX12_ends, .selects RX12 yX12_ends yX12_ends, .initialized RX12, .code yX12_ends cX12_ends 3 none, .fieldLink RX12 98 "RegisterMillModel" "end" "[I", .methodLink RX12 292 yX12_enters, .instanceMethod yX12_enters, .selects RX12 yX12_enters yX12_enters, .code yX12_enters cX12_enters 5 none, .fieldLink RX12 107 "RegisterMillModel" "made" "[I", .fieldLink RX12 113 "RegisterMillModel" "inFunc" "[I", .fieldLink RX12 116 "RegisterMillModel" "pc" "[I", .fieldLink RX12 7 "RegisterMillModel" "args" "[I", .fieldLink RX12 122 "RegisterMillModel" "top" "[I", .fieldLink RX12 13 "RegisterMillModel" "locals" "[I"] ++ wsX120)
def wsX12_stepRegisters_r1 : List Cond := [Cond.fieldLink RX12 110 "RegisterMillModel" "calls" "[I", Cond.fieldLink RX12 86 "RegisterMillModel" "opsFrom" "[I", Cond.fieldLink RX12 113 "RegisterMillModel" "inFunc" "[I", Cond.fieldLink RX12 116 "RegisterMillModel" "pc" "[I", Cond.fieldLink RX12 83 "RegisterMillModel" "code" "[I", Cond.fieldLink RX12 104 "RegisterMillModel" "steps" "[I", Cond.fieldLink RX12 119 "RegisterMillModel" "cell" "[I", Cond.fieldLink RX12 95 "RegisterMillModel" "memory" "[I", Cond.methodLink RX12 292 yX12_enters, Cond.instanceMethod yX12_enters, Cond.selects RX12 yX12_enters yX12_enters, Cond.initialized RX12, Cond.code yX12_enters cX12_enters 5 none, Cond.fieldLink RX12 107 "RegisterMillModel" "made" "[I", Cond.fieldLink RX12 7 "RegisterMillModel" "args" "[I", Cond.fieldLink RX12 131 "RegisterMillModel" "passing" "[I", Cond.fieldLink RX12 125 "RegisterMillModel" "inSlot" "[I", Cond.fieldLink RX12 128 "RegisterMillModel" "passed" "[I", Cond.fieldLink RX12 122 "RegisterMillModel" "top" "[I", Cond.fieldLink RX12 13 "RegisterMillModel" "locals" "[I", Cond.methodLink RX12 286 yX12_ends, Cond.instanceMethod yX12_ends, Cond.selects RX12 yX12_ends yX12_ends, Cond.code yX12_ends cX12_ends 3 none]
def wsX12_stepRegisters_r2 : List Cond := [Cond.fieldLink RX12 98 "RegisterMillModel" "end" "[I", Cond.methodLink RX12 320 yX12_works, Cond.instanceMethod yX12_works, Cond.selects RX12 yX12_works yX12_works, Cond.code yX12_works cX12_works 4 (some .int), Cond.methodLink RX12 305 yX12_over, Cond.instanceMethod yX12_over, Cond.selects RX12 yX12_over yX12_over, Cond.code yX12_over cX12_over 3 none, Cond.fieldLink RX12 101 "RegisterMillModel" "result" "[I", Cond.fieldLink RX12 134 "RegisterMillModel" "toldBy" "[I", Cond.methodLink RX12 289 yX12_push, Cond.instanceMethod yX12_push, Cond.selects RX12 yX12_push yX12_push, Cond.code yX12_push cX12_push 3 none, Cond.methodLink RX12 317 yX12_isCell, Cond.static yX12_isCell, Cond.code yX12_isCell cX12_isCell 1 (some .boolean), Cond.methodLink RX12 323 yX12_stepCall, Cond.instanceMethod yX12_stepCall, Cond.selects RX12 yX12_stepCall yX12_stepCall, Cond.code yX12_stepCall cX12_stepCall 6 none]
def wsX12_stepRegisters : List Cond := .code yX12_stepRegisters cX12_stepRegisters 8 none :: ((wsX12_stepRegisters_r1 ++ wsX12_stepRegisters_r2) ++ wsX120)
def wsX12_run_r1 : List Cond := [Cond.fieldLink RX12 98 "RegisterMillModel" "end" "[I", Cond.methodLink RX12 326 yX12_stepStack, Cond.instanceMethod yX12_stepStack, Cond.selects RX12 yX12_stepStack yX12_stepStack, Cond.initialized RX12, Cond.code yX12_stepStack cX12_stepStack 4 none, Cond.fieldLink RX12 110 "RegisterMillModel" "calls" "[I", Cond.fieldLink RX12 16 "RegisterMillModel" "wordsFrom" "[I", Cond.fieldLink RX12 113 "RegisterMillModel" "inFunc" "[I", Cond.fieldLink RX12 116 "RegisterMillModel" "pc" "[I", Cond.fieldLink RX12 25 "RegisterMillModel" "num" "[I", Cond.fieldLink RX12 104 "RegisterMillModel" "steps" "[I", Cond.fieldLink RX12 22 "RegisterMillModel" "op" "[I", Cond.fieldLink RX12 119 "RegisterMillModel" "cell" "[I", Cond.fieldLink RX12 122 "RegisterMillModel" "top" "[I", Cond.methodLink RX12 292 yX12_enters, Cond.instanceMethod yX12_enters, Cond.selects RX12 yX12_enters yX12_enters, Cond.code yX12_enters cX12_enters 5 none, Cond.fieldLink RX12 107 "RegisterMillModel" "made" "[I", Cond.fieldLink RX12 7 "RegisterMillModel" "args" "[I", Cond.fieldLink RX12 131 "RegisterMillModel" "passing" "[I", Cond.fieldLink RX12 125 "RegisterMillModel" "inSlot" "[I", Cond.fieldLink RX12 128 "RegisterMillModel" "passed" "[I"]
def wsX12_run_r2 : List Cond := [Cond.fieldLink RX12 13 "RegisterMillModel" "locals" "[I", Cond.methodLink RX12 289 yX12_push, Cond.instanceMethod yX12_push, Cond.selects RX12 yX12_push yX12_push, Cond.code yX12_push cX12_push 3 none, Cond.methodLink RX12 295 yX12_pop, Cond.instanceMethod yX12_pop, Cond.selects RX12 yX12_pop yX12_pop, Cond.code yX12_pop cX12_pop 2 (some .int), Cond.methodLink RX12 299 yX12_swapTop, Cond.instanceMethod yX12_swapTop, Cond.selects RX12 yX12_swapTop yX12_swapTop, Cond.code yX12_swapTop cX12_swapTop 3 none, Cond.methodLink RX12 302 yX12_callStack, Cond.instanceMethod yX12_callStack, Cond.selects RX12 yX12_callStack yX12_callStack, Cond.code yX12_callStack cX12_callStack 3 none, Cond.methodLink RX12 286 yX12_ends, Cond.instanceMethod yX12_ends, Cond.selects RX12 yX12_ends yX12_ends, Cond.code yX12_ends cX12_ends 3 none, Cond.methodLink RX12 305 yX12_over, Cond.instanceMethod yX12_over, Cond.selects RX12 yX12_over yX12_over]
def wsX12_run_r3 : List Cond := [Cond.code yX12_over cX12_over 3 none, Cond.fieldLink RX12 101 "RegisterMillModel" "result" "[I", Cond.fieldLink RX12 134 "RegisterMillModel" "toldBy" "[I", Cond.methodLink RX12 308 yX12_readStack, Cond.instanceMethod yX12_readStack, Cond.selects RX12 yX12_readStack yX12_readStack, Cond.code yX12_readStack cX12_readStack 2 none, Cond.fieldLink RX12 95 "RegisterMillModel" "memory" "[I", Cond.methodLink RX12 317 yX12_isCell, Cond.static yX12_isCell, Cond.code yX12_isCell cX12_isCell 1 (some .boolean), Cond.methodLink RX12 311 yX12_writeStack, Cond.instanceMethod yX12_writeStack, Cond.selects RX12 yX12_writeStack yX12_writeStack, Cond.code yX12_writeStack cX12_writeStack 3 none, Cond.methodLink RX12 314 yX12_workStack, Cond.instanceMethod yX12_workStack, Cond.selects RX12 yX12_workStack yX12_workStack, Cond.code yX12_workStack cX12_workStack 4 none, Cond.methodLink RX12 320 yX12_works, Cond.instanceMethod yX12_works, Cond.selects RX12 yX12_works yX12_works, Cond.code yX12_works cX12_works 4 (some .int), Cond.methodLink RX12 329 yX12_stepRegisters]
def wsX12_run_r4 : List Cond := [Cond.instanceMethod yX12_stepRegisters, Cond.selects RX12 yX12_stepRegisters yX12_stepRegisters, Cond.code yX12_stepRegisters cX12_stepRegisters 8 none, Cond.fieldLink RX12 86 "RegisterMillModel" "opsFrom" "[I", Cond.fieldLink RX12 83 "RegisterMillModel" "code" "[I", Cond.methodLink RX12 323 yX12_stepCall, Cond.instanceMethod yX12_stepCall, Cond.selects RX12 yX12_stepCall yX12_stepCall, Cond.code yX12_stepCall cX12_stepCall 6 none]
def wsX12_run : List Cond := .code yX12_run cX12_run 4 (some .int) :: ((wsX12_run_r1 ++ (wsX12_run_r2 ++ (wsX12_run_r3 ++ wsX12_run_r4))) ++ wsX120)
def wsX12_runStack_r1 : List Cond := [Cond.fieldLink RX12 137 "RegisterMillModel" "thrown" "I", Cond.fieldLink RX12 144 "RegisterMillModel" "isChecked" "Z", Cond.methodLink RX12 332 yX12_run, Cond.instanceMethod yX12_run, Cond.selects RX12 yX12_run yX12_run, Cond.initialized RX12, Cond.code yX12_run cX12_run 4 (some .int), Cond.fieldLink RX12 98 "RegisterMillModel" "end" "[I", Cond.methodLink RX12 326 yX12_stepStack, Cond.instanceMethod yX12_stepStack, Cond.selects RX12 yX12_stepStack yX12_stepStack, Cond.code yX12_stepStack cX12_stepStack 4 none, Cond.fieldLink RX12 110 "RegisterMillModel" "calls" "[I", Cond.fieldLink RX12 16 "RegisterMillModel" "wordsFrom" "[I", Cond.fieldLink RX12 113 "RegisterMillModel" "inFunc" "[I", Cond.fieldLink RX12 116 "RegisterMillModel" "pc" "[I", Cond.fieldLink RX12 25 "RegisterMillModel" "num" "[I", Cond.fieldLink RX12 104 "RegisterMillModel" "steps" "[I", Cond.fieldLink RX12 22 "RegisterMillModel" "op" "[I", Cond.fieldLink RX12 119 "RegisterMillModel" "cell" "[I", Cond.fieldLink RX12 122 "RegisterMillModel" "top" "[I", Cond.methodLink RX12 292 yX12_enters, Cond.instanceMethod yX12_enters, Cond.selects RX12 yX12_enters yX12_enters]
def wsX12_runStack_r2 : List Cond := [Cond.code yX12_enters cX12_enters 5 none, Cond.fieldLink RX12 107 "RegisterMillModel" "made" "[I", Cond.fieldLink RX12 7 "RegisterMillModel" "args" "[I", Cond.fieldLink RX12 131 "RegisterMillModel" "passing" "[I", Cond.fieldLink RX12 125 "RegisterMillModel" "inSlot" "[I", Cond.fieldLink RX12 128 "RegisterMillModel" "passed" "[I", Cond.fieldLink RX12 13 "RegisterMillModel" "locals" "[I", Cond.methodLink RX12 289 yX12_push, Cond.instanceMethod yX12_push, Cond.selects RX12 yX12_push yX12_push, Cond.code yX12_push cX12_push 3 none, Cond.methodLink RX12 295 yX12_pop, Cond.instanceMethod yX12_pop, Cond.selects RX12 yX12_pop yX12_pop, Cond.code yX12_pop cX12_pop 2 (some .int), Cond.methodLink RX12 299 yX12_swapTop, Cond.instanceMethod yX12_swapTop, Cond.selects RX12 yX12_swapTop yX12_swapTop, Cond.code yX12_swapTop cX12_swapTop 3 none, Cond.methodLink RX12 302 yX12_callStack, Cond.instanceMethod yX12_callStack, Cond.selects RX12 yX12_callStack yX12_callStack, Cond.code yX12_callStack cX12_callStack 3 none, Cond.methodLink RX12 286 yX12_ends]
def wsX12_runStack_r3 : List Cond := [Cond.instanceMethod yX12_ends, Cond.selects RX12 yX12_ends yX12_ends, Cond.code yX12_ends cX12_ends 3 none, Cond.methodLink RX12 305 yX12_over, Cond.instanceMethod yX12_over, Cond.selects RX12 yX12_over yX12_over, Cond.code yX12_over cX12_over 3 none, Cond.fieldLink RX12 101 "RegisterMillModel" "result" "[I", Cond.fieldLink RX12 134 "RegisterMillModel" "toldBy" "[I", Cond.methodLink RX12 308 yX12_readStack, Cond.instanceMethod yX12_readStack, Cond.selects RX12 yX12_readStack yX12_readStack, Cond.code yX12_readStack cX12_readStack 2 none, Cond.fieldLink RX12 95 "RegisterMillModel" "memory" "[I", Cond.methodLink RX12 317 yX12_isCell, Cond.static yX12_isCell, Cond.code yX12_isCell cX12_isCell 1 (some .boolean), Cond.methodLink RX12 311 yX12_writeStack, Cond.instanceMethod yX12_writeStack, Cond.selects RX12 yX12_writeStack yX12_writeStack, Cond.code yX12_writeStack cX12_writeStack 3 none, Cond.methodLink RX12 314 yX12_workStack, Cond.instanceMethod yX12_workStack, Cond.selects RX12 yX12_workStack yX12_workStack]
def wsX12_runStack_r4 : List Cond := [Cond.code yX12_workStack cX12_workStack 4 none, Cond.methodLink RX12 320 yX12_works, Cond.instanceMethod yX12_works, Cond.selects RX12 yX12_works yX12_works, Cond.code yX12_works cX12_works 4 (some .int), Cond.methodLink RX12 329 yX12_stepRegisters, Cond.instanceMethod yX12_stepRegisters, Cond.selects RX12 yX12_stepRegisters yX12_stepRegisters, Cond.code yX12_stepRegisters cX12_stepRegisters 8 none, Cond.fieldLink RX12 86 "RegisterMillModel" "opsFrom" "[I", Cond.fieldLink RX12 83 "RegisterMillModel" "code" "[I", Cond.methodLink RX12 323 yX12_stepCall, Cond.instanceMethod yX12_stepCall, Cond.selects RX12 yX12_stepCall yX12_stepCall, Cond.code yX12_stepCall cX12_stepCall 6 none]
def wsX12_runStack : List Cond := .code yX12_runStack cX12_runStack 2 (some .int) :: ((wsX12_runStack_r1 ++ (wsX12_runStack_r2 ++ (wsX12_runStack_r3 ++ wsX12_runStack_r4))) ++ wsX120)
def wsX12_runRegisters_r1 : List Cond := [Cond.fieldLink RX12 137 "RegisterMillModel" "thrown" "I", Cond.fieldLink RX12 268 "RegisterMillModel" "isTurned" "Z", Cond.methodLink RX12 332 yX12_run, Cond.instanceMethod yX12_run, Cond.selects RX12 yX12_run yX12_run, Cond.initialized RX12, Cond.code yX12_run cX12_run 4 (some .int), Cond.fieldLink RX12 98 "RegisterMillModel" "end" "[I", Cond.methodLink RX12 326 yX12_stepStack, Cond.instanceMethod yX12_stepStack, Cond.selects RX12 yX12_stepStack yX12_stepStack, Cond.code yX12_stepStack cX12_stepStack 4 none, Cond.fieldLink RX12 110 "RegisterMillModel" "calls" "[I", Cond.fieldLink RX12 16 "RegisterMillModel" "wordsFrom" "[I", Cond.fieldLink RX12 113 "RegisterMillModel" "inFunc" "[I", Cond.fieldLink RX12 116 "RegisterMillModel" "pc" "[I", Cond.fieldLink RX12 25 "RegisterMillModel" "num" "[I", Cond.fieldLink RX12 104 "RegisterMillModel" "steps" "[I", Cond.fieldLink RX12 22 "RegisterMillModel" "op" "[I", Cond.fieldLink RX12 119 "RegisterMillModel" "cell" "[I", Cond.fieldLink RX12 122 "RegisterMillModel" "top" "[I", Cond.methodLink RX12 292 yX12_enters, Cond.instanceMethod yX12_enters, Cond.selects RX12 yX12_enters yX12_enters]
def wsX12_runRegisters_r2 : List Cond := [Cond.code yX12_enters cX12_enters 5 none, Cond.fieldLink RX12 107 "RegisterMillModel" "made" "[I", Cond.fieldLink RX12 7 "RegisterMillModel" "args" "[I", Cond.fieldLink RX12 131 "RegisterMillModel" "passing" "[I", Cond.fieldLink RX12 125 "RegisterMillModel" "inSlot" "[I", Cond.fieldLink RX12 128 "RegisterMillModel" "passed" "[I", Cond.fieldLink RX12 13 "RegisterMillModel" "locals" "[I", Cond.methodLink RX12 289 yX12_push, Cond.instanceMethod yX12_push, Cond.selects RX12 yX12_push yX12_push, Cond.code yX12_push cX12_push 3 none, Cond.methodLink RX12 295 yX12_pop, Cond.instanceMethod yX12_pop, Cond.selects RX12 yX12_pop yX12_pop, Cond.code yX12_pop cX12_pop 2 (some .int), Cond.methodLink RX12 299 yX12_swapTop, Cond.instanceMethod yX12_swapTop, Cond.selects RX12 yX12_swapTop yX12_swapTop, Cond.code yX12_swapTop cX12_swapTop 3 none, Cond.methodLink RX12 302 yX12_callStack, Cond.instanceMethod yX12_callStack, Cond.selects RX12 yX12_callStack yX12_callStack, Cond.code yX12_callStack cX12_callStack 3 none, Cond.methodLink RX12 286 yX12_ends]
def wsX12_runRegisters_r3 : List Cond := [Cond.instanceMethod yX12_ends, Cond.selects RX12 yX12_ends yX12_ends, Cond.code yX12_ends cX12_ends 3 none, Cond.methodLink RX12 305 yX12_over, Cond.instanceMethod yX12_over, Cond.selects RX12 yX12_over yX12_over, Cond.code yX12_over cX12_over 3 none, Cond.fieldLink RX12 101 "RegisterMillModel" "result" "[I", Cond.fieldLink RX12 134 "RegisterMillModel" "toldBy" "[I", Cond.methodLink RX12 308 yX12_readStack, Cond.instanceMethod yX12_readStack, Cond.selects RX12 yX12_readStack yX12_readStack, Cond.code yX12_readStack cX12_readStack 2 none, Cond.fieldLink RX12 95 "RegisterMillModel" "memory" "[I", Cond.methodLink RX12 317 yX12_isCell, Cond.static yX12_isCell, Cond.code yX12_isCell cX12_isCell 1 (some .boolean), Cond.methodLink RX12 311 yX12_writeStack, Cond.instanceMethod yX12_writeStack, Cond.selects RX12 yX12_writeStack yX12_writeStack, Cond.code yX12_writeStack cX12_writeStack 3 none, Cond.methodLink RX12 314 yX12_workStack, Cond.instanceMethod yX12_workStack, Cond.selects RX12 yX12_workStack yX12_workStack]
def wsX12_runRegisters_r4 : List Cond := [Cond.code yX12_workStack cX12_workStack 4 none, Cond.methodLink RX12 320 yX12_works, Cond.instanceMethod yX12_works, Cond.selects RX12 yX12_works yX12_works, Cond.code yX12_works cX12_works 4 (some .int), Cond.methodLink RX12 329 yX12_stepRegisters, Cond.instanceMethod yX12_stepRegisters, Cond.selects RX12 yX12_stepRegisters yX12_stepRegisters, Cond.code yX12_stepRegisters cX12_stepRegisters 8 none, Cond.fieldLink RX12 86 "RegisterMillModel" "opsFrom" "[I", Cond.fieldLink RX12 83 "RegisterMillModel" "code" "[I", Cond.methodLink RX12 323 yX12_stepCall, Cond.instanceMethod yX12_stepCall, Cond.selects RX12 yX12_stepCall yX12_stepCall, Cond.code yX12_stepCall cX12_stepCall 6 none]
def wsX12_runRegisters : List Cond := .code yX12_runRegisters cX12_runRegisters 2 (some .int) :: ((wsX12_runRegisters_r1 ++ (wsX12_runRegisters_r2 ++ (wsX12_runRegisters_r3 ++ wsX12_runRegisters_r4))) ++ wsX120)
def wsX12_again : List Cond := .code yX12_again cX12_again 1 (some .boolean) :: ([.fieldLink RX12 137 "RegisterMillModel" "thrown" "I", .fieldLink RX12 144 "RegisterMillModel" "isChecked" "Z", .methodLink RX12 159 yX12_begin, .instanceMethod yX12_begin, .selects RX12 yX12_begin yX12_begin, .initialized RX12, .code yX12_begin cX12_begin 2 none, .fieldLink RX12 98 "RegisterMillModel" "end" "[I", .fieldLink RX12 101 "RegisterMillModel" "result" "[I", .fieldLink RX12 104 "RegisterMillModel" "steps" "[I", .fieldLink RX12 107 "RegisterMillModel" "made" "[I", .fieldLink RX12 110 "RegisterMillModel" "calls" "[I", .fieldLink RX12 134 "RegisterMillModel" "toldBy" "[I", .fieldLink RX12 131 "RegisterMillModel" "passing" "[I"] ++ wsX120)
def wsX12_cell : List Cond := .code yX12_cell cX12_cell 3 (some .boolean) :: ([.fieldLink RX12 137 "RegisterMillModel" "thrown" "I", .fieldLink RX12 95 "RegisterMillModel" "memory" "[I", .methodLink RX12 317 yX12_isCell, .static yX12_isCell, .initialized RX12, .code yX12_isCell cX12_isCell 1 (some .boolean)] ++ wsX120)
def wsX12_clear : List Cond := .code yX12_clear cX12_clear 2 none :: ([.fieldLink RX12 137 "RegisterMillModel" "thrown" "I", .fieldLink RX12 141 "RegisterMillModel" "funcs" "I", .fieldLink RX12 148 "RegisterMillModel" "all" "I", .fieldLink RX12 144 "RegisterMillModel" "isChecked" "Z", .fieldLink RX12 268 "RegisterMillModel" "isTurned" "Z", .fieldLink RX12 95 "RegisterMillModel" "memory" "[I", .methodLink RX12 159 yX12_begin, .instanceMethod yX12_begin, .selects RX12 yX12_begin yX12_begin, .initialized RX12, .code yX12_begin cX12_begin 2 none, .fieldLink RX12 98 "RegisterMillModel" "end" "[I", .fieldLink RX12 101 "RegisterMillModel" "result" "[I", .fieldLink RX12 104 "RegisterMillModel" "steps" "[I", .fieldLink RX12 107 "RegisterMillModel" "made" "[I", .fieldLink RX12 110 "RegisterMillModel" "calls" "[I", .fieldLink RX12 134 "RegisterMillModel" "toldBy" "[I", .fieldLink RX12 131 "RegisterMillModel" "passing" "[I"] ++ wsX120)
def wsX12_op : List Cond := .code yX12_op cX12_op 4 (some .int) :: ([.fieldLink RX12 268 "RegisterMillModel" "isTurned" "Z", .fieldLink RX12 141 "RegisterMillModel" "funcs" "I", .fieldLink RX12 89 "RegisterMillModel" "opsOf" "[I", .fieldLink RX12 137 "RegisterMillModel" "thrown" "I", .fieldLink RX12 83 "RegisterMillModel" "code" "[I", .fieldLink RX12 86 "RegisterMillModel" "opsFrom" "[I"] ++ wsX120)
def wsX12_isFunc : List Cond := .code yX12_isFunc cX12_isFunc 2 (some .boolean) :: ([.fieldLink RX12 268 "RegisterMillModel" "isTurned" "Z", .fieldLink RX12 141 "RegisterMillModel" "funcs" "I"] ++ wsX120)
def wsX12_size : List Cond := .code yX12_size cX12_size 2 (some .int) :: ([.fieldLink RX12 137 "RegisterMillModel" "thrown" "I", .fieldLink RX12 89 "RegisterMillModel" "opsOf" "[I", .methodLink RX12 335 yX12_isFunc, .instanceMethod yX12_isFunc, .selects RX12 yX12_isFunc yX12_isFunc, .initialized RX12, .code yX12_isFunc cX12_isFunc 2 (some .boolean), .fieldLink RX12 268 "RegisterMillModel" "isTurned" "Z", .fieldLink RX12 141 "RegisterMillModel" "funcs" "I"] ++ wsX120)
def wsX12_value : List Cond := .code yX12_value cX12_value 5 (some .int) :: ([.fieldLink RX12 137 "RegisterMillModel" "thrown" "I", .fieldLink RX12 62 "RegisterMillModel" "spanFrom" "[I", .fieldLink RX12 65 "RegisterMillModel" "spanTo" "[I", .fieldLink RX12 68 "RegisterMillModel" "register" "[I", .fieldLink RX12 71 "RegisterMillModel" "slot" "[I", .methodLink RX12 335 yX12_isFunc, .instanceMethod yX12_isFunc, .selects RX12 yX12_isFunc yX12_isFunc, .initialized RX12, .code yX12_isFunc cX12_isFunc 2 (some .boolean), .fieldLink RX12 268 "RegisterMillModel" "isTurned" "Z", .fieldLink RX12 141 "RegisterMillModel" "funcs" "I"] ++ wsX120)
def wsX12_slots : List Cond := .code yX12_slots cX12_slots 2 (some .int) :: ([.fieldLink RX12 137 "RegisterMillModel" "thrown" "I", .fieldLink RX12 74 "RegisterMillModel" "slots" "[I", .methodLink RX12 335 yX12_isFunc, .instanceMethod yX12_isFunc, .selects RX12 yX12_isFunc yX12_isFunc, .initialized RX12, .code yX12_isFunc cX12_isFunc 2 (some .boolean), .fieldLink RX12 268 "RegisterMillModel" "isTurned" "Z", .fieldLink RX12 141 "RegisterMillModel" "funcs" "I"] ++ wsX120)
def wsX12_places : List Cond := .code yX12_places cX12_places 2 (some .int) :: ([.fieldLink RX12 137 "RegisterMillModel" "thrown" "I", .fieldLink RX12 77 "RegisterMillModel" "placesOf" "[I", .methodLink RX12 335 yX12_isFunc, .instanceMethod yX12_isFunc, .selects RX12 yX12_isFunc yX12_isFunc, .initialized RX12, .code yX12_isFunc cX12_isFunc 2 (some .boolean), .fieldLink RX12 268 "RegisterMillModel" "isTurned" "Z", .fieldLink RX12 141 "RegisterMillModel" "funcs" "I"] ++ wsX120)
def wsX12_look : List Cond := .code yX12_look cX12_look 3 (some .int) :: ([.fieldLink RX12 137 "RegisterMillModel" "thrown" "I", .fieldLink RX12 98 "RegisterMillModel" "end" "[I", .fieldLink RX12 101 "RegisterMillModel" "result" "[I", .fieldLink RX12 104 "RegisterMillModel" "steps" "[I", .fieldLink RX12 107 "RegisterMillModel" "made" "[I", .fieldLink RX12 110 "RegisterMillModel" "calls" "[I"] ++ wsX120)
def wsX12_peek : List Cond := .code yX12_peek cX12_peek 3 (some .int) :: ([.fieldLink RX12 137 "RegisterMillModel" "thrown" "I", .fieldLink RX12 95 "RegisterMillModel" "memory" "[I", .methodLink RX12 317 yX12_isCell, .static yX12_isCell, .initialized RX12, .code yX12_isCell cX12_isCell 1 (some .boolean)] ++ wsX120)
def wsX12_count : List Cond := .code yX12_count cX12_count 2 (some .int) :: ([.fieldLink RX12 137 "RegisterMillModel" "thrown" "I", .fieldLink RX12 141 "RegisterMillModel" "funcs" "I", .fieldLink RX12 148 "RegisterMillModel" "all" "I", .fieldLink RX12 144 "RegisterMillModel" "isChecked" "Z", .fieldLink RX12 268 "RegisterMillModel" "isTurned" "Z", .fieldLink RX12 222 "RegisterMillModel" "\x72" "I", .fieldLink RX12 225 "RegisterMillModel" "ops" "I"] ++ wsX120)
def wsJ9_max_7cf53 : List Cond := .code yJ9_max_7cf53 cJ9_max_7cf53 2 (some .int) :: ([])
def wsJ9_min_7cf53 : List Cond := .code yJ9_min_7cf53 cJ9_min_7cf53 2 (some .int) :: ([])
def wsL_op_r1 : List Cond := [Cond.classLink RL 13 "java/util/NoSuchElementException", Cond.methodLink RL 7 yX11_op, Cond.instanceMethod yX11_op, Cond.selects RX11 yX11_op yX11_op, Cond.initialized RX11, Cond.code yX11_op cX11_op 4 (some .int), Cond.classLink RX11 125 "java/util/NoSuchElementException", Cond.initialized "java/util/NoSuchElementException", Cond.fieldLink RX11 28 "RegisterMill" "turner" "LRegisterMill$Turner;", Cond.fieldLink RX11 41 "RegisterMill$Turner" "code" "LRegisterMill$Code;", Cond.fieldLink RX11 122 "RegisterMill$Code" "sizes" "[I", Cond.methodLink RX11 119 yX11_isTurned, Cond.instanceMethod yX11_isTurned, Cond.selects RX11 yX11_isTurned yX11_isTurned, Cond.code yX11_isTurned cX11_isTurned 2 (some .boolean), Cond.fieldLink RX11 90 "RegisterMill$Turner" "registers" "I", Cond.fieldLink RX11 12 "RegisterMill" "program" "LRegisterMill$Program;", Cond.methodLink RX11 73 yX6_hasFunc, Cond.instanceMethod yX6_hasFunc, Cond.selects RX6 yX6_hasFunc yX6_hasFunc, Cond.initialized RX6, Cond.code yX6_hasFunc cX6_hasFunc 2 (some .boolean), Cond.fieldLink RX6 33 "RegisterMill$Program" "funcs" "I", Cond.methodLink RX11 134 yX1_part]
def wsL_op_r2 : List Cond := [Cond.instanceMethod yX1_part, Cond.selects RX1 yX1_part yX1_part, Cond.initialized RX1, Cond.code yX1_part cX1_part 4 (some .int), Cond.fieldLink RX1 18 "RegisterMill$Code" "parts" "[I", Cond.fieldLink RX1 9 "RegisterMill$Code" "starts" "[I"]
def wsL_op : List Cond := .codeWith yL_op cL_op 6 (some .int) [(0, 12, 15, 13)] :: ((wsL_op_r1 ++ wsL_op_r2) ++ wsX110 ++ wsX90 ++ wsX10 ++ wsX60 ++ (vx_atS RX11 129 "java/util/NoSuchElementException" ["java/lang/RuntimeException", "java/lang/Exception"]).filter goodWord)
def wsL_peek : List Cond := .codeWith yL_peek cL_peek 5 (some .int) [(0, 10, 13, 13)] :: ([.classLink RL 13 "java/util/NoSuchElementException", .methodLink RL 15 yX11_peek, .instanceMethod yX11_peek, .selects RX11 yX11_peek yX11_peek, .initialized RX11, .code yX11_peek cX11_peek 3 (some .int), .classLink RX11 125 "java/util/NoSuchElementException", .initialized "java/util/NoSuchElementException", .fieldLink RX11 96 "RegisterMill$Machine" "memory" "[I", .methodLink RX11 160 yX11_machineOf, .instanceMethod yX11_machineOf, .selects RX11 yX11_machineOf yX11_machineOf, .code yX11_machineOf cX11_machineOf 2 (some (.object "RegisterMill$Machine")), .fieldLink RX11 35 "RegisterMill" "stackMachine" "LRegisterMill$Machine;", .fieldLink RX11 48 "RegisterMill" "registerMachine" "LRegisterMill$Machine;"] ++ wsX70 ++ wsX80 ++ wsX110 ++ (vx_atS RX11 129 "java/util/NoSuchElementException" ["java/lang/RuntimeException", "java/lang/Exception"]).filter goodWord)
def wsL_law0_r1 : List Cond := [Cond.classLink RL 8 RX11, Cond.instantiable RX11 5, Cond.initialized RX11, Cond.classLink RL 20 RX12, Cond.instantiable RX12 52, Cond.initialized RX12, Cond.arrayClass .long, Cond.methodLink RL 19 yX11_init, Cond.instanceMethod yX11_init, Cond.code yX11_init cX11_init 1 none, Cond.methodLink RX11 3 objectInit, Cond.instanceMethod objectInit, Cond.code objectInit ⟨#[0xb1]⟩ 1 none, Cond.classLink RX11 9 RX6, Cond.instantiable RX6 10, Cond.initialized RX6, Cond.fieldLink RX11 12 "RegisterMill" "program" "LRegisterMill$Program;", Cond.classLink RX11 16 RX0, Cond.instantiable RX0 3, Cond.initialized RX0, Cond.fieldLink RX11 21 "RegisterMill" "checker" "LRegisterMill$Checker;", Cond.classLink RX11 25 RX9, Cond.instantiable RX9 8, Cond.initialized RX9]
def wsL_law0_r2 : List Cond := [Cond.fieldLink RX11 28 "RegisterMill" "turner" "LRegisterMill$Turner;", Cond.classLink RX11 32 RX8, Cond.instantiable RX8 13, Cond.initialized RX8, Cond.fieldLink RX11 35 "RegisterMill" "stackMachine" "LRegisterMill$Machine;", Cond.classLink RX11 39 RX7, Cond.instantiable RX7 13, Cond.initialized RX7, Cond.fieldLink RX11 41 "RegisterMill$Turner" "code" "LRegisterMill$Code;", Cond.fieldLink RX11 48 "RegisterMill" "registerMachine" "LRegisterMill$Machine;", Cond.instanceMethod yX6_init, Cond.code yX6_init cX6_init 1 none, Cond.methodLink RX6 3 objectInit, Cond.arrayClass .int, Cond.fieldLink RX6 9 "RegisterMill$Program" "args" "[I", Cond.fieldLink RX6 15 "RegisterMill$Program" "locals" "[I", Cond.fieldLink RX6 18 "RegisterMill$Program" "starts" "[I", Cond.fieldLink RX6 21 "RegisterMill$Program" "lengths" "[I", Cond.fieldLink RX6 24 "RegisterMill$Program" "ops" "[I", Cond.fieldLink RX6 27 "RegisterMill$Program" "numbers" "[I", Cond.fieldLink RX6 30 "RegisterMill$Program" "depths" "[I", Cond.methodLink RX11 18 yX0_init, Cond.instanceMethod yX0_init, Cond.code yX0_init cX0_init 2 none]
def wsL_law0_r3 : List Cond := [Cond.methodLink RX0 3 objectInit, Cond.arrayClass .boolean, Cond.fieldLink RX0 9 "RegisterMill$Checker" "passed" "[Z", Cond.fieldLink RX0 15 "RegisterMill$Checker" "program" "LRegisterMill$Program;", Cond.methodLink RX11 27 yX9_init, Cond.instanceMethod yX9_init, Cond.code yX9_init cX9_init 2 none, Cond.methodLink RX9 3 objectInit, Cond.classLink RX9 9 RX5, Cond.instantiable RX5 10, Cond.initialized RX5, Cond.fieldLink RX9 12 "RegisterMill$Turner" "places" "LRegisterMill$Places;", Cond.classLink RX9 18 RX3, Cond.instantiable RX3 2, Cond.initialized RX3, Cond.fieldLink RX9 21 "RegisterMill$Turner" "live" "LRegisterMill$Live;", Cond.classLink RX9 25 RX2, Cond.instantiable RX2 6, Cond.initialized RX2, Cond.fieldLink RX9 28 "RegisterMill$Turner" "homes" "LRegisterMill$Homes;", Cond.classLink RX9 32 RX1, Cond.instantiable RX1 4, Cond.initialized RX1, Cond.fieldLink RX9 35 "RegisterMill$Turner" "code" "LRegisterMill$Code;"]
def wsL_law0_r4 : List Cond := [Cond.fieldLink RX9 39 "RegisterMill$Turner" "placeCounts" "[I", Cond.fieldLink RX9 43 "RegisterMill$Turner" "program" "LRegisterMill$Program;", Cond.classLink RX9 47 RX10, Cond.instantiable RX10 7, Cond.initialized RX10, Cond.fieldLink RX9 52 "RegisterMill$Turner" "writer" "LRegisterMill$Writer;", Cond.instanceMethod yX5_init, Cond.code yX5_init cX5_init 1 none, Cond.methodLink RX5 3 objectInit, Cond.fieldLink RX5 9 "RegisterMill$Places" "kinds" "[I", Cond.fieldLink RX5 15 "RegisterMill$Places" "numbers" "[I", Cond.fieldLink RX5 18 "RegisterMill$Places" "goals" "[I", Cond.fieldLink RX5 21 "RegisterMill$Places" "written" "[I", Cond.fieldLink RX5 24 "RegisterMill$Places" "readCounts" "[I", Cond.classLink RX5 27 "[[I", Cond.fieldLink RX5 29 "RegisterMill$Places" "reads" "[[I", Cond.fieldLink RX5 32 "RegisterMill$Places" "newNumbers" "[I", Cond.fieldLink RX5 35 "RegisterMill$Places" "blockStarts" "[Z", Cond.fieldLink RX5 39 "RegisterMill$Places" "copyOf" "[I", Cond.instanceMethod yX3_init, Cond.code yX3_init cX3_init 1 none, Cond.methodLink RX3 3 objectInit, Cond.fieldLink RX3 9 "RegisterMill$Live" "ahead" "[I", Cond.fieldLink RX3 15 "RegisterMill$Live" "behind" "[I"]
def wsL_law0_r5 : List Cond := [Cond.instanceMethod yX2_init, Cond.code yX2_init cX2_init 1 none, Cond.methodLink RX2 3 objectInit, Cond.fieldLink RX2 9 "RegisterMill$Homes" "firsts" "[I", Cond.fieldLink RX2 15 "RegisterMill$Homes" "lasts" "[I", Cond.fieldLink RX2 18 "RegisterMill$Homes" "registers" "[I", Cond.fieldLink RX2 21 "RegisterMill$Homes" "slotNumbers" "[I", Cond.fieldLink RX2 24 "RegisterMill$Homes" "slotCounts" "[I", Cond.fieldLink RX2 27 "RegisterMill$Homes" "holders" "[I", Cond.instanceMethod yX1_init, Cond.code yX1_init cX1_init 1 none, Cond.methodLink RX1 3 objectInit, Cond.fieldLink RX1 9 "RegisterMill$Code" "starts" "[I", Cond.fieldLink RX1 15 "RegisterMill$Code" "sizes" "[I", Cond.fieldLink RX1 18 "RegisterMill$Code" "parts" "[I", Cond.methodLink RX9 49 yX10_init, Cond.instanceMethod yX10_init, Cond.code yX10_init cX10_init 4 none, Cond.methodLink RX10 3 objectInit, Cond.fieldLink RX10 9 "RegisterMill$Writer" "firstOps" "[I", Cond.fieldLink RX10 15 "RegisterMill$Writer" "places" "LRegisterMill$Places;", Cond.fieldLink RX10 19 "RegisterMill$Writer" "homes" "LRegisterMill$Homes;", Cond.fieldLink RX10 23 "RegisterMill$Writer" "code" "LRegisterMill$Code;", Cond.methodLink RX11 34 yX8_init]
def wsL_law0_r6 : List Cond := [Cond.instanceMethod yX8_init, Cond.code yX8_init cX8_init 2 none, Cond.fieldLink RX8 9 "RegisterMill$StackMachine" "locals" "[I", Cond.fieldLink RX8 15 "RegisterMill$StackMachine" "stack" "[I", Cond.fieldLink RX8 18 "RegisterMill$StackMachine" "bottoms" "[I", Cond.fieldLink RX8 21 "RegisterMill$StackMachine" "program" "LRegisterMill$Program;", Cond.instanceMethod yX4_init, Cond.initialized RX4, Cond.code yX4_init cX4_init 1 none, Cond.methodLink RX4 3 objectInit, Cond.fieldLink RX4 9 "RegisterMill$Machine" "memory" "[I", Cond.fieldLink RX4 15 "RegisterMill$Machine" "funcs" "[I", Cond.fieldLink RX4 18 "RegisterMill$Machine" "nexts" "[I", Cond.methodLink RX11 45 yX7_init, Cond.instanceMethod yX7_init, Cond.code yX7_init cX7_init 2 none, Cond.fieldLink RX7 9 "RegisterMill$RegisterMachine" "registers" "[I", Cond.fieldLink RX7 15 "RegisterMill$RegisterMachine" "slotCells" "[I", Cond.fieldLink RX7 18 "RegisterMill$RegisterMachine" "passed" "[I", Cond.fieldLink RX7 21 "RegisterMill$RegisterMachine" "code" "LRegisterMill$Code;", Cond.methodLink RL 22 yX12_init, Cond.instanceMethod yX12_init, Cond.code yX12_init cX12_init 1 none, Cond.methodLink RX12 1 objectInit]
def wsL_law0_r7 : List Cond := [Cond.fieldLink RX12 7 "RegisterMillModel" "args" "[I", Cond.fieldLink RX12 13 "RegisterMillModel" "locals" "[I", Cond.fieldLink RX12 16 "RegisterMillModel" "wordsFrom" "[I", Cond.fieldLink RX12 19 "RegisterMillModel" "words" "[I", Cond.fieldLink RX12 22 "RegisterMillModel" "op" "[I", Cond.fieldLink RX12 25 "RegisterMillModel" "num" "[I", Cond.fieldLink RX12 28 "RegisterMillModel" "depth" "[I", Cond.fieldLink RX12 31 "RegisterMillModel" "gone" "[Z", Cond.fieldLink RX12 35 "RegisterMillModel" "does" "[I", Cond.fieldLink RX12 38 "RegisterMillModel" "with" "[I", Cond.fieldLink RX12 41 "RegisterMillModel" "value" "[I", Cond.fieldLink RX12 44 "RegisterMillModel" "told" "[I", Cond.fieldLink RX12 47 "RegisterMillModel" "became" "[I", Cond.fieldLink RX12 50 "RegisterMillModel" "ahead" "[I", Cond.fieldLink RX12 53 "RegisterMillModel" "begins" "[Z", Cond.fieldLink RX12 56 "RegisterMillModel" "copy" "[I", Cond.fieldLink RX12 59 "RegisterMillModel" "live" "[I", Cond.fieldLink RX12 62 "RegisterMillModel" "spanFrom" "[I", Cond.fieldLink RX12 65 "RegisterMillModel" "spanTo" "[I", Cond.fieldLink RX12 68 "RegisterMillModel" "register" "[I", Cond.fieldLink RX12 71 "RegisterMillModel" "slot" "[I", Cond.fieldLink RX12 74 "RegisterMillModel" "slots" "[I", Cond.fieldLink RX12 77 "RegisterMillModel" "placesOf" "[I", Cond.fieldLink RX12 80 "RegisterMillModel" "holds" "[Z"]
def wsL_law0_r8 : List Cond := [Cond.fieldLink RX12 83 "RegisterMillModel" "code" "[I", Cond.fieldLink RX12 86 "RegisterMillModel" "opsFrom" "[I", Cond.fieldLink RX12 89 "RegisterMillModel" "opsOf" "[I", Cond.fieldLink RX12 92 "RegisterMillModel" "first" "[I", Cond.fieldLink RX12 95 "RegisterMillModel" "memory" "[I", Cond.fieldLink RX12 98 "RegisterMillModel" "end" "[I", Cond.fieldLink RX12 101 "RegisterMillModel" "result" "[I", Cond.fieldLink RX12 104 "RegisterMillModel" "steps" "[I", Cond.fieldLink RX12 107 "RegisterMillModel" "made" "[I", Cond.fieldLink RX12 110 "RegisterMillModel" "calls" "[I", Cond.fieldLink RX12 113 "RegisterMillModel" "inFunc" "[I", Cond.fieldLink RX12 116 "RegisterMillModel" "pc" "[I", Cond.fieldLink RX12 119 "RegisterMillModel" "cell" "[I", Cond.fieldLink RX12 122 "RegisterMillModel" "top" "[I", Cond.fieldLink RX12 125 "RegisterMillModel" "inSlot" "[I", Cond.fieldLink RX12 128 "RegisterMillModel" "passed" "[I", Cond.fieldLink RX12 131 "RegisterMillModel" "passing" "[I", Cond.fieldLink RX12 134 "RegisterMillModel" "toldBy" "[I", Cond.methodLink RL 23 yX11_func, Cond.instanceMethod yX11_func, Cond.selects RX11 yX11_func yX11_func, Cond.code yX11_func cX11_func 4 (some .int), Cond.fieldLink RX11 51 "RegisterMill$Program" "checked" "Z", Cond.fieldLink RX11 55 "RegisterMill$Program" "funcs" "I"]
def wsL_law0_r9 : List Cond := [Cond.methodLink RX11 59 yX6_addFunc, Cond.instanceMethod yX6_addFunc, Cond.selects RX6 yX6_addFunc yX6_addFunc, Cond.code yX6_addFunc cX6_addFunc 3 (some .int), Cond.fieldLink RX6 33 "RegisterMill$Program" "funcs" "I", Cond.fieldLink RX6 37 "RegisterMill$Program" "words" "I", Cond.methodLink RL 26 yX12_func, Cond.instanceMethod yX12_func, Cond.selects RX12 yX12_func yX12_func, Cond.code yX12_func cX12_func 3 (some .int), Cond.fieldLink RX12 137 "RegisterMillModel" "thrown" "I", Cond.fieldLink RX12 141 "RegisterMillModel" "funcs" "I", Cond.fieldLink RX12 144 "RegisterMillModel" "isChecked" "Z", Cond.fieldLink RX12 148 "RegisterMillModel" "all" "I", Cond.methodLink RL 27 yX11_word, Cond.instanceMethod yX11_word, Cond.selects RX11 yX11_word yX11_word, Cond.code yX11_word cX11_word 3 (some .int), Cond.fieldLink RX11 63 "RegisterMill$Program" "words" "I", Cond.methodLink RX11 66 yX6_addWord, Cond.instanceMethod yX6_addWord, Cond.selects RX6 yX6_addWord yX6_addWord, Cond.code yX6_addWord cX6_addWord 4 (some .int), Cond.methodLink RL 30 yX12_word]
def wsL_law0_r10 : List Cond := [Cond.instanceMethod yX12_word, Cond.selects RX12 yX12_word yX12_word, Cond.code yX12_word cX12_word 3 (some .int), Cond.methodLink RL 31 yX11_check, Cond.instanceMethod yX11_check, Cond.selects RX11 yX11_check yX11_check, Cond.code yX11_check cX11_check 2 (some .int), Cond.methodLink RX11 69 yX0_firstFault, Cond.instanceMethod yX0_firstFault, Cond.selects RX0 yX0_firstFault yX0_firstFault, Cond.code yX0_firstFault cX0_firstFault 3 (some .int), Cond.fieldLink RX0 19 "RegisterMill$Program" "funcs" "I", Cond.fieldLink RX0 25 "RegisterMill$Program" "lengths" "[I", Cond.methodLink RX0 29 yX0_faultOfFunc, Cond.instanceMethod yX0_faultOfFunc, Cond.selects RX0 yX0_faultOfFunc yX0_faultOfFunc, Cond.code yX0_faultOfFunc cX0_faultOfFunc 7 (some .int), Cond.fieldLink RX0 33 "RegisterMill$Program" "starts" "[I", Cond.fieldLink RX0 36 "RegisterMill$Program" "depths" "[I", Cond.fieldLink RX0 39 "RegisterMill$Checker" "lowest" "I", Cond.methodLink RX0 42 yX0_leastWaiting, Cond.instanceMethod yX0_leastWaiting, Cond.selects RX0 yX0_leastWaiting yX0_leastWaiting, Cond.code yX0_leastWaiting cX0_leastWaiting 4 (some .int)]
def wsL_law0_r11 : List Cond := [Cond.methodLink RX0 46 yX0_faultOfWord, Cond.instanceMethod yX0_faultOfWord, Cond.selects RX0 yX0_faultOfWord yX0_faultOfWord, Cond.code yX0_faultOfWord cX0_faultOfWord 8 (some .int), Cond.fieldLink RX0 49 "RegisterMill$Program" "ops" "[I", Cond.fieldLink RX0 52 "RegisterMill$Program" "numbers" "[I", Cond.methodLink RX0 55 yX0_isFormed, Cond.instanceMethod yX0_isFormed, Cond.selects RX0 yX0_isFormed yX0_isFormed, Cond.code yX0_isFormed cX0_isFormed 4 (some .boolean), Cond.fieldLink RX0 68 "RegisterMill$Program" "locals" "[I", Cond.methodLink RX0 71 yX6_hasFunc, Cond.instanceMethod yX6_hasFunc, Cond.selects RX6 yX6_hasFunc yX6_hasFunc, Cond.code yX6_hasFunc cX6_hasFunc 2 (some .boolean), Cond.methodLink RX0 59 yX6_takes, Cond.instanceMethod yX6_takes, Cond.selects RX6 yX6_takes yX6_takes, Cond.code yX6_takes cX6_takes 3 (some .int), Cond.methodLink RX0 65 yX0_reach, Cond.instanceMethod yX0_reach, Cond.selects RX0 yX0_reach yX0_reach, Cond.code yX0_reach cX0_reach 5 (some .boolean), Cond.methodLink RX0 75 Lib.Math.min.name]
def wsL_law0_r12 : List Cond := [Cond.static Lib.Math.min.name, Cond.initialized "java/lang/Math", Cond.code Lib.Math.min.name Lib.Math.min.code 2 (some .int), Cond.methodLink RL 35 yX12_check, Cond.instanceMethod yX12_check, Cond.selects RX12 yX12_check yX12_check, Cond.code yX12_check cX12_check 3 (some .int), Cond.methodLink RX12 155 yX12_checks, Cond.instanceMethod yX12_checks, Cond.selects RX12 yX12_checks yX12_checks, Cond.code yX12_checks cX12_checks 5 (some .int), Cond.methodLink RX12 162 yX12_looksAt, Cond.instanceMethod yX12_looksAt, Cond.selects RX12 yX12_looksAt yX12_looksAt, Cond.code yX12_looksAt cX12_looksAt 8 (some .int), Cond.methodLink RX12 165 yX12_isTold, Cond.instanceMethod yX12_isTold, Cond.selects RX12 yX12_isTold yX12_isTold, Cond.code yX12_isTold cX12_isTold 4 (some .boolean), Cond.methodLink RX12 151 yX12_takes, Cond.instanceMethod yX12_takes, Cond.selects RX12 yX12_takes yX12_takes, Cond.code yX12_takes cX12_takes 3 (some .int), Cond.methodLink RX12 169 yX12_behind]
def wsL_law0_r13 : List Cond := [Cond.instanceMethod yX12_behind, Cond.selects RX12 yX12_behind yX12_behind, Cond.code yX12_behind cX12_behind 5 (some .int), Cond.methodLink RX12 173 yX12_comes, Cond.instanceMethod yX12_comes, Cond.selects RX12 yX12_comes yX12_comes, Cond.code yX12_comes cX12_comes 5 (some .int), Cond.methodLink RX12 159 yX12_begin, Cond.instanceMethod yX12_begin, Cond.selects RX12 yX12_begin yX12_begin, Cond.code yX12_begin cX12_begin 2 none, Cond.methodLink RL 36 yX11_depth, Cond.instanceMethod yX11_depth, Cond.selects RX11 yX11_depth yX11_depth, Cond.code yX11_depth cX11_depth 3 (some .int), Cond.fieldLink RX11 77 "RegisterMill$Program" "lengths" "[I", Cond.fieldLink RX11 81 "RegisterMill$Program" "depths" "[I", Cond.fieldLink RX11 84 "RegisterMill$Program" "starts" "[I", Cond.methodLink RX11 73 yX6_hasFunc, Cond.methodLink RL 39 yX12_depth, Cond.instanceMethod yX12_depth, Cond.selects RX12 yX12_depth yX12_depth, Cond.code yX12_depth cX12_depth 3 (some .int), Cond.methodLink RL 40 yX11_clear]
def wsL_law0_r14 : List Cond := [Cond.instanceMethod yX11_clear, Cond.selects RX11 yX11_clear yX11_clear, Cond.code yX11_clear cX11_clear 1 none, Cond.fieldLink RX11 90 "RegisterMill$Turner" "registers" "I", Cond.fieldLink RX11 96 "RegisterMill$Machine" "memory" "[I", Cond.methodLink RX11 87 yX6_empty, Cond.instanceMethod yX6_empty, Cond.selects RX6 yX6_empty yX6_empty, Cond.code yX6_empty cX6_empty 1 none, Cond.fieldLink RX6 40 "RegisterMill$Program" "checked" "Z", Cond.methodLink RX11 93 yX11_beginMachines, Cond.instanceMethod yX11_beginMachines, Cond.selects RX11 yX11_beginMachines yX11_beginMachines, Cond.code yX11_beginMachines cX11_beginMachines 1 none, Cond.methodLink RX11 168 ⟨"RegisterMill$Machine", "begin", "()V"⟩, Cond.sameMethod "RegisterMill$Machine" "RegisterMill$Machine" "begin" "()V", Cond.instanceMethod ⟨"RegisterMill$Machine", "begin", "()V"⟩, Cond.selects RX7 ⟨"RegisterMill$Machine", "begin", "()V"⟩ yX7_begin, Cond.instanceMethod yX7_begin, Cond.code yX7_begin cX7_begin 1 none, Cond.fieldLink RX7 28 "RegisterMill$RegisterMachine" "answered" "I", Cond.methodLink RX7 25 yX4_begin, Cond.superclass RX7 RX4, Cond.instanceMethod yX4_begin]
def wsL_law0_r15 : List Cond := [Cond.code yX4_begin cX4_begin 1 none, Cond.fieldLink RX4 21 "RegisterMill$Machine" "end" "I", Cond.fieldLink RX4 25 "RegisterMill$Machine" "told" "I", Cond.fieldLink RX4 28 "RegisterMill$Machine" "steps" "I", Cond.fieldLink RX4 31 "RegisterMill$Machine" "calls" "I", Cond.fieldLink RX4 34 "RegisterMill$Machine" "nested" "I", Cond.methodLink RX7 32 yJ7_fill_53178, Cond.static yJ7_fill_53178, Cond.initialized RJ7, Cond.code yJ7_fill_53178 cJ7_fill_53178 4 none, Cond.selects RX8 ⟨"RegisterMill$Machine", "begin", "()V"⟩ yX8_begin, Cond.instanceMethod yX8_begin, Cond.code yX8_begin cX8_begin 1 none, Cond.fieldLink RX8 28 "RegisterMill$StackMachine" "top" "I", Cond.methodLink RX8 25 yX4_begin, Cond.superclass RX8 RX4, Cond.methodLink RX11 101 yJ7_fill_53178, Cond.methodLink RL 43 yX12_clear, Cond.instanceMethod yX12_clear, Cond.selects RX12 yX12_clear yX12_clear, Cond.code yX12_clear cX12_clear 2 none, Cond.fieldLink RX12 268 "RegisterMillModel" "isTurned" "Z", Cond.methodLink RL 44 yX11_turn, Cond.instanceMethod yX11_turn]
def wsL_law0_r16 : List Cond := [Cond.selects RX11 yX11_turn yX11_turn, Cond.code yX11_turn cX11_turn 3 (some .int), Cond.fieldLink RX11 114 "RegisterMill$Code" "total" "I", Cond.methodLink RX11 107 yX9_begin, Cond.instanceMethod yX9_begin, Cond.selects RX9 yX9_begin yX9_begin, Cond.code yX9_begin cX9_begin 2 none, Cond.fieldLink RX9 56 "RegisterMill$Turner" "registers" "I", Cond.fieldLink RX9 60 "RegisterMill$Code" "total" "I", Cond.methodLink RX11 111 yX9_turnFunc, Cond.instanceMethod yX9_turnFunc, Cond.selects RX9 yX9_turnFunc yX9_turnFunc, Cond.code yX9_turnFunc cX9_turnFunc 2 none, Cond.fieldLink RX9 73 "RegisterMill$Places" "total" "I", Cond.fieldLink RX9 82 "RegisterMill$Live" "ahead" "[I", Cond.methodLink RX9 63 yX5_build, Cond.instanceMethod yX5_build, Cond.selects RX5 yX5_build yX5_build, Cond.code yX5_build cX5_build 5 none, Cond.fieldLink RX5 42 "RegisterMill$Places" "total" "I", Cond.fieldLink RX5 46 "RegisterMill$Program" "starts" "[I", Cond.fieldLink RX5 51 "RegisterMill$Program" "lengths" "[I", Cond.fieldLink RX5 54 "RegisterMill$Program" "depths" "[I", Cond.fieldLink RX5 57 "RegisterMill$Program" "locals" "[I"]
def wsL_law0_r17 : List Cond := [Cond.methodLink RX5 60 yX5_become, Cond.instanceMethod yX5_become, Cond.selects RX5 yX5_become yX5_become, Cond.code yX5_become cX5_become 6 none, Cond.fieldLink RX5 67 "RegisterMill$Program" "numbers" "[I", Cond.fieldLink RX5 68 "RegisterMill$Program" "ops" "[I", Cond.fieldLink RX5 82 "RegisterMill$Program" "args" "[I", Cond.methodLink RX5 71 yX5_add, Cond.instanceMethod yX5_add, Cond.selects RX5 yX5_add yX5_add, Cond.code yX5_add cX5_add 4 none, Cond.methodLink RX5 75 yX5_addReading, Cond.instanceMethod yX5_addReading, Cond.selects RX5 yX5_addReading yX5_addReading, Cond.code yX5_addReading cX5_addReading 4 none, Cond.methodLink RX5 78 yX5_addRead, Cond.instanceMethod yX5_addRead, Cond.selects RX5 yX5_addRead yX5_addRead, Cond.code yX5_addRead cX5_addRead 3 none, Cond.methodLink RX5 85 yX5_addCall, Cond.instanceMethod yX5_addCall, Cond.selects RX5 yX5_addCall yX5_addCall, Cond.code yX5_addCall cX5_addCall 5 none, Cond.methodLink RX5 64 yX5_aimAnew]
def wsL_law0_r18 : List Cond := [Cond.instanceMethod yX5_aimAnew, Cond.selects RX5 yX5_aimAnew yX5_aimAnew, Cond.code yX5_aimAnew cX5_aimAnew 2 none, Cond.methodLink RX5 88 yX5_jumps, Cond.instanceMethod yX5_jumps, Cond.selects RX5 yX5_jumps yX5_jumps, Cond.code yX5_jumps cX5_jumps 2 (some .boolean), Cond.methodLink RX9 67 yX5_forward, Cond.instanceMethod yX5_forward, Cond.selects RX5 yX5_forward yX5_forward, Cond.code yX5_forward cX5_forward 2 none, Cond.methodLink RX5 96 yX5_markBlockStarts, Cond.instanceMethod yX5_markBlockStarts, Cond.selects RX5 yX5_markBlockStarts yX5_markBlockStarts, Cond.code yX5_markBlockStarts cX5_markBlockStarts 2 none, Cond.methodLink RX5 99 yJ7_fill_53178, Cond.methodLink RX5 105 yX5_forwardReads, Cond.instanceMethod yX5_forwardReads, Cond.selects RX5 yX5_forwardReads yX5_forwardReads, Cond.code yX5_forwardReads cX5_forwardReads 4 none, Cond.methodLink RX5 108 yX5_writtenSet, Cond.instanceMethod yX5_writtenSet, Cond.selects RX5 yX5_writtenSet yX5_writtenSet, Cond.code yX5_writtenSet cX5_writtenSet 2 (some .int)]
def wsL_law0_r19 : List Cond := [Cond.methodLink RX5 92 yX5_readSet, Cond.instanceMethod yX5_readSet, Cond.selects RX5 yX5_readSet yX5_readSet, Cond.code yX5_readSet cX5_readSet 4 (some .int), Cond.methodLink RX5 111 yX5_forgetWritten, Cond.instanceMethod yX5_forgetWritten, Cond.selects RX5 yX5_forgetWritten yX5_forgetWritten, Cond.code yX5_forgetWritten cX5_forgetWritten 4 none, Cond.methodLink RX9 70 yX9_leaveOut, Cond.instanceMethod yX9_leaveOut, Cond.selects RX9 yX9_leaveOut yX9_leaveOut, Cond.code yX9_leaveOut cX9_leaveOut 3 none, Cond.methodLink RX9 91 yX3_find, Cond.instanceMethod yX3_find, Cond.selects RX3 yX3_find yX3_find, Cond.code yX3_find cX3_find 4 none, Cond.fieldLink RX3 24 "RegisterMill$Places" "total" "I", Cond.methodLink RX3 18 yJ7_fill_53178, Cond.methodLink RX3 30 yX3_growBackwards, Cond.instanceMethod yX3_growBackwards, Cond.selects RX3 yX3_growBackwards yX3_growBackwards, Cond.code yX3_growBackwards cX3_growBackwards 6 (some .boolean), Cond.fieldLink RX3 41 "RegisterMill$Places" "goals" "[I", Cond.methodLink RX3 34 yX5_goesToNext]
def wsL_law0_r20 : List Cond := [Cond.instanceMethod yX5_goesToNext, Cond.selects RX5 yX5_goesToNext yX5_goesToNext, Cond.code yX5_goesToNext cX5_goesToNext 2 (some .boolean), Cond.methodLink RX3 38 yX5_jumps, Cond.methodLink RX3 44 yX5_readSet, Cond.methodLink RX3 48 yX5_writtenSet, Cond.methodLink RX9 95 yX5_dropUseless, Cond.instanceMethod yX5_dropUseless, Cond.selects RX5 yX5_dropUseless yX5_dropUseless, Cond.code yX5_dropUseless cX5_dropUseless 4 (some .boolean), Cond.methodLink RX5 114 yX5_isUseless, Cond.instanceMethod yX5_isUseless, Cond.selects RX5 yX5_isUseless yX5_isUseless, Cond.code yX5_isUseless cX5_isUseless 4 (some .boolean), Cond.fieldLink RX5 122 "RegisterMill$Live" "behind" "[I", Cond.methodLink RX5 118 yX5_copyPlace, Cond.instanceMethod yX5_copyPlace, Cond.selects RX5 yX5_copyPlace yX5_copyPlace, Cond.code yX5_copyPlace cX5_copyPlace 4 none, Cond.methodLink RX9 74 yX2_give, Cond.instanceMethod yX2_give, Cond.selects RX2 yX2_give yX2_give, Cond.code yX2_give cX2_give 8 none, Cond.fieldLink RX2 34 "RegisterMill$Places" "total" "I"]
def wsL_law0_r21 : List Cond := [Cond.fieldLink RX2 40 "RegisterMill$Live" "ahead" "[I", Cond.methodLink RX2 30 yX2_forget, Cond.instanceMethod yX2_forget, Cond.selects RX2 yX2_forget yX2_forget, Cond.code yX2_forget cX2_forget 3 none, Cond.methodLink RX2 59 yJ7_fill_53178, Cond.methodLink RX2 45 yX5_readSet, Cond.methodLink RX2 49 yX5_writtenSet, Cond.methodLink RX2 52 yX2_widen, Cond.instanceMethod yX2_widen, Cond.selects RX2 yX2_widen yX2_widen, Cond.code yX2_widen cX2_widen 5 none, Cond.methodLink RX2 56 yX2_giveOne, Cond.instanceMethod yX2_giveOne, Cond.selects RX2 yX2_giveOne yX2_giveOne, Cond.code yX2_giveOne cX2_giveOne 7 none, Cond.methodLink RX2 65 yX2_giveBack, Cond.instanceMethod yX2_giveBack, Cond.selects RX2 yX2_giveBack yX2_giveBack, Cond.code yX2_giveBack cX2_giveBack 5 none, Cond.methodLink RX2 68 yX2_longestWith, Cond.instanceMethod yX2_longestWith, Cond.selects RX2 yX2_longestWith yX2_longestWith, Cond.code yX2_longestWith cX2_longestWith 8 (some .int)]
def wsL_law0_r22 : List Cond := [Cond.methodLink RX9 78 yX10_begin, Cond.instanceMethod yX10_begin, Cond.selects RX10 yX10_begin yX10_begin, Cond.code yX10_begin cX10_begin 3 none, Cond.fieldLink RX10 27 "RegisterMill$Writer" "func" "I", Cond.fieldLink RX10 31 "RegisterMill$Writer" "spareA" "I", Cond.fieldLink RX10 34 "RegisterMill$Writer" "spareB" "I", Cond.fieldLink RX10 37 "RegisterMill$Places" "total" "I", Cond.methodLink RX10 42 yX1_open, Cond.instanceMethod yX1_open, Cond.selects RX1 yX1_open yX1_open, Cond.code yX1_open cX1_open 4 none, Cond.fieldLink RX1 21 "RegisterMill$Code" "total" "I", Cond.methodLink RX1 25 Lib.Math.max.name, Cond.static Lib.Math.max.name, Cond.code Lib.Math.max.name Lib.Math.max.code 2 (some .int), Cond.methodLink RX1 31 yJ7_copyOf_59c91, Cond.static yJ7_copyOf_59c91, Cond.code yJ7_copyOf_59c91 cJ7_copyOf_59c91 3 (some (.array .int)), Cond.methodLink RJ7 316 ⟨"[I", "clone", "()Ljava/lang/Object;"⟩, Cond.sameMethod "[I" "java/lang/Object" "clone" "()Ljava/lang/Object;", Cond.native ⟨"java/lang/Object", "clone", "()Ljava/lang/Object;"⟩, Cond.instanceMethod ⟨"java/lang/Object", "clone", "()Ljava/lang/Object;"⟩, Cond.selects "[I" ⟨"[I", "clone", "()Ljava/lang/Object;"⟩ ⟨"java/lang/Object", "clone", "()Ljava/lang/Object;"⟩]
def wsL_law0_r23 : List Cond := [Cond.classLink RJ7 317 "[I", Cond.methodLink RJ7 304 Lib.Math.min.name, Cond.methodLink RJ7 150 arraycopyName, Cond.native arraycopyName, Cond.static arraycopyName, Cond.initialized "java/lang/System", Cond.methodLink RX9 85 yX10_writeEntry, Cond.instanceMethod yX10_writeEntry, Cond.selects RX10 yX10_writeEntry yX10_writeEntry, Cond.code yX10_writeEntry cX10_writeEntry 4 none, Cond.fieldLink RX10 48 "RegisterMill$Program" "locals" "[I", Cond.fieldLink RX10 53 "RegisterMill$Program" "args" "[I", Cond.methodLink RX10 56 yX10_target, Cond.instanceMethod yX10_target, Cond.selects RX10 yX10_target yX10_target, Cond.code yX10_target cX10_target 2 (some .int), Cond.methodLink RX10 120 yX2_slotOf, Cond.instanceMethod yX2_slotOf, Cond.selects RX2 yX2_slotOf yX2_slotOf, Cond.code yX2_slotOf cX2_slotOf 3 (some .int), Cond.methodLink RX10 125 yX2_registerOf, Cond.instanceMethod yX2_registerOf, Cond.selects RX2 yX2_registerOf yX2_registerOf, Cond.code yX2_registerOf cX2_registerOf 3 (some .int)]
def wsL_law0_r24 : List Cond := [Cond.methodLink RX10 60 yX1_add, Cond.instanceMethod yX1_add, Cond.selects RX1 yX1_add yX1_add, Cond.code yX1_add cX1_add 6 none, Cond.methodLink RX10 64 yX10_saveTarget, Cond.instanceMethod yX10_saveTarget, Cond.selects RX10 yX10_saveTarget yX10_saveTarget, Cond.code yX10_saveTarget cX10_saveTarget 3 none, Cond.methodLink RX9 88 yX10_writePlaces, Cond.instanceMethod yX10_writePlaces, Cond.selects RX10 yX10_writePlaces yX10_writePlaces, Cond.code yX10_writePlaces cX10_writePlaces 2 none, Cond.fieldLink RX10 68 "RegisterMill$Code" "sizes" "[I", Cond.methodLink RX10 71 yX10_writePlace, Cond.instanceMethod yX10_writePlace, Cond.selects RX10 yX10_writePlace yX10_writePlace, Cond.code yX10_writePlace cX10_writePlace 2 none, Cond.fieldLink RX10 78 "RegisterMill$Places" "kinds" "[I", Cond.fieldLink RX10 81 "RegisterMill$Places" "written" "[I", Cond.fieldLink RX10 84 "RegisterMill$Places" "numbers" "[I", Cond.fieldLink RX10 87 "RegisterMill$Places" "reads" "[[I", Cond.fieldLink RX10 100 "RegisterMill$Places" "goals" "[I", Cond.methodLink RX10 91 yX10_writeMove, Cond.instanceMethod yX10_writeMove]
def wsL_law0_r25 : List Cond := [Cond.selects RX10 yX10_writeMove yX10_writeMove, Cond.code yX10_writeMove cX10_writeMove 5 none, Cond.methodLink RX10 128 yX10_moveInto, Cond.instanceMethod yX10_moveInto, Cond.selects RX10 yX10_moveInto yX10_moveInto, Cond.code yX10_moveInto cX10_moveInto 4 none, Cond.methodLink RX10 94 yX10_writeWork, Cond.instanceMethod yX10_writeWork, Cond.selects RX10 yX10_writeWork yX10_writeWork, Cond.code yX10_writeWork cX10_writeWork 5 none, Cond.methodLink RX10 103 yX10_loaded, Cond.instanceMethod yX10_loaded, Cond.selects RX10 yX10_loaded yX10_loaded, Cond.code yX10_loaded cX10_loaded 4 (some .int), Cond.methodLink RX10 116 yX1_addWork, Cond.instanceMethod yX1_addWork, Cond.selects RX1 yX1_addWork yX1_addWork, Cond.code yX1_addWork cX1_addWork 7 none, Cond.methodLink RX1 37 yX1_add, Cond.methodLink RX10 97 yX10_writeSwap, Cond.instanceMethod yX10_writeSwap, Cond.selects RX10 yX10_writeSwap yX10_writeSwap, Cond.code yX10_writeSwap cX10_writeSwap 4 none, Cond.methodLink RX10 131 yX10_moveFrom]
def wsL_law0_r26 : List Cond := [Cond.instanceMethod yX10_moveFrom, Cond.selects RX10 yX10_moveFrom yX10_moveFrom, Cond.code yX10_moveFrom cX10_moveFrom 4 none, Cond.methodLink RX10 107 yX10_writeRead, Cond.instanceMethod yX10_writeRead, Cond.selects RX10 yX10_writeRead yX10_writeRead, Cond.code yX10_writeRead cX10_writeRead 4 none, Cond.methodLink RX10 110 yX10_writeWrite, Cond.instanceMethod yX10_writeWrite, Cond.selects RX10 yX10_writeWrite yX10_writeWrite, Cond.code yX10_writeWrite cX10_writeWrite 5 none, Cond.methodLink RX10 113 yX10_writeCall, Cond.instanceMethod yX10_writeCall, Cond.selects RX10 yX10_writeCall yX10_writeCall, Cond.code yX10_writeCall cX10_writeCall 3 none, Cond.fieldLink RX10 134 "RegisterMill$Places" "readCounts" "[I", Cond.methodLink RX10 74 yX1_aim, Cond.instanceMethod yX1_aim, Cond.selects RX1 yX1_aim yX1_aim, Cond.code yX1_aim cX1_aim 5 none, Cond.methodLink RL 48 yX12_turn, Cond.instanceMethod yX12_turn, Cond.selects RX12 yX12_turn yX12_turn, Cond.code yX12_turn cX12_turn 3 (some .int)]
def wsL_law0_r27 : List Cond := [Cond.fieldLink RX12 228 "RegisterMillModel" "isTooMuch" "Z", Cond.fieldLink RX12 222 "RegisterMillModel" "\x72" "I", Cond.fieldLink RX12 225 "RegisterMillModel" "ops" "I", Cond.fieldLink RX12 176 "RegisterMillModel" "places" "I", Cond.methodLink RX12 271 yX12_lays, Cond.instanceMethod yX12_lays, Cond.selects RX12 yX12_lays yX12_lays, Cond.code yX12_lays cX12_lays 4 none, Cond.methodLink RX12 179 yX12_lay, Cond.instanceMethod yX12_lay, Cond.selects RX12 yX12_lay yX12_lay, Cond.code yX12_lay cX12_lay 6 none, Cond.methodLink RX12 187 yX12_place, Cond.instanceMethod yX12_place, Cond.selects RX12 yX12_place yX12_place, Cond.code yX12_place cX12_place 3 none, Cond.methodLink RX12 191 yX12_tells, Cond.instanceMethod yX12_tells, Cond.selects RX12 yX12_tells yX12_tells, Cond.code yX12_tells cX12_tells 2 none, Cond.methodLink RX12 183 yX12_isJump, Cond.static yX12_isJump, Cond.code yX12_isJump cX12_isJump 1 (some .boolean), Cond.methodLink RX12 274 yX12_forwards]
def wsL_law0_r28 : List Cond := [Cond.instanceMethod yX12_forwards, Cond.selects RX12 yX12_forwards yX12_forwards, Cond.code yX12_forwards cX12_forwards 3 none, Cond.methodLink RX12 195 yX12_forward, Cond.instanceMethod yX12_forward, Cond.selects RX12 yX12_forward yX12_forward, Cond.code yX12_forward cX12_forward 5 none, Cond.methodLink RX12 198 yX12_writes, Cond.static yX12_writes, Cond.code yX12_writes cX12_writes 1 (some .boolean), Cond.methodLink RX12 201 yX12_forgets, Cond.instanceMethod yX12_forgets, Cond.selects RX12 yX12_forgets yX12_forgets, Cond.code yX12_forgets cX12_forgets 3 none, Cond.methodLink RX12 277 yX12_leavesOut, Cond.instanceMethod yX12_leavesOut, Cond.selects RX12 yX12_leavesOut yX12_leavesOut, Cond.code yX12_leavesOut cX12_leavesOut 4 none, Cond.methodLink RX12 210 yX12_lives, Cond.instanceMethod yX12_lives, Cond.selects RX12 yX12_lives yX12_lives, Cond.code yX12_lives cX12_lives 4 none, Cond.methodLink RX12 207 yX12_liveAhead, Cond.instanceMethod yX12_liveAhead]
def wsL_law0_r29 : List Cond := [Cond.selects RX12 yX12_liveAhead yX12_liveAhead, Cond.code yX12_liveAhead cX12_liveAhead 5 (some .int), Cond.methodLink RX12 204 yX12_liveBehind, Cond.instanceMethod yX12_liveBehind, Cond.selects RX12 yX12_liveBehind yX12_liveBehind, Cond.code yX12_liveBehind cX12_liveBehind 4 (some .int), Cond.methodLink RX12 213 yX12_isLeftOut, Cond.instanceMethod yX12_isLeftOut, Cond.selects RX12 yX12_isLeftOut yX12_isLeftOut, Cond.code yX12_isLeftOut cX12_isLeftOut 3 (some .boolean), Cond.methodLink RX12 216 yX12_closesUp, Cond.instanceMethod yX12_closesUp, Cond.selects RX12 yX12_closesUp yX12_closesUp, Cond.code yX12_closesUp cX12_closesUp 5 none, Cond.methodLink RX12 280 yX12_spans, Cond.instanceMethod yX12_spans, Cond.selects RX12 yX12_spans yX12_spans, Cond.code yX12_spans cX12_spans 5 none, Cond.methodLink RX12 219 yX12_scans, Cond.instanceMethod yX12_scans, Cond.selects RX12 yX12_scans yX12_scans, Cond.code yX12_scans cX12_scans 9 none, Cond.methodLink RX12 283 yX12_codes, Cond.instanceMethod yX12_codes]
def wsL_law0_r30 : List Cond := [Cond.selects RX12 yX12_codes yX12_codes, Cond.code yX12_codes cX12_codes 3 none, Cond.fieldLink RX12 231 "RegisterMillModel" "now" "I", Cond.methodLink RX12 244 yX12_written, Cond.instanceMethod yX12_written, Cond.selects RX12 yX12_written yX12_written, Cond.code yX12_written cX12_written 2 (some .int), Cond.methodLink RX12 234 yX12_slotOf, Cond.instanceMethod yX12_slotOf, Cond.selects RX12 yX12_slotOf yX12_slotOf, Cond.code yX12_slotOf cX12_slotOf 2 (some .int), Cond.methodLink RX12 237 yX12_registerOf, Cond.instanceMethod yX12_registerOf, Cond.selects RX12 yX12_registerOf yX12_registerOf, Cond.code yX12_registerOf cX12_registerOf 2 (some .int), Cond.methodLink RX12 240 yX12_emit, Cond.instanceMethod yX12_emit, Cond.selects RX12 yX12_emit yX12_emit, Cond.code yX12_emit cX12_emit 6 none, Cond.methodLink RX12 247 yX12_saved, Cond.instanceMethod yX12_saved, Cond.selects RX12 yX12_saved yX12_saved, Cond.code yX12_saved cX12_saved 2 none, Cond.methodLink RX12 250 yX12_codePlace]
def wsL_law0_r31 : List Cond := [Cond.instanceMethod yX12_codePlace, Cond.selects RX12 yX12_codePlace yX12_codePlace, Cond.code yX12_codePlace cX12_codePlace 10 none, Cond.methodLink RX12 253 yX12_moves, Cond.instanceMethod yX12_moves, Cond.selects RX12 yX12_moves yX12_moves, Cond.code yX12_moves cX12_moves 3 none, Cond.methodLink RX12 256 yX12_read, Cond.instanceMethod yX12_read, Cond.selects RX12 yX12_read yX12_read, Cond.code yX12_read cX12_read 3 (some .int), Cond.methodLink RX12 259 yX12_swaps, Cond.instanceMethod yX12_swaps, Cond.selects RX12 yX12_swaps yX12_swaps, Cond.code yX12_swaps cX12_swaps 5 none, Cond.methodLink RX12 262 yX12_into, Cond.instanceMethod yX12_into, Cond.selects RX12 yX12_into yX12_into, Cond.code yX12_into cX12_into 3 none, Cond.methodLink RX12 265 yX12_outOf, Cond.instanceMethod yX12_outOf, Cond.selects RX12 yX12_outOf yX12_outOf, Cond.code yX12_outOf cX12_outOf 3 none, Cond.methodLink RL 49 yL_op]
def wsL_law0_r32 : List Cond := [Cond.static yL_op, Cond.initialized RL, Cond.codeWith yL_op cL_op 6 (some .int) [(0, 12, 15, 13)], Cond.classLink RL 13 "java/util/NoSuchElementException", Cond.methodLink RL 7 yX11_op, Cond.instanceMethod yX11_op, Cond.selects RX11 yX11_op yX11_op, Cond.code yX11_op cX11_op 4 (some .int), Cond.classLink RX11 125 "java/util/NoSuchElementException", Cond.initialized "java/util/NoSuchElementException", Cond.fieldLink RX11 122 "RegisterMill$Code" "sizes" "[I", Cond.methodLink RX11 119 yX11_isTurned, Cond.instanceMethod yX11_isTurned, Cond.selects RX11 yX11_isTurned yX11_isTurned, Cond.code yX11_isTurned cX11_isTurned 2 (some .boolean), Cond.methodLink RX11 134 yX1_part, Cond.instanceMethod yX1_part, Cond.selects RX1 yX1_part yX1_part, Cond.code yX1_part cX1_part 4 (some .int), Cond.methodLink RL 54 yX12_op, Cond.instanceMethod yX12_op, Cond.selects RX12 yX12_op yX12_op, Cond.code yX12_op cX12_op 4 (some .int), Cond.methodLink RL 55 yX12_thrown]
def wsL_law0_r33 : List Cond := [Cond.instanceMethod yX12_thrown, Cond.selects RX12 yX12_thrown yX12_thrown, Cond.code yX12_thrown cX12_thrown 1 (some .int), Cond.methodLink RL 58 yX11_size, Cond.instanceMethod yX11_size, Cond.selects RX11 yX11_size yX11_size, Cond.code yX11_size cX11_size 2 (some .int), Cond.methodLink RL 61 yX12_size, Cond.instanceMethod yX12_size, Cond.selects RX12 yX12_size yX12_size, Cond.code yX12_size cX12_size 2 (some .int), Cond.methodLink RX12 335 yX12_isFunc, Cond.instanceMethod yX12_isFunc, Cond.selects RX12 yX12_isFunc yX12_isFunc, Cond.code yX12_isFunc cX12_isFunc 2 (some .boolean), Cond.methodLink RL 62 yX11_value, Cond.instanceMethod yX11_value, Cond.selects RX11 yX11_value yX11_value, Cond.code yX11_value cX11_value 4 (some .int), Cond.fieldLink RX11 138 "RegisterMill$Program" "locals" "[I", Cond.fieldLink RX11 141 "RegisterMill$Turner" "homes" "LRegisterMill$Homes;", Cond.methodLink RX11 145 yX2_tell, Cond.instanceMethod yX2_tell, Cond.selects RX2 yX2_tell yX2_tell]
def wsL_law0_r34 : List Cond := [Cond.code yX2_tell cX2_tell 5 (some .int), Cond.methodLink RL 65 yX12_value, Cond.instanceMethod yX12_value, Cond.selects RX12 yX12_value yX12_value, Cond.code yX12_value cX12_value 5 (some .int), Cond.methodLink RL 66 yX11_slots, Cond.instanceMethod yX11_slots, Cond.selects RX11 yX11_slots yX11_slots, Cond.code yX11_slots cX11_slots 2 (some .int), Cond.fieldLink RX11 150 "RegisterMill$Homes" "slotCounts" "[I", Cond.methodLink RL 69 yX12_slots, Cond.instanceMethod yX12_slots, Cond.selects RX12 yX12_slots yX12_slots, Cond.code yX12_slots cX12_slots 2 (some .int), Cond.methodLink RL 70 yX11_places, Cond.instanceMethod yX11_places, Cond.selects RX11 yX11_places yX11_places, Cond.code yX11_places cX11_places 2 (some .int), Cond.fieldLink RX11 153 "RegisterMill$Turner" "placeCounts" "[I", Cond.methodLink RL 73 yX12_places, Cond.instanceMethod yX12_places, Cond.selects RX12 yX12_places yX12_places, Cond.code yX12_places cX12_places 2 (some .int), Cond.methodLink RL 74 yX11_cell]
def wsL_law0_r35 : List Cond := [Cond.instanceMethod yX11_cell, Cond.selects RX11 yX11_cell yX11_cell, Cond.code yX11_cell cX11_cell 3 (some .boolean), Cond.methodLink RL 78 yX12_cell, Cond.instanceMethod yX12_cell, Cond.selects RX12 yX12_cell yX12_cell, Cond.code yX12_cell cX12_cell 3 (some .boolean), Cond.methodLink RX12 317 yX12_isCell, Cond.static yX12_isCell, Cond.code yX12_isCell cX12_isCell 1 (some .boolean), Cond.methodLink RL 79 yX11_again, Cond.instanceMethod yX11_again, Cond.selects RX11 yX11_again yX11_again, Cond.code yX11_again cX11_again 1 (some .boolean), Cond.methodLink RL 83 yX12_again, Cond.instanceMethod yX12_again, Cond.selects RX12 yX12_again yX12_again, Cond.code yX12_again cX12_again 1 (some .boolean), Cond.methodLink RL 84 yX11_runStack, Cond.instanceMethod yX11_runStack, Cond.selects RX11 yX11_runStack yX11_runStack, Cond.code yX11_runStack cX11_runStack 2 (some .int), Cond.methodLink RX11 156 ⟨"RegisterMill$Machine", "goOn", "(I)I"⟩, Cond.sameMethod "RegisterMill$Machine" "RegisterMill$Machine" "goOn" "(I)I"]
def wsL_law0_r36 : List Cond := [Cond.selects RX7 ⟨"RegisterMill$Machine", "goOn", "(I)I"⟩ yX4_goOn, Cond.instanceMethod yX4_goOn, Cond.code yX4_goOn cX4_goOn 4 (some .int), Cond.methodLink RX4 37 ⟨"RegisterMill$Machine", "enter", "(I)V"⟩, Cond.sameMethod "RegisterMill$Machine" "RegisterMill$Machine" "enter" "(I)V", Cond.selects RX7 ⟨"RegisterMill$Machine", "enter", "(I)V"⟩ yX4_enter, Cond.instanceMethod yX4_enter, Cond.code yX4_enter cX4_enter 2 none, Cond.methodLink RX4 49 ⟨"RegisterMill$Machine", "finish", "(I)V"⟩, Cond.sameMethod "RegisterMill$Machine" "RegisterMill$Machine" "finish" "(I)V", Cond.selects RX7 ⟨"RegisterMill$Machine", "finish", "(I)V"⟩ yX4_finish, Cond.instanceMethod yX4_finish, Cond.code yX4_finish cX4_finish 2 none, Cond.selects RX8 ⟨"RegisterMill$Machine", "finish", "(I)V"⟩ yX4_finish, Cond.methodLink RX4 52 ⟨"RegisterMill$Machine", "openRoom", "(II)V"⟩, Cond.sameMethod "RegisterMill$Machine" "RegisterMill$Machine" "openRoom" "(II)V", Cond.selects RX7 ⟨"RegisterMill$Machine", "openRoom", "(II)V"⟩ yX7_openRoom, Cond.instanceMethod yX7_openRoom, Cond.code yX7_openRoom cX7_openRoom 6 none, Cond.selects RX8 ⟨"RegisterMill$Machine", "openRoom", "(II)V"⟩ yX8_openRoom, Cond.instanceMethod yX8_openRoom, Cond.code yX8_openRoom cX8_openRoom 6 none, Cond.fieldLink RX8 32 "RegisterMill$Program" "args" "[I", Cond.selects RX8 ⟨"RegisterMill$Machine", "enter", "(I)V"⟩ yX4_enter]
def wsL_law0_r37 : List Cond := [Cond.methodLink RX4 41 ⟨"RegisterMill$Machine", "room", "()I"⟩, Cond.sameMethod "RegisterMill$Machine" "RegisterMill$Machine" "room" "()I", Cond.selects RX7 ⟨"RegisterMill$Machine", "room", "()I"⟩ yX4_room, Cond.instanceMethod yX4_room, Cond.code yX4_room cX4_room 1 (some .int), Cond.selects RX8 ⟨"RegisterMill$Machine", "room", "()I"⟩ yX4_room, Cond.methodLink RX4 45 ⟨"RegisterMill$Machine", "step", "(II)V"⟩, Cond.sameMethod "RegisterMill$Machine" "RegisterMill$Machine" "step" "(II)V", Cond.selects RX7 ⟨"RegisterMill$Machine", "step", "(II)V"⟩ yX7_step, Cond.instanceMethod yX7_step, Cond.code yX7_step cX7_step 6 none, Cond.methodLink RX7 38 yX1_part, Cond.methodLink RX7 44 ⟨"RegisterMill$RegisterMachine", "room", "()I"⟩, Cond.sameMethod "RegisterMill$RegisterMachine" "RegisterMill$Machine" "room" "()I", Cond.selects RX7 ⟨"RegisterMill$RegisterMachine", "room", "()I"⟩ yX4_room, Cond.methodLink RX7 48 yX7_work, Cond.instanceMethod yX7_work, Cond.selects RX7 yX7_work yX7_work, Cond.code yX7_work cX7_work 7 none, Cond.methodLink RX7 72 ⟨"RegisterMill$RegisterMachine", "canReckon", "(II)Z"⟩, Cond.sameMethod "RegisterMill$RegisterMachine" "RegisterMill$Machine" "canReckon" "(II)Z", Cond.selects RX7 ⟨"RegisterMill$RegisterMachine", "canReckon", "(II)Z"⟩ yX4_canReckon, Cond.instanceMethod yX4_canReckon, Cond.code yX4_canReckon cX4_canReckon 3 (some .boolean)]
def wsL_law0_r38 : List Cond := [Cond.static yX11_reckon, Cond.code yX11_reckon cX11_reckon 3 (some .int), Cond.methodLink RX7 52 yX7_swap, Cond.instanceMethod yX7_swap, Cond.selects RX7 yX7_swap yX7_swap, Cond.code yX7_swap cX7_swap 4 none, Cond.methodLink RX7 56 ⟨"RegisterMill$RegisterMachine", "jump", "(I)V"⟩, Cond.sameMethod "RegisterMill$RegisterMachine" "RegisterMill$Machine" "jump" "(I)V", Cond.selects RX7 ⟨"RegisterMill$RegisterMachine", "jump", "(I)V"⟩ yX4_jump, Cond.instanceMethod yX4_jump, Cond.code yX4_jump cX4_jump 2 none, Cond.methodLink RX7 60 ⟨"RegisterMill$RegisterMachine", "leave", "(I)V"⟩, Cond.sameMethod "RegisterMill$RegisterMachine" "RegisterMill$Machine" "leave" "(I)V", Cond.selects RX7 ⟨"RegisterMill$RegisterMachine", "leave", "(I)V"⟩ yX4_leave, Cond.instanceMethod yX4_leave, Cond.code yX4_leave cX4_leave 2 none, Cond.methodLink RX4 55 ⟨"RegisterMill$Machine", "takeAnswer", "(I)V"⟩, Cond.sameMethod "RegisterMill$Machine" "RegisterMill$Machine" "takeAnswer" "(I)V", Cond.selects RX7 ⟨"RegisterMill$Machine", "takeAnswer", "(I)V"⟩ yX7_takeAnswer, Cond.instanceMethod yX7_takeAnswer, Cond.code yX7_takeAnswer cX7_takeAnswer 2 none, Cond.selects RX8 ⟨"RegisterMill$Machine", "takeAnswer", "(I)V"⟩ yX8_takeAnswer, Cond.instanceMethod yX8_takeAnswer, Cond.code yX8_takeAnswer cX8_takeAnswer 2 none]
def wsL_law0_r39 : List Cond := [Cond.methodLink RX8 37 ⟨"RegisterMill$StackMachine", "room", "()I"⟩, Cond.sameMethod "RegisterMill$StackMachine" "RegisterMill$Machine" "room" "()I", Cond.selects RX8 ⟨"RegisterMill$StackMachine", "room", "()I"⟩ yX4_room, Cond.methodLink RX8 41 yX8_push, Cond.instanceMethod yX8_push, Cond.selects RX8 yX8_push yX8_push, Cond.code yX8_push cX8_push 2 none, Cond.methodLink RX7 63 yX7_fetch, Cond.instanceMethod yX7_fetch, Cond.selects RX7 yX7_fetch yX7_fetch, Cond.code yX7_fetch cX7_fetch 3 none, Cond.fieldLink RX7 83 "RegisterMill$RegisterMachine" "memory" "[I", Cond.sameField "RegisterMill$RegisterMachine" "RegisterMill$Machine" "memory" "[I", Cond.methodLink RX7 79 ⟨"RegisterMill$RegisterMachine", "hasCell", "(I)Z"⟩, Cond.sameMethod "RegisterMill$RegisterMachine" "RegisterMill$Machine" "hasCell" "(I)Z", Cond.selects RX7 ⟨"RegisterMill$RegisterMachine", "hasCell", "(I)Z"⟩ yX4_hasCell, Cond.instanceMethod yX4_hasCell, Cond.code yX4_hasCell cX4_hasCell 2 (some .boolean), Cond.methodLink RX7 66 yX7_store, Cond.instanceMethod yX7_store, Cond.selects RX7 yX7_store yX7_store, Cond.code yX7_store cX7_store 3 none, Cond.methodLink RX7 69 ⟨"RegisterMill$RegisterMachine", "enter", "(I)V"⟩, Cond.sameMethod "RegisterMill$RegisterMachine" "RegisterMill$Machine" "enter" "(I)V"]
def wsL_law0_r40 : List Cond := [Cond.selects RX7 ⟨"RegisterMill$RegisterMachine", "enter", "(I)V"⟩ yX4_enter, Cond.selects RX8 ⟨"RegisterMill$Machine", "step", "(II)V"⟩ yX8_step, Cond.instanceMethod yX8_step, Cond.code yX8_step cX8_step 5 none, Cond.fieldLink RX8 45 "RegisterMill$Program" "ops" "[I", Cond.fieldLink RX8 48 "RegisterMill$Program" "starts" "[I", Cond.fieldLink RX8 51 "RegisterMill$Program" "numbers" "[I", Cond.methodLink RX8 54 yX8_pop, Cond.instanceMethod yX8_pop, Cond.selects RX8 yX8_pop yX8_pop, Cond.code yX8_pop cX8_pop 1 (some .int), Cond.methodLink RX8 57 yX8_flip, Cond.instanceMethod yX8_flip, Cond.selects RX8 yX8_flip yX8_flip, Cond.code yX8_flip cX8_flip 3 none, Cond.methodLink RX8 60 ⟨"RegisterMill$StackMachine", "jump", "(I)V"⟩, Cond.sameMethod "RegisterMill$StackMachine" "RegisterMill$Machine" "jump" "(I)V", Cond.selects RX8 ⟨"RegisterMill$StackMachine", "jump", "(I)V"⟩ yX4_jump, Cond.methodLink RX8 63 ⟨"RegisterMill$StackMachine", "enter", "(I)V"⟩, Cond.sameMethod "RegisterMill$StackMachine" "RegisterMill$Machine" "enter" "(I)V", Cond.selects RX8 ⟨"RegisterMill$StackMachine", "enter", "(I)V"⟩ yX4_enter, Cond.methodLink RX8 66 ⟨"RegisterMill$StackMachine", "leave", "(I)V"⟩, Cond.sameMethod "RegisterMill$StackMachine" "RegisterMill$Machine" "leave" "(I)V", Cond.selects RX8 ⟨"RegisterMill$StackMachine", "leave", "(I)V"⟩ yX4_leave]
def wsL_law0_r41 : List Cond := [Cond.methodLink RX8 69 yX8_fetch, Cond.instanceMethod yX8_fetch, Cond.selects RX8 yX8_fetch yX8_fetch, Cond.code yX8_fetch cX8_fetch 2 none, Cond.fieldLink RX8 84 "RegisterMill$StackMachine" "memory" "[I", Cond.sameField "RegisterMill$StackMachine" "RegisterMill$Machine" "memory" "[I", Cond.methodLink RX8 80 ⟨"RegisterMill$StackMachine", "hasCell", "(I)Z"⟩, Cond.sameMethod "RegisterMill$StackMachine" "RegisterMill$Machine" "hasCell" "(I)Z", Cond.selects RX8 ⟨"RegisterMill$StackMachine", "hasCell", "(I)Z"⟩ yX4_hasCell, Cond.methodLink RX8 72 yX8_store, Cond.instanceMethod yX8_store, Cond.selects RX8 yX8_store yX8_store, Cond.code yX8_store cX8_store 3 none, Cond.methodLink RX8 76 yX8_work, Cond.instanceMethod yX8_work, Cond.selects RX8 yX8_work yX8_work, Cond.code yX8_work cX8_work 4 none, Cond.methodLink RX8 87 ⟨"RegisterMill$StackMachine", "canReckon", "(II)Z"⟩, Cond.sameMethod "RegisterMill$StackMachine" "RegisterMill$Machine" "canReckon" "(II)Z", Cond.selects RX8 ⟨"RegisterMill$StackMachine", "canReckon", "(II)Z"⟩ yX4_canReckon, Cond.selects RX8 ⟨"RegisterMill$Machine", "goOn", "(I)I"⟩ yX4_goOn, Cond.methodLink RL 87 yX12_runStack, Cond.instanceMethod yX12_runStack, Cond.selects RX12 yX12_runStack yX12_runStack]
def wsL_law0_r42 : List Cond := [Cond.code yX12_runStack cX12_runStack 2 (some .int), Cond.methodLink RX12 332 yX12_run, Cond.instanceMethod yX12_run, Cond.selects RX12 yX12_run yX12_run, Cond.code yX12_run cX12_run 4 (some .int), Cond.methodLink RX12 326 yX12_stepStack, Cond.instanceMethod yX12_stepStack, Cond.selects RX12 yX12_stepStack yX12_stepStack, Cond.code yX12_stepStack cX12_stepStack 4 none, Cond.methodLink RX12 292 yX12_enters, Cond.instanceMethod yX12_enters, Cond.selects RX12 yX12_enters yX12_enters, Cond.code yX12_enters cX12_enters 5 none, Cond.methodLink RX12 289 yX12_push, Cond.instanceMethod yX12_push, Cond.selects RX12 yX12_push yX12_push, Cond.code yX12_push cX12_push 3 none, Cond.methodLink RX12 295 yX12_pop, Cond.instanceMethod yX12_pop, Cond.selects RX12 yX12_pop yX12_pop, Cond.code yX12_pop cX12_pop 2 (some .int), Cond.methodLink RX12 299 yX12_swapTop, Cond.instanceMethod yX12_swapTop, Cond.selects RX12 yX12_swapTop yX12_swapTop]
def wsL_law0_r43 : List Cond := [Cond.code yX12_swapTop cX12_swapTop 3 none, Cond.methodLink RX12 302 yX12_callStack, Cond.instanceMethod yX12_callStack, Cond.selects RX12 yX12_callStack yX12_callStack, Cond.code yX12_callStack cX12_callStack 3 none, Cond.methodLink RX12 286 yX12_ends, Cond.instanceMethod yX12_ends, Cond.selects RX12 yX12_ends yX12_ends, Cond.code yX12_ends cX12_ends 3 none, Cond.methodLink RX12 305 yX12_over, Cond.instanceMethod yX12_over, Cond.selects RX12 yX12_over yX12_over, Cond.code yX12_over cX12_over 3 none, Cond.methodLink RX12 308 yX12_readStack, Cond.instanceMethod yX12_readStack, Cond.selects RX12 yX12_readStack yX12_readStack, Cond.code yX12_readStack cX12_readStack 2 none, Cond.methodLink RX12 311 yX12_writeStack, Cond.instanceMethod yX12_writeStack, Cond.selects RX12 yX12_writeStack yX12_writeStack, Cond.code yX12_writeStack cX12_writeStack 3 none, Cond.methodLink RX12 314 yX12_workStack, Cond.instanceMethod yX12_workStack, Cond.selects RX12 yX12_workStack yX12_workStack]
def wsL_law0_r44 : List Cond := [Cond.code yX12_workStack cX12_workStack 4 none, Cond.methodLink RX12 320 yX12_works, Cond.instanceMethod yX12_works, Cond.selects RX12 yX12_works yX12_works, Cond.code yX12_works cX12_works 4 (some .int), Cond.methodLink RX12 329 yX12_stepRegisters, Cond.instanceMethod yX12_stepRegisters, Cond.selects RX12 yX12_stepRegisters yX12_stepRegisters, Cond.code yX12_stepRegisters cX12_stepRegisters 8 none, Cond.methodLink RX12 323 yX12_stepCall, Cond.instanceMethod yX12_stepCall, Cond.selects RX12 yX12_stepCall yX12_stepCall, Cond.code yX12_stepCall cX12_stepCall 6 none, Cond.methodLink RL 88 yX11_runRegisters, Cond.instanceMethod yX11_runRegisters, Cond.selects RX11 yX11_runRegisters yX11_runRegisters, Cond.code yX11_runRegisters cX11_runRegisters 2 (some .int), Cond.methodLink RL 91 yX12_runRegisters, Cond.instanceMethod yX12_runRegisters, Cond.selects RX12 yX12_runRegisters yX12_runRegisters, Cond.code yX12_runRegisters cX12_runRegisters 2 (some .int), Cond.methodLink RL 92 yX11_look, Cond.instanceMethod yX11_look, Cond.selects RX11 yX11_look yX11_look]
def wsL_law0_r45 : List Cond := [Cond.code yX11_look cX11_look 3 (some .int), Cond.methodLink RX11 160 yX11_machineOf, Cond.instanceMethod yX11_machineOf, Cond.selects RX11 yX11_machineOf yX11_machineOf, Cond.code yX11_machineOf cX11_machineOf 2 (some (.object "RegisterMill$Machine")), Cond.methodLink RX11 164 ⟨"RegisterMill$Machine", "tell", "(I)I"⟩, Cond.sameMethod "RegisterMill$Machine" "RegisterMill$Machine" "tell" "(I)I", Cond.selects RX7 ⟨"RegisterMill$Machine", "tell", "(I)I"⟩ yX4_tell, Cond.instanceMethod yX4_tell, Cond.code yX4_tell cX4_tell 2 (some .int), Cond.selects RX8 ⟨"RegisterMill$Machine", "tell", "(I)I"⟩ yX4_tell, Cond.methodLink RL 95 yX12_look, Cond.instanceMethod yX12_look, Cond.selects RX12 yX12_look yX12_look, Cond.code yX12_look cX12_look 3 (some .int), Cond.methodLink RL 96 yL_peek, Cond.static yL_peek, Cond.codeWith yL_peek cL_peek 5 (some .int) [(0, 10, 13, 13)], Cond.methodLink RL 15 yX11_peek, Cond.instanceMethod yX11_peek, Cond.selects RX11 yX11_peek yX11_peek, Cond.code yX11_peek cX11_peek 3 (some .int), Cond.methodLink RL 99 yX12_peek, Cond.instanceMethod yX12_peek]
def wsL_law0_r46 : List Cond := [Cond.selects RX12 yX12_peek yX12_peek, Cond.code yX12_peek cX12_peek 3 (some .int), Cond.methodLink RL 100 yX11_count, Cond.instanceMethod yX11_count, Cond.selects RX11 yX11_count yX11_count, Cond.code yX11_count cX11_count 2 (some .int), Cond.methodLink RL 103 yX12_count, Cond.instanceMethod yX12_count, Cond.selects RX12 yX12_count yX12_count, Cond.code yX12_count cX12_count 2 (some .int)]
def wsL_law0 : List Cond := (wsL_law0_r1 ++ (wsL_law0_r2 ++ (wsL_law0_r3 ++ (wsL_law0_r4 ++ (wsL_law0_r5 ++ (wsL_law0_r6 ++ (wsL_law0_r7 ++ (wsL_law0_r8 ++ (wsL_law0_r9 ++ (wsL_law0_r10 ++ (wsL_law0_r11 ++ (wsL_law0_r12 ++ (wsL_law0_r13 ++ (wsL_law0_r14 ++ (wsL_law0_r15 ++ (wsL_law0_r16 ++ (wsL_law0_r17 ++ (wsL_law0_r18 ++ (wsL_law0_r19 ++ (wsL_law0_r20 ++ (wsL_law0_r21 ++ (wsL_law0_r22 ++ (wsL_law0_r23 ++ (wsL_law0_r24 ++ (wsL_law0_r25 ++ (wsL_law0_r26 ++ (wsL_law0_r27 ++ (wsL_law0_r28 ++ (wsL_law0_r29 ++ (wsL_law0_r30 ++ (wsL_law0_r31 ++ (wsL_law0_r32 ++ (wsL_law0_r33 ++ (wsL_law0_r34 ++ (wsL_law0_r35 ++ (wsL_law0_r36 ++ (wsL_law0_r37 ++ (wsL_law0_r38 ++ (wsL_law0_r39 ++ (wsL_law0_r40 ++ (wsL_law0_r41 ++ (wsL_law0_r42 ++ (wsL_law0_r43 ++ (wsL_law0_r44 ++ (wsL_law0_r45 ++ wsL_law0_r46))))))))))))))))))))))))))))))))))))))))))))) ++ wsX110 ++ wsX120 ++ wsX60 ++ wsX00 ++ wsX90 ++ wsX80 ++ wsX70 ++ wsX50 ++ wsX30 ++ wsX20 ++ wsX10 ++ wsX100 ++ ([] : List Cond)
def wsL_law : List Cond := wsL_law0 ++ (vx_atS RX11 129 "java/util/NoSuchElementException" ["java/lang/RuntimeException", "java/lang/Exception"]).filter goodWord
abbrev vwCl : List vw_C := [(RX0, TX0, 3), (RX1, TX1, 4), (RX2, TX2, 6), (RX3, TX3, 2), (RX5, TX5, 10), (RX6, TX6, 10), (RX7, TX7, 13), (RX8, TX8, 13), (RX9, TX9, 8), (RX10, TX10, 7), (RX11, TX11, 5), (RX12, TX12, 52)]
end
section
theorem dX0_init_0 : decode cX0_init 0 = .ok (.aload_n 0, 1) := by decide +kernel
theorem dX0_init_1 : decode cX0_init 1 = .ok (.invokespecial 3, 3) := by decide +kernel
theorem dX0_init_4 : decode cX0_init 4 = .ok (.aload_n 0, 1) := by decide +kernel
theorem dX0_init_5 : decode cX0_init 5 = .ok (.sipush 300, 3) := by decide +kernel
theorem dX0_init_8 : decode cX0_init 8 = .ok (.newarray .boolean, 2) := by decide +kernel
theorem dX0_init_10 : decode cX0_init 10 = .ok (.putfield 9, 3) := by decide +kernel
theorem dX0_init_13 : decode cX0_init 13 = .ok (.aload_n 0, 1) := by decide +kernel
theorem dX0_init_14 : decode cX0_init 14 = .ok (.aload_n 1, 1) := by decide +kernel
theorem dX0_init_15 : decode cX0_init 15 = .ok (.putfield 15, 3) := by decide +kernel
theorem dX0_init_18 : decode cX0_init 18 = .ok (.return_, 1) := by decide +kernel
theorem dX0_firstFault_0 : decode cX0_firstFault 0 = .ok (.aload_n 0, 1) := by decide +kernel
theorem dX0_firstFault_1 : decode cX0_firstFault 1 = .ok (.getfield 15, 3) := by decide +kernel
theorem dX0_firstFault_4 : decode cX0_firstFault 4 = .ok (.getfield 19, 3) := by decide +kernel
theorem dX0_firstFault_7 : decode cX0_firstFault 7 = .ok (.ifCond .ne 6, 3) := by decide +kernel
theorem dX0_firstFault_10 : decode cX0_firstFault 10 = .ok (.bipush 7, 2) := by decide +kernel
theorem dX0_firstFault_12 : decode cX0_firstFault 12 = .ok (.ireturn, 1) := by decide +kernel
theorem dX0_firstFault_13 : decode cX0_firstFault 13 = .ok (.iconst 0, 1) := by decide +kernel
theorem dX0_firstFault_14 : decode cX0_firstFault 14 = .ok (.istore_n 1, 1) := by decide +kernel
theorem dX0_firstFault_15 : decode cX0_firstFault 15 = .ok (.iload_n 1, 1) := by decide +kernel
theorem dX0_firstFault_16 : decode cX0_firstFault 16 = .ok (.aload_n 0, 1) := by decide +kernel
theorem dX0_firstFault_17 : decode cX0_firstFault 17 = .ok (.getfield 15, 3) := by decide +kernel
theorem dX0_firstFault_20 : decode cX0_firstFault 20 = .ok (.getfield 19, 3) := by decide +kernel
theorem dX0_firstFault_23 : decode cX0_firstFault 23 = .ok (.if_icmp .ge 29, 3) := by decide +kernel
theorem dX0_firstFault_26 : decode cX0_firstFault 26 = .ok (.aload_n 0, 1) := by decide +kernel
theorem dX0_firstFault_27 : decode cX0_firstFault 27 = .ok (.getfield 15, 3) := by decide +kernel
theorem dX0_firstFault_30 : decode cX0_firstFault 30 = .ok (.getfield 25, 3) := by decide +kernel
theorem dX0_firstFault_33 : decode cX0_firstFault 33 = .ok (.iload_n 1, 1) := by decide +kernel
theorem dX0_firstFault_34 : decode cX0_firstFault 34 = .ok (.iaload, 1) := by decide +kernel
theorem dX0_firstFault_35 : decode cX0_firstFault 35 = .ok (.ifCond .ne 11, 3) := by decide +kernel
theorem dX0_firstFault_38 : decode cX0_firstFault 38 = .ok (.bipush 6, 2) := by decide +kernel
theorem dX0_firstFault_40 : decode cX0_firstFault 40 = .ok (.bipush 8, 2) := by decide +kernel
theorem dX0_firstFault_42 : decode cX0_firstFault 42 = .ok (.iload_n 1, 1) := by decide +kernel
theorem dX0_firstFault_43 : decode cX0_firstFault 43 = .ok (.imul, 1) := by decide +kernel
theorem dX0_firstFault_44 : decode cX0_firstFault 44 = .ok (.iadd, 1) := by decide +kernel
theorem dX0_firstFault_45 : decode cX0_firstFault 45 = .ok (.ireturn, 1) := by decide +kernel
theorem dX0_firstFault_46 : decode cX0_firstFault 46 = .ok (.iinc 1 1, 3) := by decide +kernel
theorem dX0_firstFault_49 : decode cX0_firstFault 49 = .ok (.goto (-34), 3) := by decide +kernel
theorem dX0_firstFault_52 : decode cX0_firstFault 52 = .ok (.iconst 0, 1) := by decide +kernel
theorem dX0_firstFault_53 : decode cX0_firstFault 53 = .ok (.istore_n 1, 1) := by decide +kernel
theorem dX0_firstFault_54 : decode cX0_firstFault 54 = .ok (.iload_n 1, 1) := by decide +kernel
theorem dX0_firstFault_55 : decode cX0_firstFault 55 = .ok (.aload_n 0, 1) := by decide +kernel
theorem dX0_firstFault_56 : decode cX0_firstFault 56 = .ok (.getfield 15, 3) := by decide +kernel
theorem dX0_firstFault_59 : decode cX0_firstFault 59 = .ok (.getfield 19, 3) := by decide +kernel
theorem dX0_firstFault_62 : decode cX0_firstFault 62 = .ok (.if_icmp .ge 21, 3) := by decide +kernel
theorem dX0_firstFault_65 : decode cX0_firstFault 65 = .ok (.aload_n 0, 1) := by decide +kernel
theorem dX0_firstFault_66 : decode cX0_firstFault 66 = .ok (.iload_n 1, 1) := by decide +kernel
theorem dX0_firstFault_67 : decode cX0_firstFault 67 = .ok (.invokevirtual 29, 3) := by decide +kernel
theorem dX0_firstFault_70 : decode cX0_firstFault 70 = .ok (.istore_n 2, 1) := by decide +kernel
theorem dX0_firstFault_71 : decode cX0_firstFault 71 = .ok (.iload_n 2, 1) := by decide +kernel
theorem dX0_firstFault_72 : decode cX0_firstFault 72 = .ok (.ifCond .eq 5, 3) := by decide +kernel
theorem dX0_firstFault_75 : decode cX0_firstFault 75 = .ok (.iload_n 2, 1) := by decide +kernel
theorem dX0_firstFault_76 : decode cX0_firstFault 76 = .ok (.ireturn, 1) := by decide +kernel
theorem dX0_firstFault_77 : decode cX0_firstFault 77 = .ok (.iinc 1 1, 3) := by decide +kernel
theorem dX0_firstFault_80 : decode cX0_firstFault 80 = .ok (.goto (-26), 3) := by decide +kernel
theorem dX0_firstFault_83 : decode cX0_firstFault 83 = .ok (.iconst 0, 1) := by decide +kernel
theorem dX0_firstFault_84 : decode cX0_firstFault 84 = .ok (.ireturn, 1) := by decide +kernel
theorem dX1_init_0 : decode cX1_init 0 = .ok (.aload_n 0, 1) := by decide +kernel
theorem dX1_init_1 : decode cX1_init 1 = .ok (.invokespecial 3, 3) := by decide +kernel
theorem dX1_init_4 : decode cX1_init 4 = .ok (.aload_n 0, 1) := by decide +kernel
theorem dX1_init_5 : decode cX1_init 5 = .ok (.bipush 12, 2) := by decide +kernel
theorem dX1_init_7 : decode cX1_init 7 = .ok (.newarray .int, 2) := by decide +kernel
theorem dX1_init_9 : decode cX1_init 9 = .ok (.putfield 9, 3) := by decide +kernel
theorem dX1_init_12 : decode cX1_init 12 = .ok (.aload_n 0, 1) := by decide +kernel
theorem dX1_init_13 : decode cX1_init 13 = .ok (.bipush 12, 2) := by decide +kernel
theorem dX1_init_15 : decode cX1_init 15 = .ok (.newarray .int, 2) := by decide +kernel
theorem dX1_init_17 : decode cX1_init 17 = .ok (.putfield 15, 3) := by decide +kernel
theorem dX1_init_20 : decode cX1_init 20 = .ok (.aload_n 0, 1) := by decide +kernel
theorem dX1_init_21 : decode cX1_init 21 = .ok (.sipush 2000, 3) := by decide +kernel
theorem dX1_init_24 : decode cX1_init 24 = .ok (.newarray .int, 2) := by decide +kernel
theorem dX1_init_26 : decode cX1_init 26 = .ok (.putfield 18, 3) := by decide +kernel
theorem dX1_init_29 : decode cX1_init 29 = .ok (.return_, 1) := by decide +kernel
theorem dX2_init_0 : decode cX2_init 0 = .ok (.aload_n 0, 1) := by decide +kernel
theorem dX2_init_1 : decode cX2_init 1 = .ok (.invokespecial 3, 3) := by decide +kernel
theorem dX2_init_4 : decode cX2_init 4 = .ok (.aload_n 0, 1) := by decide +kernel
theorem dX2_init_5 : decode cX2_init 5 = .ok (.sipush 264, 3) := by decide +kernel
theorem dX2_init_8 : decode cX2_init 8 = .ok (.newarray .int, 2) := by decide +kernel
theorem dX2_init_10 : decode cX2_init 10 = .ok (.putfield 9, 3) := by decide +kernel
theorem dX2_init_13 : decode cX2_init 13 = .ok (.aload_n 0, 1) := by decide +kernel
theorem dX2_init_14 : decode cX2_init 14 = .ok (.sipush 264, 3) := by decide +kernel
theorem dX2_init_17 : decode cX2_init 17 = .ok (.newarray .int, 2) := by decide +kernel
theorem dX2_init_19 : decode cX2_init 19 = .ok (.putfield 15, 3) := by decide +kernel
theorem dX2_init_22 : decode cX2_init 22 = .ok (.aload_n 0, 1) := by decide +kernel
theorem dX2_init_23 : decode cX2_init 23 = .ok (.sipush 264, 3) := by decide +kernel
theorem dX2_init_26 : decode cX2_init 26 = .ok (.newarray .int, 2) := by decide +kernel
theorem dX2_init_28 : decode cX2_init 28 = .ok (.putfield 18, 3) := by decide +kernel
theorem dX2_init_31 : decode cX2_init 31 = .ok (.aload_n 0, 1) := by decide +kernel
theorem dX2_init_32 : decode cX2_init 32 = .ok (.sipush 264, 3) := by decide +kernel
theorem dX2_init_35 : decode cX2_init 35 = .ok (.newarray .int, 2) := by decide +kernel
theorem dX2_init_37 : decode cX2_init 37 = .ok (.putfield 21, 3) := by decide +kernel
theorem dX2_init_40 : decode cX2_init 40 = .ok (.aload_n 0, 1) := by decide +kernel
theorem dX2_init_41 : decode cX2_init 41 = .ok (.bipush 12, 2) := by decide +kernel
theorem dX2_init_43 : decode cX2_init 43 = .ok (.newarray .int, 2) := by decide +kernel
theorem dX2_init_45 : decode cX2_init 45 = .ok (.putfield 24, 3) := by decide +kernel
theorem dX2_init_48 : decode cX2_init 48 = .ok (.aload_n 0, 1) := by decide +kernel
theorem dX2_init_49 : decode cX2_init 49 = .ok (.bipush 16, 2) := by decide +kernel
theorem dX2_init_51 : decode cX2_init 51 = .ok (.newarray .int, 2) := by decide +kernel
theorem dX2_init_53 : decode cX2_init 53 = .ok (.putfield 27, 3) := by decide +kernel
theorem dX2_init_56 : decode cX2_init 56 = .ok (.return_, 1) := by decide +kernel
theorem dX3_init_0 : decode cX3_init 0 = .ok (.aload_n 0, 1) := by decide +kernel
theorem dX3_init_1 : decode cX3_init 1 = .ok (.invokespecial 3, 3) := by decide +kernel
theorem dX3_init_4 : decode cX3_init 4 = .ok (.aload_n 0, 1) := by decide +kernel
theorem dX3_init_5 : decode cX3_init 5 = .ok (.sipush 300, 3) := by decide +kernel
theorem dX3_init_8 : decode cX3_init 8 = .ok (.newarray .int, 2) := by decide +kernel
theorem dX3_init_10 : decode cX3_init 10 = .ok (.putfield 9, 3) := by decide +kernel
theorem dX3_init_13 : decode cX3_init 13 = .ok (.aload_n 0, 1) := by decide +kernel
theorem dX3_init_14 : decode cX3_init 14 = .ok (.sipush 300, 3) := by decide +kernel
theorem dX3_init_17 : decode cX3_init 17 = .ok (.newarray .int, 2) := by decide +kernel
theorem dX3_init_19 : decode cX3_init 19 = .ok (.putfield 15, 3) := by decide +kernel
theorem dX3_init_22 : decode cX3_init 22 = .ok (.return_, 1) := by decide +kernel
theorem dX4_init_0 : decode cX4_init 0 = .ok (.aload_n 0, 1) := by decide +kernel
theorem dX4_init_1 : decode cX4_init 1 = .ok (.invokespecial 3, 3) := by decide +kernel
theorem dX4_init_4 : decode cX4_init 4 = .ok (.aload_n 0, 1) := by decide +kernel
theorem dX4_init_5 : decode cX4_init 5 = .ok (.bipush 64, 2) := by decide +kernel
theorem dX4_init_7 : decode cX4_init 7 = .ok (.newarray .int, 2) := by decide +kernel
theorem dX4_init_9 : decode cX4_init 9 = .ok (.putfield 9, 3) := by decide +kernel
theorem dX4_init_12 : decode cX4_init 12 = .ok (.aload_n 0, 1) := by decide +kernel
theorem dX4_init_13 : decode cX4_init 13 = .ok (.bipush 30, 2) := by decide +kernel
theorem dX4_init_15 : decode cX4_init 15 = .ok (.newarray .int, 2) := by decide +kernel
theorem dX4_init_17 : decode cX4_init 17 = .ok (.putfield 15, 3) := by decide +kernel
theorem dX4_init_20 : decode cX4_init 20 = .ok (.aload_n 0, 1) := by decide +kernel
theorem dX4_init_21 : decode cX4_init 21 = .ok (.bipush 30, 2) := by decide +kernel
theorem dX4_init_23 : decode cX4_init 23 = .ok (.newarray .int, 2) := by decide +kernel
theorem dX4_init_25 : decode cX4_init 25 = .ok (.putfield 18, 3) := by decide +kernel
theorem dX4_init_28 : decode cX4_init 28 = .ok (.return_, 1) := by decide +kernel
theorem dX4_begin_0 : decode cX4_begin 0 = .ok (.aload_n 0, 1) := by decide +kernel
theorem dX4_begin_1 : decode cX4_begin 1 = .ok (.iconst 0, 1) := by decide +kernel
theorem dX4_begin_2 : decode cX4_begin 2 = .ok (.putfield 21, 3) := by decide +kernel
theorem dX4_begin_5 : decode cX4_begin 5 = .ok (.aload_n 0, 1) := by decide +kernel
theorem dX4_begin_6 : decode cX4_begin 6 = .ok (.iconst 0, 1) := by decide +kernel
theorem dX4_begin_7 : decode cX4_begin 7 = .ok (.putfield 25, 3) := by decide +kernel
theorem dX4_begin_10 : decode cX4_begin 10 = .ok (.aload_n 0, 1) := by decide +kernel
theorem dX4_begin_11 : decode cX4_begin 11 = .ok (.iconst 0, 1) := by decide +kernel
theorem dX4_begin_12 : decode cX4_begin 12 = .ok (.putfield 28, 3) := by decide +kernel
theorem dX4_begin_15 : decode cX4_begin 15 = .ok (.aload_n 0, 1) := by decide +kernel
theorem dX4_begin_16 : decode cX4_begin 16 = .ok (.iconst 0, 1) := by decide +kernel
theorem dX4_begin_17 : decode cX4_begin 17 = .ok (.putfield 31, 3) := by decide +kernel
theorem dX4_begin_20 : decode cX4_begin 20 = .ok (.aload_n 0, 1) := by decide +kernel
theorem dX4_begin_21 : decode cX4_begin 21 = .ok (.iconst 0, 1) := by decide +kernel
theorem dX4_begin_22 : decode cX4_begin 22 = .ok (.putfield 34, 3) := by decide +kernel
theorem dX4_begin_25 : decode cX4_begin 25 = .ok (.return_, 1) := by decide +kernel
theorem dX4_tell_0 : decode cX4_tell 0 = .ok (.iload_n 1, 1) := by decide +kernel
theorem dX4_tell_1 : decode cX4_tell 1 = .ok (.tableswitch 60 0 4 #[35, 40, 45, 50, 55], 35) := by decide +kernel
theorem dX4_tell_36 : decode cX4_tell 36 = .ok (.aload_n 0, 1) := by decide +kernel
theorem dX4_tell_37 : decode cX4_tell 37 = .ok (.getfield 21, 3) := by decide +kernel
theorem dX4_tell_40 : decode cX4_tell 40 = .ok (.ireturn, 1) := by decide +kernel
theorem dX4_tell_41 : decode cX4_tell 41 = .ok (.aload_n 0, 1) := by decide +kernel
theorem dX4_tell_42 : decode cX4_tell 42 = .ok (.getfield 25, 3) := by decide +kernel
theorem dX4_tell_45 : decode cX4_tell 45 = .ok (.ireturn, 1) := by decide +kernel
theorem dX4_tell_46 : decode cX4_tell 46 = .ok (.aload_n 0, 1) := by decide +kernel
theorem dX4_tell_47 : decode cX4_tell 47 = .ok (.getfield 28, 3) := by decide +kernel
theorem dX4_tell_50 : decode cX4_tell 50 = .ok (.ireturn, 1) := by decide +kernel
theorem dX4_tell_51 : decode cX4_tell 51 = .ok (.aload_n 0, 1) := by decide +kernel
theorem dX4_tell_52 : decode cX4_tell 52 = .ok (.getfield 31, 3) := by decide +kernel
theorem dX4_tell_55 : decode cX4_tell 55 = .ok (.ireturn, 1) := by decide +kernel
theorem dX4_tell_56 : decode cX4_tell 56 = .ok (.aload_n 0, 1) := by decide +kernel
theorem dX4_tell_57 : decode cX4_tell 57 = .ok (.getfield 34, 3) := by decide +kernel
theorem dX4_tell_60 : decode cX4_tell 60 = .ok (.ireturn, 1) := by decide +kernel
theorem dX4_tell_61 : decode cX4_tell 61 = .ok (.iconst (-1), 1) := by decide +kernel
theorem dX4_tell_62 : decode cX4_tell 62 = .ok (.ireturn, 1) := by decide +kernel
theorem dX5_init_0 : decode cX5_init 0 = .ok (.aload_n 0, 1) := by decide +kernel
theorem dX5_init_1 : decode cX5_init 1 = .ok (.invokespecial 3, 3) := by decide +kernel
theorem dX5_init_4 : decode cX5_init 4 = .ok (.aload_n 0, 1) := by decide +kernel
theorem dX5_init_5 : decode cX5_init 5 = .ok (.sipush 300, 3) := by decide +kernel
theorem dX5_init_8 : decode cX5_init 8 = .ok (.newarray .int, 2) := by decide +kernel
theorem dX5_init_10 : decode cX5_init 10 = .ok (.putfield 9, 3) := by decide +kernel
theorem dX5_init_13 : decode cX5_init 13 = .ok (.aload_n 0, 1) := by decide +kernel
theorem dX5_init_14 : decode cX5_init 14 = .ok (.sipush 300, 3) := by decide +kernel
theorem dX5_init_17 : decode cX5_init 17 = .ok (.newarray .int, 2) := by decide +kernel
theorem dX5_init_19 : decode cX5_init 19 = .ok (.putfield 15, 3) := by decide +kernel
theorem dX5_init_22 : decode cX5_init 22 = .ok (.aload_n 0, 1) := by decide +kernel
theorem dX5_init_23 : decode cX5_init 23 = .ok (.sipush 300, 3) := by decide +kernel
theorem dX5_init_26 : decode cX5_init 26 = .ok (.newarray .int, 2) := by decide +kernel
theorem dX5_init_28 : decode cX5_init 28 = .ok (.putfield 18, 3) := by decide +kernel
theorem dX5_init_31 : decode cX5_init 31 = .ok (.aload_n 0, 1) := by decide +kernel
theorem dX5_init_32 : decode cX5_init 32 = .ok (.sipush 300, 3) := by decide +kernel
theorem dX5_init_35 : decode cX5_init 35 = .ok (.newarray .int, 2) := by decide +kernel
theorem dX5_init_37 : decode cX5_init 37 = .ok (.putfield 21, 3) := by decide +kernel
theorem dX5_init_40 : decode cX5_init 40 = .ok (.aload_n 0, 1) := by decide +kernel
theorem dX5_init_41 : decode cX5_init 41 = .ok (.sipush 300, 3) := by decide +kernel
theorem dX5_init_44 : decode cX5_init 44 = .ok (.newarray .int, 2) := by decide +kernel
theorem dX5_init_46 : decode cX5_init 46 = .ok (.putfield 24, 3) := by decide +kernel
theorem dX5_init_49 : decode cX5_init 49 = .ok (.aload_n 0, 1) := by decide +kernel
theorem dX5_init_50 : decode cX5_init 50 = .ok (.bipush 6, 2) := by decide +kernel
theorem dX5_init_52 : decode cX5_init 52 = .ok (.sipush 300, 3) := by decide +kernel
theorem dX5_init_55 : decode cX5_init 55 = .ok (.multianewarray 27 2, 4) := by decide +kernel
theorem dX5_init_59 : decode cX5_init 59 = .ok (.putfield 29, 3) := by decide +kernel
theorem dX5_init_62 : decode cX5_init 62 = .ok (.aload_n 0, 1) := by decide +kernel
theorem dX5_init_63 : decode cX5_init 63 = .ok (.sipush 300, 3) := by decide +kernel
theorem dX5_init_66 : decode cX5_init 66 = .ok (.newarray .int, 2) := by decide +kernel
theorem dX5_init_68 : decode cX5_init 68 = .ok (.putfield 32, 3) := by decide +kernel
theorem dX5_init_71 : decode cX5_init 71 = .ok (.aload_n 0, 1) := by decide +kernel
theorem dX5_init_72 : decode cX5_init 72 = .ok (.sipush 300, 3) := by decide +kernel
theorem dX5_init_75 : decode cX5_init 75 = .ok (.newarray .boolean, 2) := by decide +kernel
theorem dX5_init_77 : decode cX5_init 77 = .ok (.putfield 35, 3) := by decide +kernel
theorem dX5_init_80 : decode cX5_init 80 = .ok (.aload_n 0, 1) := by decide +kernel
theorem dX5_init_81 : decode cX5_init 81 = .ok (.bipush 22, 2) := by decide +kernel
theorem dX5_init_83 : decode cX5_init 83 = .ok (.newarray .int, 2) := by decide +kernel
theorem dX5_init_85 : decode cX5_init 85 = .ok (.putfield 39, 3) := by decide +kernel
theorem dX5_init_88 : decode cX5_init 88 = .ok (.return_, 1) := by decide +kernel
theorem dX6_init_0 : decode cX6_init 0 = .ok (.aload_n 0, 1) := by decide +kernel
theorem dX6_init_1 : decode cX6_init 1 = .ok (.invokespecial 3, 3) := by decide +kernel
theorem dX6_init_4 : decode cX6_init 4 = .ok (.aload_n 0, 1) := by decide +kernel
theorem dX6_init_5 : decode cX6_init 5 = .ok (.bipush 12, 2) := by decide +kernel
theorem dX6_init_7 : decode cX6_init 7 = .ok (.newarray .int, 2) := by decide +kernel
theorem dX6_init_9 : decode cX6_init 9 = .ok (.putfield 9, 3) := by decide +kernel
theorem dX6_init_12 : decode cX6_init 12 = .ok (.aload_n 0, 1) := by decide +kernel
theorem dX6_init_13 : decode cX6_init 13 = .ok (.bipush 12, 2) := by decide +kernel
theorem dX6_init_15 : decode cX6_init 15 = .ok (.newarray .int, 2) := by decide +kernel
theorem dX6_init_17 : decode cX6_init 17 = .ok (.putfield 15, 3) := by decide +kernel
theorem dX6_init_20 : decode cX6_init 20 = .ok (.aload_n 0, 1) := by decide +kernel
theorem dX6_init_21 : decode cX6_init 21 = .ok (.bipush 12, 2) := by decide +kernel
theorem dX6_init_23 : decode cX6_init 23 = .ok (.newarray .int, 2) := by decide +kernel
theorem dX6_init_25 : decode cX6_init 25 = .ok (.putfield 18, 3) := by decide +kernel
theorem dX6_init_28 : decode cX6_init 28 = .ok (.aload_n 0, 1) := by decide +kernel
theorem dX6_init_29 : decode cX6_init 29 = .ok (.bipush 12, 2) := by decide +kernel
theorem dX6_init_31 : decode cX6_init 31 = .ok (.newarray .int, 2) := by decide +kernel
theorem dX6_init_33 : decode cX6_init 33 = .ok (.putfield 21, 3) := by decide +kernel
theorem dX6_init_36 : decode cX6_init 36 = .ok (.aload_n 0, 1) := by decide +kernel
theorem dX6_init_37 : decode cX6_init 37 = .ok (.sipush 300, 3) := by decide +kernel
theorem dX6_init_40 : decode cX6_init 40 = .ok (.newarray .int, 2) := by decide +kernel
theorem dX6_init_42 : decode cX6_init 42 = .ok (.putfield 24, 3) := by decide +kernel
theorem dX6_init_45 : decode cX6_init 45 = .ok (.aload_n 0, 1) := by decide +kernel
theorem dX6_init_46 : decode cX6_init 46 = .ok (.sipush 300, 3) := by decide +kernel
theorem dX6_init_49 : decode cX6_init 49 = .ok (.newarray .int, 2) := by decide +kernel
theorem dX6_init_51 : decode cX6_init 51 = .ok (.putfield 27, 3) := by decide +kernel
theorem dX6_init_54 : decode cX6_init 54 = .ok (.aload_n 0, 1) := by decide +kernel
theorem dX6_init_55 : decode cX6_init 55 = .ok (.sipush 300, 3) := by decide +kernel
theorem dX6_init_58 : decode cX6_init 58 = .ok (.newarray .int, 2) := by decide +kernel
theorem dX6_init_60 : decode cX6_init 60 = .ok (.putfield 30, 3) := by decide +kernel
theorem dX6_init_63 : decode cX6_init 63 = .ok (.return_, 1) := by decide +kernel
theorem dX6_addFunc_0 : decode cX6_addFunc 0 = .ok (.aload_n 0, 1) := by decide +kernel
theorem dX6_addFunc_1 : decode cX6_addFunc 1 = .ok (.getfield 9, 3) := by decide +kernel
theorem dX6_addFunc_4 : decode cX6_addFunc 4 = .ok (.aload_n 0, 1) := by decide +kernel
theorem dX6_addFunc_5 : decode cX6_addFunc 5 = .ok (.getfield 33, 3) := by decide +kernel
theorem dX6_addFunc_8 : decode cX6_addFunc 8 = .ok (.iload_n 1, 1) := by decide +kernel
theorem dX6_addFunc_9 : decode cX6_addFunc 9 = .ok (.iastore, 1) := by decide +kernel
theorem dX6_addFunc_10 : decode cX6_addFunc 10 = .ok (.aload_n 0, 1) := by decide +kernel
theorem dX6_addFunc_11 : decode cX6_addFunc 11 = .ok (.getfield 15, 3) := by decide +kernel
theorem dX6_addFunc_14 : decode cX6_addFunc 14 = .ok (.aload_n 0, 1) := by decide +kernel
theorem dX6_addFunc_15 : decode cX6_addFunc 15 = .ok (.getfield 33, 3) := by decide +kernel
theorem dX6_addFunc_18 : decode cX6_addFunc 18 = .ok (.iload_n 2, 1) := by decide +kernel
theorem dX6_addFunc_19 : decode cX6_addFunc 19 = .ok (.iastore, 1) := by decide +kernel
theorem dX6_addFunc_20 : decode cX6_addFunc 20 = .ok (.aload_n 0, 1) := by decide +kernel
theorem dX6_addFunc_21 : decode cX6_addFunc 21 = .ok (.getfield 18, 3) := by decide +kernel
theorem dX6_addFunc_24 : decode cX6_addFunc 24 = .ok (.aload_n 0, 1) := by decide +kernel
theorem dX6_addFunc_25 : decode cX6_addFunc 25 = .ok (.getfield 33, 3) := by decide +kernel
theorem dX6_addFunc_28 : decode cX6_addFunc 28 = .ok (.aload_n 0, 1) := by decide +kernel
theorem dX6_addFunc_29 : decode cX6_addFunc 29 = .ok (.getfield 37, 3) := by decide +kernel
theorem dX6_addFunc_32 : decode cX6_addFunc 32 = .ok (.iastore, 1) := by decide +kernel
theorem dX6_addFunc_33 : decode cX6_addFunc 33 = .ok (.aload_n 0, 1) := by decide +kernel
theorem dX6_addFunc_34 : decode cX6_addFunc 34 = .ok (.getfield 21, 3) := by decide +kernel
theorem dX6_addFunc_37 : decode cX6_addFunc 37 = .ok (.aload_n 0, 1) := by decide +kernel
theorem dX6_addFunc_38 : decode cX6_addFunc 38 = .ok (.getfield 33, 3) := by decide +kernel
theorem dX6_addFunc_41 : decode cX6_addFunc 41 = .ok (.iconst 0, 1) := by decide +kernel
theorem dX6_addFunc_42 : decode cX6_addFunc 42 = .ok (.iastore, 1) := by decide +kernel
theorem dX6_addFunc_43 : decode cX6_addFunc 43 = .ok (.aload_n 0, 1) := by decide +kernel
theorem dX6_addFunc_44 : decode cX6_addFunc 44 = .ok (.dup, 1) := by decide +kernel
theorem dX6_addFunc_45 : decode cX6_addFunc 45 = .ok (.getfield 33, 3) := by decide +kernel
theorem dX6_addFunc_48 : decode cX6_addFunc 48 = .ok (.iconst 1, 1) := by decide +kernel
theorem dX6_addFunc_49 : decode cX6_addFunc 49 = .ok (.iadd, 1) := by decide +kernel
theorem dX6_addFunc_50 : decode cX6_addFunc 50 = .ok (.putfield 33, 3) := by decide +kernel
theorem dX6_addFunc_53 : decode cX6_addFunc 53 = .ok (.aload_n 0, 1) := by decide +kernel
theorem dX6_addFunc_54 : decode cX6_addFunc 54 = .ok (.getfield 33, 3) := by decide +kernel
theorem dX6_addFunc_57 : decode cX6_addFunc 57 = .ok (.iconst 1, 1) := by decide +kernel
theorem dX6_addFunc_58 : decode cX6_addFunc 58 = .ok (.isub, 1) := by decide +kernel
theorem dX6_addFunc_59 : decode cX6_addFunc 59 = .ok (.ireturn, 1) := by decide +kernel
theorem dX6_empty_0 : decode cX6_empty 0 = .ok (.aload_n 0, 1) := by decide +kernel
theorem dX6_empty_1 : decode cX6_empty 1 = .ok (.iconst 0, 1) := by decide +kernel
theorem dX6_empty_2 : decode cX6_empty 2 = .ok (.putfield 33, 3) := by decide +kernel
theorem dX6_empty_5 : decode cX6_empty 5 = .ok (.aload_n 0, 1) := by decide +kernel
theorem dX6_empty_6 : decode cX6_empty 6 = .ok (.iconst 0, 1) := by decide +kernel
theorem dX6_empty_7 : decode cX6_empty 7 = .ok (.putfield 37, 3) := by decide +kernel
theorem dX6_empty_10 : decode cX6_empty 10 = .ok (.aload_n 0, 1) := by decide +kernel
theorem dX6_empty_11 : decode cX6_empty 11 = .ok (.iconst 0, 1) := by decide +kernel
theorem dX6_empty_12 : decode cX6_empty 12 = .ok (.putfield 40, 3) := by decide +kernel
theorem dX6_empty_15 : decode cX6_empty 15 = .ok (.return_, 1) := by decide +kernel
theorem dX7_init_0 : decode cX7_init 0 = .ok (.aload_n 0, 1) := by decide +kernel
theorem dX7_init_1 : decode cX7_init 1 = .ok (.invokespecial 3, 3) := by decide +kernel
theorem dX7_init_4 : decode cX7_init 4 = .ok (.aload_n 0, 1) := by decide +kernel
theorem dX7_init_5 : decode cX7_init 5 = .ok (.sipush 480, 3) := by decide +kernel
theorem dX7_init_8 : decode cX7_init 8 = .ok (.newarray .int, 2) := by decide +kernel
theorem dX7_init_10 : decode cX7_init 10 = .ok (.putfield 9, 3) := by decide +kernel
theorem dX7_init_13 : decode cX7_init 13 = .ok (.aload_n 0, 1) := by decide +kernel
theorem dX7_init_14 : decode cX7_init 14 = .ok (.sipush 660, 3) := by decide +kernel
theorem dX7_init_17 : decode cX7_init 17 = .ok (.newarray .int, 2) := by decide +kernel
theorem dX7_init_19 : decode cX7_init 19 = .ok (.putfield 15, 3) := by decide +kernel
theorem dX7_init_22 : decode cX7_init 22 = .ok (.aload_n 0, 1) := by decide +kernel
theorem dX7_init_23 : decode cX7_init 23 = .ok (.bipush 6, 2) := by decide +kernel
theorem dX7_init_25 : decode cX7_init 25 = .ok (.newarray .int, 2) := by decide +kernel
theorem dX7_init_27 : decode cX7_init 27 = .ok (.putfield 18, 3) := by decide +kernel
theorem dX7_init_30 : decode cX7_init 30 = .ok (.aload_n 0, 1) := by decide +kernel
theorem dX7_init_31 : decode cX7_init 31 = .ok (.aload_n 1, 1) := by decide +kernel
theorem dX7_init_32 : decode cX7_init 32 = .ok (.putfield 21, 3) := by decide +kernel
theorem dX7_init_35 : decode cX7_init 35 = .ok (.return_, 1) := by decide +kernel
theorem dX7_begin_0 : decode cX7_begin 0 = .ok (.aload_n 0, 1) := by decide +kernel
theorem dX7_begin_1 : decode cX7_begin 1 = .ok (.invokespecial 25, 3) := by decide +kernel
theorem dX7_begin_4 : decode cX7_begin 4 = .ok (.aload_n 0, 1) := by decide +kernel
theorem dX7_begin_5 : decode cX7_begin 5 = .ok (.iconst 0, 1) := by decide +kernel
theorem dX7_begin_6 : decode cX7_begin 6 = .ok (.putfield 28, 3) := by decide +kernel
theorem dX7_begin_9 : decode cX7_begin 9 = .ok (.aload_n 0, 1) := by decide +kernel
theorem dX7_begin_10 : decode cX7_begin 10 = .ok (.getfield 18, 3) := by decide +kernel
theorem dX7_begin_13 : decode cX7_begin 13 = .ok (.iconst 0, 1) := by decide +kernel
theorem dX7_begin_14 : decode cX7_begin 14 = .ok (.invokestatic 32, 3) := by decide +kernel
theorem dX7_begin_17 : decode cX7_begin 17 = .ok (.return_, 1) := by decide +kernel
theorem dX8_init_0 : decode cX8_init 0 = .ok (.aload_n 0, 1) := by decide +kernel
theorem dX8_init_1 : decode cX8_init 1 = .ok (.invokespecial 3, 3) := by decide +kernel
theorem dX8_init_4 : decode cX8_init 4 = .ok (.aload_n 0, 1) := by decide +kernel
theorem dX8_init_5 : decode cX8_init 5 = .ok (.sipush 300, 3) := by decide +kernel
theorem dX8_init_8 : decode cX8_init 8 = .ok (.newarray .int, 2) := by decide +kernel
theorem dX8_init_10 : decode cX8_init 10 = .ok (.putfield 9, 3) := by decide +kernel
theorem dX8_init_13 : decode cX8_init 13 = .ok (.aload_n 0, 1) := by decide +kernel
theorem dX8_init_14 : decode cX8_init 14 = .ok (.sipush 360, 3) := by decide +kernel
theorem dX8_init_17 : decode cX8_init 17 = .ok (.newarray .int, 2) := by decide +kernel
theorem dX8_init_19 : decode cX8_init 19 = .ok (.putfield 15, 3) := by decide +kernel
theorem dX8_init_22 : decode cX8_init 22 = .ok (.aload_n 0, 1) := by decide +kernel
theorem dX8_init_23 : decode cX8_init 23 = .ok (.bipush 30, 2) := by decide +kernel
theorem dX8_init_25 : decode cX8_init 25 = .ok (.newarray .int, 2) := by decide +kernel
theorem dX8_init_27 : decode cX8_init 27 = .ok (.putfield 18, 3) := by decide +kernel
theorem dX8_init_30 : decode cX8_init 30 = .ok (.aload_n 0, 1) := by decide +kernel
theorem dX8_init_31 : decode cX8_init 31 = .ok (.aload_n 1, 1) := by decide +kernel
theorem dX8_init_32 : decode cX8_init 32 = .ok (.putfield 21, 3) := by decide +kernel
theorem dX8_init_35 : decode cX8_init 35 = .ok (.return_, 1) := by decide +kernel
theorem dX8_begin_0 : decode cX8_begin 0 = .ok (.aload_n 0, 1) := by decide +kernel
theorem dX8_begin_1 : decode cX8_begin 1 = .ok (.invokespecial 25, 3) := by decide +kernel
theorem dX8_begin_4 : decode cX8_begin 4 = .ok (.aload_n 0, 1) := by decide +kernel
theorem dX8_begin_5 : decode cX8_begin 5 = .ok (.iconst 0, 1) := by decide +kernel
theorem dX8_begin_6 : decode cX8_begin 6 = .ok (.putfield 28, 3) := by decide +kernel
theorem dX8_begin_9 : decode cX8_begin 9 = .ok (.return_, 1) := by decide +kernel
theorem dX9_init_0 : decode cX9_init 0 = .ok (.aload_n 0, 1) := by decide +kernel
theorem dX9_init_1 : decode cX9_init 1 = .ok (.invokespecial 3, 3) := by decide +kernel
theorem dX9_init_4 : decode cX9_init 4 = .ok (.aload_n 0, 1) := by decide +kernel
theorem dX9_init_5 : decode cX9_init 5 = .ok (.new 9, 3) := by decide +kernel
theorem dX9_init_8 : decode cX9_init 8 = .ok (.dup, 1) := by decide +kernel
theorem dX9_init_9 : decode cX9_init 9 = .ok (.invokespecial 11, 3) := by decide +kernel
theorem dX9_init_12 : decode cX9_init 12 = .ok (.putfield 12, 3) := by decide +kernel
theorem dX9_init_15 : decode cX9_init 15 = .ok (.aload_n 0, 1) := by decide +kernel
theorem dX9_init_16 : decode cX9_init 16 = .ok (.new 18, 3) := by decide +kernel
theorem dX9_init_19 : decode cX9_init 19 = .ok (.dup, 1) := by decide +kernel
theorem dX9_init_20 : decode cX9_init 20 = .ok (.invokespecial 20, 3) := by decide +kernel
theorem dX9_init_23 : decode cX9_init 23 = .ok (.putfield 21, 3) := by decide +kernel
theorem dX9_init_26 : decode cX9_init 26 = .ok (.aload_n 0, 1) := by decide +kernel
theorem dX9_init_27 : decode cX9_init 27 = .ok (.new 25, 3) := by decide +kernel
theorem dX9_init_30 : decode cX9_init 30 = .ok (.dup, 1) := by decide +kernel
theorem dX9_init_31 : decode cX9_init 31 = .ok (.invokespecial 27, 3) := by decide +kernel
theorem dX9_init_34 : decode cX9_init 34 = .ok (.putfield 28, 3) := by decide +kernel
theorem dX9_init_37 : decode cX9_init 37 = .ok (.aload_n 0, 1) := by decide +kernel
theorem dX9_init_38 : decode cX9_init 38 = .ok (.new 32, 3) := by decide +kernel
theorem dX9_init_41 : decode cX9_init 41 = .ok (.dup, 1) := by decide +kernel
theorem dX9_init_42 : decode cX9_init 42 = .ok (.invokespecial 34, 3) := by decide +kernel
theorem dX9_init_45 : decode cX9_init 45 = .ok (.putfield 35, 3) := by decide +kernel
theorem dX9_init_48 : decode cX9_init 48 = .ok (.aload_n 0, 1) := by decide +kernel
theorem dX9_init_49 : decode cX9_init 49 = .ok (.bipush 12, 2) := by decide +kernel
theorem dX9_init_51 : decode cX9_init 51 = .ok (.newarray .int, 2) := by decide +kernel
theorem dX9_init_53 : decode cX9_init 53 = .ok (.putfield 39, 3) := by decide +kernel
theorem dX9_init_56 : decode cX9_init 56 = .ok (.aload_n 0, 1) := by decide +kernel
theorem dX9_init_57 : decode cX9_init 57 = .ok (.aload_n 1, 1) := by decide +kernel
theorem dX9_init_58 : decode cX9_init 58 = .ok (.putfield 43, 3) := by decide +kernel
theorem dX9_init_61 : decode cX9_init 61 = .ok (.aload_n 0, 1) := by decide +kernel
theorem dX9_init_62 : decode cX9_init 62 = .ok (.new 47, 3) := by decide +kernel
theorem dX9_init_65 : decode cX9_init 65 = .ok (.dup, 1) := by decide +kernel
theorem dX9_init_66 : decode cX9_init 66 = .ok (.aload_n 0, 1) := by decide +kernel
theorem dX9_init_67 : decode cX9_init 67 = .ok (.getfield 12, 3) := by decide +kernel
theorem dX9_init_70 : decode cX9_init 70 = .ok (.aload_n 0, 1) := by decide +kernel
theorem dX9_init_71 : decode cX9_init 71 = .ok (.getfield 28, 3) := by decide +kernel
theorem dX9_init_74 : decode cX9_init 74 = .ok (.aload_n 0, 1) := by decide +kernel
theorem dX9_init_75 : decode cX9_init 75 = .ok (.getfield 35, 3) := by decide +kernel
theorem dX9_init_78 : decode cX9_init 78 = .ok (.invokespecial 49, 3) := by decide +kernel
theorem dX9_init_81 : decode cX9_init 81 = .ok (.putfield 52, 3) := by decide +kernel
theorem dX9_init_84 : decode cX9_init 84 = .ok (.return_, 1) := by decide +kernel
theorem dX10_init_0 : decode cX10_init 0 = .ok (.aload_n 0, 1) := by decide +kernel
theorem dX10_init_1 : decode cX10_init 1 = .ok (.invokespecial 3, 3) := by decide +kernel
theorem dX10_init_4 : decode cX10_init 4 = .ok (.aload_n 0, 1) := by decide +kernel
theorem dX10_init_5 : decode cX10_init 5 = .ok (.sipush 300, 3) := by decide +kernel
theorem dX10_init_8 : decode cX10_init 8 = .ok (.newarray .int, 2) := by decide +kernel
theorem dX10_init_10 : decode cX10_init 10 = .ok (.putfield 9, 3) := by decide +kernel
theorem dX10_init_13 : decode cX10_init 13 = .ok (.aload_n 0, 1) := by decide +kernel
theorem dX10_init_14 : decode cX10_init 14 = .ok (.aload_n 1, 1) := by decide +kernel
theorem dX10_init_15 : decode cX10_init 15 = .ok (.putfield 15, 3) := by decide +kernel
theorem dX10_init_18 : decode cX10_init 18 = .ok (.aload_n 0, 1) := by decide +kernel
theorem dX10_init_19 : decode cX10_init 19 = .ok (.aload_n 2, 1) := by decide +kernel
theorem dX10_init_20 : decode cX10_init 20 = .ok (.putfield 19, 3) := by decide +kernel
theorem dX10_init_23 : decode cX10_init 23 = .ok (.aload_n 0, 1) := by decide +kernel
theorem dX10_init_24 : decode cX10_init 24 = .ok (.aload_n 3, 1) := by decide +kernel
theorem dX10_init_25 : decode cX10_init 25 = .ok (.putfield 23, 3) := by decide +kernel
theorem dX10_init_28 : decode cX10_init 28 = .ok (.return_, 1) := by decide +kernel
theorem dX11_init_0 : decode cX11_init 0 = .ok (.aload_n 0, 1) := by decide +kernel
theorem dX11_init_1 : decode cX11_init 1 = .ok (.invokespecial 3, 3) := by decide +kernel
theorem dX11_init_4 : decode cX11_init 4 = .ok (.aload_n 0, 1) := by decide +kernel
theorem dX11_init_5 : decode cX11_init 5 = .ok (.new 9, 3) := by decide +kernel
theorem dX11_init_8 : decode cX11_init 8 = .ok (.dup, 1) := by decide +kernel
theorem dX11_init_9 : decode cX11_init 9 = .ok (.invokespecial 11, 3) := by decide +kernel
theorem dX11_init_12 : decode cX11_init 12 = .ok (.putfield 12, 3) := by decide +kernel
theorem dX11_init_15 : decode cX11_init 15 = .ok (.aload_n 0, 1) := by decide +kernel
theorem dX11_init_16 : decode cX11_init 16 = .ok (.new 16, 3) := by decide +kernel
theorem dX11_init_19 : decode cX11_init 19 = .ok (.dup, 1) := by decide +kernel
theorem dX11_init_20 : decode cX11_init 20 = .ok (.aload_n 0, 1) := by decide +kernel
theorem dX11_init_21 : decode cX11_init 21 = .ok (.getfield 12, 3) := by decide +kernel
theorem dX11_init_24 : decode cX11_init 24 = .ok (.invokespecial 18, 3) := by decide +kernel
theorem dX11_init_27 : decode cX11_init 27 = .ok (.putfield 21, 3) := by decide +kernel
theorem dX11_init_30 : decode cX11_init 30 = .ok (.aload_n 0, 1) := by decide +kernel
theorem dX11_init_31 : decode cX11_init 31 = .ok (.new 25, 3) := by decide +kernel
theorem dX11_init_34 : decode cX11_init 34 = .ok (.dup, 1) := by decide +kernel
theorem dX11_init_35 : decode cX11_init 35 = .ok (.aload_n 0, 1) := by decide +kernel
theorem dX11_init_36 : decode cX11_init 36 = .ok (.getfield 12, 3) := by decide +kernel
theorem dX11_init_39 : decode cX11_init 39 = .ok (.invokespecial 27, 3) := by decide +kernel
theorem dX11_init_42 : decode cX11_init 42 = .ok (.putfield 28, 3) := by decide +kernel
theorem dX11_init_45 : decode cX11_init 45 = .ok (.aload_n 0, 1) := by decide +kernel
theorem dX11_init_46 : decode cX11_init 46 = .ok (.new 32, 3) := by decide +kernel
theorem dX11_init_49 : decode cX11_init 49 = .ok (.dup, 1) := by decide +kernel
theorem dX11_init_50 : decode cX11_init 50 = .ok (.aload_n 0, 1) := by decide +kernel
theorem dX11_init_51 : decode cX11_init 51 = .ok (.getfield 12, 3) := by decide +kernel
theorem dX11_init_54 : decode cX11_init 54 = .ok (.invokespecial 34, 3) := by decide +kernel
theorem dX11_init_57 : decode cX11_init 57 = .ok (.putfield 35, 3) := by decide +kernel
theorem dX11_init_60 : decode cX11_init 60 = .ok (.aload_n 0, 1) := by decide +kernel
theorem dX11_init_61 : decode cX11_init 61 = .ok (.new 39, 3) := by decide +kernel
theorem dX11_init_64 : decode cX11_init 64 = .ok (.dup, 1) := by decide +kernel
theorem dX11_init_65 : decode cX11_init 65 = .ok (.aload_n 0, 1) := by decide +kernel
theorem dX11_init_66 : decode cX11_init 66 = .ok (.getfield 28, 3) := by decide +kernel
theorem dX11_init_69 : decode cX11_init 69 = .ok (.getfield 41, 3) := by decide +kernel
theorem dX11_init_72 : decode cX11_init 72 = .ok (.invokespecial 45, 3) := by decide +kernel
theorem dX11_init_75 : decode cX11_init 75 = .ok (.putfield 48, 3) := by decide +kernel
theorem dX11_init_78 : decode cX11_init 78 = .ok (.return_, 1) := by decide +kernel
theorem dX11_func_0 : decode cX11_func 0 = .ok (.iload_n 1, 1) := by decide +kernel
theorem dX11_func_1 : decode cX11_func 1 = .ok (.ifCond .lt 24, 3) := by decide +kernel
theorem dX11_func_4 : decode cX11_func 4 = .ok (.iload_n 1, 1) := by decide +kernel
theorem dX11_func_5 : decode cX11_func 5 = .ok (.bipush 6, 2) := by decide +kernel
theorem dX11_func_7 : decode cX11_func 7 = .ok (.if_icmp .gt 18, 3) := by decide +kernel
theorem dX11_func_10 : decode cX11_func 10 = .ok (.iload_n 2, 1) := by decide +kernel
theorem dX11_func_11 : decode cX11_func 11 = .ok (.iload_n 1, 1) := by decide +kernel
theorem dX11_func_12 : decode cX11_func 12 = .ok (.if_icmp .lt 13, 3) := by decide +kernel
theorem dX11_func_15 : decode cX11_func 15 = .ok (.iload_n 2, 1) := by decide +kernel
theorem dX11_func_16 : decode cX11_func 16 = .ok (.bipush 10, 2) := by decide +kernel
theorem dX11_func_18 : decode cX11_func 18 = .ok (.if_icmp .gt 7, 3) := by decide +kernel
theorem dX11_func_21 : decode cX11_func 21 = .ok (.iconst 1, 1) := by decide +kernel
theorem dX11_func_22 : decode cX11_func 22 = .ok (.goto 4, 3) := by decide +kernel
theorem dX11_func_25 : decode cX11_func 25 = .ok (.iconst 0, 1) := by decide +kernel
theorem dX11_func_26 : decode cX11_func 26 = .ok (.istore_n 3, 1) := by decide +kernel
theorem dX11_func_27 : decode cX11_func 27 = .ok (.iload_n 3, 1) := by decide +kernel
theorem dX11_func_28 : decode cX11_func 28 = .ok (.ifCond .eq 25, 3) := by decide +kernel
theorem dX11_func_31 : decode cX11_func 31 = .ok (.aload_n 0, 1) := by decide +kernel
theorem dX11_func_32 : decode cX11_func 32 = .ok (.getfield 12, 3) := by decide +kernel
theorem dX11_func_35 : decode cX11_func 35 = .ok (.getfield 51, 3) := by decide +kernel
theorem dX11_func_38 : decode cX11_func 38 = .ok (.ifCond .ne 15, 3) := by decide +kernel
theorem dX11_func_41 : decode cX11_func 41 = .ok (.aload_n 0, 1) := by decide +kernel
theorem dX11_func_42 : decode cX11_func 42 = .ok (.getfield 12, 3) := by decide +kernel
theorem dX11_func_45 : decode cX11_func 45 = .ok (.getfield 55, 3) := by decide +kernel
theorem dX11_func_48 : decode cX11_func 48 = .ok (.bipush 12, 2) := by decide +kernel
theorem dX11_func_50 : decode cX11_func 50 = .ok (.if_icmp .lt 5, 3) := by decide +kernel
theorem dX11_func_53 : decode cX11_func 53 = .ok (.iconst (-1), 1) := by decide +kernel
theorem dX11_func_54 : decode cX11_func 54 = .ok (.ireturn, 1) := by decide +kernel
theorem dX11_func_55 : decode cX11_func 55 = .ok (.aload_n 0, 1) := by decide +kernel
theorem dX11_func_56 : decode cX11_func 56 = .ok (.getfield 12, 3) := by decide +kernel
theorem dX11_func_59 : decode cX11_func 59 = .ok (.iload_n 1, 1) := by decide +kernel
theorem dX11_func_60 : decode cX11_func 60 = .ok (.iload_n 2, 1) := by decide +kernel
theorem dX11_func_61 : decode cX11_func 61 = .ok (.invokevirtual 59, 3) := by decide +kernel
theorem dX11_func_64 : decode cX11_func 64 = .ok (.ireturn, 1) := by decide +kernel
theorem dX11_word_0 : decode cX11_word 0 = .ok (.aload_n 0, 1) := by decide +kernel
theorem dX11_word_1 : decode cX11_word 1 = .ok (.getfield 12, 3) := by decide +kernel
theorem dX11_word_4 : decode cX11_word 4 = .ok (.getfield 55, 3) := by decide +kernel
theorem dX11_word_7 : decode cX11_word 7 = .ok (.ifCond .eq 26, 3) := by decide +kernel
theorem dX11_word_10 : decode cX11_word 10 = .ok (.aload_n 0, 1) := by decide +kernel
theorem dX11_word_11 : decode cX11_word 11 = .ok (.getfield 12, 3) := by decide +kernel
theorem dX11_word_14 : decode cX11_word 14 = .ok (.getfield 51, 3) := by decide +kernel
theorem dX11_word_17 : decode cX11_word 17 = .ok (.ifCond .ne 16, 3) := by decide +kernel
theorem dX11_word_20 : decode cX11_word 20 = .ok (.aload_n 0, 1) := by decide +kernel
theorem dX11_word_21 : decode cX11_word 21 = .ok (.getfield 12, 3) := by decide +kernel
theorem dX11_word_24 : decode cX11_word 24 = .ok (.getfield 63, 3) := by decide +kernel
theorem dX11_word_27 : decode cX11_word 27 = .ok (.sipush 300, 3) := by decide +kernel
theorem dX11_word_30 : decode cX11_word 30 = .ok (.if_icmp .lt 5, 3) := by decide +kernel
theorem dX11_word_33 : decode cX11_word 33 = .ok (.iconst (-1), 1) := by decide +kernel
theorem dX11_word_34 : decode cX11_word 34 = .ok (.ireturn, 1) := by decide +kernel
theorem dX11_word_35 : decode cX11_word 35 = .ok (.aload_n 0, 1) := by decide +kernel
theorem dX11_word_36 : decode cX11_word 36 = .ok (.getfield 12, 3) := by decide +kernel
theorem dX11_word_39 : decode cX11_word 39 = .ok (.iload_n 1, 1) := by decide +kernel
theorem dX11_word_40 : decode cX11_word 40 = .ok (.iload_n 2, 1) := by decide +kernel
theorem dX11_word_41 : decode cX11_word 41 = .ok (.invokevirtual 66, 3) := by decide +kernel
theorem dX11_word_44 : decode cX11_word 44 = .ok (.ireturn, 1) := by decide +kernel
theorem dX11_check_0 : decode cX11_check 0 = .ok (.aload_n 0, 1) := by decide +kernel
theorem dX11_check_1 : decode cX11_check 1 = .ok (.getfield 12, 3) := by decide +kernel
theorem dX11_check_4 : decode cX11_check 4 = .ok (.getfield 51, 3) := by decide +kernel
theorem dX11_check_7 : decode cX11_check 7 = .ok (.ifCond .eq 5, 3) := by decide +kernel
theorem dX11_check_10 : decode cX11_check 10 = .ok (.iconst 0, 1) := by decide +kernel
theorem dX11_check_11 : decode cX11_check 11 = .ok (.ireturn, 1) := by decide +kernel
theorem dX11_check_12 : decode cX11_check 12 = .ok (.aload_n 0, 1) := by decide +kernel
theorem dX11_check_13 : decode cX11_check 13 = .ok (.getfield 21, 3) := by decide +kernel
theorem dX11_check_16 : decode cX11_check 16 = .ok (.invokevirtual 69, 3) := by decide +kernel
theorem dX11_check_19 : decode cX11_check 19 = .ok (.istore_n 1, 1) := by decide +kernel
theorem dX11_check_20 : decode cX11_check 20 = .ok (.aload_n 0, 1) := by decide +kernel
theorem dX11_check_21 : decode cX11_check 21 = .ok (.getfield 12, 3) := by decide +kernel
theorem dX11_check_24 : decode cX11_check 24 = .ok (.iload_n 1, 1) := by decide +kernel
theorem dX11_check_25 : decode cX11_check 25 = .ok (.ifCond .ne 7, 3) := by decide +kernel
theorem dX11_check_28 : decode cX11_check 28 = .ok (.iconst 1, 1) := by decide +kernel
theorem dX11_check_29 : decode cX11_check 29 = .ok (.goto 4, 3) := by decide +kernel
theorem dX11_check_32 : decode cX11_check 32 = .ok (.iconst 0, 1) := by decide +kernel
theorem dX11_check_33 : decode cX11_check 33 = .ok (.putfield 51, 3) := by decide +kernel
theorem dX11_check_36 : decode cX11_check 36 = .ok (.iload_n 1, 1) := by decide +kernel
theorem dX11_check_37 : decode cX11_check 37 = .ok (.ireturn, 1) := by decide +kernel
theorem dX11_depth_0 : decode cX11_depth 0 = .ok (.aload_n 0, 1) := by decide +kernel
theorem dX11_depth_1 : decode cX11_depth 1 = .ok (.getfield 12, 3) := by decide +kernel
theorem dX11_depth_4 : decode cX11_depth 4 = .ok (.getfield 51, 3) := by decide +kernel
theorem dX11_depth_7 : decode cX11_depth 7 = .ok (.ifCond .eq 14, 3) := by decide +kernel
theorem dX11_depth_10 : decode cX11_depth 10 = .ok (.aload_n 0, 1) := by decide +kernel
theorem dX11_depth_11 : decode cX11_depth 11 = .ok (.getfield 12, 3) := by decide +kernel
theorem dX11_depth_14 : decode cX11_depth 14 = .ok (.iload_n 1, 1) := by decide +kernel
theorem dX11_depth_15 : decode cX11_depth 15 = .ok (.invokevirtual 73, 3) := by decide +kernel
theorem dX11_depth_18 : decode cX11_depth 18 = .ok (.ifCond .ne 5, 3) := by decide +kernel
theorem dX11_depth_21 : decode cX11_depth 21 = .ok (.iconst (-1), 1) := by decide +kernel
theorem dX11_depth_22 : decode cX11_depth 22 = .ok (.ireturn, 1) := by decide +kernel
theorem dX11_depth_23 : decode cX11_depth 23 = .ok (.iload_n 2, 1) := by decide +kernel
theorem dX11_depth_24 : decode cX11_depth 24 = .ok (.ifCond .lt 16, 3) := by decide +kernel
theorem dX11_depth_27 : decode cX11_depth 27 = .ok (.iload_n 2, 1) := by decide +kernel
theorem dX11_depth_28 : decode cX11_depth 28 = .ok (.aload_n 0, 1) := by decide +kernel
theorem dX11_depth_29 : decode cX11_depth 29 = .ok (.getfield 12, 3) := by decide +kernel
theorem dX11_depth_32 : decode cX11_depth 32 = .ok (.getfield 77, 3) := by decide +kernel
theorem dX11_depth_35 : decode cX11_depth 35 = .ok (.iload_n 1, 1) := by decide +kernel
theorem dX11_depth_36 : decode cX11_depth 36 = .ok (.iaload, 1) := by decide +kernel
theorem dX11_depth_37 : decode cX11_depth 37 = .ok (.if_icmp .lt 5, 3) := by decide +kernel
theorem dX11_depth_40 : decode cX11_depth 40 = .ok (.iconst (-1), 1) := by decide +kernel
theorem dX11_depth_41 : decode cX11_depth 41 = .ok (.ireturn, 1) := by decide +kernel
theorem dX11_depth_42 : decode cX11_depth 42 = .ok (.aload_n 0, 1) := by decide +kernel
theorem dX11_depth_43 : decode cX11_depth 43 = .ok (.getfield 12, 3) := by decide +kernel
theorem dX11_depth_46 : decode cX11_depth 46 = .ok (.getfield 81, 3) := by decide +kernel
theorem dX11_depth_49 : decode cX11_depth 49 = .ok (.aload_n 0, 1) := by decide +kernel
theorem dX11_depth_50 : decode cX11_depth 50 = .ok (.getfield 12, 3) := by decide +kernel
theorem dX11_depth_53 : decode cX11_depth 53 = .ok (.getfield 84, 3) := by decide +kernel
theorem dX11_depth_56 : decode cX11_depth 56 = .ok (.iload_n 1, 1) := by decide +kernel
theorem dX11_depth_57 : decode cX11_depth 57 = .ok (.iaload, 1) := by decide +kernel
theorem dX11_depth_58 : decode cX11_depth 58 = .ok (.iload_n 2, 1) := by decide +kernel
theorem dX11_depth_59 : decode cX11_depth 59 = .ok (.iadd, 1) := by decide +kernel
theorem dX11_depth_60 : decode cX11_depth 60 = .ok (.iaload, 1) := by decide +kernel
theorem dX11_depth_61 : decode cX11_depth 61 = .ok (.ireturn, 1) := by decide +kernel
theorem dX11_clear_0 : decode cX11_clear 0 = .ok (.aload_n 0, 1) := by decide +kernel
theorem dX11_clear_1 : decode cX11_clear 1 = .ok (.getfield 12, 3) := by decide +kernel
theorem dX11_clear_4 : decode cX11_clear 4 = .ok (.invokevirtual 87, 3) := by decide +kernel
theorem dX11_clear_7 : decode cX11_clear 7 = .ok (.aload_n 0, 1) := by decide +kernel
theorem dX11_clear_8 : decode cX11_clear 8 = .ok (.getfield 28, 3) := by decide +kernel
theorem dX11_clear_11 : decode cX11_clear 11 = .ok (.iconst 0, 1) := by decide +kernel
theorem dX11_clear_12 : decode cX11_clear 12 = .ok (.putfield 90, 3) := by decide +kernel
theorem dX11_clear_15 : decode cX11_clear 15 = .ok (.aload_n 0, 1) := by decide +kernel
theorem dX11_clear_16 : decode cX11_clear 16 = .ok (.invokevirtual 93, 3) := by decide +kernel
theorem dX11_clear_19 : decode cX11_clear 19 = .ok (.aload_n 0, 1) := by decide +kernel
theorem dX11_clear_20 : decode cX11_clear 20 = .ok (.getfield 35, 3) := by decide +kernel
theorem dX11_clear_23 : decode cX11_clear 23 = .ok (.getfield 96, 3) := by decide +kernel
theorem dX11_clear_26 : decode cX11_clear 26 = .ok (.iconst 0, 1) := by decide +kernel
theorem dX11_clear_27 : decode cX11_clear 27 = .ok (.invokestatic 101, 3) := by decide +kernel
theorem dX11_clear_30 : decode cX11_clear 30 = .ok (.aload_n 0, 1) := by decide +kernel
theorem dX11_clear_31 : decode cX11_clear 31 = .ok (.getfield 48, 3) := by decide +kernel
theorem dX11_clear_34 : decode cX11_clear 34 = .ok (.getfield 96, 3) := by decide +kernel
theorem dX11_clear_37 : decode cX11_clear 37 = .ok (.iconst 0, 1) := by decide +kernel
theorem dX11_clear_38 : decode cX11_clear 38 = .ok (.invokestatic 101, 3) := by decide +kernel
theorem dX11_clear_41 : decode cX11_clear 41 = .ok (.return_, 1) := by decide +kernel
theorem dX11_turn_0 : decode cX11_turn 0 = .ok (.aload_n 0, 1) := by decide +kernel
theorem dX11_turn_1 : decode cX11_turn 1 = .ok (.getfield 12, 3) := by decide +kernel
theorem dX11_turn_4 : decode cX11_turn 4 = .ok (.getfield 51, 3) := by decide +kernel
theorem dX11_turn_7 : decode cX11_turn 7 = .ok (.ifCond .eq 14, 3) := by decide +kernel
theorem dX11_turn_10 : decode cX11_turn 10 = .ok (.iload_n 1, 1) := by decide +kernel
theorem dX11_turn_11 : decode cX11_turn 11 = .ok (.iconst 3, 1) := by decide +kernel
theorem dX11_turn_12 : decode cX11_turn 12 = .ok (.if_icmp .lt 9, 3) := by decide +kernel
theorem dX11_turn_15 : decode cX11_turn 15 = .ok (.iload_n 1, 1) := by decide +kernel
theorem dX11_turn_16 : decode cX11_turn 16 = .ok (.bipush 16, 2) := by decide +kernel
theorem dX11_turn_18 : decode cX11_turn 18 = .ok (.if_icmp .le 5, 3) := by decide +kernel
theorem dX11_turn_21 : decode cX11_turn 21 = .ok (.iconst (-1), 1) := by decide +kernel
theorem dX11_turn_22 : decode cX11_turn 22 = .ok (.ireturn, 1) := by decide +kernel
theorem dX11_turn_23 : decode cX11_turn 23 = .ok (.aload_n 0, 1) := by decide +kernel
theorem dX11_turn_24 : decode cX11_turn 24 = .ok (.getfield 28, 3) := by decide +kernel
theorem dX11_turn_27 : decode cX11_turn 27 = .ok (.iload_n 1, 1) := by decide +kernel
theorem dX11_turn_28 : decode cX11_turn 28 = .ok (.invokevirtual 107, 3) := by decide +kernel
theorem dX11_turn_31 : decode cX11_turn 31 = .ok (.iconst 0, 1) := by decide +kernel
theorem dX11_turn_32 : decode cX11_turn 32 = .ok (.istore_n 2, 1) := by decide +kernel
theorem dX11_turn_33 : decode cX11_turn 33 = .ok (.iload_n 2, 1) := by decide +kernel
theorem dX11_turn_34 : decode cX11_turn 34 = .ok (.aload_n 0, 1) := by decide +kernel
theorem dX11_turn_35 : decode cX11_turn 35 = .ok (.getfield 12, 3) := by decide +kernel
theorem dX11_turn_38 : decode cX11_turn 38 = .ok (.getfield 55, 3) := by decide +kernel
theorem dX11_turn_41 : decode cX11_turn 41 = .ok (.if_icmp .ge 17, 3) := by decide +kernel
theorem dX11_turn_44 : decode cX11_turn 44 = .ok (.aload_n 0, 1) := by decide +kernel
theorem dX11_turn_45 : decode cX11_turn 45 = .ok (.getfield 28, 3) := by decide +kernel
theorem dX11_turn_48 : decode cX11_turn 48 = .ok (.iload_n 2, 1) := by decide +kernel
theorem dX11_turn_49 : decode cX11_turn 49 = .ok (.invokevirtual 111, 3) := by decide +kernel
theorem dX11_turn_52 : decode cX11_turn 52 = .ok (.iinc 2 1, 3) := by decide +kernel
theorem dX11_turn_55 : decode cX11_turn 55 = .ok (.goto (-22), 3) := by decide +kernel
theorem dX11_turn_58 : decode cX11_turn 58 = .ok (.aload_n 0, 1) := by decide +kernel
theorem dX11_turn_59 : decode cX11_turn 59 = .ok (.invokevirtual 93, 3) := by decide +kernel
theorem dX11_turn_62 : decode cX11_turn 62 = .ok (.aload_n 0, 1) := by decide +kernel
theorem dX11_turn_63 : decode cX11_turn 63 = .ok (.getfield 28, 3) := by decide +kernel
theorem dX11_turn_66 : decode cX11_turn 66 = .ok (.getfield 41, 3) := by decide +kernel
theorem dX11_turn_69 : decode cX11_turn 69 = .ok (.getfield 114, 3) := by decide +kernel
theorem dX11_turn_72 : decode cX11_turn 72 = .ok (.ireturn, 1) := by decide +kernel
theorem dX11_op_0 : decode cX11_op 0 = .ok (.aload_n 0, 1) := by decide +kernel
theorem dX11_op_1 : decode cX11_op 1 = .ok (.iload_n 1, 1) := by decide +kernel
theorem dX11_op_2 : decode cX11_op 2 = .ok (.invokevirtual 119, 3) := by decide +kernel
theorem dX11_op_5 : decode cX11_op 5 = .ok (.ifCond .eq 23, 3) := by decide +kernel
theorem dX11_op_8 : decode cX11_op 8 = .ok (.iload_n 2, 1) := by decide +kernel
theorem dX11_op_9 : decode cX11_op 9 = .ok (.ifCond .lt 19, 3) := by decide +kernel
theorem dX11_op_12 : decode cX11_op 12 = .ok (.iload_n 2, 1) := by decide +kernel
theorem dX11_op_13 : decode cX11_op 13 = .ok (.aload_n 0, 1) := by decide +kernel
theorem dX11_op_14 : decode cX11_op 14 = .ok (.getfield 28, 3) := by decide +kernel
theorem dX11_op_17 : decode cX11_op 17 = .ok (.getfield 41, 3) := by decide +kernel
theorem dX11_op_20 : decode cX11_op 20 = .ok (.getfield 122, 3) := by decide +kernel
theorem dX11_op_23 : decode cX11_op 23 = .ok (.iload_n 1, 1) := by decide +kernel
theorem dX11_op_24 : decode cX11_op 24 = .ok (.iaload, 1) := by decide +kernel
theorem dX11_op_25 : decode cX11_op 25 = .ok (.if_icmp .lt 13, 3) := by decide +kernel
theorem dX11_op_28 : decode cX11_op 28 = .ok (.new 125, 3) := by decide +kernel
theorem dX11_op_31 : decode cX11_op 31 = .ok (.dup, 1) := by decide +kernel
theorem dX11_op_32 : decode cX11_op 32 = .ok (.ldc 127, 2) := by decide +kernel
theorem dX11_op_34 : decode cX11_op 34 = .ok (.invokespecial 129, 3) := by decide +kernel
theorem dX11_op_37 : decode cX11_op 37 = .ok (.athrow, 1) := by decide +kernel
theorem dX11_op_38 : decode cX11_op 38 = .ok (.iload_n 3, 1) := by decide +kernel
theorem dX11_op_39 : decode cX11_op 39 = .ok (.ifCond .lt 8, 3) := by decide +kernel
theorem dX11_op_42 : decode cX11_op 42 = .ok (.iload_n 3, 1) := by decide +kernel
theorem dX11_op_43 : decode cX11_op 43 = .ok (.iconst 5, 1) := by decide +kernel
theorem dX11_op_44 : decode cX11_op 44 = .ok (.if_icmp .lt 13, 3) := by decide +kernel
theorem dX11_op_47 : decode cX11_op 47 = .ok (.new 125, 3) := by decide +kernel
theorem dX11_op_50 : decode cX11_op 50 = .ok (.dup, 1) := by decide +kernel
theorem dX11_op_51 : decode cX11_op 51 = .ok (.ldc 132, 2) := by decide +kernel
theorem dX11_op_53 : decode cX11_op 53 = .ok (.invokespecial 129, 3) := by decide +kernel
theorem dX11_op_56 : decode cX11_op 56 = .ok (.athrow, 1) := by decide +kernel
theorem dX11_op_57 : decode cX11_op 57 = .ok (.aload_n 0, 1) := by decide +kernel
theorem dX11_op_58 : decode cX11_op 58 = .ok (.getfield 28, 3) := by decide +kernel
theorem dX11_op_61 : decode cX11_op 61 = .ok (.getfield 41, 3) := by decide +kernel
theorem dX11_op_64 : decode cX11_op 64 = .ok (.iload_n 1, 1) := by decide +kernel
theorem dX11_op_65 : decode cX11_op 65 = .ok (.iload_n 2, 1) := by decide +kernel
theorem dX11_op_66 : decode cX11_op 66 = .ok (.iload_n 3, 1) := by decide +kernel
theorem dX11_op_67 : decode cX11_op 67 = .ok (.invokevirtual 134, 3) := by decide +kernel
theorem dX11_op_70 : decode cX11_op 70 = .ok (.ireturn, 1) := by decide +kernel
theorem dX11_size_0 : decode cX11_size 0 = .ok (.aload_n 0, 1) := by decide +kernel
theorem dX11_size_1 : decode cX11_size 1 = .ok (.iload_n 1, 1) := by decide +kernel
theorem dX11_size_2 : decode cX11_size 2 = .ok (.invokevirtual 119, 3) := by decide +kernel
theorem dX11_size_5 : decode cX11_size 5 = .ok (.ifCond .eq 18, 3) := by decide +kernel
theorem dX11_size_8 : decode cX11_size 8 = .ok (.aload_n 0, 1) := by decide +kernel
theorem dX11_size_9 : decode cX11_size 9 = .ok (.getfield 28, 3) := by decide +kernel
theorem dX11_size_12 : decode cX11_size 12 = .ok (.getfield 41, 3) := by decide +kernel
theorem dX11_size_15 : decode cX11_size 15 = .ok (.getfield 122, 3) := by decide +kernel
theorem dX11_size_18 : decode cX11_size 18 = .ok (.iload_n 1, 1) := by decide +kernel
theorem dX11_size_19 : decode cX11_size 19 = .ok (.iaload, 1) := by decide +kernel
theorem dX11_size_20 : decode cX11_size 20 = .ok (.goto 4, 3) := by decide +kernel
theorem dX11_size_23 : decode cX11_size 23 = .ok (.iconst (-1), 1) := by decide +kernel
theorem dX11_size_24 : decode cX11_size 24 = .ok (.ireturn, 1) := by decide +kernel
theorem dX11_value_0 : decode cX11_value 0 = .ok (.aload_n 0, 1) := by decide +kernel
theorem dX11_value_1 : decode cX11_value 1 = .ok (.iload_n 1, 1) := by decide +kernel
theorem dX11_value_2 : decode cX11_value 2 = .ok (.invokevirtual 119, 3) := by decide +kernel
theorem dX11_value_5 : decode cX11_value 5 = .ok (.ifCond .eq 23, 3) := by decide +kernel
theorem dX11_value_8 : decode cX11_value 8 = .ok (.iload_n 2, 1) := by decide +kernel
theorem dX11_value_9 : decode cX11_value 9 = .ok (.ifCond .lt 19, 3) := by decide +kernel
theorem dX11_value_12 : decode cX11_value 12 = .ok (.iload_n 2, 1) := by decide +kernel
theorem dX11_value_13 : decode cX11_value 13 = .ok (.aload_n 0, 1) := by decide +kernel
theorem dX11_value_14 : decode cX11_value 14 = .ok (.getfield 12, 3) := by decide +kernel
theorem dX11_value_17 : decode cX11_value 17 = .ok (.getfield 138, 3) := by decide +kernel
theorem dX11_value_20 : decode cX11_value 20 = .ok (.iload_n 1, 1) := by decide +kernel
theorem dX11_value_21 : decode cX11_value 21 = .ok (.iaload, 1) := by decide +kernel
theorem dX11_value_22 : decode cX11_value 22 = .ok (.bipush 12, 2) := by decide +kernel
theorem dX11_value_24 : decode cX11_value 24 = .ok (.iadd, 1) := by decide +kernel
theorem dX11_value_25 : decode cX11_value 25 = .ok (.if_icmp .lt 5, 3) := by decide +kernel
theorem dX11_value_28 : decode cX11_value 28 = .ok (.iconst (-1), 1) := by decide +kernel
theorem dX11_value_29 : decode cX11_value 29 = .ok (.ireturn, 1) := by decide +kernel
theorem dX11_value_30 : decode cX11_value 30 = .ok (.aload_n 0, 1) := by decide +kernel
theorem dX11_value_31 : decode cX11_value 31 = .ok (.getfield 28, 3) := by decide +kernel
theorem dX11_value_34 : decode cX11_value 34 = .ok (.getfield 141, 3) := by decide +kernel
theorem dX11_value_37 : decode cX11_value 37 = .ok (.iload_n 1, 1) := by decide +kernel
theorem dX11_value_38 : decode cX11_value 38 = .ok (.iload_n 2, 1) := by decide +kernel
theorem dX11_value_39 : decode cX11_value 39 = .ok (.iload_n 3, 1) := by decide +kernel
theorem dX11_value_40 : decode cX11_value 40 = .ok (.invokevirtual 145, 3) := by decide +kernel
theorem dX11_value_43 : decode cX11_value 43 = .ok (.ireturn, 1) := by decide +kernel
theorem dX11_slots_0 : decode cX11_slots 0 = .ok (.aload_n 0, 1) := by decide +kernel
theorem dX11_slots_1 : decode cX11_slots 1 = .ok (.iload_n 1, 1) := by decide +kernel
theorem dX11_slots_2 : decode cX11_slots 2 = .ok (.invokevirtual 119, 3) := by decide +kernel
theorem dX11_slots_5 : decode cX11_slots 5 = .ok (.ifCond .eq 18, 3) := by decide +kernel
theorem dX11_slots_8 : decode cX11_slots 8 = .ok (.aload_n 0, 1) := by decide +kernel
theorem dX11_slots_9 : decode cX11_slots 9 = .ok (.getfield 28, 3) := by decide +kernel
theorem dX11_slots_12 : decode cX11_slots 12 = .ok (.getfield 141, 3) := by decide +kernel
theorem dX11_slots_15 : decode cX11_slots 15 = .ok (.getfield 150, 3) := by decide +kernel
theorem dX11_slots_18 : decode cX11_slots 18 = .ok (.iload_n 1, 1) := by decide +kernel
theorem dX11_slots_19 : decode cX11_slots 19 = .ok (.iaload, 1) := by decide +kernel
theorem dX11_slots_20 : decode cX11_slots 20 = .ok (.goto 4, 3) := by decide +kernel
theorem dX11_slots_23 : decode cX11_slots 23 = .ok (.iconst (-1), 1) := by decide +kernel
theorem dX11_slots_24 : decode cX11_slots 24 = .ok (.ireturn, 1) := by decide +kernel
theorem dX11_places_0 : decode cX11_places 0 = .ok (.aload_n 0, 1) := by decide +kernel
theorem dX11_places_1 : decode cX11_places 1 = .ok (.iload_n 1, 1) := by decide +kernel
theorem dX11_places_2 : decode cX11_places 2 = .ok (.invokevirtual 119, 3) := by decide +kernel
theorem dX11_places_5 : decode cX11_places 5 = .ok (.ifCond .eq 15, 3) := by decide +kernel
theorem dX11_places_8 : decode cX11_places 8 = .ok (.aload_n 0, 1) := by decide +kernel
theorem dX11_places_9 : decode cX11_places 9 = .ok (.getfield 28, 3) := by decide +kernel
theorem dX11_places_12 : decode cX11_places 12 = .ok (.getfield 153, 3) := by decide +kernel
theorem dX11_places_15 : decode cX11_places 15 = .ok (.iload_n 1, 1) := by decide +kernel
theorem dX11_places_16 : decode cX11_places 16 = .ok (.iaload, 1) := by decide +kernel
theorem dX11_places_17 : decode cX11_places 17 = .ok (.goto 4, 3) := by decide +kernel
theorem dX11_places_20 : decode cX11_places 20 = .ok (.iconst (-1), 1) := by decide +kernel
theorem dX11_places_21 : decode cX11_places 21 = .ok (.ireturn, 1) := by decide +kernel
theorem dX11_cell_0 : decode cX11_cell 0 = .ok (.iload_n 1, 1) := by decide +kernel
theorem dX11_cell_1 : decode cX11_cell 1 = .ok (.ifCond .lt 9, 3) := by decide +kernel
theorem dX11_cell_4 : decode cX11_cell 4 = .ok (.iload_n 1, 1) := by decide +kernel
theorem dX11_cell_5 : decode cX11_cell 5 = .ok (.bipush 64, 2) := by decide +kernel
theorem dX11_cell_7 : decode cX11_cell 7 = .ok (.if_icmp .lt 5, 3) := by decide +kernel
theorem dX11_cell_10 : decode cX11_cell 10 = .ok (.iconst 0, 1) := by decide +kernel
theorem dX11_cell_11 : decode cX11_cell 11 = .ok (.ireturn, 1) := by decide +kernel
theorem dX11_cell_12 : decode cX11_cell 12 = .ok (.aload_n 0, 1) := by decide +kernel
theorem dX11_cell_13 : decode cX11_cell 13 = .ok (.getfield 35, 3) := by decide +kernel
theorem dX11_cell_16 : decode cX11_cell 16 = .ok (.getfield 96, 3) := by decide +kernel
theorem dX11_cell_19 : decode cX11_cell 19 = .ok (.iload_n 1, 1) := by decide +kernel
theorem dX11_cell_20 : decode cX11_cell 20 = .ok (.iload_n 2, 1) := by decide +kernel
theorem dX11_cell_21 : decode cX11_cell 21 = .ok (.iastore, 1) := by decide +kernel
theorem dX11_cell_22 : decode cX11_cell 22 = .ok (.aload_n 0, 1) := by decide +kernel
theorem dX11_cell_23 : decode cX11_cell 23 = .ok (.getfield 48, 3) := by decide +kernel
theorem dX11_cell_26 : decode cX11_cell 26 = .ok (.getfield 96, 3) := by decide +kernel
theorem dX11_cell_29 : decode cX11_cell 29 = .ok (.iload_n 1, 1) := by decide +kernel
theorem dX11_cell_30 : decode cX11_cell 30 = .ok (.iload_n 2, 1) := by decide +kernel
theorem dX11_cell_31 : decode cX11_cell 31 = .ok (.iastore, 1) := by decide +kernel
theorem dX11_cell_32 : decode cX11_cell 32 = .ok (.iconst 1, 1) := by decide +kernel
theorem dX11_cell_33 : decode cX11_cell 33 = .ok (.ireturn, 1) := by decide +kernel
theorem dX11_again_0 : decode cX11_again 0 = .ok (.aload_n 0, 1) := by decide +kernel
theorem dX11_again_1 : decode cX11_again 1 = .ok (.getfield 12, 3) := by decide +kernel
theorem dX11_again_4 : decode cX11_again 4 = .ok (.getfield 51, 3) := by decide +kernel
theorem dX11_again_7 : decode cX11_again 7 = .ok (.ifCond .ne 5, 3) := by decide +kernel
theorem dX11_again_10 : decode cX11_again 10 = .ok (.iconst 0, 1) := by decide +kernel
theorem dX11_again_11 : decode cX11_again 11 = .ok (.ireturn, 1) := by decide +kernel
theorem dX11_again_12 : decode cX11_again 12 = .ok (.aload_n 0, 1) := by decide +kernel
theorem dX11_again_13 : decode cX11_again 13 = .ok (.invokevirtual 93, 3) := by decide +kernel
theorem dX11_again_16 : decode cX11_again 16 = .ok (.iconst 1, 1) := by decide +kernel
theorem dX11_again_17 : decode cX11_again 17 = .ok (.ireturn, 1) := by decide +kernel
theorem dX11_runStack_0 : decode cX11_runStack 0 = .ok (.aload_n 0, 1) := by decide +kernel
theorem dX11_runStack_1 : decode cX11_runStack 1 = .ok (.getfield 12, 3) := by decide +kernel
theorem dX11_runStack_4 : decode cX11_runStack 4 = .ok (.getfield 51, 3) := by decide +kernel
theorem dX11_runStack_7 : decode cX11_runStack 7 = .ok (.ifCond .eq 15, 3) := by decide +kernel
theorem dX11_runStack_10 : decode cX11_runStack 10 = .ok (.iload_n 1, 1) := by decide +kernel
theorem dX11_runStack_11 : decode cX11_runStack 11 = .ok (.iconst 1, 1) := by decide +kernel
theorem dX11_runStack_12 : decode cX11_runStack 12 = .ok (.if_icmp .lt 10, 3) := by decide +kernel
theorem dX11_runStack_15 : decode cX11_runStack 15 = .ok (.iload_n 1, 1) := by decide +kernel
theorem dX11_runStack_16 : decode cX11_runStack 16 = .ok (.sipush 20000, 3) := by decide +kernel
theorem dX11_runStack_19 : decode cX11_runStack 19 = .ok (.if_icmp .le 5, 3) := by decide +kernel
theorem dX11_runStack_22 : decode cX11_runStack 22 = .ok (.iconst (-1), 1) := by decide +kernel
theorem dX11_runStack_23 : decode cX11_runStack 23 = .ok (.ireturn, 1) := by decide +kernel
theorem dX11_runStack_24 : decode cX11_runStack 24 = .ok (.aload_n 0, 1) := by decide +kernel
theorem dX11_runStack_25 : decode cX11_runStack 25 = .ok (.getfield 35, 3) := by decide +kernel
theorem dX11_runStack_28 : decode cX11_runStack 28 = .ok (.iload_n 1, 1) := by decide +kernel
theorem dX11_runStack_29 : decode cX11_runStack 29 = .ok (.invokevirtual 156, 3) := by decide +kernel
theorem dX11_runStack_32 : decode cX11_runStack 32 = .ok (.ireturn, 1) := by decide +kernel
theorem dX11_runRegisters_0 : decode cX11_runRegisters 0 = .ok (.aload_n 0, 1) := by decide +kernel
theorem dX11_runRegisters_1 : decode cX11_runRegisters 1 = .ok (.getfield 28, 3) := by decide +kernel
theorem dX11_runRegisters_4 : decode cX11_runRegisters 4 = .ok (.getfield 90, 3) := by decide +kernel
theorem dX11_runRegisters_7 : decode cX11_runRegisters 7 = .ok (.ifCond .eq 15, 3) := by decide +kernel
theorem dX11_runRegisters_10 : decode cX11_runRegisters 10 = .ok (.iload_n 1, 1) := by decide +kernel
theorem dX11_runRegisters_11 : decode cX11_runRegisters 11 = .ok (.iconst 1, 1) := by decide +kernel
theorem dX11_runRegisters_12 : decode cX11_runRegisters 12 = .ok (.if_icmp .lt 10, 3) := by decide +kernel
theorem dX11_runRegisters_15 : decode cX11_runRegisters 15 = .ok (.iload_n 1, 1) := by decide +kernel
theorem dX11_runRegisters_16 : decode cX11_runRegisters 16 = .ok (.sipush 20000, 3) := by decide +kernel
theorem dX11_runRegisters_19 : decode cX11_runRegisters 19 = .ok (.if_icmp .le 5, 3) := by decide +kernel
theorem dX11_runRegisters_22 : decode cX11_runRegisters 22 = .ok (.iconst (-1), 1) := by decide +kernel
theorem dX11_runRegisters_23 : decode cX11_runRegisters 23 = .ok (.ireturn, 1) := by decide +kernel
theorem dX11_runRegisters_24 : decode cX11_runRegisters 24 = .ok (.aload_n 0, 1) := by decide +kernel
theorem dX11_runRegisters_25 : decode cX11_runRegisters 25 = .ok (.getfield 48, 3) := by decide +kernel
theorem dX11_runRegisters_28 : decode cX11_runRegisters 28 = .ok (.iload_n 1, 1) := by decide +kernel
theorem dX11_runRegisters_29 : decode cX11_runRegisters 29 = .ok (.invokevirtual 156, 3) := by decide +kernel
theorem dX11_runRegisters_32 : decode cX11_runRegisters 32 = .ok (.ireturn, 1) := by decide +kernel
theorem dX11_look_0 : decode cX11_look 0 = .ok (.iload_n 1, 1) := by decide +kernel
theorem dX11_look_1 : decode cX11_look 1 = .ok (.ifCond .lt 8, 3) := by decide +kernel
theorem dX11_look_4 : decode cX11_look 4 = .ok (.iload_n 1, 1) := by decide +kernel
theorem dX11_look_5 : decode cX11_look 5 = .ok (.iconst 1, 1) := by decide +kernel
theorem dX11_look_6 : decode cX11_look 6 = .ok (.if_icmp .le 5, 3) := by decide +kernel
theorem dX11_look_9 : decode cX11_look 9 = .ok (.iconst (-1), 1) := by decide +kernel
theorem dX11_look_10 : decode cX11_look 10 = .ok (.ireturn, 1) := by decide +kernel
theorem dX11_look_11 : decode cX11_look 11 = .ok (.aload_n 0, 1) := by decide +kernel
theorem dX11_look_12 : decode cX11_look 12 = .ok (.iload_n 1, 1) := by decide +kernel
theorem dX11_look_13 : decode cX11_look 13 = .ok (.invokevirtual 160, 3) := by decide +kernel
theorem dX11_look_16 : decode cX11_look 16 = .ok (.iload_n 2, 1) := by decide +kernel
theorem dX11_look_17 : decode cX11_look 17 = .ok (.invokevirtual 164, 3) := by decide +kernel
theorem dX11_look_20 : decode cX11_look 20 = .ok (.ireturn, 1) := by decide +kernel
theorem dX11_peek_0 : decode cX11_peek 0 = .ok (.iload_n 1, 1) := by decide +kernel
theorem dX11_peek_1 : decode cX11_peek 1 = .ok (.ifCond .lt 18, 3) := by decide +kernel
theorem dX11_peek_4 : decode cX11_peek 4 = .ok (.iload_n 1, 1) := by decide +kernel
theorem dX11_peek_5 : decode cX11_peek 5 = .ok (.iconst 1, 1) := by decide +kernel
theorem dX11_peek_6 : decode cX11_peek 6 = .ok (.if_icmp .gt 13, 3) := by decide +kernel
theorem dX11_peek_9 : decode cX11_peek 9 = .ok (.iload_n 2, 1) := by decide +kernel
theorem dX11_peek_10 : decode cX11_peek 10 = .ok (.ifCond .lt 9, 3) := by decide +kernel
theorem dX11_peek_13 : decode cX11_peek 13 = .ok (.iload_n 2, 1) := by decide +kernel
theorem dX11_peek_14 : decode cX11_peek 14 = .ok (.bipush 64, 2) := by decide +kernel
theorem dX11_peek_16 : decode cX11_peek 16 = .ok (.if_icmp .lt 13, 3) := by decide +kernel
theorem dX11_peek_19 : decode cX11_peek 19 = .ok (.new 125, 3) := by decide +kernel
theorem dX11_peek_22 : decode cX11_peek 22 = .ok (.dup, 1) := by decide +kernel
theorem dX11_peek_23 : decode cX11_peek 23 = .ok (.ldc 166, 2) := by decide +kernel
theorem dX11_peek_25 : decode cX11_peek 25 = .ok (.invokespecial 129, 3) := by decide +kernel
theorem dX11_peek_28 : decode cX11_peek 28 = .ok (.athrow, 1) := by decide +kernel
theorem dX11_peek_29 : decode cX11_peek 29 = .ok (.aload_n 0, 1) := by decide +kernel
theorem dX11_peek_30 : decode cX11_peek 30 = .ok (.iload_n 1, 1) := by decide +kernel
theorem dX11_peek_31 : decode cX11_peek 31 = .ok (.invokevirtual 160, 3) := by decide +kernel
theorem dX11_peek_34 : decode cX11_peek 34 = .ok (.getfield 96, 3) := by decide +kernel
theorem dX11_peek_37 : decode cX11_peek 37 = .ok (.iload_n 2, 1) := by decide +kernel
theorem dX11_peek_38 : decode cX11_peek 38 = .ok (.iaload, 1) := by decide +kernel
theorem dX11_peek_39 : decode cX11_peek 39 = .ok (.ireturn, 1) := by decide +kernel
theorem dX11_count_0 : decode cX11_count 0 = .ok (.iload_n 1, 1) := by decide +kernel
theorem dX11_count_1 : decode cX11_count 1 = .ok (.tableswitch 100 0 4 #[35, 43, 51, 67, 75], 35) := by decide +kernel
theorem dX11_count_36 : decode cX11_count 36 = .ok (.aload_n 0, 1) := by decide +kernel
theorem dX11_count_37 : decode cX11_count 37 = .ok (.getfield 12, 3) := by decide +kernel
theorem dX11_count_40 : decode cX11_count 40 = .ok (.getfield 55, 3) := by decide +kernel
theorem dX11_count_43 : decode cX11_count 43 = .ok (.ireturn, 1) := by decide +kernel
theorem dX11_count_44 : decode cX11_count 44 = .ok (.aload_n 0, 1) := by decide +kernel
theorem dX11_count_45 : decode cX11_count 45 = .ok (.getfield 12, 3) := by decide +kernel
theorem dX11_count_48 : decode cX11_count 48 = .ok (.getfield 63, 3) := by decide +kernel
theorem dX11_count_51 : decode cX11_count 51 = .ok (.ireturn, 1) := by decide +kernel
theorem dX11_count_52 : decode cX11_count 52 = .ok (.aload_n 0, 1) := by decide +kernel
theorem dX11_count_53 : decode cX11_count 53 = .ok (.getfield 12, 3) := by decide +kernel
theorem dX11_count_56 : decode cX11_count 56 = .ok (.getfield 51, 3) := by decide +kernel
theorem dX11_count_59 : decode cX11_count 59 = .ok (.ifCond .eq 7, 3) := by decide +kernel
theorem dX11_count_62 : decode cX11_count 62 = .ok (.iconst 1, 1) := by decide +kernel
theorem dX11_count_63 : decode cX11_count 63 = .ok (.goto 4, 3) := by decide +kernel
theorem dX11_count_66 : decode cX11_count 66 = .ok (.iconst 0, 1) := by decide +kernel
theorem dX11_count_67 : decode cX11_count 67 = .ok (.ireturn, 1) := by decide +kernel
theorem dX11_count_68 : decode cX11_count 68 = .ok (.aload_n 0, 1) := by decide +kernel
theorem dX11_count_69 : decode cX11_count 69 = .ok (.getfield 28, 3) := by decide +kernel
theorem dX11_count_72 : decode cX11_count 72 = .ok (.getfield 90, 3) := by decide +kernel
theorem dX11_count_75 : decode cX11_count 75 = .ok (.ireturn, 1) := by decide +kernel
theorem dX11_count_76 : decode cX11_count 76 = .ok (.aload_n 0, 1) := by decide +kernel
theorem dX11_count_77 : decode cX11_count 77 = .ok (.getfield 28, 3) := by decide +kernel
theorem dX11_count_80 : decode cX11_count 80 = .ok (.getfield 90, 3) := by decide +kernel
theorem dX11_count_83 : decode cX11_count 83 = .ok (.ifCond .ne 7, 3) := by decide +kernel
theorem dX11_count_86 : decode cX11_count 86 = .ok (.iconst 0, 1) := by decide +kernel
theorem dX11_count_87 : decode cX11_count 87 = .ok (.goto 13, 3) := by decide +kernel
theorem dX11_count_90 : decode cX11_count 90 = .ok (.aload_n 0, 1) := by decide +kernel
theorem dX11_count_91 : decode cX11_count 91 = .ok (.getfield 28, 3) := by decide +kernel
theorem dX11_count_94 : decode cX11_count 94 = .ok (.getfield 41, 3) := by decide +kernel
theorem dX11_count_97 : decode cX11_count 97 = .ok (.getfield 114, 3) := by decide +kernel
theorem dX11_count_100 : decode cX11_count 100 = .ok (.ireturn, 1) := by decide +kernel
theorem dX11_count_101 : decode cX11_count 101 = .ok (.iconst (-1), 1) := by decide +kernel
theorem dX11_count_102 : decode cX11_count 102 = .ok (.ireturn, 1) := by decide +kernel
theorem dX11_isTurned_0 : decode cX11_isTurned 0 = .ok (.aload_n 0, 1) := by decide +kernel
theorem dX11_isTurned_1 : decode cX11_isTurned 1 = .ok (.getfield 28, 3) := by decide +kernel
theorem dX11_isTurned_4 : decode cX11_isTurned 4 = .ok (.getfield 90, 3) := by decide +kernel
theorem dX11_isTurned_7 : decode cX11_isTurned 7 = .ok (.ifCond .eq 18, 3) := by decide +kernel
theorem dX11_isTurned_10 : decode cX11_isTurned 10 = .ok (.aload_n 0, 1) := by decide +kernel
theorem dX11_isTurned_11 : decode cX11_isTurned 11 = .ok (.getfield 12, 3) := by decide +kernel
theorem dX11_isTurned_14 : decode cX11_isTurned 14 = .ok (.iload_n 1, 1) := by decide +kernel
theorem dX11_isTurned_15 : decode cX11_isTurned 15 = .ok (.invokevirtual 73, 3) := by decide +kernel
theorem dX11_isTurned_18 : decode cX11_isTurned 18 = .ok (.ifCond .eq 7, 3) := by decide +kernel
theorem dX11_isTurned_21 : decode cX11_isTurned 21 = .ok (.iconst 1, 1) := by decide +kernel
theorem dX11_isTurned_22 : decode cX11_isTurned 22 = .ok (.goto 4, 3) := by decide +kernel
theorem dX11_isTurned_25 : decode cX11_isTurned 25 = .ok (.iconst 0, 1) := by decide +kernel
theorem dX11_isTurned_26 : decode cX11_isTurned 26 = .ok (.ireturn, 1) := by decide +kernel
theorem dX11_machineOf_0 : decode cX11_machineOf 0 = .ok (.iload_n 1, 1) := by decide +kernel
theorem dX11_machineOf_1 : decode cX11_machineOf 1 = .ok (.ifCond .ne 10, 3) := by decide +kernel
theorem dX11_machineOf_4 : decode cX11_machineOf 4 = .ok (.aload_n 0, 1) := by decide +kernel
theorem dX11_machineOf_5 : decode cX11_machineOf 5 = .ok (.getfield 35, 3) := by decide +kernel
theorem dX11_machineOf_8 : decode cX11_machineOf 8 = .ok (.goto 7, 3) := by decide +kernel
theorem dX11_machineOf_11 : decode cX11_machineOf 11 = .ok (.aload_n 0, 1) := by decide +kernel
theorem dX11_machineOf_12 : decode cX11_machineOf 12 = .ok (.getfield 48, 3) := by decide +kernel
theorem dX11_machineOf_15 : decode cX11_machineOf 15 = .ok (.areturn, 1) := by decide +kernel
theorem dX11_beginMachines_0 : decode cX11_beginMachines 0 = .ok (.aload_n 0, 1) := by decide +kernel
theorem dX11_beginMachines_1 : decode cX11_beginMachines 1 = .ok (.getfield 35, 3) := by decide +kernel
theorem dX11_beginMachines_4 : decode cX11_beginMachines 4 = .ok (.invokevirtual 168, 3) := by decide +kernel
theorem dX11_beginMachines_7 : decode cX11_beginMachines 7 = .ok (.aload_n 0, 1) := by decide +kernel
theorem dX11_beginMachines_8 : decode cX11_beginMachines 8 = .ok (.getfield 48, 3) := by decide +kernel
theorem dX11_beginMachines_11 : decode cX11_beginMachines 11 = .ok (.invokevirtual 168, 3) := by decide +kernel
theorem dX11_beginMachines_14 : decode cX11_beginMachines 14 = .ok (.return_, 1) := by decide +kernel
theorem dX12_init_0 : decode cX12_init 0 = .ok (.aload_n 0, 1) := by decide +kernel
theorem dX12_init_1 : decode cX12_init 1 = .ok (.invokespecial 1, 3) := by decide +kernel
theorem dX12_init_4 : decode cX12_init 4 = .ok (.aload_n 0, 1) := by decide +kernel
theorem dX12_init_5 : decode cX12_init 5 = .ok (.bipush 12, 2) := by decide +kernel
theorem dX12_init_7 : decode cX12_init 7 = .ok (.newarray .int, 2) := by decide +kernel
theorem dX12_init_9 : decode cX12_init 9 = .ok (.putfield 7, 3) := by decide +kernel
theorem dX12_init_12 : decode cX12_init 12 = .ok (.aload_n 0, 1) := by decide +kernel
theorem dX12_init_13 : decode cX12_init 13 = .ok (.bipush 12, 2) := by decide +kernel
theorem dX12_init_15 : decode cX12_init 15 = .ok (.newarray .int, 2) := by decide +kernel
theorem dX12_init_17 : decode cX12_init 17 = .ok (.putfield 13, 3) := by decide +kernel
theorem dX12_init_20 : decode cX12_init 20 = .ok (.aload_n 0, 1) := by decide +kernel
theorem dX12_init_21 : decode cX12_init 21 = .ok (.bipush 12, 2) := by decide +kernel
theorem dX12_init_23 : decode cX12_init 23 = .ok (.newarray .int, 2) := by decide +kernel
theorem dX12_init_25 : decode cX12_init 25 = .ok (.putfield 16, 3) := by decide +kernel
theorem dX12_init_28 : decode cX12_init 28 = .ok (.aload_n 0, 1) := by decide +kernel
theorem dX12_init_29 : decode cX12_init 29 = .ok (.bipush 12, 2) := by decide +kernel
theorem dX12_init_31 : decode cX12_init 31 = .ok (.newarray .int, 2) := by decide +kernel
theorem dX12_init_33 : decode cX12_init 33 = .ok (.putfield 19, 3) := by decide +kernel
theorem dX12_init_36 : decode cX12_init 36 = .ok (.aload_n 0, 1) := by decide +kernel
theorem dX12_init_37 : decode cX12_init 37 = .ok (.sipush 300, 3) := by decide +kernel
theorem dX12_init_40 : decode cX12_init 40 = .ok (.newarray .int, 2) := by decide +kernel
theorem dX12_init_42 : decode cX12_init 42 = .ok (.putfield 22, 3) := by decide +kernel
theorem dX12_init_45 : decode cX12_init 45 = .ok (.aload_n 0, 1) := by decide +kernel
theorem dX12_init_46 : decode cX12_init 46 = .ok (.sipush 300, 3) := by decide +kernel
theorem dX12_init_49 : decode cX12_init 49 = .ok (.newarray .int, 2) := by decide +kernel
theorem dX12_init_51 : decode cX12_init 51 = .ok (.putfield 25, 3) := by decide +kernel
theorem dX12_init_54 : decode cX12_init 54 = .ok (.aload_n 0, 1) := by decide +kernel
theorem dX12_init_55 : decode cX12_init 55 = .ok (.sipush 300, 3) := by decide +kernel
theorem dX12_init_58 : decode cX12_init 58 = .ok (.newarray .int, 2) := by decide +kernel
theorem dX12_init_60 : decode cX12_init 60 = .ok (.putfield 28, 3) := by decide +kernel
theorem dX12_init_63 : decode cX12_init 63 = .ok (.aload_n 0, 1) := by decide +kernel
theorem dX12_init_64 : decode cX12_init 64 = .ok (.sipush 300, 3) := by decide +kernel
theorem dX12_init_67 : decode cX12_init 67 = .ok (.newarray .boolean, 2) := by decide +kernel
theorem dX12_init_69 : decode cX12_init 69 = .ok (.putfield 31, 3) := by decide +kernel
theorem dX12_init_72 : decode cX12_init 72 = .ok (.aload_n 0, 1) := by decide +kernel
theorem dX12_init_73 : decode cX12_init 73 = .ok (.sipush 300, 3) := by decide +kernel
theorem dX12_init_76 : decode cX12_init 76 = .ok (.newarray .int, 2) := by decide +kernel
theorem dX12_init_78 : decode cX12_init 78 = .ok (.putfield 35, 3) := by decide +kernel
theorem dX12_init_81 : decode cX12_init 81 = .ok (.aload_n 0, 1) := by decide +kernel
theorem dX12_init_82 : decode cX12_init 82 = .ok (.sipush 300, 3) := by decide +kernel
theorem dX12_init_85 : decode cX12_init 85 = .ok (.newarray .int, 2) := by decide +kernel
theorem dX12_init_87 : decode cX12_init 87 = .ok (.putfield 38, 3) := by decide +kernel
theorem dX12_init_90 : decode cX12_init 90 = .ok (.aload_n 0, 1) := by decide +kernel
theorem dX12_init_91 : decode cX12_init 91 = .ok (.sipush 2400, 3) := by decide +kernel
theorem dX12_init_94 : decode cX12_init 94 = .ok (.newarray .int, 2) := by decide +kernel
theorem dX12_init_96 : decode cX12_init 96 = .ok (.putfield 41, 3) := by decide +kernel
theorem dX12_init_99 : decode cX12_init 99 = .ok (.aload_n 0, 1) := by decide +kernel
theorem dX12_init_100 : decode cX12_init 100 = .ok (.sipush 300, 3) := by decide +kernel
theorem dX12_init_103 : decode cX12_init 103 = .ok (.newarray .int, 2) := by decide +kernel
theorem dX12_init_105 : decode cX12_init 105 = .ok (.putfield 44, 3) := by decide +kernel
theorem dX12_init_108 : decode cX12_init 108 = .ok (.aload_n 0, 1) := by decide +kernel
theorem dX12_init_109 : decode cX12_init 109 = .ok (.sipush 301, 3) := by decide +kernel
theorem dX12_init_112 : decode cX12_init 112 = .ok (.newarray .int, 2) := by decide +kernel
theorem dX12_init_114 : decode cX12_init 114 = .ok (.putfield 47, 3) := by decide +kernel
theorem dX12_init_117 : decode cX12_init 117 = .ok (.aload_n 0, 1) := by decide +kernel
theorem dX12_init_118 : decode cX12_init 118 = .ok (.sipush 301, 3) := by decide +kernel
theorem dX12_init_121 : decode cX12_init 121 = .ok (.newarray .int, 2) := by decide +kernel
theorem dX12_init_123 : decode cX12_init 123 = .ok (.putfield 50, 3) := by decide +kernel
theorem dX12_init_126 : decode cX12_init 126 = .ok (.aload_n 0, 1) := by decide +kernel
theorem dX12_init_127 : decode cX12_init 127 = .ok (.sipush 301, 3) := by decide +kernel
theorem dX12_init_130 : decode cX12_init 130 = .ok (.newarray .boolean, 2) := by decide +kernel
theorem dX12_init_132 : decode cX12_init 132 = .ok (.putfield 53, 3) := by decide +kernel
theorem dX12_init_135 : decode cX12_init 135 = .ok (.aload_n 0, 1) := by decide +kernel
theorem dX12_init_136 : decode cX12_init 136 = .ok (.bipush 24, 2) := by decide +kernel
theorem dX12_init_138 : decode cX12_init 138 = .ok (.newarray .int, 2) := by decide +kernel
theorem dX12_init_140 : decode cX12_init 140 = .ok (.putfield 56, 3) := by decide +kernel
theorem dX12_init_143 : decode cX12_init 143 = .ok (.aload_n 0, 1) := by decide +kernel
theorem dX12_init_144 : decode cX12_init 144 = .ok (.sipush 301, 3) := by decide +kernel
theorem dX12_init_147 : decode cX12_init 147 = .ok (.newarray .int, 2) := by decide +kernel
theorem dX12_init_149 : decode cX12_init 149 = .ok (.putfield 59, 3) := by decide +kernel
theorem dX12_init_152 : decode cX12_init 152 = .ok (.aload_n 0, 1) := by decide +kernel
theorem dX12_init_153 : decode cX12_init 153 = .ok (.sipush 288, 3) := by decide +kernel
theorem dX12_init_156 : decode cX12_init 156 = .ok (.newarray .int, 2) := by decide +kernel
theorem dX12_init_158 : decode cX12_init 158 = .ok (.putfield 62, 3) := by decide +kernel
theorem dX12_init_161 : decode cX12_init 161 = .ok (.aload_n 0, 1) := by decide +kernel
theorem dX12_init_162 : decode cX12_init 162 = .ok (.sipush 288, 3) := by decide +kernel
theorem dX12_init_165 : decode cX12_init 165 = .ok (.newarray .int, 2) := by decide +kernel
theorem dX12_init_167 : decode cX12_init 167 = .ok (.putfield 65, 3) := by decide +kernel
theorem dX12_init_170 : decode cX12_init 170 = .ok (.aload_n 0, 1) := by decide +kernel
theorem dX12_init_171 : decode cX12_init 171 = .ok (.sipush 288, 3) := by decide +kernel
theorem dX12_init_174 : decode cX12_init 174 = .ok (.newarray .int, 2) := by decide +kernel
theorem dX12_init_176 : decode cX12_init 176 = .ok (.putfield 68, 3) := by decide +kernel
theorem dX12_init_179 : decode cX12_init 179 = .ok (.aload_n 0, 1) := by decide +kernel
theorem dX12_init_180 : decode cX12_init 180 = .ok (.sipush 288, 3) := by decide +kernel
theorem dX12_init_183 : decode cX12_init 183 = .ok (.newarray .int, 2) := by decide +kernel
theorem dX12_init_185 : decode cX12_init 185 = .ok (.putfield 71, 3) := by decide +kernel
theorem dX12_init_188 : decode cX12_init 188 = .ok (.aload_n 0, 1) := by decide +kernel
theorem dX12_init_189 : decode cX12_init 189 = .ok (.bipush 12, 2) := by decide +kernel
theorem dX12_init_191 : decode cX12_init 191 = .ok (.newarray .int, 2) := by decide +kernel
theorem dX12_init_193 : decode cX12_init 193 = .ok (.putfield 74, 3) := by decide +kernel
theorem dX12_init_196 : decode cX12_init 196 = .ok (.aload_n 0, 1) := by decide +kernel
theorem dX12_init_197 : decode cX12_init 197 = .ok (.bipush 12, 2) := by decide +kernel
theorem dX12_init_199 : decode cX12_init 199 = .ok (.newarray .int, 2) := by decide +kernel
theorem dX12_init_201 : decode cX12_init 201 = .ok (.putfield 77, 3) := by decide +kernel
theorem dX12_init_204 : decode cX12_init 204 = .ok (.aload_n 0, 1) := by decide +kernel
theorem dX12_init_205 : decode cX12_init 205 = .ok (.bipush 24, 2) := by decide +kernel
theorem dX12_init_207 : decode cX12_init 207 = .ok (.newarray .boolean, 2) := by decide +kernel
theorem dX12_init_209 : decode cX12_init 209 = .ok (.putfield 80, 3) := by decide +kernel
theorem dX12_init_212 : decode cX12_init 212 = .ok (.aload_n 0, 1) := by decide +kernel
theorem dX12_init_213 : decode cX12_init 213 = .ok (.sipush 10000, 3) := by decide +kernel
theorem dX12_init_216 : decode cX12_init 216 = .ok (.newarray .int, 2) := by decide +kernel
theorem dX12_init_218 : decode cX12_init 218 = .ok (.putfield 83, 3) := by decide +kernel
theorem dX12_init_221 : decode cX12_init 221 = .ok (.aload_n 0, 1) := by decide +kernel
theorem dX12_init_222 : decode cX12_init 222 = .ok (.bipush 12, 2) := by decide +kernel
theorem dX12_init_224 : decode cX12_init 224 = .ok (.newarray .int, 2) := by decide +kernel
theorem dX12_init_226 : decode cX12_init 226 = .ok (.putfield 86, 3) := by decide +kernel
theorem dX12_init_229 : decode cX12_init 229 = .ok (.aload_n 0, 1) := by decide +kernel
theorem dX12_init_230 : decode cX12_init 230 = .ok (.bipush 12, 2) := by decide +kernel
theorem dX12_init_232 : decode cX12_init 232 = .ok (.newarray .int, 2) := by decide +kernel
theorem dX12_init_234 : decode cX12_init 234 = .ok (.putfield 89, 3) := by decide +kernel
theorem dX12_init_237 : decode cX12_init 237 = .ok (.aload_n 0, 1) := by decide +kernel
theorem dX12_init_238 : decode cX12_init 238 = .ok (.sipush 301, 3) := by decide +kernel
theorem dX12_init_241 : decode cX12_init 241 = .ok (.newarray .int, 2) := by decide +kernel
theorem dX12_init_243 : decode cX12_init 243 = .ok (.putfield 92, 3) := by decide +kernel
theorem dX12_init_246 : decode cX12_init 246 = .ok (.aload_n 0, 1) := by decide +kernel
theorem dX12_init_247 : decode cX12_init 247 = .ok (.sipush 128, 3) := by decide +kernel
theorem dX12_init_250 : decode cX12_init 250 = .ok (.newarray .int, 2) := by decide +kernel
theorem dX12_init_252 : decode cX12_init 252 = .ok (.putfield 95, 3) := by decide +kernel
theorem dX12_init_255 : decode cX12_init 255 = .ok (.aload_n 0, 1) := by decide +kernel
theorem dX12_init_256 : decode cX12_init 256 = .ok (.iconst 2, 1) := by decide +kernel
theorem dX12_init_257 : decode cX12_init 257 = .ok (.newarray .int, 2) := by decide +kernel
theorem dX12_init_259 : decode cX12_init 259 = .ok (.putfield 98, 3) := by decide +kernel
theorem dX12_init_262 : decode cX12_init 262 = .ok (.aload_n 0, 1) := by decide +kernel
theorem dX12_init_263 : decode cX12_init 263 = .ok (.iconst 2, 1) := by decide +kernel
theorem dX12_init_264 : decode cX12_init 264 = .ok (.newarray .int, 2) := by decide +kernel
theorem dX12_init_266 : decode cX12_init 266 = .ok (.putfield 101, 3) := by decide +kernel
theorem dX12_init_269 : decode cX12_init 269 = .ok (.aload_n 0, 1) := by decide +kernel
theorem dX12_init_270 : decode cX12_init 270 = .ok (.iconst 2, 1) := by decide +kernel
theorem dX12_init_271 : decode cX12_init 271 = .ok (.newarray .int, 2) := by decide +kernel
theorem dX12_init_273 : decode cX12_init 273 = .ok (.putfield 104, 3) := by decide +kernel
theorem dX12_init_276 : decode cX12_init 276 = .ok (.aload_n 0, 1) := by decide +kernel
theorem dX12_init_277 : decode cX12_init 277 = .ok (.iconst 2, 1) := by decide +kernel
theorem dX12_init_278 : decode cX12_init 278 = .ok (.newarray .int, 2) := by decide +kernel
theorem dX12_init_280 : decode cX12_init 280 = .ok (.putfield 107, 3) := by decide +kernel
theorem dX12_init_283 : decode cX12_init 283 = .ok (.aload_n 0, 1) := by decide +kernel
theorem dX12_init_284 : decode cX12_init 284 = .ok (.iconst 2, 1) := by decide +kernel
theorem dX12_init_285 : decode cX12_init 285 = .ok (.newarray .int, 2) := by decide +kernel
theorem dX12_init_287 : decode cX12_init 287 = .ok (.putfield 110, 3) := by decide +kernel
theorem dX12_init_290 : decode cX12_init 290 = .ok (.aload_n 0, 1) := by decide +kernel
theorem dX12_init_291 : decode cX12_init 291 = .ok (.bipush 60, 2) := by decide +kernel
theorem dX12_init_293 : decode cX12_init 293 = .ok (.newarray .int, 2) := by decide +kernel
theorem dX12_init_295 : decode cX12_init 295 = .ok (.putfield 113, 3) := by decide +kernel
theorem dX12_init_298 : decode cX12_init 298 = .ok (.aload_n 0, 1) := by decide +kernel
theorem dX12_init_299 : decode cX12_init 299 = .ok (.bipush 60, 2) := by decide +kernel
theorem dX12_init_301 : decode cX12_init 301 = .ok (.newarray .int, 2) := by decide +kernel
theorem dX12_init_303 : decode cX12_init 303 = .ok (.putfield 116, 3) := by decide +kernel
theorem dX12_init_306 : decode cX12_init 306 = .ok (.aload_n 0, 1) := by decide +kernel
theorem dX12_init_307 : decode cX12_init 307 = .ok (.sipush 1440, 3) := by decide +kernel
theorem dX12_init_310 : decode cX12_init 310 = .ok (.newarray .int, 2) := by decide +kernel
theorem dX12_init_312 : decode cX12_init 312 = .ok (.putfield 119, 3) := by decide +kernel
theorem dX12_init_315 : decode cX12_init 315 = .ok (.aload_n 0, 1) := by decide +kernel
theorem dX12_init_316 : decode cX12_init 316 = .ok (.bipush 60, 2) := by decide +kernel
theorem dX12_init_318 : decode cX12_init 318 = .ok (.newarray .int, 2) := by decide +kernel
theorem dX12_init_320 : decode cX12_init 320 = .ok (.putfield 122, 3) := by decide +kernel
theorem dX12_init_323 : decode cX12_init 323 = .ok (.aload_n 0, 1) := by decide +kernel
theorem dX12_init_324 : decode cX12_init 324 = .ok (.sipush 1440, 3) := by decide +kernel
theorem dX12_init_327 : decode cX12_init 327 = .ok (.newarray .int, 2) := by decide +kernel
theorem dX12_init_329 : decode cX12_init 329 = .ok (.putfield 125, 3) := by decide +kernel
theorem dX12_init_332 : decode cX12_init 332 = .ok (.aload_n 0, 1) := by decide +kernel
theorem dX12_init_333 : decode cX12_init 333 = .ok (.sipush 420, 3) := by decide +kernel
theorem dX12_init_336 : decode cX12_init 336 = .ok (.newarray .int, 2) := by decide +kernel
theorem dX12_init_338 : decode cX12_init 338 = .ok (.putfield 128, 3) := by decide +kernel
theorem dX12_init_341 : decode cX12_init 341 = .ok (.aload_n 0, 1) := by decide +kernel
theorem dX12_init_342 : decode cX12_init 342 = .ok (.bipush 12, 2) := by decide +kernel
theorem dX12_init_344 : decode cX12_init 344 = .ok (.newarray .int, 2) := by decide +kernel
theorem dX12_init_346 : decode cX12_init 346 = .ok (.putfield 131, 3) := by decide +kernel
theorem dX12_init_349 : decode cX12_init 349 = .ok (.aload_n 0, 1) := by decide +kernel
theorem dX12_init_350 : decode cX12_init 350 = .ok (.iconst 2, 1) := by decide +kernel
theorem dX12_init_351 : decode cX12_init 351 = .ok (.newarray .int, 2) := by decide +kernel
theorem dX12_init_353 : decode cX12_init 353 = .ok (.putfield 134, 3) := by decide +kernel
theorem dX12_init_356 : decode cX12_init 356 = .ok (.return_, 1) := by decide +kernel
theorem dX12_thrown_0 : decode cX12_thrown 0 = .ok (.aload_n 0, 1) := by decide +kernel
theorem dX12_thrown_1 : decode cX12_thrown 1 = .ok (.getfield 137, 3) := by decide +kernel
theorem dX12_thrown_4 : decode cX12_thrown 4 = .ok (.ireturn, 1) := by decide +kernel
theorem dX12_func_0 : decode cX12_func 0 = .ok (.aload_n 0, 1) := by decide +kernel
theorem dX12_func_1 : decode cX12_func 1 = .ok (.iconst 0, 1) := by decide +kernel
theorem dX12_func_2 : decode cX12_func 2 = .ok (.putfield 137, 3) := by decide +kernel
theorem dX12_func_5 : decode cX12_func 5 = .ok (.iload_n 1, 1) := by decide +kernel
theorem dX12_func_6 : decode cX12_func 6 = .ok (.ifCond .lt 36, 3) := by decide +kernel
theorem dX12_func_9 : decode cX12_func 9 = .ok (.iload_n 1, 1) := by decide +kernel
theorem dX12_func_10 : decode cX12_func 10 = .ok (.bipush 6, 2) := by decide +kernel
theorem dX12_func_12 : decode cX12_func 12 = .ok (.if_icmp .gt 30, 3) := by decide +kernel
theorem dX12_func_15 : decode cX12_func 15 = .ok (.iload_n 2, 1) := by decide +kernel
theorem dX12_func_16 : decode cX12_func 16 = .ok (.iload_n 1, 1) := by decide +kernel
theorem dX12_func_17 : decode cX12_func 17 = .ok (.if_icmp .lt 25, 3) := by decide +kernel
theorem dX12_func_20 : decode cX12_func 20 = .ok (.iload_n 2, 1) := by decide +kernel
theorem dX12_func_21 : decode cX12_func 21 = .ok (.bipush 10, 2) := by decide +kernel
theorem dX12_func_23 : decode cX12_func 23 = .ok (.if_icmp .gt 19, 3) := by decide +kernel
theorem dX12_func_26 : decode cX12_func 26 = .ok (.aload_n 0, 1) := by decide +kernel
theorem dX12_func_27 : decode cX12_func 27 = .ok (.getfield 141, 3) := by decide +kernel
theorem dX12_func_30 : decode cX12_func 30 = .ok (.bipush 12, 2) := by decide +kernel
theorem dX12_func_32 : decode cX12_func 32 = .ok (.if_icmp .eq 10, 3) := by decide +kernel
theorem dX12_func_35 : decode cX12_func 35 = .ok (.aload_n 0, 1) := by decide +kernel
theorem dX12_func_36 : decode cX12_func 36 = .ok (.getfield 144, 3) := by decide +kernel
theorem dX12_func_39 : decode cX12_func 39 = .ok (.ifCond .eq 5, 3) := by decide +kernel
theorem dX12_func_42 : decode cX12_func 42 = .ok (.iconst (-1), 1) := by decide +kernel
theorem dX12_func_43 : decode cX12_func 43 = .ok (.ireturn, 1) := by decide +kernel
theorem dX12_func_44 : decode cX12_func 44 = .ok (.aload_n 0, 1) := by decide +kernel
theorem dX12_func_45 : decode cX12_func 45 = .ok (.getfield 7, 3) := by decide +kernel
theorem dX12_func_48 : decode cX12_func 48 = .ok (.aload_n 0, 1) := by decide +kernel
theorem dX12_func_49 : decode cX12_func 49 = .ok (.getfield 141, 3) := by decide +kernel
theorem dX12_func_52 : decode cX12_func 52 = .ok (.iload_n 1, 1) := by decide +kernel
theorem dX12_func_53 : decode cX12_func 53 = .ok (.iastore, 1) := by decide +kernel
theorem dX12_func_54 : decode cX12_func 54 = .ok (.aload_n 0, 1) := by decide +kernel
theorem dX12_func_55 : decode cX12_func 55 = .ok (.getfield 13, 3) := by decide +kernel
theorem dX12_func_58 : decode cX12_func 58 = .ok (.aload_n 0, 1) := by decide +kernel
theorem dX12_func_59 : decode cX12_func 59 = .ok (.getfield 141, 3) := by decide +kernel
theorem dX12_func_62 : decode cX12_func 62 = .ok (.iload_n 2, 1) := by decide +kernel
theorem dX12_func_63 : decode cX12_func 63 = .ok (.iastore, 1) := by decide +kernel
theorem dX12_func_64 : decode cX12_func 64 = .ok (.aload_n 0, 1) := by decide +kernel
theorem dX12_func_65 : decode cX12_func 65 = .ok (.getfield 16, 3) := by decide +kernel
theorem dX12_func_68 : decode cX12_func 68 = .ok (.aload_n 0, 1) := by decide +kernel
theorem dX12_func_69 : decode cX12_func 69 = .ok (.getfield 141, 3) := by decide +kernel
theorem dX12_func_72 : decode cX12_func 72 = .ok (.aload_n 0, 1) := by decide +kernel
theorem dX12_func_73 : decode cX12_func 73 = .ok (.getfield 148, 3) := by decide +kernel
theorem dX12_func_76 : decode cX12_func 76 = .ok (.iastore, 1) := by decide +kernel
theorem dX12_func_77 : decode cX12_func 77 = .ok (.aload_n 0, 1) := by decide +kernel
theorem dX12_func_78 : decode cX12_func 78 = .ok (.getfield 19, 3) := by decide +kernel
theorem dX12_func_81 : decode cX12_func 81 = .ok (.aload_n 0, 1) := by decide +kernel
theorem dX12_func_82 : decode cX12_func 82 = .ok (.getfield 141, 3) := by decide +kernel
theorem dX12_func_85 : decode cX12_func 85 = .ok (.iconst 0, 1) := by decide +kernel
theorem dX12_func_86 : decode cX12_func 86 = .ok (.iastore, 1) := by decide +kernel
theorem dX12_func_87 : decode cX12_func 87 = .ok (.aload_n 0, 1) := by decide +kernel
theorem dX12_func_88 : decode cX12_func 88 = .ok (.dup, 1) := by decide +kernel
theorem dX12_func_89 : decode cX12_func 89 = .ok (.getfield 141, 3) := by decide +kernel
theorem dX12_func_92 : decode cX12_func 92 = .ok (.iconst 1, 1) := by decide +kernel
theorem dX12_func_93 : decode cX12_func 93 = .ok (.iadd, 1) := by decide +kernel
theorem dX12_func_94 : decode cX12_func 94 = .ok (.putfield 141, 3) := by decide +kernel
theorem dX12_func_97 : decode cX12_func 97 = .ok (.aload_n 0, 1) := by decide +kernel
theorem dX12_func_98 : decode cX12_func 98 = .ok (.getfield 141, 3) := by decide +kernel
theorem dX12_func_101 : decode cX12_func 101 = .ok (.iconst 1, 1) := by decide +kernel
theorem dX12_func_102 : decode cX12_func 102 = .ok (.isub, 1) := by decide +kernel
theorem dX12_func_103 : decode cX12_func 103 = .ok (.ireturn, 1) := by decide +kernel
theorem dX12_word_0 : decode cX12_word 0 = .ok (.aload_n 0, 1) := by decide +kernel
theorem dX12_word_1 : decode cX12_word 1 = .ok (.iconst 0, 1) := by decide +kernel
theorem dX12_word_2 : decode cX12_word 2 = .ok (.putfield 137, 3) := by decide +kernel
theorem dX12_word_5 : decode cX12_word 5 = .ok (.aload_n 0, 1) := by decide +kernel
theorem dX12_word_6 : decode cX12_word 6 = .ok (.getfield 141, 3) := by decide +kernel
theorem dX12_word_9 : decode cX12_word 9 = .ok (.ifCond .eq 20, 3) := by decide +kernel
theorem dX12_word_12 : decode cX12_word 12 = .ok (.aload_n 0, 1) := by decide +kernel
theorem dX12_word_13 : decode cX12_word 13 = .ok (.getfield 148, 3) := by decide +kernel
theorem dX12_word_16 : decode cX12_word 16 = .ok (.sipush 300, 3) := by decide +kernel
theorem dX12_word_19 : decode cX12_word 19 = .ok (.if_icmp .eq 10, 3) := by decide +kernel
theorem dX12_word_22 : decode cX12_word 22 = .ok (.aload_n 0, 1) := by decide +kernel
theorem dX12_word_23 : decode cX12_word 23 = .ok (.getfield 144, 3) := by decide +kernel
theorem dX12_word_26 : decode cX12_word 26 = .ok (.ifCond .eq 5, 3) := by decide +kernel
theorem dX12_word_29 : decode cX12_word 29 = .ok (.iconst (-1), 1) := by decide +kernel
theorem dX12_word_30 : decode cX12_word 30 = .ok (.ireturn, 1) := by decide +kernel
theorem dX12_word_31 : decode cX12_word 31 = .ok (.aload_n 0, 1) := by decide +kernel
theorem dX12_word_32 : decode cX12_word 32 = .ok (.getfield 22, 3) := by decide +kernel
theorem dX12_word_35 : decode cX12_word 35 = .ok (.aload_n 0, 1) := by decide +kernel
theorem dX12_word_36 : decode cX12_word 36 = .ok (.getfield 148, 3) := by decide +kernel
theorem dX12_word_39 : decode cX12_word 39 = .ok (.iload_n 1, 1) := by decide +kernel
theorem dX12_word_40 : decode cX12_word 40 = .ok (.iastore, 1) := by decide +kernel
theorem dX12_word_41 : decode cX12_word 41 = .ok (.aload_n 0, 1) := by decide +kernel
theorem dX12_word_42 : decode cX12_word 42 = .ok (.getfield 25, 3) := by decide +kernel
theorem dX12_word_45 : decode cX12_word 45 = .ok (.aload_n 0, 1) := by decide +kernel
theorem dX12_word_46 : decode cX12_word 46 = .ok (.getfield 148, 3) := by decide +kernel
theorem dX12_word_49 : decode cX12_word 49 = .ok (.iload_n 2, 1) := by decide +kernel
theorem dX12_word_50 : decode cX12_word 50 = .ok (.iastore, 1) := by decide +kernel
theorem dX12_word_51 : decode cX12_word 51 = .ok (.aload_n 0, 1) := by decide +kernel
theorem dX12_word_52 : decode cX12_word 52 = .ok (.dup, 1) := by decide +kernel
theorem dX12_word_53 : decode cX12_word 53 = .ok (.getfield 148, 3) := by decide +kernel
theorem dX12_word_56 : decode cX12_word 56 = .ok (.iconst 1, 1) := by decide +kernel
theorem dX12_word_57 : decode cX12_word 57 = .ok (.iadd, 1) := by decide +kernel
theorem dX12_word_58 : decode cX12_word 58 = .ok (.putfield 148, 3) := by decide +kernel
theorem dX12_word_61 : decode cX12_word 61 = .ok (.aload_n 0, 1) := by decide +kernel
theorem dX12_word_62 : decode cX12_word 62 = .ok (.getfield 19, 3) := by decide +kernel
theorem dX12_word_65 : decode cX12_word 65 = .ok (.aload_n 0, 1) := by decide +kernel
theorem dX12_word_66 : decode cX12_word 66 = .ok (.getfield 141, 3) := by decide +kernel
theorem dX12_word_69 : decode cX12_word 69 = .ok (.iconst 1, 1) := by decide +kernel
theorem dX12_word_70 : decode cX12_word 70 = .ok (.isub, 1) := by decide +kernel
theorem dX12_word_71 : decode cX12_word 71 = .ok (.dup2, 1) := by decide +kernel
theorem dX12_word_72 : decode cX12_word 72 = .ok (.iaload, 1) := by decide +kernel
theorem dX12_word_73 : decode cX12_word 73 = .ok (.iconst 1, 1) := by decide +kernel
theorem dX12_word_74 : decode cX12_word 74 = .ok (.iadd, 1) := by decide +kernel
theorem dX12_word_75 : decode cX12_word 75 = .ok (.iastore, 1) := by decide +kernel
theorem dX12_word_76 : decode cX12_word 76 = .ok (.aload_n 0, 1) := by decide +kernel
theorem dX12_word_77 : decode cX12_word 77 = .ok (.getfield 19, 3) := by decide +kernel
theorem dX12_word_80 : decode cX12_word 80 = .ok (.aload_n 0, 1) := by decide +kernel
theorem dX12_word_81 : decode cX12_word 81 = .ok (.getfield 141, 3) := by decide +kernel
theorem dX12_word_84 : decode cX12_word 84 = .ok (.iconst 1, 1) := by decide +kernel
theorem dX12_word_85 : decode cX12_word 85 = .ok (.isub, 1) := by decide +kernel
theorem dX12_word_86 : decode cX12_word 86 = .ok (.iaload, 1) := by decide +kernel
theorem dX12_word_87 : decode cX12_word 87 = .ok (.iconst 1, 1) := by decide +kernel
theorem dX12_word_88 : decode cX12_word 88 = .ok (.isub, 1) := by decide +kernel
theorem dX12_word_89 : decode cX12_word 89 = .ok (.ireturn, 1) := by decide +kernel
theorem dX12_check_0 : decode cX12_check 0 = .ok (.aload_n 0, 1) := by decide +kernel
theorem dX12_check_1 : decode cX12_check 1 = .ok (.iconst 0, 1) := by decide +kernel
theorem dX12_check_2 : decode cX12_check 2 = .ok (.putfield 137, 3) := by decide +kernel
theorem dX12_check_5 : decode cX12_check 5 = .ok (.aload_n 0, 1) := by decide +kernel
theorem dX12_check_6 : decode cX12_check 6 = .ok (.getfield 144, 3) := by decide +kernel
theorem dX12_check_9 : decode cX12_check 9 = .ok (.ifCond .eq 5, 3) := by decide +kernel
theorem dX12_check_12 : decode cX12_check 12 = .ok (.iconst 0, 1) := by decide +kernel
theorem dX12_check_13 : decode cX12_check 13 = .ok (.ireturn, 1) := by decide +kernel
theorem dX12_check_14 : decode cX12_check 14 = .ok (.aload_n 0, 1) := by decide +kernel
theorem dX12_check_15 : decode cX12_check 15 = .ok (.getfield 141, 3) := by decide +kernel
theorem dX12_check_18 : decode cX12_check 18 = .ok (.ifCond .ne 6, 3) := by decide +kernel
theorem dX12_check_21 : decode cX12_check 21 = .ok (.bipush 7, 2) := by decide +kernel
theorem dX12_check_23 : decode cX12_check 23 = .ok (.ireturn, 1) := by decide +kernel
theorem dX12_check_24 : decode cX12_check 24 = .ok (.iconst 0, 1) := by decide +kernel
theorem dX12_check_25 : decode cX12_check 25 = .ok (.istore_n 1, 1) := by decide +kernel
theorem dX12_check_26 : decode cX12_check 26 = .ok (.iload_n 1, 1) := by decide +kernel
theorem dX12_check_27 : decode cX12_check 27 = .ok (.aload_n 0, 1) := by decide +kernel
theorem dX12_check_28 : decode cX12_check 28 = .ok (.getfield 141, 3) := by decide +kernel
theorem dX12_check_31 : decode cX12_check 31 = .ok (.if_icmp .ge 26, 3) := by decide +kernel
theorem dX12_check_34 : decode cX12_check 34 = .ok (.aload_n 0, 1) := by decide +kernel
theorem dX12_check_35 : decode cX12_check 35 = .ok (.getfield 19, 3) := by decide +kernel
theorem dX12_check_38 : decode cX12_check 38 = .ok (.iload_n 1, 1) := by decide +kernel
theorem dX12_check_39 : decode cX12_check 39 = .ok (.iaload, 1) := by decide +kernel
theorem dX12_check_40 : decode cX12_check 40 = .ok (.ifCond .ne 11, 3) := by decide +kernel
theorem dX12_check_43 : decode cX12_check 43 = .ok (.bipush 6, 2) := by decide +kernel
theorem dX12_check_45 : decode cX12_check 45 = .ok (.bipush 8, 2) := by decide +kernel
theorem dX12_check_47 : decode cX12_check 47 = .ok (.iload_n 1, 1) := by decide +kernel
theorem dX12_check_48 : decode cX12_check 48 = .ok (.imul, 1) := by decide +kernel
theorem dX12_check_49 : decode cX12_check 49 = .ok (.iadd, 1) := by decide +kernel
theorem dX12_check_50 : decode cX12_check 50 = .ok (.ireturn, 1) := by decide +kernel
theorem dX12_check_51 : decode cX12_check 51 = .ok (.iinc 1 1, 3) := by decide +kernel
theorem dX12_check_54 : decode cX12_check 54 = .ok (.goto (-28), 3) := by decide +kernel
theorem dX12_check_57 : decode cX12_check 57 = .ok (.iconst 0, 1) := by decide +kernel
theorem dX12_check_58 : decode cX12_check 58 = .ok (.istore_n 1, 1) := by decide +kernel
theorem dX12_check_59 : decode cX12_check 59 = .ok (.iload_n 1, 1) := by decide +kernel
theorem dX12_check_60 : decode cX12_check 60 = .ok (.aload_n 0, 1) := by decide +kernel
theorem dX12_check_61 : decode cX12_check 61 = .ok (.getfield 141, 3) := by decide +kernel
theorem dX12_check_64 : decode cX12_check 64 = .ok (.if_icmp .ge 21, 3) := by decide +kernel
theorem dX12_check_67 : decode cX12_check 67 = .ok (.aload_n 0, 1) := by decide +kernel
theorem dX12_check_68 : decode cX12_check 68 = .ok (.iload_n 1, 1) := by decide +kernel
theorem dX12_check_69 : decode cX12_check 69 = .ok (.invokevirtual 155, 3) := by decide +kernel
theorem dX12_check_72 : decode cX12_check 72 = .ok (.istore_n 2, 1) := by decide +kernel
theorem dX12_check_73 : decode cX12_check 73 = .ok (.iload_n 2, 1) := by decide +kernel
theorem dX12_check_74 : decode cX12_check 74 = .ok (.ifCond .le 5, 3) := by decide +kernel
theorem dX12_check_77 : decode cX12_check 77 = .ok (.iload_n 2, 1) := by decide +kernel
theorem dX12_check_78 : decode cX12_check 78 = .ok (.ireturn, 1) := by decide +kernel
theorem dX12_check_79 : decode cX12_check 79 = .ok (.iinc 1 1, 3) := by decide +kernel
theorem dX12_check_82 : decode cX12_check 82 = .ok (.goto (-23), 3) := by decide +kernel
theorem dX12_check_85 : decode cX12_check 85 = .ok (.aload_n 0, 1) := by decide +kernel
theorem dX12_check_86 : decode cX12_check 86 = .ok (.iconst 1, 1) := by decide +kernel
theorem dX12_check_87 : decode cX12_check 87 = .ok (.putfield 144, 3) := by decide +kernel
theorem dX12_check_90 : decode cX12_check 90 = .ok (.aload_n 0, 1) := by decide +kernel
theorem dX12_check_91 : decode cX12_check 91 = .ok (.invokevirtual 159, 3) := by decide +kernel
theorem dX12_check_94 : decode cX12_check 94 = .ok (.iconst 0, 1) := by decide +kernel
theorem dX12_check_95 : decode cX12_check 95 = .ok (.ireturn, 1) := by decide +kernel
theorem dX12_depth_0 : decode cX12_depth 0 = .ok (.aload_n 0, 1) := by decide +kernel
theorem dX12_depth_1 : decode cX12_depth 1 = .ok (.iconst 0, 1) := by decide +kernel
theorem dX12_depth_2 : decode cX12_depth 2 = .ok (.putfield 137, 3) := by decide +kernel
theorem dX12_depth_5 : decode cX12_depth 5 = .ok (.aload_n 0, 1) := by decide +kernel
theorem dX12_depth_6 : decode cX12_depth 6 = .ok (.getfield 144, 3) := by decide +kernel
theorem dX12_depth_9 : decode cX12_depth 9 = .ok (.ifCond .eq 29, 3) := by decide +kernel
theorem dX12_depth_12 : decode cX12_depth 12 = .ok (.iload_n 1, 1) := by decide +kernel
theorem dX12_depth_13 : decode cX12_depth 13 = .ok (.ifCond .lt 25, 3) := by decide +kernel
theorem dX12_depth_16 : decode cX12_depth 16 = .ok (.iload_n 1, 1) := by decide +kernel
theorem dX12_depth_17 : decode cX12_depth 17 = .ok (.aload_n 0, 1) := by decide +kernel
theorem dX12_depth_18 : decode cX12_depth 18 = .ok (.getfield 141, 3) := by decide +kernel
theorem dX12_depth_21 : decode cX12_depth 21 = .ok (.if_icmp .ge 17, 3) := by decide +kernel
theorem dX12_depth_24 : decode cX12_depth 24 = .ok (.iload_n 2, 1) := by decide +kernel
theorem dX12_depth_25 : decode cX12_depth 25 = .ok (.ifCond .lt 13, 3) := by decide +kernel
theorem dX12_depth_28 : decode cX12_depth 28 = .ok (.iload_n 2, 1) := by decide +kernel
theorem dX12_depth_29 : decode cX12_depth 29 = .ok (.aload_n 0, 1) := by decide +kernel
theorem dX12_depth_30 : decode cX12_depth 30 = .ok (.getfield 19, 3) := by decide +kernel
theorem dX12_depth_33 : decode cX12_depth 33 = .ok (.iload_n 1, 1) := by decide +kernel
theorem dX12_depth_34 : decode cX12_depth 34 = .ok (.iaload, 1) := by decide +kernel
theorem dX12_depth_35 : decode cX12_depth 35 = .ok (.if_icmp .lt 5, 3) := by decide +kernel
theorem dX12_depth_38 : decode cX12_depth 38 = .ok (.iconst (-1), 1) := by decide +kernel
theorem dX12_depth_39 : decode cX12_depth 39 = .ok (.ireturn, 1) := by decide +kernel
theorem dX12_depth_40 : decode cX12_depth 40 = .ok (.aload_n 0, 1) := by decide +kernel
theorem dX12_depth_41 : decode cX12_depth 41 = .ok (.getfield 28, 3) := by decide +kernel
theorem dX12_depth_44 : decode cX12_depth 44 = .ok (.aload_n 0, 1) := by decide +kernel
theorem dX12_depth_45 : decode cX12_depth 45 = .ok (.getfield 16, 3) := by decide +kernel
theorem dX12_depth_48 : decode cX12_depth 48 = .ok (.iload_n 1, 1) := by decide +kernel
theorem dX12_depth_49 : decode cX12_depth 49 = .ok (.iaload, 1) := by decide +kernel
theorem dX12_depth_50 : decode cX12_depth 50 = .ok (.iload_n 2, 1) := by decide +kernel
theorem dX12_depth_51 : decode cX12_depth 51 = .ok (.iadd, 1) := by decide +kernel
theorem dX12_depth_52 : decode cX12_depth 52 = .ok (.iaload, 1) := by decide +kernel
theorem dX12_depth_53 : decode cX12_depth 53 = .ok (.ireturn, 1) := by decide +kernel
theorem dX12_turn_0 : decode cX12_turn 0 = .ok (.aload_n 0, 1) := by decide +kernel
theorem dX12_turn_1 : decode cX12_turn 1 = .ok (.iconst 0, 1) := by decide +kernel
theorem dX12_turn_2 : decode cX12_turn 2 = .ok (.putfield 137, 3) := by decide +kernel
theorem dX12_turn_5 : decode cX12_turn 5 = .ok (.aload_n 0, 1) := by decide +kernel
theorem dX12_turn_6 : decode cX12_turn 6 = .ok (.getfield 144, 3) := by decide +kernel
theorem dX12_turn_9 : decode cX12_turn 9 = .ok (.ifCond .eq 14, 3) := by decide +kernel
theorem dX12_turn_12 : decode cX12_turn 12 = .ok (.iload_n 1, 1) := by decide +kernel
theorem dX12_turn_13 : decode cX12_turn 13 = .ok (.iconst 3, 1) := by decide +kernel
theorem dX12_turn_14 : decode cX12_turn 14 = .ok (.if_icmp .lt 9, 3) := by decide +kernel
theorem dX12_turn_17 : decode cX12_turn 17 = .ok (.iload_n 1, 1) := by decide +kernel
theorem dX12_turn_18 : decode cX12_turn 18 = .ok (.bipush 16, 2) := by decide +kernel
theorem dX12_turn_20 : decode cX12_turn 20 = .ok (.if_icmp .le 5, 3) := by decide +kernel
theorem dX12_turn_23 : decode cX12_turn 23 = .ok (.iconst (-1), 1) := by decide +kernel
theorem dX12_turn_24 : decode cX12_turn 24 = .ok (.ireturn, 1) := by decide +kernel
theorem dX12_turn_25 : decode cX12_turn 25 = .ok (.aload_n 0, 1) := by decide +kernel
theorem dX12_turn_26 : decode cX12_turn 26 = .ok (.iconst 0, 1) := by decide +kernel
theorem dX12_turn_27 : decode cX12_turn 27 = .ok (.putfield 268, 3) := by decide +kernel
theorem dX12_turn_30 : decode cX12_turn 30 = .ok (.aload_n 0, 1) := by decide +kernel
theorem dX12_turn_31 : decode cX12_turn 31 = .ok (.iconst 0, 1) := by decide +kernel
theorem dX12_turn_32 : decode cX12_turn 32 = .ok (.putfield 228, 3) := by decide +kernel
theorem dX12_turn_35 : decode cX12_turn 35 = .ok (.aload_n 0, 1) := by decide +kernel
theorem dX12_turn_36 : decode cX12_turn 36 = .ok (.iload_n 1, 1) := by decide +kernel
theorem dX12_turn_37 : decode cX12_turn 37 = .ok (.putfield 222, 3) := by decide +kernel
theorem dX12_turn_40 : decode cX12_turn 40 = .ok (.aload_n 0, 1) := by decide +kernel
theorem dX12_turn_41 : decode cX12_turn 41 = .ok (.iconst 0, 1) := by decide +kernel
theorem dX12_turn_42 : decode cX12_turn 42 = .ok (.putfield 225, 3) := by decide +kernel
theorem dX12_turn_45 : decode cX12_turn 45 = .ok (.iconst 0, 1) := by decide +kernel
theorem dX12_turn_46 : decode cX12_turn 46 = .ok (.istore_n 2, 1) := by decide +kernel
theorem dX12_turn_47 : decode cX12_turn 47 = .ok (.iload_n 2, 1) := by decide +kernel
theorem dX12_turn_48 : decode cX12_turn 48 = .ok (.aload_n 0, 1) := by decide +kernel
theorem dX12_turn_49 : decode cX12_turn 49 = .ok (.getfield 141, 3) := by decide +kernel
theorem dX12_turn_52 : decode cX12_turn 52 = .ok (.if_icmp .ge 42, 3) := by decide +kernel
theorem dX12_turn_55 : decode cX12_turn 55 = .ok (.aload_n 0, 1) := by decide +kernel
theorem dX12_turn_56 : decode cX12_turn 56 = .ok (.iload_n 2, 1) := by decide +kernel
theorem dX12_turn_57 : decode cX12_turn 57 = .ok (.invokevirtual 271, 3) := by decide +kernel
theorem dX12_turn_60 : decode cX12_turn 60 = .ok (.aload_n 0, 1) := by decide +kernel
theorem dX12_turn_61 : decode cX12_turn 61 = .ok (.invokevirtual 274, 3) := by decide +kernel
theorem dX12_turn_64 : decode cX12_turn 64 = .ok (.aload_n 0, 1) := by decide +kernel
theorem dX12_turn_65 : decode cX12_turn 65 = .ok (.invokevirtual 277, 3) := by decide +kernel
theorem dX12_turn_68 : decode cX12_turn 68 = .ok (.aload_n 0, 1) := by decide +kernel
theorem dX12_turn_69 : decode cX12_turn 69 = .ok (.getfield 77, 3) := by decide +kernel
theorem dX12_turn_72 : decode cX12_turn 72 = .ok (.iload_n 2, 1) := by decide +kernel
theorem dX12_turn_73 : decode cX12_turn 73 = .ok (.aload_n 0, 1) := by decide +kernel
theorem dX12_turn_74 : decode cX12_turn 74 = .ok (.getfield 176, 3) := by decide +kernel
theorem dX12_turn_77 : decode cX12_turn 77 = .ok (.iastore, 1) := by decide +kernel
theorem dX12_turn_78 : decode cX12_turn 78 = .ok (.aload_n 0, 1) := by decide +kernel
theorem dX12_turn_79 : decode cX12_turn 79 = .ok (.iload_n 2, 1) := by decide +kernel
theorem dX12_turn_80 : decode cX12_turn 80 = .ok (.invokevirtual 280, 3) := by decide +kernel
theorem dX12_turn_83 : decode cX12_turn 83 = .ok (.aload_n 0, 1) := by decide +kernel
theorem dX12_turn_84 : decode cX12_turn 84 = .ok (.iload_n 2, 1) := by decide +kernel
theorem dX12_turn_85 : decode cX12_turn 85 = .ok (.invokevirtual 283, 3) := by decide +kernel
theorem dX12_turn_88 : decode cX12_turn 88 = .ok (.iinc 2 1, 3) := by decide +kernel
theorem dX12_turn_91 : decode cX12_turn 91 = .ok (.goto (-44), 3) := by decide +kernel
theorem dX12_turn_94 : decode cX12_turn 94 = .ok (.aload_n 0, 1) := by decide +kernel
theorem dX12_turn_95 : decode cX12_turn 95 = .ok (.invokevirtual 159, 3) := by decide +kernel
theorem dX12_turn_98 : decode cX12_turn 98 = .ok (.aload_n 0, 1) := by decide +kernel
theorem dX12_turn_99 : decode cX12_turn 99 = .ok (.getfield 228, 3) := by decide +kernel
theorem dX12_turn_102 : decode cX12_turn 102 = .ok (.ifCond .eq 5, 3) := by decide +kernel
theorem dX12_turn_105 : decode cX12_turn 105 = .ok (.iconst (-1), 1) := by decide +kernel
theorem dX12_turn_106 : decode cX12_turn 106 = .ok (.ireturn, 1) := by decide +kernel
theorem dX12_turn_107 : decode cX12_turn 107 = .ok (.aload_n 0, 1) := by decide +kernel
theorem dX12_turn_108 : decode cX12_turn 108 = .ok (.iconst 1, 1) := by decide +kernel
theorem dX12_turn_109 : decode cX12_turn 109 = .ok (.putfield 268, 3) := by decide +kernel
theorem dX12_turn_112 : decode cX12_turn 112 = .ok (.aload_n 0, 1) := by decide +kernel
theorem dX12_turn_113 : decode cX12_turn 113 = .ok (.getfield 225, 3) := by decide +kernel
theorem dX12_turn_116 : decode cX12_turn 116 = .ok (.ireturn, 1) := by decide +kernel
theorem dX12_begin_0 : decode cX12_begin 0 = .ok (.iconst 0, 1) := by decide +kernel
theorem dX12_begin_1 : decode cX12_begin 1 = .ok (.istore_n 1, 1) := by decide +kernel
theorem dX12_begin_2 : decode cX12_begin 2 = .ok (.iload_n 1, 1) := by decide +kernel
theorem dX12_begin_3 : decode cX12_begin 3 = .ok (.iconst 2, 1) := by decide +kernel
theorem dX12_begin_4 : decode cX12_begin 4 = .ok (.if_icmp .ge 51, 3) := by decide +kernel
theorem dX12_begin_7 : decode cX12_begin 7 = .ok (.aload_n 0, 1) := by decide +kernel
theorem dX12_begin_8 : decode cX12_begin 8 = .ok (.getfield 98, 3) := by decide +kernel
theorem dX12_begin_11 : decode cX12_begin 11 = .ok (.iload_n 1, 1) := by decide +kernel
theorem dX12_begin_12 : decode cX12_begin 12 = .ok (.iconst 0, 1) := by decide +kernel
theorem dX12_begin_13 : decode cX12_begin 13 = .ok (.iastore, 1) := by decide +kernel
theorem dX12_begin_14 : decode cX12_begin 14 = .ok (.aload_n 0, 1) := by decide +kernel
theorem dX12_begin_15 : decode cX12_begin 15 = .ok (.getfield 101, 3) := by decide +kernel
theorem dX12_begin_18 : decode cX12_begin 18 = .ok (.iload_n 1, 1) := by decide +kernel
theorem dX12_begin_19 : decode cX12_begin 19 = .ok (.iconst 0, 1) := by decide +kernel
theorem dX12_begin_20 : decode cX12_begin 20 = .ok (.iastore, 1) := by decide +kernel
theorem dX12_begin_21 : decode cX12_begin 21 = .ok (.aload_n 0, 1) := by decide +kernel
theorem dX12_begin_22 : decode cX12_begin 22 = .ok (.getfield 104, 3) := by decide +kernel
theorem dX12_begin_25 : decode cX12_begin 25 = .ok (.iload_n 1, 1) := by decide +kernel
theorem dX12_begin_26 : decode cX12_begin 26 = .ok (.iconst 0, 1) := by decide +kernel
theorem dX12_begin_27 : decode cX12_begin 27 = .ok (.iastore, 1) := by decide +kernel
theorem dX12_begin_28 : decode cX12_begin 28 = .ok (.aload_n 0, 1) := by decide +kernel
theorem dX12_begin_29 : decode cX12_begin 29 = .ok (.getfield 107, 3) := by decide +kernel
theorem dX12_begin_32 : decode cX12_begin 32 = .ok (.iload_n 1, 1) := by decide +kernel
theorem dX12_begin_33 : decode cX12_begin 33 = .ok (.iconst 0, 1) := by decide +kernel
theorem dX12_begin_34 : decode cX12_begin 34 = .ok (.iastore, 1) := by decide +kernel
theorem dX12_begin_35 : decode cX12_begin 35 = .ok (.aload_n 0, 1) := by decide +kernel
theorem dX12_begin_36 : decode cX12_begin 36 = .ok (.getfield 110, 3) := by decide +kernel
theorem dX12_begin_39 : decode cX12_begin 39 = .ok (.iload_n 1, 1) := by decide +kernel
theorem dX12_begin_40 : decode cX12_begin 40 = .ok (.iconst 0, 1) := by decide +kernel
theorem dX12_begin_41 : decode cX12_begin 41 = .ok (.iastore, 1) := by decide +kernel
theorem dX12_begin_42 : decode cX12_begin 42 = .ok (.aload_n 0, 1) := by decide +kernel
theorem dX12_begin_43 : decode cX12_begin 43 = .ok (.getfield 134, 3) := by decide +kernel
theorem dX12_begin_46 : decode cX12_begin 46 = .ok (.iload_n 1, 1) := by decide +kernel
theorem dX12_begin_47 : decode cX12_begin 47 = .ok (.iconst 0, 1) := by decide +kernel
theorem dX12_begin_48 : decode cX12_begin 48 = .ok (.iastore, 1) := by decide +kernel
theorem dX12_begin_49 : decode cX12_begin 49 = .ok (.iinc 1 1, 3) := by decide +kernel
theorem dX12_begin_52 : decode cX12_begin 52 = .ok (.goto (-50), 3) := by decide +kernel
theorem dX12_begin_55 : decode cX12_begin 55 = .ok (.iconst 0, 1) := by decide +kernel
theorem dX12_begin_56 : decode cX12_begin 56 = .ok (.istore_n 1, 1) := by decide +kernel
theorem dX12_begin_57 : decode cX12_begin 57 = .ok (.iload_n 1, 1) := by decide +kernel
theorem dX12_begin_58 : decode cX12_begin 58 = .ok (.bipush 12, 2) := by decide +kernel
theorem dX12_begin_60 : decode cX12_begin 60 = .ok (.if_icmp .ge 16, 3) := by decide +kernel
theorem dX12_begin_63 : decode cX12_begin 63 = .ok (.aload_n 0, 1) := by decide +kernel
theorem dX12_begin_64 : decode cX12_begin 64 = .ok (.getfield 131, 3) := by decide +kernel
theorem dX12_begin_67 : decode cX12_begin 67 = .ok (.iload_n 1, 1) := by decide +kernel
theorem dX12_begin_68 : decode cX12_begin 68 = .ok (.iconst 0, 1) := by decide +kernel
theorem dX12_begin_69 : decode cX12_begin 69 = .ok (.iastore, 1) := by decide +kernel
theorem dX12_begin_70 : decode cX12_begin 70 = .ok (.iinc 1 1, 3) := by decide +kernel
theorem dX12_begin_73 : decode cX12_begin 73 = .ok (.goto (-16), 3) := by decide +kernel
theorem dX12_begin_76 : decode cX12_begin 76 = .ok (.return_, 1) := by decide +kernel
theorem dX12_isCell_0 : decode cX12_isCell 0 = .ok (.iload_n 0, 1) := by decide +kernel
theorem dX12_isCell_1 : decode cX12_isCell 1 = .ok (.ifCond .lt 13, 3) := by decide +kernel
theorem dX12_isCell_4 : decode cX12_isCell 4 = .ok (.iload_n 0, 1) := by decide +kernel
theorem dX12_isCell_5 : decode cX12_isCell 5 = .ok (.bipush 64, 2) := by decide +kernel
theorem dX12_isCell_7 : decode cX12_isCell 7 = .ok (.if_icmp .ge 7, 3) := by decide +kernel
theorem dX12_isCell_10 : decode cX12_isCell 10 = .ok (.iconst 1, 1) := by decide +kernel
theorem dX12_isCell_11 : decode cX12_isCell 11 = .ok (.goto 4, 3) := by decide +kernel
theorem dX12_isCell_14 : decode cX12_isCell 14 = .ok (.iconst 0, 1) := by decide +kernel
theorem dX12_isCell_15 : decode cX12_isCell 15 = .ok (.ireturn, 1) := by decide +kernel
theorem dX12_runStack_0 : decode cX12_runStack 0 = .ok (.aload_n 0, 1) := by decide +kernel
theorem dX12_runStack_1 : decode cX12_runStack 1 = .ok (.iconst 0, 1) := by decide +kernel
theorem dX12_runStack_2 : decode cX12_runStack 2 = .ok (.putfield 137, 3) := by decide +kernel
theorem dX12_runStack_5 : decode cX12_runStack 5 = .ok (.aload_n 0, 1) := by decide +kernel
theorem dX12_runStack_6 : decode cX12_runStack 6 = .ok (.getfield 144, 3) := by decide +kernel
theorem dX12_runStack_9 : decode cX12_runStack 9 = .ok (.ifCond .eq 15, 3) := by decide +kernel
theorem dX12_runStack_12 : decode cX12_runStack 12 = .ok (.iload_n 1, 1) := by decide +kernel
theorem dX12_runStack_13 : decode cX12_runStack 13 = .ok (.iconst 1, 1) := by decide +kernel
theorem dX12_runStack_14 : decode cX12_runStack 14 = .ok (.if_icmp .lt 10, 3) := by decide +kernel
theorem dX12_runStack_17 : decode cX12_runStack 17 = .ok (.iload_n 1, 1) := by decide +kernel
theorem dX12_runStack_18 : decode cX12_runStack 18 = .ok (.sipush 20000, 3) := by decide +kernel
theorem dX12_runStack_21 : decode cX12_runStack 21 = .ok (.if_icmp .le 7, 3) := by decide +kernel
theorem dX12_runStack_24 : decode cX12_runStack 24 = .ok (.iconst (-1), 1) := by decide +kernel
theorem dX12_runStack_25 : decode cX12_runStack 25 = .ok (.goto 9, 3) := by decide +kernel
theorem dX12_runStack_28 : decode cX12_runStack 28 = .ok (.aload_n 0, 1) := by decide +kernel
theorem dX12_runStack_29 : decode cX12_runStack 29 = .ok (.iconst 0, 1) := by decide +kernel
theorem dX12_runStack_30 : decode cX12_runStack 30 = .ok (.iload_n 1, 1) := by decide +kernel
theorem dX12_runStack_31 : decode cX12_runStack 31 = .ok (.invokevirtual 332, 3) := by decide +kernel
theorem dX12_runStack_34 : decode cX12_runStack 34 = .ok (.ireturn, 1) := by decide +kernel
theorem dX12_runRegisters_0 : decode cX12_runRegisters 0 = .ok (.aload_n 0, 1) := by decide +kernel
theorem dX12_runRegisters_1 : decode cX12_runRegisters 1 = .ok (.iconst 0, 1) := by decide +kernel
theorem dX12_runRegisters_2 : decode cX12_runRegisters 2 = .ok (.putfield 137, 3) := by decide +kernel
theorem dX12_runRegisters_5 : decode cX12_runRegisters 5 = .ok (.aload_n 0, 1) := by decide +kernel
theorem dX12_runRegisters_6 : decode cX12_runRegisters 6 = .ok (.getfield 268, 3) := by decide +kernel
theorem dX12_runRegisters_9 : decode cX12_runRegisters 9 = .ok (.ifCond .eq 15, 3) := by decide +kernel
theorem dX12_runRegisters_12 : decode cX12_runRegisters 12 = .ok (.iload_n 1, 1) := by decide +kernel
theorem dX12_runRegisters_13 : decode cX12_runRegisters 13 = .ok (.iconst 1, 1) := by decide +kernel
theorem dX12_runRegisters_14 : decode cX12_runRegisters 14 = .ok (.if_icmp .lt 10, 3) := by decide +kernel
theorem dX12_runRegisters_17 : decode cX12_runRegisters 17 = .ok (.iload_n 1, 1) := by decide +kernel
theorem dX12_runRegisters_18 : decode cX12_runRegisters 18 = .ok (.sipush 20000, 3) := by decide +kernel
theorem dX12_runRegisters_21 : decode cX12_runRegisters 21 = .ok (.if_icmp .le 7, 3) := by decide +kernel
theorem dX12_runRegisters_24 : decode cX12_runRegisters 24 = .ok (.iconst (-1), 1) := by decide +kernel
theorem dX12_runRegisters_25 : decode cX12_runRegisters 25 = .ok (.goto 9, 3) := by decide +kernel
theorem dX12_runRegisters_28 : decode cX12_runRegisters 28 = .ok (.aload_n 0, 1) := by decide +kernel
theorem dX12_runRegisters_29 : decode cX12_runRegisters 29 = .ok (.iconst 1, 1) := by decide +kernel
theorem dX12_runRegisters_30 : decode cX12_runRegisters 30 = .ok (.iload_n 1, 1) := by decide +kernel
theorem dX12_runRegisters_31 : decode cX12_runRegisters 31 = .ok (.invokevirtual 332, 3) := by decide +kernel
theorem dX12_runRegisters_34 : decode cX12_runRegisters 34 = .ok (.ireturn, 1) := by decide +kernel
theorem dX12_again_0 : decode cX12_again 0 = .ok (.aload_n 0, 1) := by decide +kernel
theorem dX12_again_1 : decode cX12_again 1 = .ok (.iconst 0, 1) := by decide +kernel
theorem dX12_again_2 : decode cX12_again 2 = .ok (.putfield 137, 3) := by decide +kernel
theorem dX12_again_5 : decode cX12_again 5 = .ok (.aload_n 0, 1) := by decide +kernel
theorem dX12_again_6 : decode cX12_again 6 = .ok (.getfield 144, 3) := by decide +kernel
theorem dX12_again_9 : decode cX12_again 9 = .ok (.ifCond .eq 7, 3) := by decide +kernel
theorem dX12_again_12 : decode cX12_again 12 = .ok (.aload_n 0, 1) := by decide +kernel
theorem dX12_again_13 : decode cX12_again 13 = .ok (.invokevirtual 159, 3) := by decide +kernel
theorem dX12_again_16 : decode cX12_again 16 = .ok (.aload_n 0, 1) := by decide +kernel
theorem dX12_again_17 : decode cX12_again 17 = .ok (.getfield 144, 3) := by decide +kernel
theorem dX12_again_20 : decode cX12_again 20 = .ok (.ireturn, 1) := by decide +kernel
theorem dX12_cell_0 : decode cX12_cell 0 = .ok (.aload_n 0, 1) := by decide +kernel
theorem dX12_cell_1 : decode cX12_cell 1 = .ok (.iconst 0, 1) := by decide +kernel
theorem dX12_cell_2 : decode cX12_cell 2 = .ok (.putfield 137, 3) := by decide +kernel
theorem dX12_cell_5 : decode cX12_cell 5 = .ok (.iload_n 1, 1) := by decide +kernel
theorem dX12_cell_6 : decode cX12_cell 6 = .ok (.invokestatic 317, 3) := by decide +kernel
theorem dX12_cell_9 : decode cX12_cell 9 = .ok (.ifCond .ne 5, 3) := by decide +kernel
theorem dX12_cell_12 : decode cX12_cell 12 = .ok (.iconst 0, 1) := by decide +kernel
theorem dX12_cell_13 : decode cX12_cell 13 = .ok (.ireturn, 1) := by decide +kernel
theorem dX12_cell_14 : decode cX12_cell 14 = .ok (.aload_n 0, 1) := by decide +kernel
theorem dX12_cell_15 : decode cX12_cell 15 = .ok (.getfield 95, 3) := by decide +kernel
theorem dX12_cell_18 : decode cX12_cell 18 = .ok (.iload_n 1, 1) := by decide +kernel
theorem dX12_cell_19 : decode cX12_cell 19 = .ok (.iload_n 2, 1) := by decide +kernel
theorem dX12_cell_20 : decode cX12_cell 20 = .ok (.iastore, 1) := by decide +kernel
theorem dX12_cell_21 : decode cX12_cell 21 = .ok (.aload_n 0, 1) := by decide +kernel
theorem dX12_cell_22 : decode cX12_cell 22 = .ok (.getfield 95, 3) := by decide +kernel
theorem dX12_cell_25 : decode cX12_cell 25 = .ok (.bipush 64, 2) := by decide +kernel
theorem dX12_cell_27 : decode cX12_cell 27 = .ok (.iload_n 1, 1) := by decide +kernel
theorem dX12_cell_28 : decode cX12_cell 28 = .ok (.iadd, 1) := by decide +kernel
theorem dX12_cell_29 : decode cX12_cell 29 = .ok (.iload_n 2, 1) := by decide +kernel
theorem dX12_cell_30 : decode cX12_cell 30 = .ok (.iastore, 1) := by decide +kernel
theorem dX12_cell_31 : decode cX12_cell 31 = .ok (.iconst 1, 1) := by decide +kernel
theorem dX12_cell_32 : decode cX12_cell 32 = .ok (.ireturn, 1) := by decide +kernel
theorem dX12_clear_0 : decode cX12_clear 0 = .ok (.aload_n 0, 1) := by decide +kernel
theorem dX12_clear_1 : decode cX12_clear 1 = .ok (.iconst 0, 1) := by decide +kernel
theorem dX12_clear_2 : decode cX12_clear 2 = .ok (.putfield 137, 3) := by decide +kernel
theorem dX12_clear_5 : decode cX12_clear 5 = .ok (.aload_n 0, 1) := by decide +kernel
theorem dX12_clear_6 : decode cX12_clear 6 = .ok (.iconst 0, 1) := by decide +kernel
theorem dX12_clear_7 : decode cX12_clear 7 = .ok (.putfield 141, 3) := by decide +kernel
theorem dX12_clear_10 : decode cX12_clear 10 = .ok (.aload_n 0, 1) := by decide +kernel
theorem dX12_clear_11 : decode cX12_clear 11 = .ok (.iconst 0, 1) := by decide +kernel
theorem dX12_clear_12 : decode cX12_clear 12 = .ok (.putfield 148, 3) := by decide +kernel
theorem dX12_clear_15 : decode cX12_clear 15 = .ok (.aload_n 0, 1) := by decide +kernel
theorem dX12_clear_16 : decode cX12_clear 16 = .ok (.iconst 0, 1) := by decide +kernel
theorem dX12_clear_17 : decode cX12_clear 17 = .ok (.putfield 144, 3) := by decide +kernel
theorem dX12_clear_20 : decode cX12_clear 20 = .ok (.aload_n 0, 1) := by decide +kernel
theorem dX12_clear_21 : decode cX12_clear 21 = .ok (.iconst 0, 1) := by decide +kernel
theorem dX12_clear_22 : decode cX12_clear 22 = .ok (.putfield 268, 3) := by decide +kernel
theorem dX12_clear_25 : decode cX12_clear 25 = .ok (.iconst 0, 1) := by decide +kernel
theorem dX12_clear_26 : decode cX12_clear 26 = .ok (.istore_n 1, 1) := by decide +kernel
theorem dX12_clear_27 : decode cX12_clear 27 = .ok (.iload_n 1, 1) := by decide +kernel
theorem dX12_clear_28 : decode cX12_clear 28 = .ok (.sipush 128, 3) := by decide +kernel
theorem dX12_clear_31 : decode cX12_clear 31 = .ok (.if_icmp .ge 16, 3) := by decide +kernel
theorem dX12_clear_34 : decode cX12_clear 34 = .ok (.aload_n 0, 1) := by decide +kernel
theorem dX12_clear_35 : decode cX12_clear 35 = .ok (.getfield 95, 3) := by decide +kernel
theorem dX12_clear_38 : decode cX12_clear 38 = .ok (.iload_n 1, 1) := by decide +kernel
theorem dX12_clear_39 : decode cX12_clear 39 = .ok (.iconst 0, 1) := by decide +kernel
theorem dX12_clear_40 : decode cX12_clear 40 = .ok (.iastore, 1) := by decide +kernel
theorem dX12_clear_41 : decode cX12_clear 41 = .ok (.iinc 1 1, 3) := by decide +kernel
theorem dX12_clear_44 : decode cX12_clear 44 = .ok (.goto (-17), 3) := by decide +kernel
theorem dX12_clear_47 : decode cX12_clear 47 = .ok (.aload_n 0, 1) := by decide +kernel
theorem dX12_clear_48 : decode cX12_clear 48 = .ok (.invokevirtual 159, 3) := by decide +kernel
theorem dX12_clear_51 : decode cX12_clear 51 = .ok (.return_, 1) := by decide +kernel
theorem dX12_op_0 : decode cX12_op 0 = .ok (.aload_n 0, 1) := by decide +kernel
theorem dX12_op_1 : decode cX12_op 1 = .ok (.aload_n 0, 1) := by decide +kernel
theorem dX12_op_2 : decode cX12_op 2 = .ok (.getfield 268, 3) := by decide +kernel
theorem dX12_op_5 : decode cX12_op 5 = .ok (.ifCond .eq 42, 3) := by decide +kernel
theorem dX12_op_8 : decode cX12_op 8 = .ok (.iload_n 1, 1) := by decide +kernel
theorem dX12_op_9 : decode cX12_op 9 = .ok (.ifCond .lt 38, 3) := by decide +kernel
theorem dX12_op_12 : decode cX12_op 12 = .ok (.iload_n 1, 1) := by decide +kernel
theorem dX12_op_13 : decode cX12_op 13 = .ok (.aload_n 0, 1) := by decide +kernel
theorem dX12_op_14 : decode cX12_op 14 = .ok (.getfield 141, 3) := by decide +kernel
theorem dX12_op_17 : decode cX12_op 17 = .ok (.if_icmp .ge 30, 3) := by decide +kernel
theorem dX12_op_20 : decode cX12_op 20 = .ok (.iload_n 2, 1) := by decide +kernel
theorem dX12_op_21 : decode cX12_op 21 = .ok (.ifCond .lt 26, 3) := by decide +kernel
theorem dX12_op_24 : decode cX12_op 24 = .ok (.iload_n 2, 1) := by decide +kernel
theorem dX12_op_25 : decode cX12_op 25 = .ok (.aload_n 0, 1) := by decide +kernel
theorem dX12_op_26 : decode cX12_op 26 = .ok (.getfield 89, 3) := by decide +kernel
theorem dX12_op_29 : decode cX12_op 29 = .ok (.iload_n 1, 1) := by decide +kernel
theorem dX12_op_30 : decode cX12_op 30 = .ok (.iaload, 1) := by decide +kernel
theorem dX12_op_31 : decode cX12_op 31 = .ok (.if_icmp .ge 16, 3) := by decide +kernel
theorem dX12_op_34 : decode cX12_op 34 = .ok (.iload_n 3, 1) := by decide +kernel
theorem dX12_op_35 : decode cX12_op 35 = .ok (.ifCond .lt 12, 3) := by decide +kernel
theorem dX12_op_38 : decode cX12_op 38 = .ok (.iload_n 3, 1) := by decide +kernel
theorem dX12_op_39 : decode cX12_op 39 = .ok (.iconst 4, 1) := by decide +kernel
theorem dX12_op_40 : decode cX12_op 40 = .ok (.if_icmp .gt 7, 3) := by decide +kernel
theorem dX12_op_43 : decode cX12_op 43 = .ok (.iconst 0, 1) := by decide +kernel
theorem dX12_op_44 : decode cX12_op 44 = .ok (.goto 4, 3) := by decide +kernel
theorem dX12_op_47 : decode cX12_op 47 = .ok (.iconst 1, 1) := by decide +kernel
theorem dX12_op_48 : decode cX12_op 48 = .ok (.putfield 137, 3) := by decide +kernel
theorem dX12_op_51 : decode cX12_op 51 = .ok (.aload_n 0, 1) := by decide +kernel
theorem dX12_op_52 : decode cX12_op 52 = .ok (.getfield 137, 3) := by decide +kernel
theorem dX12_op_55 : decode cX12_op 55 = .ok (.ifCond .le 7, 3) := by decide +kernel
theorem dX12_op_58 : decode cX12_op 58 = .ok (.iconst 0, 1) := by decide +kernel
theorem dX12_op_59 : decode cX12_op 59 = .ok (.goto 20, 3) := by decide +kernel
theorem dX12_op_62 : decode cX12_op 62 = .ok (.aload_n 0, 1) := by decide +kernel
theorem dX12_op_63 : decode cX12_op 63 = .ok (.getfield 83, 3) := by decide +kernel
theorem dX12_op_66 : decode cX12_op 66 = .ok (.iconst 5, 1) := by decide +kernel
theorem dX12_op_67 : decode cX12_op 67 = .ok (.aload_n 0, 1) := by decide +kernel
theorem dX12_op_68 : decode cX12_op 68 = .ok (.getfield 86, 3) := by decide +kernel
theorem dX12_op_71 : decode cX12_op 71 = .ok (.iload_n 1, 1) := by decide +kernel
theorem dX12_op_72 : decode cX12_op 72 = .ok (.iaload, 1) := by decide +kernel
theorem dX12_op_73 : decode cX12_op 73 = .ok (.iload_n 2, 1) := by decide +kernel
theorem dX12_op_74 : decode cX12_op 74 = .ok (.iadd, 1) := by decide +kernel
theorem dX12_op_75 : decode cX12_op 75 = .ok (.imul, 1) := by decide +kernel
theorem dX12_op_76 : decode cX12_op 76 = .ok (.iload_n 3, 1) := by decide +kernel
theorem dX12_op_77 : decode cX12_op 77 = .ok (.iadd, 1) := by decide +kernel
theorem dX12_op_78 : decode cX12_op 78 = .ok (.iaload, 1) := by decide +kernel
theorem dX12_op_79 : decode cX12_op 79 = .ok (.ireturn, 1) := by decide +kernel
theorem dX12_isFunc_0 : decode cX12_isFunc 0 = .ok (.aload_n 0, 1) := by decide +kernel
theorem dX12_isFunc_1 : decode cX12_isFunc 1 = .ok (.getfield 268, 3) := by decide +kernel
theorem dX12_isFunc_4 : decode cX12_isFunc 4 = .ok (.ifCond .eq 19, 3) := by decide +kernel
theorem dX12_isFunc_7 : decode cX12_isFunc 7 = .ok (.iload_n 1, 1) := by decide +kernel
theorem dX12_isFunc_8 : decode cX12_isFunc 8 = .ok (.ifCond .lt 15, 3) := by decide +kernel
theorem dX12_isFunc_11 : decode cX12_isFunc 11 = .ok (.iload_n 1, 1) := by decide +kernel
theorem dX12_isFunc_12 : decode cX12_isFunc 12 = .ok (.aload_n 0, 1) := by decide +kernel
theorem dX12_isFunc_13 : decode cX12_isFunc 13 = .ok (.getfield 141, 3) := by decide +kernel
theorem dX12_isFunc_16 : decode cX12_isFunc 16 = .ok (.if_icmp .ge 7, 3) := by decide +kernel
theorem dX12_isFunc_19 : decode cX12_isFunc 19 = .ok (.iconst 1, 1) := by decide +kernel
theorem dX12_isFunc_20 : decode cX12_isFunc 20 = .ok (.goto 4, 3) := by decide +kernel
theorem dX12_isFunc_23 : decode cX12_isFunc 23 = .ok (.iconst 0, 1) := by decide +kernel
theorem dX12_isFunc_24 : decode cX12_isFunc 24 = .ok (.ireturn, 1) := by decide +kernel
theorem dX12_size_0 : decode cX12_size 0 = .ok (.aload_n 0, 1) := by decide +kernel
theorem dX12_size_1 : decode cX12_size 1 = .ok (.iconst 0, 1) := by decide +kernel
theorem dX12_size_2 : decode cX12_size 2 = .ok (.putfield 137, 3) := by decide +kernel
theorem dX12_size_5 : decode cX12_size 5 = .ok (.aload_n 0, 1) := by decide +kernel
theorem dX12_size_6 : decode cX12_size 6 = .ok (.iload_n 1, 1) := by decide +kernel
theorem dX12_size_7 : decode cX12_size 7 = .ok (.invokevirtual 335, 3) := by decide +kernel
theorem dX12_size_10 : decode cX12_size 10 = .ok (.ifCond .eq 12, 3) := by decide +kernel
theorem dX12_size_13 : decode cX12_size 13 = .ok (.aload_n 0, 1) := by decide +kernel
theorem dX12_size_14 : decode cX12_size 14 = .ok (.getfield 89, 3) := by decide +kernel
theorem dX12_size_17 : decode cX12_size 17 = .ok (.iload_n 1, 1) := by decide +kernel
theorem dX12_size_18 : decode cX12_size 18 = .ok (.iaload, 1) := by decide +kernel
theorem dX12_size_19 : decode cX12_size 19 = .ok (.goto 4, 3) := by decide +kernel
theorem dX12_size_22 : decode cX12_size 22 = .ok (.iconst (-1), 1) := by decide +kernel
theorem dX12_size_23 : decode cX12_size 23 = .ok (.ireturn, 1) := by decide +kernel
theorem dX12_value_0 : decode cX12_value 0 = .ok (.aload_n 0, 1) := by decide +kernel
theorem dX12_value_1 : decode cX12_value 1 = .ok (.iconst 0, 1) := by decide +kernel
theorem dX12_value_2 : decode cX12_value 2 = .ok (.putfield 137, 3) := by decide +kernel
theorem dX12_value_5 : decode cX12_value 5 = .ok (.aload_n 0, 1) := by decide +kernel
theorem dX12_value_6 : decode cX12_value 6 = .ok (.iload_n 1, 1) := by decide +kernel
theorem dX12_value_7 : decode cX12_value 7 = .ok (.invokevirtual 335, 3) := by decide +kernel
theorem dX12_value_10 : decode cX12_value 10 = .ok (.ifCond .eq 27, 3) := by decide +kernel
theorem dX12_value_13 : decode cX12_value 13 = .ok (.iload_n 2, 1) := by decide +kernel
theorem dX12_value_14 : decode cX12_value 14 = .ok (.ifCond .lt 23, 3) := by decide +kernel
theorem dX12_value_17 : decode cX12_value 17 = .ok (.iload_n 2, 1) := by decide +kernel
theorem dX12_value_18 : decode cX12_value 18 = .ok (.bipush 23, 2) := by decide +kernel
theorem dX12_value_20 : decode cX12_value 20 = .ok (.if_icmp .gt 17, 3) := by decide +kernel
theorem dX12_value_23 : decode cX12_value 23 = .ok (.aload_n 0, 1) := by decide +kernel
theorem dX12_value_24 : decode cX12_value 24 = .ok (.getfield 62, 3) := by decide +kernel
theorem dX12_value_27 : decode cX12_value 27 = .ok (.bipush 24, 2) := by decide +kernel
theorem dX12_value_29 : decode cX12_value 29 = .ok (.iload_n 1, 1) := by decide +kernel
theorem dX12_value_30 : decode cX12_value 30 = .ok (.imul, 1) := by decide +kernel
theorem dX12_value_31 : decode cX12_value 31 = .ok (.iload_n 2, 1) := by decide +kernel
theorem dX12_value_32 : decode cX12_value 32 = .ok (.iadd, 1) := by decide +kernel
theorem dX12_value_33 : decode cX12_value 33 = .ok (.iaload, 1) := by decide +kernel
theorem dX12_value_34 : decode cX12_value 34 = .ok (.ifCond .ge 5, 3) := by decide +kernel
theorem dX12_value_37 : decode cX12_value 37 = .ok (.iconst (-1), 1) := by decide +kernel
theorem dX12_value_38 : decode cX12_value 38 = .ok (.ireturn, 1) := by decide +kernel
theorem dX12_value_39 : decode cX12_value 39 = .ok (.bipush 24, 2) := by decide +kernel
theorem dX12_value_41 : decode cX12_value 41 = .ok (.iload_n 1, 1) := by decide +kernel
theorem dX12_value_42 : decode cX12_value 42 = .ok (.imul, 1) := by decide +kernel
theorem dX12_value_43 : decode cX12_value 43 = .ok (.iload_n 2, 1) := by decide +kernel
theorem dX12_value_44 : decode cX12_value 44 = .ok (.iadd, 1) := by decide +kernel
theorem dX12_value_45 : decode cX12_value 45 = .ok (.istore 4, 2) := by decide +kernel
theorem dX12_value_47 : decode cX12_value 47 = .ok (.iload_n 3, 1) := by decide +kernel
theorem dX12_value_48 : decode cX12_value 48 = .ok (.ifCond .ne 13, 3) := by decide +kernel
theorem dX12_value_51 : decode cX12_value 51 = .ok (.aload_n 0, 1) := by decide +kernel
theorem dX12_value_52 : decode cX12_value 52 = .ok (.getfield 62, 3) := by decide +kernel
theorem dX12_value_55 : decode cX12_value 55 = .ok (.iload 4, 2) := by decide +kernel
theorem dX12_value_57 : decode cX12_value 57 = .ok (.iaload, 1) := by decide +kernel
theorem dX12_value_58 : decode cX12_value 58 = .ok (.goto 49, 3) := by decide +kernel
theorem dX12_value_61 : decode cX12_value 61 = .ok (.iload_n 3, 1) := by decide +kernel
theorem dX12_value_62 : decode cX12_value 62 = .ok (.iconst 1, 1) := by decide +kernel
theorem dX12_value_63 : decode cX12_value 63 = .ok (.if_icmp .ne 13, 3) := by decide +kernel
theorem dX12_value_66 : decode cX12_value 66 = .ok (.aload_n 0, 1) := by decide +kernel
theorem dX12_value_67 : decode cX12_value 67 = .ok (.getfield 65, 3) := by decide +kernel
theorem dX12_value_70 : decode cX12_value 70 = .ok (.iload 4, 2) := by decide +kernel
theorem dX12_value_72 : decode cX12_value 72 = .ok (.iaload, 1) := by decide +kernel
theorem dX12_value_73 : decode cX12_value 73 = .ok (.goto 34, 3) := by decide +kernel
theorem dX12_value_76 : decode cX12_value 76 = .ok (.iload_n 3, 1) := by decide +kernel
theorem dX12_value_77 : decode cX12_value 77 = .ok (.iconst 2, 1) := by decide +kernel
theorem dX12_value_78 : decode cX12_value 78 = .ok (.if_icmp .ne 13, 3) := by decide +kernel
theorem dX12_value_81 : decode cX12_value 81 = .ok (.aload_n 0, 1) := by decide +kernel
theorem dX12_value_82 : decode cX12_value 82 = .ok (.getfield 68, 3) := by decide +kernel
theorem dX12_value_85 : decode cX12_value 85 = .ok (.iload 4, 2) := by decide +kernel
theorem dX12_value_87 : decode cX12_value 87 = .ok (.iaload, 1) := by decide +kernel
theorem dX12_value_88 : decode cX12_value 88 = .ok (.goto 19, 3) := by decide +kernel
theorem dX12_value_91 : decode cX12_value 91 = .ok (.iload_n 3, 1) := by decide +kernel
theorem dX12_value_92 : decode cX12_value 92 = .ok (.iconst 3, 1) := by decide +kernel
theorem dX12_value_93 : decode cX12_value 93 = .ok (.if_icmp .ne 13, 3) := by decide +kernel
theorem dX12_value_96 : decode cX12_value 96 = .ok (.aload_n 0, 1) := by decide +kernel
theorem dX12_value_97 : decode cX12_value 97 = .ok (.getfield 71, 3) := by decide +kernel
theorem dX12_value_100 : decode cX12_value 100 = .ok (.iload 4, 2) := by decide +kernel
theorem dX12_value_102 : decode cX12_value 102 = .ok (.iaload, 1) := by decide +kernel
theorem dX12_value_103 : decode cX12_value 103 = .ok (.goto 4, 3) := by decide +kernel
theorem dX12_value_106 : decode cX12_value 106 = .ok (.iconst (-1), 1) := by decide +kernel
theorem dX12_value_107 : decode cX12_value 107 = .ok (.ireturn, 1) := by decide +kernel
theorem dX12_slots_0 : decode cX12_slots 0 = .ok (.aload_n 0, 1) := by decide +kernel
theorem dX12_slots_1 : decode cX12_slots 1 = .ok (.iconst 0, 1) := by decide +kernel
theorem dX12_slots_2 : decode cX12_slots 2 = .ok (.putfield 137, 3) := by decide +kernel
theorem dX12_slots_5 : decode cX12_slots 5 = .ok (.aload_n 0, 1) := by decide +kernel
theorem dX12_slots_6 : decode cX12_slots 6 = .ok (.iload_n 1, 1) := by decide +kernel
theorem dX12_slots_7 : decode cX12_slots 7 = .ok (.invokevirtual 335, 3) := by decide +kernel
theorem dX12_slots_10 : decode cX12_slots 10 = .ok (.ifCond .eq 12, 3) := by decide +kernel
theorem dX12_slots_13 : decode cX12_slots 13 = .ok (.aload_n 0, 1) := by decide +kernel
theorem dX12_slots_14 : decode cX12_slots 14 = .ok (.getfield 74, 3) := by decide +kernel
theorem dX12_slots_17 : decode cX12_slots 17 = .ok (.iload_n 1, 1) := by decide +kernel
theorem dX12_slots_18 : decode cX12_slots 18 = .ok (.iaload, 1) := by decide +kernel
theorem dX12_slots_19 : decode cX12_slots 19 = .ok (.goto 4, 3) := by decide +kernel
theorem dX12_slots_22 : decode cX12_slots 22 = .ok (.iconst (-1), 1) := by decide +kernel
theorem dX12_slots_23 : decode cX12_slots 23 = .ok (.ireturn, 1) := by decide +kernel
theorem dX12_places_0 : decode cX12_places 0 = .ok (.aload_n 0, 1) := by decide +kernel
theorem dX12_places_1 : decode cX12_places 1 = .ok (.iconst 0, 1) := by decide +kernel
theorem dX12_places_2 : decode cX12_places 2 = .ok (.putfield 137, 3) := by decide +kernel
theorem dX12_places_5 : decode cX12_places 5 = .ok (.aload_n 0, 1) := by decide +kernel
theorem dX12_places_6 : decode cX12_places 6 = .ok (.iload_n 1, 1) := by decide +kernel
theorem dX12_places_7 : decode cX12_places 7 = .ok (.invokevirtual 335, 3) := by decide +kernel
theorem dX12_places_10 : decode cX12_places 10 = .ok (.ifCond .eq 12, 3) := by decide +kernel
theorem dX12_places_13 : decode cX12_places 13 = .ok (.aload_n 0, 1) := by decide +kernel
theorem dX12_places_14 : decode cX12_places 14 = .ok (.getfield 77, 3) := by decide +kernel
theorem dX12_places_17 : decode cX12_places 17 = .ok (.iload_n 1, 1) := by decide +kernel
theorem dX12_places_18 : decode cX12_places 18 = .ok (.iaload, 1) := by decide +kernel
theorem dX12_places_19 : decode cX12_places 19 = .ok (.goto 4, 3) := by decide +kernel
theorem dX12_places_22 : decode cX12_places 22 = .ok (.iconst (-1), 1) := by decide +kernel
theorem dX12_places_23 : decode cX12_places 23 = .ok (.ireturn, 1) := by decide +kernel
theorem dX12_look_0 : decode cX12_look 0 = .ok (.aload_n 0, 1) := by decide +kernel
theorem dX12_look_1 : decode cX12_look 1 = .ok (.iconst 0, 1) := by decide +kernel
theorem dX12_look_2 : decode cX12_look 2 = .ok (.putfield 137, 3) := by decide +kernel
theorem dX12_look_5 : decode cX12_look 5 = .ok (.iload_n 1, 1) := by decide +kernel
theorem dX12_look_6 : decode cX12_look 6 = .ok (.ifCond .lt 8, 3) := by decide +kernel
theorem dX12_look_9 : decode cX12_look 9 = .ok (.iload_n 1, 1) := by decide +kernel
theorem dX12_look_10 : decode cX12_look 10 = .ok (.iconst 1, 1) := by decide +kernel
theorem dX12_look_11 : decode cX12_look 11 = .ok (.if_icmp .le 5, 3) := by decide +kernel
theorem dX12_look_14 : decode cX12_look 14 = .ok (.iconst (-1), 1) := by decide +kernel
theorem dX12_look_15 : decode cX12_look 15 = .ok (.ireturn, 1) := by decide +kernel
theorem dX12_look_16 : decode cX12_look 16 = .ok (.iload_n 2, 1) := by decide +kernel
theorem dX12_look_17 : decode cX12_look 17 = .ok (.ifCond .ne 12, 3) := by decide +kernel
theorem dX12_look_20 : decode cX12_look 20 = .ok (.aload_n 0, 1) := by decide +kernel
theorem dX12_look_21 : decode cX12_look 21 = .ok (.getfield 98, 3) := by decide +kernel
theorem dX12_look_24 : decode cX12_look 24 = .ok (.iload_n 1, 1) := by decide +kernel
theorem dX12_look_25 : decode cX12_look 25 = .ok (.iaload, 1) := by decide +kernel
theorem dX12_look_26 : decode cX12_look 26 = .ok (.goto 60, 3) := by decide +kernel
theorem dX12_look_29 : decode cX12_look 29 = .ok (.iload_n 2, 1) := by decide +kernel
theorem dX12_look_30 : decode cX12_look 30 = .ok (.iconst 1, 1) := by decide +kernel
theorem dX12_look_31 : decode cX12_look 31 = .ok (.if_icmp .ne 12, 3) := by decide +kernel
theorem dX12_look_34 : decode cX12_look 34 = .ok (.aload_n 0, 1) := by decide +kernel
theorem dX12_look_35 : decode cX12_look 35 = .ok (.getfield 101, 3) := by decide +kernel
theorem dX12_look_38 : decode cX12_look 38 = .ok (.iload_n 1, 1) := by decide +kernel
theorem dX12_look_39 : decode cX12_look 39 = .ok (.iaload, 1) := by decide +kernel
theorem dX12_look_40 : decode cX12_look 40 = .ok (.goto 46, 3) := by decide +kernel
theorem dX12_look_43 : decode cX12_look 43 = .ok (.iload_n 2, 1) := by decide +kernel
theorem dX12_look_44 : decode cX12_look 44 = .ok (.iconst 2, 1) := by decide +kernel
theorem dX12_look_45 : decode cX12_look 45 = .ok (.if_icmp .ne 12, 3) := by decide +kernel
theorem dX12_look_48 : decode cX12_look 48 = .ok (.aload_n 0, 1) := by decide +kernel
theorem dX12_look_49 : decode cX12_look 49 = .ok (.getfield 104, 3) := by decide +kernel
theorem dX12_look_52 : decode cX12_look 52 = .ok (.iload_n 1, 1) := by decide +kernel
theorem dX12_look_53 : decode cX12_look 53 = .ok (.iaload, 1) := by decide +kernel
theorem dX12_look_54 : decode cX12_look 54 = .ok (.goto 32, 3) := by decide +kernel
theorem dX12_look_57 : decode cX12_look 57 = .ok (.iload_n 2, 1) := by decide +kernel
theorem dX12_look_58 : decode cX12_look 58 = .ok (.iconst 3, 1) := by decide +kernel
theorem dX12_look_59 : decode cX12_look 59 = .ok (.if_icmp .ne 12, 3) := by decide +kernel
theorem dX12_look_62 : decode cX12_look 62 = .ok (.aload_n 0, 1) := by decide +kernel
theorem dX12_look_63 : decode cX12_look 63 = .ok (.getfield 107, 3) := by decide +kernel
theorem dX12_look_66 : decode cX12_look 66 = .ok (.iload_n 1, 1) := by decide +kernel
theorem dX12_look_67 : decode cX12_look 67 = .ok (.iaload, 1) := by decide +kernel
theorem dX12_look_68 : decode cX12_look 68 = .ok (.goto 18, 3) := by decide +kernel
theorem dX12_look_71 : decode cX12_look 71 = .ok (.iload_n 2, 1) := by decide +kernel
theorem dX12_look_72 : decode cX12_look 72 = .ok (.iconst 4, 1) := by decide +kernel
theorem dX12_look_73 : decode cX12_look 73 = .ok (.if_icmp .ne 12, 3) := by decide +kernel
theorem dX12_look_76 : decode cX12_look 76 = .ok (.aload_n 0, 1) := by decide +kernel
theorem dX12_look_77 : decode cX12_look 77 = .ok (.getfield 110, 3) := by decide +kernel
theorem dX12_look_80 : decode cX12_look 80 = .ok (.iload_n 1, 1) := by decide +kernel
theorem dX12_look_81 : decode cX12_look 81 = .ok (.iaload, 1) := by decide +kernel
theorem dX12_look_82 : decode cX12_look 82 = .ok (.goto 4, 3) := by decide +kernel
theorem dX12_look_85 : decode cX12_look 85 = .ok (.iconst (-1), 1) := by decide +kernel
theorem dX12_look_86 : decode cX12_look 86 = .ok (.ireturn, 1) := by decide +kernel
theorem dX12_peek_0 : decode cX12_peek 0 = .ok (.aload_n 0, 1) := by decide +kernel
theorem dX12_peek_1 : decode cX12_peek 1 = .ok (.iload_n 1, 1) := by decide +kernel
theorem dX12_peek_2 : decode cX12_peek 2 = .ok (.ifCond .lt 19, 3) := by decide +kernel
theorem dX12_peek_5 : decode cX12_peek 5 = .ok (.iload_n 1, 1) := by decide +kernel
theorem dX12_peek_6 : decode cX12_peek 6 = .ok (.iconst 2, 1) := by decide +kernel
theorem dX12_peek_7 : decode cX12_peek 7 = .ok (.if_icmp .ge 14, 3) := by decide +kernel
theorem dX12_peek_10 : decode cX12_peek 10 = .ok (.iload_n 2, 1) := by decide +kernel
theorem dX12_peek_11 : decode cX12_peek 11 = .ok (.invokestatic 317, 3) := by decide +kernel
theorem dX12_peek_14 : decode cX12_peek 14 = .ok (.ifCond .eq 7, 3) := by decide +kernel
theorem dX12_peek_17 : decode cX12_peek 17 = .ok (.iconst 0, 1) := by decide +kernel
theorem dX12_peek_18 : decode cX12_peek 18 = .ok (.goto 4, 3) := by decide +kernel
theorem dX12_peek_21 : decode cX12_peek 21 = .ok (.iconst 1, 1) := by decide +kernel
theorem dX12_peek_22 : decode cX12_peek 22 = .ok (.putfield 137, 3) := by decide +kernel
theorem dX12_peek_25 : decode cX12_peek 25 = .ok (.aload_n 0, 1) := by decide +kernel
theorem dX12_peek_26 : decode cX12_peek 26 = .ok (.getfield 137, 3) := by decide +kernel
theorem dX12_peek_29 : decode cX12_peek 29 = .ok (.ifCond .le 7, 3) := by decide +kernel
theorem dX12_peek_32 : decode cX12_peek 32 = .ok (.iconst 0, 1) := by decide +kernel
theorem dX12_peek_33 : decode cX12_peek 33 = .ok (.goto 14, 3) := by decide +kernel
theorem dX12_peek_36 : decode cX12_peek 36 = .ok (.aload_n 0, 1) := by decide +kernel
theorem dX12_peek_37 : decode cX12_peek 37 = .ok (.getfield 95, 3) := by decide +kernel
theorem dX12_peek_40 : decode cX12_peek 40 = .ok (.bipush 64, 2) := by decide +kernel
theorem dX12_peek_42 : decode cX12_peek 42 = .ok (.iload_n 1, 1) := by decide +kernel
theorem dX12_peek_43 : decode cX12_peek 43 = .ok (.imul, 1) := by decide +kernel
theorem dX12_peek_44 : decode cX12_peek 44 = .ok (.iload_n 2, 1) := by decide +kernel
theorem dX12_peek_45 : decode cX12_peek 45 = .ok (.iadd, 1) := by decide +kernel
theorem dX12_peek_46 : decode cX12_peek 46 = .ok (.iaload, 1) := by decide +kernel
theorem dX12_peek_47 : decode cX12_peek 47 = .ok (.ireturn, 1) := by decide +kernel
theorem dX12_count_0 : decode cX12_count 0 = .ok (.aload_n 0, 1) := by decide +kernel
theorem dX12_count_1 : decode cX12_count 1 = .ok (.iconst 0, 1) := by decide +kernel
theorem dX12_count_2 : decode cX12_count 2 = .ok (.putfield 137, 3) := by decide +kernel
theorem dX12_count_5 : decode cX12_count 5 = .ok (.iload_n 1, 1) := by decide +kernel
theorem dX12_count_6 : decode cX12_count 6 = .ok (.ifCond .ne 10, 3) := by decide +kernel
theorem dX12_count_9 : decode cX12_count 9 = .ok (.aload_n 0, 1) := by decide +kernel
theorem dX12_count_10 : decode cX12_count 10 = .ok (.getfield 141, 3) := by decide +kernel
theorem dX12_count_13 : decode cX12_count 13 = .ok (.goto 82, 3) := by decide +kernel
theorem dX12_count_16 : decode cX12_count 16 = .ok (.iload_n 1, 1) := by decide +kernel
theorem dX12_count_17 : decode cX12_count 17 = .ok (.iconst 1, 1) := by decide +kernel
theorem dX12_count_18 : decode cX12_count 18 = .ok (.if_icmp .ne 10, 3) := by decide +kernel
theorem dX12_count_21 : decode cX12_count 21 = .ok (.aload_n 0, 1) := by decide +kernel
theorem dX12_count_22 : decode cX12_count 22 = .ok (.getfield 148, 3) := by decide +kernel
theorem dX12_count_25 : decode cX12_count 25 = .ok (.goto 70, 3) := by decide +kernel
theorem dX12_count_28 : decode cX12_count 28 = .ok (.iload_n 1, 1) := by decide +kernel
theorem dX12_count_29 : decode cX12_count 29 = .ok (.iconst 2, 1) := by decide +kernel
theorem dX12_count_30 : decode cX12_count 30 = .ok (.if_icmp .ne 18, 3) := by decide +kernel
theorem dX12_count_33 : decode cX12_count 33 = .ok (.aload_n 0, 1) := by decide +kernel
theorem dX12_count_34 : decode cX12_count 34 = .ok (.getfield 144, 3) := by decide +kernel
theorem dX12_count_37 : decode cX12_count 37 = .ok (.ifCond .eq 7, 3) := by decide +kernel
theorem dX12_count_40 : decode cX12_count 40 = .ok (.iconst 1, 1) := by decide +kernel
theorem dX12_count_41 : decode cX12_count 41 = .ok (.goto 54, 3) := by decide +kernel
theorem dX12_count_44 : decode cX12_count 44 = .ok (.iconst 0, 1) := by decide +kernel
theorem dX12_count_45 : decode cX12_count 45 = .ok (.goto 50, 3) := by decide +kernel
theorem dX12_count_48 : decode cX12_count 48 = .ok (.iload_n 1, 1) := by decide +kernel
theorem dX12_count_49 : decode cX12_count 49 = .ok (.iconst 3, 1) := by decide +kernel
theorem dX12_count_50 : decode cX12_count 50 = .ok (.if_icmp .ne 21, 3) := by decide +kernel
theorem dX12_count_53 : decode cX12_count 53 = .ok (.aload_n 0, 1) := by decide +kernel
theorem dX12_count_54 : decode cX12_count 54 = .ok (.getfield 268, 3) := by decide +kernel
theorem dX12_count_57 : decode cX12_count 57 = .ok (.ifCond .eq 10, 3) := by decide +kernel
theorem dX12_count_60 : decode cX12_count 60 = .ok (.aload_n 0, 1) := by decide +kernel
theorem dX12_count_61 : decode cX12_count 61 = .ok (.getfield 222, 3) := by decide +kernel
theorem dX12_count_64 : decode cX12_count 64 = .ok (.goto 31, 3) := by decide +kernel
theorem dX12_count_67 : decode cX12_count 67 = .ok (.iconst 0, 1) := by decide +kernel
theorem dX12_count_68 : decode cX12_count 68 = .ok (.goto 27, 3) := by decide +kernel
theorem dX12_count_71 : decode cX12_count 71 = .ok (.iload_n 1, 1) := by decide +kernel
theorem dX12_count_72 : decode cX12_count 72 = .ok (.iconst 4, 1) := by decide +kernel
theorem dX12_count_73 : decode cX12_count 73 = .ok (.if_icmp .ne 21, 3) := by decide +kernel
theorem dX12_count_76 : decode cX12_count 76 = .ok (.aload_n 0, 1) := by decide +kernel
theorem dX12_count_77 : decode cX12_count 77 = .ok (.getfield 268, 3) := by decide +kernel
theorem dX12_count_80 : decode cX12_count 80 = .ok (.ifCond .eq 10, 3) := by decide +kernel
theorem dX12_count_83 : decode cX12_count 83 = .ok (.aload_n 0, 1) := by decide +kernel
theorem dX12_count_84 : decode cX12_count 84 = .ok (.getfield 225, 3) := by decide +kernel
theorem dX12_count_87 : decode cX12_count 87 = .ok (.goto 8, 3) := by decide +kernel
theorem dX12_count_90 : decode cX12_count 90 = .ok (.iconst 0, 1) := by decide +kernel
theorem dX12_count_91 : decode cX12_count 91 = .ok (.goto 4, 3) := by decide +kernel
theorem dX12_count_94 : decode cX12_count 94 = .ok (.iconst (-1), 1) := by decide +kernel
theorem dX12_count_95 : decode cX12_count 95 = .ok (.ireturn, 1) := by decide +kernel
theorem dJ9_max_7cf53_0 : decode cJ9_max_7cf53 0 = .ok (.iload_n 0, 1) := by decide +kernel
theorem dJ9_max_7cf53_1 : decode cJ9_max_7cf53 1 = .ok (.iload_n 1, 1) := by decide +kernel
theorem dJ9_max_7cf53_2 : decode cJ9_max_7cf53 2 = .ok (.if_icmp .lt 7, 3) := by decide +kernel
theorem dJ9_max_7cf53_5 : decode cJ9_max_7cf53 5 = .ok (.iload_n 0, 1) := by decide +kernel
theorem dJ9_max_7cf53_6 : decode cJ9_max_7cf53 6 = .ok (.goto 4, 3) := by decide +kernel
theorem dJ9_max_7cf53_9 : decode cJ9_max_7cf53 9 = .ok (.iload_n 1, 1) := by decide +kernel
theorem dJ9_max_7cf53_10 : decode cJ9_max_7cf53 10 = .ok (.ireturn, 1) := by decide +kernel
theorem dJ9_min_7cf53_0 : decode cJ9_min_7cf53 0 = .ok (.iload_n 0, 1) := by decide +kernel
theorem dJ9_min_7cf53_1 : decode cJ9_min_7cf53 1 = .ok (.iload_n 1, 1) := by decide +kernel
theorem dJ9_min_7cf53_2 : decode cJ9_min_7cf53 2 = .ok (.if_icmp .gt 7, 3) := by decide +kernel
theorem dJ9_min_7cf53_5 : decode cJ9_min_7cf53 5 = .ok (.iload_n 0, 1) := by decide +kernel
theorem dJ9_min_7cf53_6 : decode cJ9_min_7cf53 6 = .ok (.goto 4, 3) := by decide +kernel
theorem dJ9_min_7cf53_9 : decode cJ9_min_7cf53 9 = .ok (.iload_n 1, 1) := by decide +kernel
theorem dJ9_min_7cf53_10 : decode cJ9_min_7cf53 10 = .ok (.ireturn, 1) := by decide +kernel
theorem dJ7_fill_53178_0 : decode cJ7_fill_53178 0 = .ok (.iconst 0, 1) := by decide +kernel
theorem dJ7_fill_53178_1 : decode cJ7_fill_53178 1 = .ok (.istore_n 2, 1) := by decide +kernel
theorem dJ7_fill_53178_2 : decode cJ7_fill_53178 2 = .ok (.aload_n 0, 1) := by decide +kernel
theorem dJ7_fill_53178_3 : decode cJ7_fill_53178 3 = .ok (.arraylength, 1) := by decide +kernel
theorem dJ7_fill_53178_4 : decode cJ7_fill_53178 4 = .ok (.istore_n 3, 1) := by decide +kernel
theorem dJ7_fill_53178_5 : decode cJ7_fill_53178 5 = .ok (.iload_n 2, 1) := by decide +kernel
theorem dJ7_fill_53178_6 : decode cJ7_fill_53178 6 = .ok (.iload_n 3, 1) := by decide +kernel
theorem dJ7_fill_53178_7 : decode cJ7_fill_53178 7 = .ok (.if_icmp .ge 13, 3) := by decide +kernel
theorem dJ7_fill_53178_10 : decode cJ7_fill_53178 10 = .ok (.aload_n 0, 1) := by decide +kernel
theorem dJ7_fill_53178_11 : decode cJ7_fill_53178 11 = .ok (.iload_n 2, 1) := by decide +kernel
theorem dJ7_fill_53178_12 : decode cJ7_fill_53178 12 = .ok (.iload_n 1, 1) := by decide +kernel
theorem dJ7_fill_53178_13 : decode cJ7_fill_53178 13 = .ok (.iastore, 1) := by decide +kernel
theorem dJ7_fill_53178_14 : decode cJ7_fill_53178 14 = .ok (.iinc 2 1, 3) := by decide +kernel
theorem dJ7_fill_53178_17 : decode cJ7_fill_53178 17 = .ok (.goto (-12), 3) := by decide +kernel
theorem dJ7_fill_53178_20 : decode cJ7_fill_53178 20 = .ok (.return_, 1) := by decide +kernel
theorem dJ7_copyOf_59c91_0 : decode cJ7_copyOf_59c91 0 = .ok (.iload_n 1, 1) := by decide +kernel
theorem dJ7_copyOf_59c91_1 : decode cJ7_copyOf_59c91 1 = .ok (.aload_n 0, 1) := by decide +kernel
theorem dJ7_copyOf_59c91_2 : decode cJ7_copyOf_59c91 2 = .ok (.arraylength, 1) := by decide +kernel
theorem dJ7_copyOf_59c91_3 : decode cJ7_copyOf_59c91 3 = .ok (.if_icmp .ne 11, 3) := by decide +kernel
theorem dJ7_copyOf_59c91_6 : decode cJ7_copyOf_59c91 6 = .ok (.aload_n 0, 1) := by decide +kernel
theorem dJ7_copyOf_59c91_7 : decode cJ7_copyOf_59c91 7 = .ok (.invokevirtual 316, 3) := by decide +kernel
theorem dJ7_copyOf_59c91_10 : decode cJ7_copyOf_59c91 10 = .ok (.checkcast 317, 3) := by decide +kernel
theorem dJ7_copyOf_59c91_13 : decode cJ7_copyOf_59c91 13 = .ok (.areturn, 1) := by decide +kernel
theorem dJ7_copyOf_59c91_14 : decode cJ7_copyOf_59c91 14 = .ok (.iload_n 1, 1) := by decide +kernel
theorem dJ7_copyOf_59c91_15 : decode cJ7_copyOf_59c91 15 = .ok (.newarray .int, 2) := by decide +kernel
theorem dJ7_copyOf_59c91_17 : decode cJ7_copyOf_59c91 17 = .ok (.astore_n 2, 1) := by decide +kernel
theorem dJ7_copyOf_59c91_18 : decode cJ7_copyOf_59c91 18 = .ok (.aload_n 0, 1) := by decide +kernel
theorem dJ7_copyOf_59c91_19 : decode cJ7_copyOf_59c91 19 = .ok (.iconst 0, 1) := by decide +kernel
theorem dJ7_copyOf_59c91_20 : decode cJ7_copyOf_59c91 20 = .ok (.aload_n 2, 1) := by decide +kernel
theorem dJ7_copyOf_59c91_21 : decode cJ7_copyOf_59c91 21 = .ok (.iconst 0, 1) := by decide +kernel
theorem dJ7_copyOf_59c91_22 : decode cJ7_copyOf_59c91 22 = .ok (.aload_n 0, 1) := by decide +kernel
theorem dJ7_copyOf_59c91_23 : decode cJ7_copyOf_59c91 23 = .ok (.arraylength, 1) := by decide +kernel
theorem dJ7_copyOf_59c91_24 : decode cJ7_copyOf_59c91 24 = .ok (.iload_n 1, 1) := by decide +kernel
theorem dJ7_copyOf_59c91_25 : decode cJ7_copyOf_59c91 25 = .ok (.invokestatic 304, 3) := by decide +kernel
theorem dJ7_copyOf_59c91_28 : decode cJ7_copyOf_59c91 28 = .ok (.invokestatic 150, 3) := by decide +kernel
theorem dJ7_copyOf_59c91_31 : decode cJ7_copyOf_59c91 31 = .ok (.aload_n 2, 1) := by decide +kernel
theorem dJ7_copyOf_59c91_32 : decode cJ7_copyOf_59c91 32 = .ok (.areturn, 1) := by decide +kernel
theorem dL_op_0 : decode cL_op 0 = .ok (.aload 4, 2) := by decide +kernel
theorem dL_op_2 : decode cL_op 2 = .ok (.iconst 0, 1) := by decide +kernel
theorem dL_op_3 : decode cL_op 3 = .ok (.aload_n 0, 1) := by decide +kernel
theorem dL_op_4 : decode cL_op 4 = .ok (.iload_n 1, 1) := by decide +kernel
theorem dL_op_5 : decode cL_op 5 = .ok (.iload_n 2, 1) := by decide +kernel
theorem dL_op_6 : decode cL_op 6 = .ok (.iload_n 3, 1) := by decide +kernel
theorem dL_op_7 : decode cL_op 7 = .ok (.invokevirtual 7, 3) := by decide +kernel
theorem dL_op_10 : decode cL_op 10 = .ok (.i2l, 1) := by decide +kernel
theorem dL_op_11 : decode cL_op 11 = .ok (.lastore, 1) := by decide +kernel
theorem dL_op_12 : decode cL_op 12 = .ok (.goto 7, 3) := by decide +kernel
theorem dL_op_15 : decode cL_op 15 = .ok (.astore 5, 2) := by decide +kernel
theorem dL_op_17 : decode cL_op 17 = .ok (.iconst 1, 1) := by decide +kernel
theorem dL_op_18 : decode cL_op 18 = .ok (.ireturn, 1) := by decide +kernel
theorem dL_op_19 : decode cL_op 19 = .ok (.iconst 0, 1) := by decide +kernel
theorem dL_op_20 : decode cL_op 20 = .ok (.ireturn, 1) := by decide +kernel
theorem dL_peek_0 : decode cL_peek 0 = .ok (.aload_n 3, 1) := by decide +kernel
theorem dL_peek_1 : decode cL_peek 1 = .ok (.iconst 0, 1) := by decide +kernel
theorem dL_peek_2 : decode cL_peek 2 = .ok (.aload_n 0, 1) := by decide +kernel
theorem dL_peek_3 : decode cL_peek 3 = .ok (.iload_n 1, 1) := by decide +kernel
theorem dL_peek_4 : decode cL_peek 4 = .ok (.iload_n 2, 1) := by decide +kernel
theorem dL_peek_5 : decode cL_peek 5 = .ok (.invokevirtual 15, 3) := by decide +kernel
theorem dL_peek_8 : decode cL_peek 8 = .ok (.i2l, 1) := by decide +kernel
theorem dL_peek_9 : decode cL_peek 9 = .ok (.lastore, 1) := by decide +kernel
theorem dL_peek_10 : decode cL_peek 10 = .ok (.goto 7, 3) := by decide +kernel
theorem dL_peek_13 : decode cL_peek 13 = .ok (.astore 4, 2) := by decide +kernel
theorem dL_peek_15 : decode cL_peek 15 = .ok (.iconst 1, 1) := by decide +kernel
theorem dL_peek_16 : decode cL_peek 16 = .ok (.ireturn, 1) := by decide +kernel
theorem dL_peek_17 : decode cL_peek 17 = .ok (.iconst 0, 1) := by decide +kernel
theorem dL_peek_18 : decode cL_peek 18 = .ok (.ireturn, 1) := by decide +kernel
theorem dL_law_0 : decode cL_law 0 = .ok (.new 8, 3) := by decide +kernel
theorem dL_law_3 : decode cL_law 3 = .ok (.dup, 1) := by decide +kernel
theorem dL_law_4 : decode cL_law 4 = .ok (.invokespecial 19, 3) := by decide +kernel
theorem dL_law_7 : decode cL_law 7 = .ok (.astore_n 1, 1) := by decide +kernel
theorem dL_law_8 : decode cL_law 8 = .ok (.new 20, 3) := by decide +kernel
theorem dL_law_11 : decode cL_law 11 = .ok (.dup, 1) := by decide +kernel
theorem dL_law_12 : decode cL_law 12 = .ok (.invokespecial 22, 3) := by decide +kernel
theorem dL_law_15 : decode cL_law 15 = .ok (.astore_n 2, 1) := by decide +kernel
theorem dL_law_16 : decode cL_law 16 = .ok (.iconst 1, 1) := by decide +kernel
theorem dL_law_17 : decode cL_law 17 = .ok (.newarray .long, 2) := by decide +kernel
theorem dL_law_19 : decode cL_law 19 = .ok (.astore_n 3, 1) := by decide +kernel
theorem dL_law_20 : decode cL_law 20 = .ok (.iconst 0, 1) := by decide +kernel
theorem dL_law_21 : decode cL_law 21 = .ok (.istore 4, 2) := by decide +kernel
theorem dL_law_23 : decode cL_law 23 = .ok (.iload 4, 2) := by decide +kernel
theorem dL_law_25 : decode cL_law 25 = .ok (.aload_n 0, 1) := by decide +kernel
theorem dL_law_26 : decode cL_law 26 = .ok (.arraylength, 1) := by decide +kernel
theorem dL_law_27 : decode cL_law 27 = .ok (.iconst 4, 1) := by decide +kernel
theorem dL_law_28 : decode cL_law 28 = .ok (.isub, 1) := by decide +kernel
theorem dL_law_29 : decode cL_law 29 = .ok (.if_icmp .gt 695, 3) := by decide +kernel
theorem dL_law_32 : decode cL_law 32 = .ok (.aload_n 0, 1) := by decide +kernel
theorem dL_law_33 : decode cL_law 33 = .ok (.iload 4, 2) := by decide +kernel
theorem dL_law_35 : decode cL_law 35 = .ok (.iaload, 1) := by decide +kernel
theorem dL_law_36 : decode cL_law 36 = .ok (.bipush 31, 2) := by decide +kernel
theorem dL_law_38 : decode cL_law 38 = .ok (.iand, 1) := by decide +kernel
theorem dL_law_39 : decode cL_law 39 = .ok (.tableswitch 679 0 17 #[85, 122, 159, 172, 209, 220, 245, 325, 350, 399, 424, 449, 486, 499, 524, 549, 586, 654], 85) := by decide +kernel
theorem dL_law_124 : decode cL_law 124 = .ok (.aload_n 1, 1) := by decide +kernel
theorem dL_law_125 : decode cL_law 125 = .ok (.aload_n 0, 1) := by decide +kernel
theorem dL_law_126 : decode cL_law 126 = .ok (.iload 4, 2) := by decide +kernel
theorem dL_law_128 : decode cL_law 128 = .ok (.iconst 1, 1) := by decide +kernel
theorem dL_law_129 : decode cL_law 129 = .ok (.iadd, 1) := by decide +kernel
theorem dL_law_130 : decode cL_law 130 = .ok (.iaload, 1) := by decide +kernel
theorem dL_law_131 : decode cL_law 131 = .ok (.aload_n 0, 1) := by decide +kernel
theorem dL_law_132 : decode cL_law 132 = .ok (.iload 4, 2) := by decide +kernel
theorem dL_law_134 : decode cL_law 134 = .ok (.iconst 2, 1) := by decide +kernel
theorem dL_law_135 : decode cL_law 135 = .ok (.iadd, 1) := by decide +kernel
theorem dL_law_136 : decode cL_law 136 = .ok (.iaload, 1) := by decide +kernel
theorem dL_law_137 : decode cL_law 137 = .ok (.invokevirtual 23, 3) := by decide +kernel
theorem dL_law_140 : decode cL_law 140 = .ok (.aload_n 2, 1) := by decide +kernel
theorem dL_law_141 : decode cL_law 141 = .ok (.aload_n 0, 1) := by decide +kernel
theorem dL_law_142 : decode cL_law 142 = .ok (.iload 4, 2) := by decide +kernel
theorem dL_law_144 : decode cL_law 144 = .ok (.iconst 1, 1) := by decide +kernel
theorem dL_law_145 : decode cL_law 145 = .ok (.iadd, 1) := by decide +kernel
theorem dL_law_146 : decode cL_law 146 = .ok (.iaload, 1) := by decide +kernel
theorem dL_law_147 : decode cL_law 147 = .ok (.aload_n 0, 1) := by decide +kernel
theorem dL_law_148 : decode cL_law 148 = .ok (.iload 4, 2) := by decide +kernel
theorem dL_law_150 : decode cL_law 150 = .ok (.iconst 2, 1) := by decide +kernel
theorem dL_law_151 : decode cL_law 151 = .ok (.iadd, 1) := by decide +kernel
theorem dL_law_152 : decode cL_law 152 = .ok (.iaload, 1) := by decide +kernel
theorem dL_law_153 : decode cL_law 153 = .ok (.invokevirtual 26, 3) := by decide +kernel
theorem dL_law_156 : decode cL_law 156 = .ok (.if_icmp .eq 562, 3) := by decide +kernel
theorem dL_law_159 : decode cL_law 159 = .ok (.iconst 0, 1) := by decide +kernel
theorem dL_law_160 : decode cL_law 160 = .ok (.ireturn, 1) := by decide +kernel
theorem dL_law_161 : decode cL_law 161 = .ok (.aload_n 1, 1) := by decide +kernel
theorem dL_law_162 : decode cL_law 162 = .ok (.aload_n 0, 1) := by decide +kernel
theorem dL_law_163 : decode cL_law 163 = .ok (.iload 4, 2) := by decide +kernel
theorem dL_law_165 : decode cL_law 165 = .ok (.iconst 1, 1) := by decide +kernel
theorem dL_law_166 : decode cL_law 166 = .ok (.iadd, 1) := by decide +kernel
theorem dL_law_167 : decode cL_law 167 = .ok (.iaload, 1) := by decide +kernel
theorem dL_law_168 : decode cL_law 168 = .ok (.aload_n 0, 1) := by decide +kernel
theorem dL_law_169 : decode cL_law 169 = .ok (.iload 4, 2) := by decide +kernel
theorem dL_law_171 : decode cL_law 171 = .ok (.iconst 2, 1) := by decide +kernel
theorem dL_law_172 : decode cL_law 172 = .ok (.iadd, 1) := by decide +kernel
theorem dL_law_173 : decode cL_law 173 = .ok (.iaload, 1) := by decide +kernel
theorem dL_law_174 : decode cL_law 174 = .ok (.invokevirtual 27, 3) := by decide +kernel
theorem dL_law_177 : decode cL_law 177 = .ok (.aload_n 2, 1) := by decide +kernel
theorem dL_law_178 : decode cL_law 178 = .ok (.aload_n 0, 1) := by decide +kernel
theorem dL_law_179 : decode cL_law 179 = .ok (.iload 4, 2) := by decide +kernel
theorem dL_law_181 : decode cL_law 181 = .ok (.iconst 1, 1) := by decide +kernel
theorem dL_law_182 : decode cL_law 182 = .ok (.iadd, 1) := by decide +kernel
theorem dL_law_183 : decode cL_law 183 = .ok (.iaload, 1) := by decide +kernel
theorem dL_law_184 : decode cL_law 184 = .ok (.aload_n 0, 1) := by decide +kernel
theorem dL_law_185 : decode cL_law 185 = .ok (.iload 4, 2) := by decide +kernel
theorem dL_law_187 : decode cL_law 187 = .ok (.iconst 2, 1) := by decide +kernel
theorem dL_law_188 : decode cL_law 188 = .ok (.iadd, 1) := by decide +kernel
theorem dL_law_189 : decode cL_law 189 = .ok (.iaload, 1) := by decide +kernel
theorem dL_law_190 : decode cL_law 190 = .ok (.invokevirtual 30, 3) := by decide +kernel
theorem dL_law_193 : decode cL_law 193 = .ok (.if_icmp .eq 525, 3) := by decide +kernel
theorem dL_law_196 : decode cL_law 196 = .ok (.iconst 0, 1) := by decide +kernel
theorem dL_law_197 : decode cL_law 197 = .ok (.ireturn, 1) := by decide +kernel
theorem dL_law_198 : decode cL_law 198 = .ok (.aload_n 1, 1) := by decide +kernel
theorem dL_law_199 : decode cL_law 199 = .ok (.invokevirtual 31, 3) := by decide +kernel
theorem dL_law_202 : decode cL_law 202 = .ok (.aload_n 2, 1) := by decide +kernel
theorem dL_law_203 : decode cL_law 203 = .ok (.invokevirtual 35, 3) := by decide +kernel
theorem dL_law_206 : decode cL_law 206 = .ok (.if_icmp .eq 512, 3) := by decide +kernel
theorem dL_law_209 : decode cL_law 209 = .ok (.iconst 0, 1) := by decide +kernel
theorem dL_law_210 : decode cL_law 210 = .ok (.ireturn, 1) := by decide +kernel
theorem dL_law_211 : decode cL_law 211 = .ok (.aload_n 1, 1) := by decide +kernel
theorem dL_law_212 : decode cL_law 212 = .ok (.aload_n 0, 1) := by decide +kernel
theorem dL_law_213 : decode cL_law 213 = .ok (.iload 4, 2) := by decide +kernel
theorem dL_law_215 : decode cL_law 215 = .ok (.iconst 1, 1) := by decide +kernel
theorem dL_law_216 : decode cL_law 216 = .ok (.iadd, 1) := by decide +kernel
theorem dL_law_217 : decode cL_law 217 = .ok (.iaload, 1) := by decide +kernel
theorem dL_law_218 : decode cL_law 218 = .ok (.aload_n 0, 1) := by decide +kernel
theorem dL_law_219 : decode cL_law 219 = .ok (.iload 4, 2) := by decide +kernel
theorem dL_law_221 : decode cL_law 221 = .ok (.iconst 2, 1) := by decide +kernel
theorem dL_law_222 : decode cL_law 222 = .ok (.iadd, 1) := by decide +kernel
theorem dL_law_223 : decode cL_law 223 = .ok (.iaload, 1) := by decide +kernel
theorem dL_law_224 : decode cL_law 224 = .ok (.invokevirtual 36, 3) := by decide +kernel
theorem dL_law_227 : decode cL_law 227 = .ok (.aload_n 2, 1) := by decide +kernel
theorem dL_law_228 : decode cL_law 228 = .ok (.aload_n 0, 1) := by decide +kernel
theorem dL_law_229 : decode cL_law 229 = .ok (.iload 4, 2) := by decide +kernel
theorem dL_law_231 : decode cL_law 231 = .ok (.iconst 1, 1) := by decide +kernel
theorem dL_law_232 : decode cL_law 232 = .ok (.iadd, 1) := by decide +kernel
theorem dL_law_233 : decode cL_law 233 = .ok (.iaload, 1) := by decide +kernel
theorem dL_law_234 : decode cL_law 234 = .ok (.aload_n 0, 1) := by decide +kernel
theorem dL_law_235 : decode cL_law 235 = .ok (.iload 4, 2) := by decide +kernel
theorem dL_law_237 : decode cL_law 237 = .ok (.iconst 2, 1) := by decide +kernel
theorem dL_law_238 : decode cL_law 238 = .ok (.iadd, 1) := by decide +kernel
theorem dL_law_239 : decode cL_law 239 = .ok (.iaload, 1) := by decide +kernel
theorem dL_law_240 : decode cL_law 240 = .ok (.invokevirtual 39, 3) := by decide +kernel
theorem dL_law_243 : decode cL_law 243 = .ok (.if_icmp .eq 475, 3) := by decide +kernel
theorem dL_law_246 : decode cL_law 246 = .ok (.iconst 0, 1) := by decide +kernel
theorem dL_law_247 : decode cL_law 247 = .ok (.ireturn, 1) := by decide +kernel
theorem dL_law_248 : decode cL_law 248 = .ok (.aload_n 1, 1) := by decide +kernel
theorem dL_law_249 : decode cL_law 249 = .ok (.invokevirtual 40, 3) := by decide +kernel
theorem dL_law_252 : decode cL_law 252 = .ok (.aload_n 2, 1) := by decide +kernel
theorem dL_law_253 : decode cL_law 253 = .ok (.invokevirtual 43, 3) := by decide +kernel
theorem dL_law_256 : decode cL_law 256 = .ok (.goto 462, 3) := by decide +kernel
theorem dL_law_259 : decode cL_law 259 = .ok (.aload_n 1, 1) := by decide +kernel
theorem dL_law_260 : decode cL_law 260 = .ok (.aload_n 0, 1) := by decide +kernel
theorem dL_law_261 : decode cL_law 261 = .ok (.iload 4, 2) := by decide +kernel
theorem dL_law_263 : decode cL_law 263 = .ok (.iconst 1, 1) := by decide +kernel
theorem dL_law_264 : decode cL_law 264 = .ok (.iadd, 1) := by decide +kernel
theorem dL_law_265 : decode cL_law 265 = .ok (.iaload, 1) := by decide +kernel
theorem dL_law_266 : decode cL_law 266 = .ok (.invokevirtual 44, 3) := by decide +kernel
theorem dL_law_269 : decode cL_law 269 = .ok (.aload_n 2, 1) := by decide +kernel
theorem dL_law_270 : decode cL_law 270 = .ok (.aload_n 0, 1) := by decide +kernel
theorem dL_law_271 : decode cL_law 271 = .ok (.iload 4, 2) := by decide +kernel
theorem dL_law_273 : decode cL_law 273 = .ok (.iconst 1, 1) := by decide +kernel
theorem dL_law_274 : decode cL_law 274 = .ok (.iadd, 1) := by decide +kernel
theorem dL_law_275 : decode cL_law 275 = .ok (.iaload, 1) := by decide +kernel
theorem dL_law_276 : decode cL_law 276 = .ok (.invokevirtual 48, 3) := by decide +kernel
theorem dL_law_279 : decode cL_law 279 = .ok (.if_icmp .eq 439, 3) := by decide +kernel
theorem dL_law_282 : decode cL_law 282 = .ok (.iconst 0, 1) := by decide +kernel
theorem dL_law_283 : decode cL_law 283 = .ok (.ireturn, 1) := by decide +kernel
theorem dL_law_284 : decode cL_law 284 = .ok (.aload_n 1, 1) := by decide +kernel
theorem dL_law_285 : decode cL_law 285 = .ok (.aload_n 0, 1) := by decide +kernel
theorem dL_law_286 : decode cL_law 286 = .ok (.iload 4, 2) := by decide +kernel
theorem dL_law_288 : decode cL_law 288 = .ok (.iconst 1, 1) := by decide +kernel
theorem dL_law_289 : decode cL_law 289 = .ok (.iadd, 1) := by decide +kernel
theorem dL_law_290 : decode cL_law 290 = .ok (.iaload, 1) := by decide +kernel
theorem dL_law_291 : decode cL_law 291 = .ok (.aload_n 0, 1) := by decide +kernel
theorem dL_law_292 : decode cL_law 292 = .ok (.iload 4, 2) := by decide +kernel
theorem dL_law_294 : decode cL_law 294 = .ok (.iconst 2, 1) := by decide +kernel
theorem dL_law_295 : decode cL_law 295 = .ok (.iadd, 1) := by decide +kernel
theorem dL_law_296 : decode cL_law 296 = .ok (.iaload, 1) := by decide +kernel
theorem dL_law_297 : decode cL_law 297 = .ok (.aload_n 0, 1) := by decide +kernel
theorem dL_law_298 : decode cL_law 298 = .ok (.iload 4, 2) := by decide +kernel
theorem dL_law_300 : decode cL_law 300 = .ok (.iconst 3, 1) := by decide +kernel
theorem dL_law_301 : decode cL_law 301 = .ok (.iadd, 1) := by decide +kernel
theorem dL_law_302 : decode cL_law 302 = .ok (.iaload, 1) := by decide +kernel
theorem dL_law_303 : decode cL_law 303 = .ok (.aload_n 3, 1) := by decide +kernel
theorem dL_law_304 : decode cL_law 304 = .ok (.invokestatic 49, 3) := by decide +kernel
theorem dL_law_307 : decode cL_law 307 = .ok (.istore 5, 2) := by decide +kernel
theorem dL_law_309 : decode cL_law 309 = .ok (.aload_n 2, 1) := by decide +kernel
theorem dL_law_310 : decode cL_law 310 = .ok (.aload_n 0, 1) := by decide +kernel
theorem dL_law_311 : decode cL_law 311 = .ok (.iload 4, 2) := by decide +kernel
theorem dL_law_313 : decode cL_law 313 = .ok (.iconst 1, 1) := by decide +kernel
theorem dL_law_314 : decode cL_law 314 = .ok (.iadd, 1) := by decide +kernel
theorem dL_law_315 : decode cL_law 315 = .ok (.iaload, 1) := by decide +kernel
theorem dL_law_316 : decode cL_law 316 = .ok (.aload_n 0, 1) := by decide +kernel
theorem dL_law_317 : decode cL_law 317 = .ok (.iload 4, 2) := by decide +kernel
theorem dL_law_319 : decode cL_law 319 = .ok (.iconst 2, 1) := by decide +kernel
theorem dL_law_320 : decode cL_law 320 = .ok (.iadd, 1) := by decide +kernel
theorem dL_law_321 : decode cL_law 321 = .ok (.iaload, 1) := by decide +kernel
theorem dL_law_322 : decode cL_law 322 = .ok (.aload_n 0, 1) := by decide +kernel
theorem dL_law_323 : decode cL_law 323 = .ok (.iload 4, 2) := by decide +kernel
theorem dL_law_325 : decode cL_law 325 = .ok (.iconst 3, 1) := by decide +kernel
theorem dL_law_326 : decode cL_law 326 = .ok (.iadd, 1) := by decide +kernel
theorem dL_law_327 : decode cL_law 327 = .ok (.iaload, 1) := by decide +kernel
theorem dL_law_328 : decode cL_law 328 = .ok (.invokevirtual 54, 3) := by decide +kernel
theorem dL_law_331 : decode cL_law 331 = .ok (.istore 6, 2) := by decide +kernel
theorem dL_law_333 : decode cL_law 333 = .ok (.aload_n 2, 1) := by decide +kernel
theorem dL_law_334 : decode cL_law 334 = .ok (.invokevirtual 55, 3) := by decide +kernel
theorem dL_law_337 : decode cL_law 337 = .ok (.iload 5, 2) := by decide +kernel
theorem dL_law_339 : decode cL_law 339 = .ok (.if_icmp .eq 5, 3) := by decide +kernel
theorem dL_law_342 : decode cL_law 342 = .ok (.iconst 0, 1) := by decide +kernel
theorem dL_law_343 : decode cL_law 343 = .ok (.ireturn, 1) := by decide +kernel
theorem dL_law_344 : decode cL_law 344 = .ok (.iload 5, 2) := by decide +kernel
theorem dL_law_346 : decode cL_law 346 = .ok (.ifCond .ne 15, 3) := by decide +kernel
theorem dL_law_349 : decode cL_law 349 = .ok (.aload_n 3, 1) := by decide +kernel
theorem dL_law_350 : decode cL_law 350 = .ok (.iconst 0, 1) := by decide +kernel
theorem dL_law_351 : decode cL_law 351 = .ok (.laload, 1) := by decide +kernel
theorem dL_law_352 : decode cL_law 352 = .ok (.iload 6, 2) := by decide +kernel
theorem dL_law_354 : decode cL_law 354 = .ok (.i2l, 1) := by decide +kernel
theorem dL_law_355 : decode cL_law 355 = .ok (.lcmp, 1) := by decide +kernel
theorem dL_law_356 : decode cL_law 356 = .ok (.ifCond .eq 5, 3) := by decide +kernel
theorem dL_law_359 : decode cL_law 359 = .ok (.iconst 0, 1) := by decide +kernel
theorem dL_law_360 : decode cL_law 360 = .ok (.ireturn, 1) := by decide +kernel
theorem dL_law_361 : decode cL_law 361 = .ok (.goto 357, 3) := by decide +kernel
theorem dL_law_364 : decode cL_law 364 = .ok (.aload_n 1, 1) := by decide +kernel
theorem dL_law_365 : decode cL_law 365 = .ok (.aload_n 0, 1) := by decide +kernel
theorem dL_law_366 : decode cL_law 366 = .ok (.iload 4, 2) := by decide +kernel
theorem dL_law_368 : decode cL_law 368 = .ok (.iconst 1, 1) := by decide +kernel
theorem dL_law_369 : decode cL_law 369 = .ok (.iadd, 1) := by decide +kernel
theorem dL_law_370 : decode cL_law 370 = .ok (.iaload, 1) := by decide +kernel
theorem dL_law_371 : decode cL_law 371 = .ok (.invokevirtual 58, 3) := by decide +kernel
theorem dL_law_374 : decode cL_law 374 = .ok (.aload_n 2, 1) := by decide +kernel
theorem dL_law_375 : decode cL_law 375 = .ok (.aload_n 0, 1) := by decide +kernel
theorem dL_law_376 : decode cL_law 376 = .ok (.iload 4, 2) := by decide +kernel
theorem dL_law_378 : decode cL_law 378 = .ok (.iconst 1, 1) := by decide +kernel
theorem dL_law_379 : decode cL_law 379 = .ok (.iadd, 1) := by decide +kernel
theorem dL_law_380 : decode cL_law 380 = .ok (.iaload, 1) := by decide +kernel
theorem dL_law_381 : decode cL_law 381 = .ok (.invokevirtual 61, 3) := by decide +kernel
theorem dL_law_384 : decode cL_law 384 = .ok (.if_icmp .eq 334, 3) := by decide +kernel
theorem dL_law_387 : decode cL_law 387 = .ok (.iconst 0, 1) := by decide +kernel
theorem dL_law_388 : decode cL_law 388 = .ok (.ireturn, 1) := by decide +kernel
theorem dL_law_389 : decode cL_law 389 = .ok (.aload_n 1, 1) := by decide +kernel
theorem dL_law_390 : decode cL_law 390 = .ok (.aload_n 0, 1) := by decide +kernel
theorem dL_law_391 : decode cL_law 391 = .ok (.iload 4, 2) := by decide +kernel
theorem dL_law_393 : decode cL_law 393 = .ok (.iconst 1, 1) := by decide +kernel
theorem dL_law_394 : decode cL_law 394 = .ok (.iadd, 1) := by decide +kernel
theorem dL_law_395 : decode cL_law 395 = .ok (.iaload, 1) := by decide +kernel
theorem dL_law_396 : decode cL_law 396 = .ok (.aload_n 0, 1) := by decide +kernel
theorem dL_law_397 : decode cL_law 397 = .ok (.iload 4, 2) := by decide +kernel
theorem dL_law_399 : decode cL_law 399 = .ok (.iconst 2, 1) := by decide +kernel
theorem dL_law_400 : decode cL_law 400 = .ok (.iadd, 1) := by decide +kernel
theorem dL_law_401 : decode cL_law 401 = .ok (.iaload, 1) := by decide +kernel
theorem dL_law_402 : decode cL_law 402 = .ok (.aload_n 0, 1) := by decide +kernel
theorem dL_law_403 : decode cL_law 403 = .ok (.iload 4, 2) := by decide +kernel
theorem dL_law_405 : decode cL_law 405 = .ok (.iconst 3, 1) := by decide +kernel
theorem dL_law_406 : decode cL_law 406 = .ok (.iadd, 1) := by decide +kernel
theorem dL_law_407 : decode cL_law 407 = .ok (.iaload, 1) := by decide +kernel
theorem dL_law_408 : decode cL_law 408 = .ok (.invokevirtual 62, 3) := by decide +kernel
theorem dL_law_411 : decode cL_law 411 = .ok (.aload_n 2, 1) := by decide +kernel
theorem dL_law_412 : decode cL_law 412 = .ok (.aload_n 0, 1) := by decide +kernel
theorem dL_law_413 : decode cL_law 413 = .ok (.iload 4, 2) := by decide +kernel
theorem dL_law_415 : decode cL_law 415 = .ok (.iconst 1, 1) := by decide +kernel
theorem dL_law_416 : decode cL_law 416 = .ok (.iadd, 1) := by decide +kernel
theorem dL_law_417 : decode cL_law 417 = .ok (.iaload, 1) := by decide +kernel
theorem dL_law_418 : decode cL_law 418 = .ok (.aload_n 0, 1) := by decide +kernel
theorem dL_law_419 : decode cL_law 419 = .ok (.iload 4, 2) := by decide +kernel
theorem dL_law_421 : decode cL_law 421 = .ok (.iconst 2, 1) := by decide +kernel
theorem dL_law_422 : decode cL_law 422 = .ok (.iadd, 1) := by decide +kernel
theorem dL_law_423 : decode cL_law 423 = .ok (.iaload, 1) := by decide +kernel
theorem dL_law_424 : decode cL_law 424 = .ok (.aload_n 0, 1) := by decide +kernel
theorem dL_law_425 : decode cL_law 425 = .ok (.iload 4, 2) := by decide +kernel
theorem dL_law_427 : decode cL_law 427 = .ok (.iconst 3, 1) := by decide +kernel
theorem dL_law_428 : decode cL_law 428 = .ok (.iadd, 1) := by decide +kernel
theorem dL_law_429 : decode cL_law 429 = .ok (.iaload, 1) := by decide +kernel
theorem dL_law_430 : decode cL_law 430 = .ok (.invokevirtual 65, 3) := by decide +kernel
theorem dL_law_433 : decode cL_law 433 = .ok (.if_icmp .eq 285, 3) := by decide +kernel
theorem dL_law_436 : decode cL_law 436 = .ok (.iconst 0, 1) := by decide +kernel
theorem dL_law_437 : decode cL_law 437 = .ok (.ireturn, 1) := by decide +kernel
theorem dL_law_438 : decode cL_law 438 = .ok (.aload_n 1, 1) := by decide +kernel
theorem dL_law_439 : decode cL_law 439 = .ok (.aload_n 0, 1) := by decide +kernel
theorem dL_law_440 : decode cL_law 440 = .ok (.iload 4, 2) := by decide +kernel
theorem dL_law_442 : decode cL_law 442 = .ok (.iconst 1, 1) := by decide +kernel
theorem dL_law_443 : decode cL_law 443 = .ok (.iadd, 1) := by decide +kernel
theorem dL_law_444 : decode cL_law 444 = .ok (.iaload, 1) := by decide +kernel
theorem dL_law_445 : decode cL_law 445 = .ok (.invokevirtual 66, 3) := by decide +kernel
theorem dL_law_448 : decode cL_law 448 = .ok (.aload_n 2, 1) := by decide +kernel
theorem dL_law_449 : decode cL_law 449 = .ok (.aload_n 0, 1) := by decide +kernel
theorem dL_law_450 : decode cL_law 450 = .ok (.iload 4, 2) := by decide +kernel
theorem dL_law_452 : decode cL_law 452 = .ok (.iconst 1, 1) := by decide +kernel
theorem dL_law_453 : decode cL_law 453 = .ok (.iadd, 1) := by decide +kernel
theorem dL_law_454 : decode cL_law 454 = .ok (.iaload, 1) := by decide +kernel
theorem dL_law_455 : decode cL_law 455 = .ok (.invokevirtual 69, 3) := by decide +kernel
theorem dL_law_458 : decode cL_law 458 = .ok (.if_icmp .eq 260, 3) := by decide +kernel
theorem dL_law_461 : decode cL_law 461 = .ok (.iconst 0, 1) := by decide +kernel
theorem dL_law_462 : decode cL_law 462 = .ok (.ireturn, 1) := by decide +kernel
theorem dL_law_463 : decode cL_law 463 = .ok (.aload_n 1, 1) := by decide +kernel
theorem dL_law_464 : decode cL_law 464 = .ok (.aload_n 0, 1) := by decide +kernel
theorem dL_law_465 : decode cL_law 465 = .ok (.iload 4, 2) := by decide +kernel
theorem dL_law_467 : decode cL_law 467 = .ok (.iconst 1, 1) := by decide +kernel
theorem dL_law_468 : decode cL_law 468 = .ok (.iadd, 1) := by decide +kernel
theorem dL_law_469 : decode cL_law 469 = .ok (.iaload, 1) := by decide +kernel
theorem dL_law_470 : decode cL_law 470 = .ok (.invokevirtual 70, 3) := by decide +kernel
theorem dL_law_473 : decode cL_law 473 = .ok (.aload_n 2, 1) := by decide +kernel
theorem dL_law_474 : decode cL_law 474 = .ok (.aload_n 0, 1) := by decide +kernel
theorem dL_law_475 : decode cL_law 475 = .ok (.iload 4, 2) := by decide +kernel
theorem dL_law_477 : decode cL_law 477 = .ok (.iconst 1, 1) := by decide +kernel
theorem dL_law_478 : decode cL_law 478 = .ok (.iadd, 1) := by decide +kernel
theorem dL_law_479 : decode cL_law 479 = .ok (.iaload, 1) := by decide +kernel
theorem dL_law_480 : decode cL_law 480 = .ok (.invokevirtual 73, 3) := by decide +kernel
theorem dL_law_483 : decode cL_law 483 = .ok (.if_icmp .eq 235, 3) := by decide +kernel
theorem dL_law_486 : decode cL_law 486 = .ok (.iconst 0, 1) := by decide +kernel
theorem dL_law_487 : decode cL_law 487 = .ok (.ireturn, 1) := by decide +kernel
theorem dL_law_488 : decode cL_law 488 = .ok (.aload_n 1, 1) := by decide +kernel
theorem dL_law_489 : decode cL_law 489 = .ok (.aload_n 0, 1) := by decide +kernel
theorem dL_law_490 : decode cL_law 490 = .ok (.iload 4, 2) := by decide +kernel
theorem dL_law_492 : decode cL_law 492 = .ok (.iconst 1, 1) := by decide +kernel
theorem dL_law_493 : decode cL_law 493 = .ok (.iadd, 1) := by decide +kernel
theorem dL_law_494 : decode cL_law 494 = .ok (.iaload, 1) := by decide +kernel
theorem dL_law_495 : decode cL_law 495 = .ok (.aload_n 0, 1) := by decide +kernel
theorem dL_law_496 : decode cL_law 496 = .ok (.iload 4, 2) := by decide +kernel
theorem dL_law_498 : decode cL_law 498 = .ok (.iconst 2, 1) := by decide +kernel
theorem dL_law_499 : decode cL_law 499 = .ok (.iadd, 1) := by decide +kernel
theorem dL_law_500 : decode cL_law 500 = .ok (.iaload, 1) := by decide +kernel
theorem dL_law_501 : decode cL_law 501 = .ok (.invokevirtual 74, 3) := by decide +kernel
theorem dL_law_504 : decode cL_law 504 = .ok (.aload_n 2, 1) := by decide +kernel
theorem dL_law_505 : decode cL_law 505 = .ok (.aload_n 0, 1) := by decide +kernel
theorem dL_law_506 : decode cL_law 506 = .ok (.iload 4, 2) := by decide +kernel
theorem dL_law_508 : decode cL_law 508 = .ok (.iconst 1, 1) := by decide +kernel
theorem dL_law_509 : decode cL_law 509 = .ok (.iadd, 1) := by decide +kernel
theorem dL_law_510 : decode cL_law 510 = .ok (.iaload, 1) := by decide +kernel
theorem dL_law_511 : decode cL_law 511 = .ok (.aload_n 0, 1) := by decide +kernel
theorem dL_law_512 : decode cL_law 512 = .ok (.iload 4, 2) := by decide +kernel
theorem dL_law_514 : decode cL_law 514 = .ok (.iconst 2, 1) := by decide +kernel
theorem dL_law_515 : decode cL_law 515 = .ok (.iadd, 1) := by decide +kernel
theorem dL_law_516 : decode cL_law 516 = .ok (.iaload, 1) := by decide +kernel
theorem dL_law_517 : decode cL_law 517 = .ok (.invokevirtual 78, 3) := by decide +kernel
theorem dL_law_520 : decode cL_law 520 = .ok (.if_icmp .eq 198, 3) := by decide +kernel
theorem dL_law_523 : decode cL_law 523 = .ok (.iconst 0, 1) := by decide +kernel
theorem dL_law_524 : decode cL_law 524 = .ok (.ireturn, 1) := by decide +kernel
theorem dL_law_525 : decode cL_law 525 = .ok (.aload_n 1, 1) := by decide +kernel
theorem dL_law_526 : decode cL_law 526 = .ok (.invokevirtual 79, 3) := by decide +kernel
theorem dL_law_529 : decode cL_law 529 = .ok (.aload_n 2, 1) := by decide +kernel
theorem dL_law_530 : decode cL_law 530 = .ok (.invokevirtual 83, 3) := by decide +kernel
theorem dL_law_533 : decode cL_law 533 = .ok (.if_icmp .eq 185, 3) := by decide +kernel
theorem dL_law_536 : decode cL_law 536 = .ok (.iconst 0, 1) := by decide +kernel
theorem dL_law_537 : decode cL_law 537 = .ok (.ireturn, 1) := by decide +kernel
theorem dL_law_538 : decode cL_law 538 = .ok (.aload_n 1, 1) := by decide +kernel
theorem dL_law_539 : decode cL_law 539 = .ok (.aload_n 0, 1) := by decide +kernel
theorem dL_law_540 : decode cL_law 540 = .ok (.iload 4, 2) := by decide +kernel
theorem dL_law_542 : decode cL_law 542 = .ok (.iconst 1, 1) := by decide +kernel
theorem dL_law_543 : decode cL_law 543 = .ok (.iadd, 1) := by decide +kernel
theorem dL_law_544 : decode cL_law 544 = .ok (.iaload, 1) := by decide +kernel
theorem dL_law_545 : decode cL_law 545 = .ok (.invokevirtual 84, 3) := by decide +kernel
theorem dL_law_548 : decode cL_law 548 = .ok (.aload_n 2, 1) := by decide +kernel
theorem dL_law_549 : decode cL_law 549 = .ok (.aload_n 0, 1) := by decide +kernel
theorem dL_law_550 : decode cL_law 550 = .ok (.iload 4, 2) := by decide +kernel
theorem dL_law_552 : decode cL_law 552 = .ok (.iconst 1, 1) := by decide +kernel
theorem dL_law_553 : decode cL_law 553 = .ok (.iadd, 1) := by decide +kernel
theorem dL_law_554 : decode cL_law 554 = .ok (.iaload, 1) := by decide +kernel
theorem dL_law_555 : decode cL_law 555 = .ok (.invokevirtual 87, 3) := by decide +kernel
theorem dL_law_558 : decode cL_law 558 = .ok (.if_icmp .eq 160, 3) := by decide +kernel
theorem dL_law_561 : decode cL_law 561 = .ok (.iconst 0, 1) := by decide +kernel
theorem dL_law_562 : decode cL_law 562 = .ok (.ireturn, 1) := by decide +kernel
theorem dL_law_563 : decode cL_law 563 = .ok (.aload_n 1, 1) := by decide +kernel
theorem dL_law_564 : decode cL_law 564 = .ok (.aload_n 0, 1) := by decide +kernel
theorem dL_law_565 : decode cL_law 565 = .ok (.iload 4, 2) := by decide +kernel
theorem dL_law_567 : decode cL_law 567 = .ok (.iconst 1, 1) := by decide +kernel
theorem dL_law_568 : decode cL_law 568 = .ok (.iadd, 1) := by decide +kernel
theorem dL_law_569 : decode cL_law 569 = .ok (.iaload, 1) := by decide +kernel
theorem dL_law_570 : decode cL_law 570 = .ok (.invokevirtual 88, 3) := by decide +kernel
theorem dL_law_573 : decode cL_law 573 = .ok (.aload_n 2, 1) := by decide +kernel
theorem dL_law_574 : decode cL_law 574 = .ok (.aload_n 0, 1) := by decide +kernel
theorem dL_law_575 : decode cL_law 575 = .ok (.iload 4, 2) := by decide +kernel
theorem dL_law_577 : decode cL_law 577 = .ok (.iconst 1, 1) := by decide +kernel
theorem dL_law_578 : decode cL_law 578 = .ok (.iadd, 1) := by decide +kernel
theorem dL_law_579 : decode cL_law 579 = .ok (.iaload, 1) := by decide +kernel
theorem dL_law_580 : decode cL_law 580 = .ok (.invokevirtual 91, 3) := by decide +kernel
theorem dL_law_583 : decode cL_law 583 = .ok (.if_icmp .eq 135, 3) := by decide +kernel
theorem dL_law_586 : decode cL_law 586 = .ok (.iconst 0, 1) := by decide +kernel
theorem dL_law_587 : decode cL_law 587 = .ok (.ireturn, 1) := by decide +kernel
theorem dL_law_588 : decode cL_law 588 = .ok (.aload_n 1, 1) := by decide +kernel
theorem dL_law_589 : decode cL_law 589 = .ok (.aload_n 0, 1) := by decide +kernel
theorem dL_law_590 : decode cL_law 590 = .ok (.iload 4, 2) := by decide +kernel
theorem dL_law_592 : decode cL_law 592 = .ok (.iconst 1, 1) := by decide +kernel
theorem dL_law_593 : decode cL_law 593 = .ok (.iadd, 1) := by decide +kernel
theorem dL_law_594 : decode cL_law 594 = .ok (.iaload, 1) := by decide +kernel
theorem dL_law_595 : decode cL_law 595 = .ok (.aload_n 0, 1) := by decide +kernel
theorem dL_law_596 : decode cL_law 596 = .ok (.iload 4, 2) := by decide +kernel
theorem dL_law_598 : decode cL_law 598 = .ok (.iconst 2, 1) := by decide +kernel
theorem dL_law_599 : decode cL_law 599 = .ok (.iadd, 1) := by decide +kernel
theorem dL_law_600 : decode cL_law 600 = .ok (.iaload, 1) := by decide +kernel
theorem dL_law_601 : decode cL_law 601 = .ok (.invokevirtual 92, 3) := by decide +kernel
theorem dL_law_604 : decode cL_law 604 = .ok (.aload_n 2, 1) := by decide +kernel
theorem dL_law_605 : decode cL_law 605 = .ok (.aload_n 0, 1) := by decide +kernel
theorem dL_law_606 : decode cL_law 606 = .ok (.iload 4, 2) := by decide +kernel
theorem dL_law_608 : decode cL_law 608 = .ok (.iconst 1, 1) := by decide +kernel
theorem dL_law_609 : decode cL_law 609 = .ok (.iadd, 1) := by decide +kernel
theorem dL_law_610 : decode cL_law 610 = .ok (.iaload, 1) := by decide +kernel
theorem dL_law_611 : decode cL_law 611 = .ok (.aload_n 0, 1) := by decide +kernel
theorem dL_law_612 : decode cL_law 612 = .ok (.iload 4, 2) := by decide +kernel
theorem dL_law_614 : decode cL_law 614 = .ok (.iconst 2, 1) := by decide +kernel
theorem dL_law_615 : decode cL_law 615 = .ok (.iadd, 1) := by decide +kernel
theorem dL_law_616 : decode cL_law 616 = .ok (.iaload, 1) := by decide +kernel
theorem dL_law_617 : decode cL_law 617 = .ok (.invokevirtual 95, 3) := by decide +kernel
theorem dL_law_620 : decode cL_law 620 = .ok (.if_icmp .eq 98, 3) := by decide +kernel
theorem dL_law_623 : decode cL_law 623 = .ok (.iconst 0, 1) := by decide +kernel
theorem dL_law_624 : decode cL_law 624 = .ok (.ireturn, 1) := by decide +kernel
theorem dL_law_625 : decode cL_law 625 = .ok (.aload_n 1, 1) := by decide +kernel
theorem dL_law_626 : decode cL_law 626 = .ok (.aload_n 0, 1) := by decide +kernel
theorem dL_law_627 : decode cL_law 627 = .ok (.iload 4, 2) := by decide +kernel
theorem dL_law_629 : decode cL_law 629 = .ok (.iconst 1, 1) := by decide +kernel
theorem dL_law_630 : decode cL_law 630 = .ok (.iadd, 1) := by decide +kernel
theorem dL_law_631 : decode cL_law 631 = .ok (.iaload, 1) := by decide +kernel
theorem dL_law_632 : decode cL_law 632 = .ok (.aload_n 0, 1) := by decide +kernel
theorem dL_law_633 : decode cL_law 633 = .ok (.iload 4, 2) := by decide +kernel
theorem dL_law_635 : decode cL_law 635 = .ok (.iconst 2, 1) := by decide +kernel
theorem dL_law_636 : decode cL_law 636 = .ok (.iadd, 1) := by decide +kernel
theorem dL_law_637 : decode cL_law 637 = .ok (.iaload, 1) := by decide +kernel
theorem dL_law_638 : decode cL_law 638 = .ok (.aload_n 3, 1) := by decide +kernel
theorem dL_law_639 : decode cL_law 639 = .ok (.invokestatic 96, 3) := by decide +kernel
theorem dL_law_642 : decode cL_law 642 = .ok (.istore 5, 2) := by decide +kernel
theorem dL_law_644 : decode cL_law 644 = .ok (.aload_n 2, 1) := by decide +kernel
theorem dL_law_645 : decode cL_law 645 = .ok (.aload_n 0, 1) := by decide +kernel
theorem dL_law_646 : decode cL_law 646 = .ok (.iload 4, 2) := by decide +kernel
theorem dL_law_648 : decode cL_law 648 = .ok (.iconst 1, 1) := by decide +kernel
theorem dL_law_649 : decode cL_law 649 = .ok (.iadd, 1) := by decide +kernel
theorem dL_law_650 : decode cL_law 650 = .ok (.iaload, 1) := by decide +kernel
theorem dL_law_651 : decode cL_law 651 = .ok (.aload_n 0, 1) := by decide +kernel
theorem dL_law_652 : decode cL_law 652 = .ok (.iload 4, 2) := by decide +kernel
theorem dL_law_654 : decode cL_law 654 = .ok (.iconst 2, 1) := by decide +kernel
theorem dL_law_655 : decode cL_law 655 = .ok (.iadd, 1) := by decide +kernel
theorem dL_law_656 : decode cL_law 656 = .ok (.iaload, 1) := by decide +kernel
theorem dL_law_657 : decode cL_law 657 = .ok (.invokevirtual 99, 3) := by decide +kernel
theorem dL_law_660 : decode cL_law 660 = .ok (.istore 6, 2) := by decide +kernel
theorem dL_law_662 : decode cL_law 662 = .ok (.aload_n 2, 1) := by decide +kernel
theorem dL_law_663 : decode cL_law 663 = .ok (.invokevirtual 55, 3) := by decide +kernel
theorem dL_law_666 : decode cL_law 666 = .ok (.iload 5, 2) := by decide +kernel
theorem dL_law_668 : decode cL_law 668 = .ok (.if_icmp .eq 5, 3) := by decide +kernel
theorem dL_law_671 : decode cL_law 671 = .ok (.iconst 0, 1) := by decide +kernel
theorem dL_law_672 : decode cL_law 672 = .ok (.ireturn, 1) := by decide +kernel
theorem dL_law_673 : decode cL_law 673 = .ok (.iload 5, 2) := by decide +kernel
theorem dL_law_675 : decode cL_law 675 = .ok (.ifCond .ne 15, 3) := by decide +kernel
theorem dL_law_678 : decode cL_law 678 = .ok (.aload_n 3, 1) := by decide +kernel
theorem dL_law_679 : decode cL_law 679 = .ok (.iconst 0, 1) := by decide +kernel
theorem dL_law_680 : decode cL_law 680 = .ok (.laload, 1) := by decide +kernel
theorem dL_law_681 : decode cL_law 681 = .ok (.iload 6, 2) := by decide +kernel
theorem dL_law_683 : decode cL_law 683 = .ok (.i2l, 1) := by decide +kernel
theorem dL_law_684 : decode cL_law 684 = .ok (.lcmp, 1) := by decide +kernel
theorem dL_law_685 : decode cL_law 685 = .ok (.ifCond .eq 5, 3) := by decide +kernel
theorem dL_law_688 : decode cL_law 688 = .ok (.iconst 0, 1) := by decide +kernel
theorem dL_law_689 : decode cL_law 689 = .ok (.ireturn, 1) := by decide +kernel
theorem dL_law_690 : decode cL_law 690 = .ok (.goto 28, 3) := by decide +kernel
theorem dL_law_693 : decode cL_law 693 = .ok (.aload_n 1, 1) := by decide +kernel
theorem dL_law_694 : decode cL_law 694 = .ok (.aload_n 0, 1) := by decide +kernel
theorem dL_law_695 : decode cL_law 695 = .ok (.iload 4, 2) := by decide +kernel
theorem dL_law_697 : decode cL_law 697 = .ok (.iconst 1, 1) := by decide +kernel
theorem dL_law_698 : decode cL_law 698 = .ok (.iadd, 1) := by decide +kernel
theorem dL_law_699 : decode cL_law 699 = .ok (.iaload, 1) := by decide +kernel
theorem dL_law_700 : decode cL_law 700 = .ok (.invokevirtual 100, 3) := by decide +kernel
theorem dL_law_703 : decode cL_law 703 = .ok (.aload_n 2, 1) := by decide +kernel
theorem dL_law_704 : decode cL_law 704 = .ok (.aload_n 0, 1) := by decide +kernel
theorem dL_law_705 : decode cL_law 705 = .ok (.iload 4, 2) := by decide +kernel
theorem dL_law_707 : decode cL_law 707 = .ok (.iconst 1, 1) := by decide +kernel
theorem dL_law_708 : decode cL_law 708 = .ok (.iadd, 1) := by decide +kernel
theorem dL_law_709 : decode cL_law 709 = .ok (.iaload, 1) := by decide +kernel
theorem dL_law_710 : decode cL_law 710 = .ok (.invokevirtual 103, 3) := by decide +kernel
theorem dL_law_713 : decode cL_law 713 = .ok (.if_icmp .eq 5, 3) := by decide +kernel
theorem dL_law_716 : decode cL_law 716 = .ok (.iconst 0, 1) := by decide +kernel
theorem dL_law_717 : decode cL_law 717 = .ok (.ireturn, 1) := by decide +kernel
theorem dL_law_718 : decode cL_law 718 = .ok (.iinc 4 4, 3) := by decide +kernel
theorem dL_law_721 : decode cL_law 721 = .ok (.goto (-698), 3) := by decide +kernel
theorem dL_law_724 : decode cL_law 724 = .ok (.iconst 1, 1) := by decide +kernel
theorem dL_law_725 : decode cL_law 725 = .ok (.ireturn, 1) := by decide +kernel
end
section
/-! words that hold of a state's tables alone and that no contract's word list may carry: the class "[[I" over "[I", and the links to nest mates' constructors -/
def nw_AO (U : State) : Prop := ∃ (comp cA : ClassId) (kA : Class), U.vm.findClass (FieldType.array .int).toString = some comp ∧ U.vm.classes[cA]? = some kA ∧ kA.kind = .array comp (.array .int) ∧ U.vm.findClass ("[" ++ (FieldType.array .int).toString) = some cA
theorem nw_AO.moved {u U : State} (hvm : u.vm.Alike U.vm) (h : nw_AO u) : nw_AO U := by
  obtain ⟨comp, cA, kA, h1, h2, h3, h4⟩ := h
  obtain ⟨k', hk', he⟩ := hvm.2.2 _ _ h2
  exact ⟨comp, cA, k', by rw [hvm.findClass]; exact h1, hk', by rw [he]; exact h3, by rw [hvm.findClass]; exact h4⟩
theorem nw_AO.of {args : Array Value} {s : State} (h : (Cond.arrayOver (.array .int)).before args s = true) : nw_AO s := by
  simp only [Cond.before, Cond.holds, Cond.value, beq_iff_eq] at h
  cases hc : s.vm.findClass (FieldType.array .int).toString with
  | none => simp [hc] at h
  | some comp =>
    simp only [hc, Option.bind_some, Option.bind_eq_some_iff, Option.map_eq_some_iff] at h
    obtain ⟨c, hi, k, hk, hb⟩ := h
    obtain ⟨hlt, hp, -⟩ := Array.findIdx?_eq_some_iff_getElem.mp hi
    rw [(Array.getElem?_eq_some_iff.mp hk).2] at hp
    cases hkind : k.kind with
    | array component ty =>
      rw [hkind] at hb hp
      simp at hb hp
      exact ⟨comp, c, k, hc, hk, by rw [hkind, hp, hb.1], hb.2⟩
    | _ => rw [hkind] at hb; simp at hb
def nw_all (U : State) : Prop := nw_AO U ∧ va_Nw (.methodLinkNest RX11 11 yX6_init "RegisterMill") U ∧ va_Nw (.methodLinkNest RX9 11 yX5_init "RegisterMill") U ∧ va_Nw (.methodLinkNest RX9 20 yX3_init "RegisterMill") U ∧ va_Nw (.methodLinkNest RX9 27 yX2_init "RegisterMill") U ∧ va_Nw (.methodLinkNest RX9 34 yX1_init "RegisterMill") U ∧ va_Nw (.methodLinkNest RX7 3 yX4_init "RegisterMill") U ∧ va_Nw (.methodLinkNest RX8 3 yX4_init "RegisterMill") U
theorem nw_all.warm {s U : State} (hW : s.WarmedH U.vm) (h : nw_all s) : nw_all U := by
  obtain ⟨h0, h1, h2, h3, h4, h5, h6, h7⟩ := h
  exact ⟨h0.moved hW.alike, va_Nw.warmM hW h1, va_Nw.warmM hW h2, va_Nw.warmM hW h3, va_Nw.warmM hW h4, va_Nw.warmM hW h5, va_Nw.warmM hW h6, va_Nw.warmM hW h7⟩
theorem nw_all.call {U : State} (g : JFrame) (mk : MethodId) (a : Array Value) (h : nw_all U) : nw_all (U.calling g mk a) := nw_all.warm (s := U) (U := U.calling g mk a) (State.WarmedH.refl U) h
/-- a contract's start: the heap's size, the world, the tables -/
def pz_pre (dC : Nat → ClassId) (dI : Nat → Nat → Nat) (tys : List (ClassId × FieldType)) (ws : va_W) (sz : Nat) : State → Prop := fun U => U.heap.size = sz ∧ va_P (dC, dI) vwCl ws U.heap ∧ va_K (dC, dI) vwCl tys U ∧ va_D (fun _ => True) ws ∧ nw_all U
theorem pz_blind {av : List Value} {dC : Nat → ClassId} {dI : Nat → Nat → Nat} {tys : List (ClassId × FieldType)} {ws : va_W} {sz : Nat} : FrameBlind (va_Pc av (pz_pre dC dI tys ws sz)) := by
  intro a U g mk q
  obtain ⟨q0, q1, qP, qK, qD, qN⟩ := q
  exact ⟨q0, q1, qP, va_K.moved (u := U) (U := U.calling g mk a) (Vm.Alike.refl U.vm) qK, qD, qN.call g mk a⟩
theorem pz_to {av : List Value} {dC : Nat → ClassId} {dI : Nat → Nat → Nat} {tys : List (ClassId × FieldType)} {ws : va_W} {A : Nat → Prop} {s : State} {H : Heap} (hP : va_P (dC, dI) vwCl ws H) (hK : va_K (dC, dI) vwCl tys s) (hD : va_D A ws) (hN : nw_all s) :
    ∀ U : State, U.heap = H → s.WarmedH U.vm → va_Pc av (pz_pre dC dI tys ws H.size) av.toArray U :=
  fun U hU hW => ⟨rfl, by rw [hU], by rw [hU]; exact hP, va_K.moved hW.alike hK, hD.weaken (fun _ _ _ _ => trivial), hN.warm hW⟩
/-- what is there behind a method: a world -/
def pz_B (dC : Nat → ClassId) (dI : Nat → Nat → Nat) (tys : List (ClassId × FieldType)) (A : Nat → Prop) (ws : va_W) (t : State) : Prop := va_P (dC, dI) vwCl ws t.heap ∧ va_K (dC, dI) vwCl tys t ∧ va_D A ws
theorem pz_Bof {dC : Nat → ClassId} {dI : Nat → Nat → Nat} {tys : List (ClassId × FieldType)} {A : Nat → Prop} {ws : va_W} {s t : State} {H : Heap} (hP : va_P (dC, dI) vwCl ws H) (hK : va_K (dC, dI) vwCl tys s) (hD : va_D A ws) (ht : t.heap = H) (hW : s.WarmedH t.vm) : pz_B dC dI tys A ws t := ⟨by rw [ht]; exact hP, va_K.moved hW.alike hK, hD⟩
theorem pz_Pn {D : va_G} {cl : List vw_C} {H : Heap} : va_P D cl [] H := fun k q h => by simp at h
theorem pz_Dn {A : Nat → Prop} : va_D A [] := ⟨fun i j p q h => by simp at h, fun k q h => by simp at h⟩
/-- one class of int arrays: what newarray makes is of it -/
theorem pz_cy {D : va_G} {cl : List vw_C} {cy cA : ClassId} {tys : List (ClassId × FieldType)} {s : State} (hK : va_K D cl ((cy, .int) :: tys ++ [(cA, .int)]) s) : cA = cy := by
  have h1 := va_nm_int (hK.2 0 _ rfl).2
  have h2 := va_nm_int (hK.2 (tys.length + 1) (cA, .int) (by simp)).2
  exact Option.some.inj (h2.symm.trans h1)
theorem pz_up0 (i : Nat) : upd (fun _ => (0 : Int32)) i 0 = fun _ => 0 := by
  funext j
  simp [upd]
theorem pz_in64 {k : Int32} (h0 : ¬ k < 0) (h1 : ¬ 64 ≤ k) : vp_in k 64 := by
  rw [vp_in_iff]
  have a : ¬ k.toInt < 0 := fun h => h0 (Int32.lt_iff_toInt_lt.mpr h)
  have b : ¬ (64 : Int) ≤ k.toInt := fun h => h1 (Int32.le_iff_toInt_le.mpr h)
  omega
theorem pz_in128 {k : Int32} (h0 : ¬ k < 0) (h1 : ¬ 64 ≤ k) : vp_in k 128 := by
  have h := vp_in_iff.mp (pz_in64 h0 h1)
  rw [vp_in_iff]
  omega
theorem pz_in128b {k : Int32} (h0 : ¬ k < 0) (h1 : ¬ 64 ≤ k) : vp_in (64 + k) 128 := by
  obtain ⟨j, hj, rfl⟩ := vp_in_of (pz_in64 h0 h1) (by decide)
  have e : (64 : Int32) + nI j = nI (64 + j) := nI_add 64 j
  rw [e]
  exact vp_in_nI (by omega) (by decide)
theorem pz_01 {k : Int32} (h0 : ¬ k < 0) (h1 : ¬ 1 < k) : k = 0 ∨ k = 1 := by
  have a : ¬ k.toInt < 0 := fun h => h0 (Int32.lt_iff_toInt_lt.mpr h)
  have b : ¬ (1 : Int) < k.toInt := fun h => h1 (Int32.lt_iff_toInt_lt.mpr h)
  rcases (show k.toInt = 0 ∨ k.toInt = 1 by omega) with h | h
  · exact Or.inl (Int32.toInt_inj.mp h)
  · exact Or.inr (Int32.toInt_inj.mp h)
section MZ
variable {p : Program} {l : Launch} {e : Env} {R : Room} {s : State} {m : MethodId} {args : Array Value} {below : List Frame} {meth : Method} {c : Code} {H : Heap} {locs : List Loc} {cells slots : Nat} {Q : State → Prop}
/-- an array is made: the state grows by one cell -/
theorem mz_newArray {E : CtlPost} {d : Bool} {acts : List Action} {u : State} {a comp : ClassId} {k : Class} {type : FieldType} {len : Nat} {init : Value} (hk : u.vm.classes[a]? = some k) (hkind : k.kind = .array comp type)
    (hlimit : len ≤ e.platform.arrayLengthLimit) (hheap : len * componentBytes type ≤ e.platform.maxHeapBytes) (hfit : fits type init = true) (hdef : init.isDefault = true) {K : Addr → Pre}
    (h1 : u.heap.size < e.platform.maxCells) (h2 : u.slotsUsed + len ≤ e.platform.maxSlots) (hq : ∀ d' acts', K u.heap.size d' acts' (u.pushCell { cls := a, slots := Array.replicate len init, vm := .none })) :
    wp (Jvm.newArray a len init) K E e d acts u := by
  have g1 : ∀ i v, (Array.replicate len init)[i]? = some v → u.fitsSlot a .none i v = true := fun i v hv => by
    rw [Array.getElem?_replicate] at hv
    by_cases hi : i < len
    · rw [if_pos hi] at hv
      cases hv
      simp [State.fitsSlot, State.slotType?, hk, hkind, hfit]
    · rw [if_neg hi] at hv
      cases hv
  simp only [Jvm.newArray, Jvm.arrayFits, wp_bind', W.ask, W.ite, if_neg (Nat.not_lt.mpr hlimit), wp_pure', W.theClass, hk, hkind, if_neg (Nat.not_lt.mpr hheap), W.alloc, W.stop, Option.some.injEq, exists_eq_left', Array.size_replicate]
  rw [if_neg (by omega)]
  exact ⟨h1, h2, g1, hq _ _⟩
end MZ
section PN
variable {p : Program} {l : Launch} {e : Env} {R : Room} {s : State} {m : MethodId} {args : Array Value} {below : List Frame} {meth : Method} {c : Code} {H : Heap} {locs : List Loc} {cells slots : Nat} {Q : State → Prop}
variable {cc : ByteArray} {pc : Nat} {ls : Array Slot} {rest : List Value} {D : va_G} {cl : List vw_C} {A : Nat → Prop} {tys : List (ClassId × FieldType)} {ws : va_W} {H0 : Heap}
/-- new int[N] -/
theorem pz_newa (hexec : p.tables.exec = Jvm.exec) (hb : c.code = cc) (harr : (Cond.arrayClass .int).before args s = true) {cy : ClassId} (hK : va_K D cl ((cy, .int) :: tys) s) (hP : va_P D cl ws H) (hD : va_D A ws) (hS : va_S A H0 H locs) (hA : ∀ q, H0.size ≤ q → A q)
    {n : Int32} (N : Nat) (hn : ¬ n < 0) (hN : n.toNatClampNeg = N) (hbytes : N * 4 ≤ 536870912) (hcells : cells + 1 ≤ R.cells) (hslots : slots + N ≤ R.slots) (hdg : decode cc pc = .ok (.newarray .int, 2))
    (kk : ∀ (q : Nat) (H1 : Heap), va_P D cl (ws ++ [(q, .inl (cy, N, .inl (fun _ => 0)))]) H1 → va_D A (ws ++ [(q, .inl (cy, N, .inl (fun _ => 0)))]) → va_S A H0 H1 locs →
      W p l e R s m args below meth c H1 locs (cells + 1) (slots + N) Q (F0 m (pc + 2) ls (.ref q :: rest))) : W p l e R s m args below meth c H locs cells slots Q (F0 m pc ls (.int n :: rest)) := by
  refine va_newa (atype := .int) (ty := .int) (a0 := (N, .inl (fun _ => 0))) (N' := N) hexec hb harr rfl hK hP hD hS hA (fun cA => rfl) hn hN hbytes hcells hslots hdg (fun q cA H1 hK1 hP1 hD1 hS1 => ?_)
  obtain rfl : cy = cA := (pz_cy hK1).symm
  exact kk q H1 hP1 hD1 hS1
/-- new int[N] that nobody reads -/
theorem pz_newd (hexec : p.tables.exec = Jvm.exec) (hb : c.code = cc) (harr : (Cond.arrayClass .int).before args s = true) (hK : va_K D cl tys s) (hP : va_P D cl ws H) (hD : va_D A ws) (hS : va_S A H0 H locs) (hA : ∀ q, H0.size ≤ q → A q)
    {n : Int32} (N : Nat) (hn : ¬ n < 0) (hN : n.toNatClampNeg = N) (hbytes : N * 4 ≤ 536870912) (hcells : cells + 1 ≤ R.cells) (hslots : slots + N ≤ R.slots) (hdg : decode cc pc = .ok (.newarray .int, 2))
    (kk : ∀ (q : Nat) (H1 : Heap), va_P D cl ws H1 → va_S A H0 H1 locs →
      W p l e R s m args below meth c H1 locs (cells + 1) (slots + N) Q (F0 m (pc + 2) ls (.ref q :: rest))) : W p l e R s m args below meth c H locs cells slots Q (F0 m pc ls (.int n :: rest)) := by
  refine va_newa (atype := .int) (ty := .int) (a0 := (N, .inl (fun _ => 0))) (N' := N) hexec hb harr rfl hK hP hD hS hA (fun cA => rfl) hn hN hbytes hcells hslots hdg (fun q cA H1 hK1 hP1 hD1 hS1 => ?_)
  exact kk q H1 (fun k x hx => hP1 k x (by rw [List.getElem?_append_left (List.getElem?_eq_some_iff.mp hx).1]; exact hx)) hS1
/-- new boolean[N] that nobody reads -/
theorem pz_newz (hexec : p.tables.exec = Jvm.exec) (hb : c.code = cc) (harr : (Cond.arrayClass .boolean).before args s = true) (hK : va_K D cl tys s) (hP : va_P D cl ws H) (hD : va_D A ws) (hS : va_S A H0 H locs) (hA : ∀ q, H0.size ≤ q → A q)
    {n : Int32} (N : Nat) (hn : ¬ n < 0) (hN : n.toNatClampNeg = N) (hbytes : N * 1 ≤ 536870912) (hcells : cells + 1 ≤ R.cells) (hslots : slots + N ≤ R.slots) (hdg : decode cc pc = .ok (.newarray .boolean, 2))
    (kk : ∀ (q : Nat) (H1 : Heap), va_P D cl ws H1 → va_S A H0 H1 locs →
      W p l e R s m args below meth c H1 locs (cells + 1) (slots + N) Q (F0 m (pc + 2) ls (.ref q :: rest))) : W p l e R s m args below meth c H locs cells slots Q (F0 m pc ls (.int n :: rest)) := by
  refine va_newa (atype := .boolean) (ty := .boolean) (a0 := (N, .inl (fun _ => 0))) (N' := N) hexec hb harr rfl hK hP hD hS hA (fun cA => rfl) hn hN hbytes hcells hslots hdg (fun q cA H1 hK1 hP1 hD1 hS1 => ?_)
  exact kk q H1 (fun k x hx => hP1 k x (by rw [List.getElem?_append_left (List.getElem?_eq_some_iff.mp hx).1]; exact hx)) hS1
end PN
theorem pz_sw4 (x : Int32) : x = 0 ∨ x = 1 ∨ x = 2 ∨ x = 3 ∨ x = 4 ∨ ((x.toInt < 0 ∨ 4 < x.toInt) ∧ ¬ x = 0 ∧ ¬ x = 1 ∧ ¬ x = 2 ∧ ¬ x = 3 ∧ ¬ x = 4) := by
  by_cases h : x.toInt < 0 ∨ 4 < x.toInt
  · refine Or.inr (Or.inr (Or.inr (Or.inr (Or.inr (⟨h, ?_, ?_, ?_, ?_, ?_⟩))))) <;> (rintro rfl; revert h; decide)
  · have hx : x.toInt = 0 ∨ x.toInt = 1 ∨ x.toInt = 2 ∨ x.toInt = 3 ∨ x.toInt = 4 := by omega
    rcases hx with q | q | q | q | q
    · exact Or.inl (Int32.toInt_inj.mp q)
    · exact Or.inr (Or.inl (Int32.toInt_inj.mp q))
    · exact Or.inr (Or.inr (Or.inl (Int32.toInt_inj.mp q)))
    · exact Or.inr (Or.inr (Or.inr (Or.inl (Int32.toInt_inj.mp q))))
    · exact Or.inr (Or.inr (Or.inr (Or.inr (Or.inl (Int32.toInt_inj.mp q)))))
theorem pz_sw17 (x : Int32) : x = 0 ∨ x = 1 ∨ x = 2 ∨ x = 3 ∨ x = 4 ∨ x = 5 ∨ x = 6 ∨ x = 7 ∨ x = 8 ∨ x = 9 ∨ x = 10 ∨ x = 11 ∨ x = 12 ∨ x = 13 ∨ x = 14 ∨ x = 15 ∨ x = 16 ∨ x = 17 ∨ ((x.toInt < 0 ∨ 17 < x.toInt) ∧ ¬ x = 0 ∧ ¬ x = 1 ∧ ¬ x = 2 ∧ ¬ x = 3 ∧ ¬ x = 4 ∧ ¬ x = 5 ∧ ¬ x = 6 ∧ ¬ x = 7 ∧ ¬ x = 8 ∧ ¬ x = 9 ∧ ¬ x = 10 ∧ ¬ x = 11 ∧ ¬ x = 12 ∧ ¬ x = 13 ∧ ¬ x = 14 ∧ ¬ x = 15 ∧ ¬ x = 16 ∧ ¬ x = 17) := by
  by_cases h : x.toInt < 0 ∨ 17 < x.toInt
  · refine Or.inr (Or.inr (Or.inr (Or.inr (Or.inr (Or.inr (Or.inr (Or.inr (Or.inr (Or.inr (Or.inr (Or.inr (Or.inr (Or.inr (Or.inr (Or.inr (Or.inr (Or.inr (⟨h, ?_, ?_, ?_, ?_, ?_, ?_, ?_, ?_, ?_, ?_, ?_, ?_, ?_, ?_, ?_, ?_, ?_, ?_⟩)))))))))))))))))) <;> (rintro rfl; revert h; decide)
  · have hx : x.toInt = 0 ∨ x.toInt = 1 ∨ x.toInt = 2 ∨ x.toInt = 3 ∨ x.toInt = 4 ∨ x.toInt = 5 ∨ x.toInt = 6 ∨ x.toInt = 7 ∨ x.toInt = 8 ∨ x.toInt = 9 ∨ x.toInt = 10 ∨ x.toInt = 11 ∨ x.toInt = 12 ∨ x.toInt = 13 ∨ x.toInt = 14 ∨ x.toInt = 15 ∨ x.toInt = 16 ∨ x.toInt = 17 := by omega
    rcases hx with q | q | q | q | q | q | q | q | q | q | q | q | q | q | q | q | q | q
    · exact Or.inl (Int32.toInt_inj.mp q)
    · exact Or.inr (Or.inl (Int32.toInt_inj.mp q))
    · exact Or.inr (Or.inr (Or.inl (Int32.toInt_inj.mp q)))
    · exact Or.inr (Or.inr (Or.inr (Or.inl (Int32.toInt_inj.mp q))))
    · exact Or.inr (Or.inr (Or.inr (Or.inr (Or.inl (Int32.toInt_inj.mp q)))))
    · exact Or.inr (Or.inr (Or.inr (Or.inr (Or.inr (Or.inl (Int32.toInt_inj.mp q))))))
    · exact Or.inr (Or.inr (Or.inr (Or.inr (Or.inr (Or.inr (Or.inl (Int32.toInt_inj.mp q)))))))
    · exact Or.inr (Or.inr (Or.inr (Or.inr (Or.inr (Or.inr (Or.inr (Or.inl (Int32.toInt_inj.mp q))))))))
    · exact Or.inr (Or.inr (Or.inr (Or.inr (Or.inr (Or.inr (Or.inr (Or.inr (Or.inl (Int32.toInt_inj.mp q)))))))))
    · exact Or.inr (Or.inr (Or.inr (Or.inr (Or.inr (Or.inr (Or.inr (Or.inr (Or.inr (Or.inl (Int32.toInt_inj.mp q))))))))))
    · exact Or.inr (Or.inr (Or.inr (Or.inr (Or.inr (Or.inr (Or.inr (Or.inr (Or.inr (Or.inr (Or.inl (Int32.toInt_inj.mp q)))))))))))
    · exact Or.inr (Or.inr (Or.inr (Or.inr (Or.inr (Or.inr (Or.inr (Or.inr (Or.inr (Or.inr (Or.inr (Or.inl (Int32.toInt_inj.mp q))))))))))))
    · exact Or.inr (Or.inr (Or.inr (Or.inr (Or.inr (Or.inr (Or.inr (Or.inr (Or.inr (Or.inr (Or.inr (Or.inr (Or.inl (Int32.toInt_inj.mp q)))))))))))))
    · exact Or.inr (Or.inr (Or.inr (Or.inr (Or.inr (Or.inr (Or.inr (Or.inr (Or.inr (Or.inr (Or.inr (Or.inr (Or.inr (Or.inl (Int32.toInt_inj.mp q))))))))))))))
    · exact Or.inr (Or.inr (Or.inr (Or.inr (Or.inr (Or.inr (Or.inr (Or.inr (Or.inr (Or.inr (Or.inr (Or.inr (Or.inr (Or.inr (Or.inl (Int32.toInt_inj.mp q)))))))))))))))
    · exact Or.inr (Or.inr (Or.inr (Or.inr (Or.inr (Or.inr (Or.inr (Or.inr (Or.inr (Or.inr (Or.inr (Or.inr (Or.inr (Or.inr (Or.inr (Or.inl (Int32.toInt_inj.mp q))))))))))))))))
    · exact Or.inr (Or.inr (Or.inr (Or.inr (Or.inr (Or.inr (Or.inr (Or.inr (Or.inr (Or.inr (Or.inr (Or.inr (Or.inr (Or.inr (Or.inr (Or.inr (Or.inl (Int32.toInt_inj.mp q)))))))))))))))))
    · exact Or.inr (Or.inr (Or.inr (Or.inr (Or.inr (Or.inr (Or.inr (Or.inr (Or.inr (Or.inr (Or.inr (Or.inr (Or.inr (Or.inr (Or.inr (Or.inr (Or.inr (Or.inl (Int32.toInt_inj.mp q))))))))))))))))))
theorem fsX0 : ∀ j, j < 3 → defaultValue (tyX0 j) = vp_V [.null, .null, .int 0] j := fun j hj => match j, hj with
  | 0, _ => rfl
  | 1, _ => rfl
  | 2, _ => rfl
  | n + 3, h => absurd h (by omega)
theorem fsX1 : ∀ j, j < 4 → defaultValue (tyX1 j) = vp_V [.null, .null, .int 0, .null] j := fun j hj => match j, hj with
  | 0, _ => rfl
  | 1, _ => rfl
  | 2, _ => rfl
  | 3, _ => rfl
  | n + 4, h => absurd h (by omega)
theorem fsX2 : ∀ j, j < 6 → defaultValue (tyX2 j) = vp_V [.null, .null, .null, .null, .null, .null] j := fun j hj => match j, hj with
  | 0, _ => rfl
  | 1, _ => rfl
  | 2, _ => rfl
  | 3, _ => rfl
  | 4, _ => rfl
  | 5, _ => rfl
  | n + 6, h => absurd h (by omega)
theorem fsX3 : ∀ j, j < 2 → defaultValue (tyX3 j) = vp_V [.null, .null] j := fun j hj => match j, hj with
  | 0, _ => rfl
  | 1, _ => rfl
  | n + 2, h => absurd h (by omega)
theorem fsX5 : ∀ j, j < 10 → defaultValue (tyX5 j) = vp_V [.null, .null, .null, .null, .null, .null, .int 0, .null, .null, .null] j := fun j hj => match j, hj with
  | 0, _ => rfl
  | 1, _ => rfl
  | 2, _ => rfl
  | 3, _ => rfl
  | 4, _ => rfl
  | 5, _ => rfl
  | 6, _ => rfl
  | 7, _ => rfl
  | 8, _ => rfl
  | 9, _ => rfl
  | n + 10, h => absurd h (by omega)
theorem fsX6 : ∀ j, j < 10 → defaultValue (tyX6 j) = vp_V [.null, .null, .null, .null, .null, .null, .null, .int 0, .int 0, .int 0] j := fun j hj => match j, hj with
  | 0, _ => rfl
  | 1, _ => rfl
  | 2, _ => rfl
  | 3, _ => rfl
  | 4, _ => rfl
  | 5, _ => rfl
  | 6, _ => rfl
  | 7, _ => rfl
  | 8, _ => rfl
  | 9, _ => rfl
  | n + 10, h => absurd h (by omega)
theorem fsX7 : ∀ j, j < 13 → defaultValue (tyX7 j) = vp_V [.null, .null, .null, .int 0, .int 0, .int 0, .int 0, .int 0, .null, .null, .null, .null, .int 0] j := fun j hj => match j, hj with
  | 0, _ => rfl
  | 1, _ => rfl
  | 2, _ => rfl
  | 3, _ => rfl
  | 4, _ => rfl
  | 5, _ => rfl
  | 6, _ => rfl
  | 7, _ => rfl
  | 8, _ => rfl
  | 9, _ => rfl
  | 10, _ => rfl
  | 11, _ => rfl
  | 12, _ => rfl
  | n + 13, h => absurd h (by omega)
theorem fsX8 : ∀ j, j < 13 → defaultValue (tyX8 j) = vp_V [.null, .null, .null, .int 0, .int 0, .int 0, .int 0, .int 0, .null, .null, .null, .null, .int 0] j := fun j hj => match j, hj with
  | 0, _ => rfl
  | 1, _ => rfl
  | 2, _ => rfl
  | 3, _ => rfl
  | 4, _ => rfl
  | 5, _ => rfl
  | 6, _ => rfl
  | 7, _ => rfl
  | 8, _ => rfl
  | 9, _ => rfl
  | 10, _ => rfl
  | 11, _ => rfl
  | 12, _ => rfl
  | n + 13, h => absurd h (by omega)
theorem fsX9 : ∀ j, j < 8 → defaultValue (tyX9 j) = vp_V [.null, .null, .null, .null, .null, .null, .null, .int 0] j := fun j hj => match j, hj with
  | 0, _ => rfl
  | 1, _ => rfl
  | 2, _ => rfl
  | 3, _ => rfl
  | 4, _ => rfl
  | 5, _ => rfl
  | 6, _ => rfl
  | 7, _ => rfl
  | n + 8, h => absurd h (by omega)
theorem fsX10 : ∀ j, j < 7 → defaultValue (tyX10 j) = vp_V [.null, .null, .null, .null, .int 0, .int 0, .int 0] j := fun j hj => match j, hj with
  | 0, _ => rfl
  | 1, _ => rfl
  | 2, _ => rfl
  | 3, _ => rfl
  | 4, _ => rfl
  | 5, _ => rfl
  | 6, _ => rfl
  | n + 7, h => absurd h (by omega)
theorem fsX11 : ∀ j, j < 5 → defaultValue (tyX11 j) = vp_V [.null, .null, .null, .null, .null] j := fun j hj => match j, hj with
  | 0, _ => rfl
  | 1, _ => rfl
  | 2, _ => rfl
  | 3, _ => rfl
  | 4, _ => rfl
  | n + 5, h => absurd h (by omega)
theorem fsX12 : ∀ j, j < 52 → defaultValue (tyX12 j) = vp_V [.int 0, .int 0, .null, .null, .null, .null, .int 0, .null, .null, .null, .int 0, .null, .int 0, .null, .null, .null, .null, .null, .null, .null, .null, .null, .int 0, .null, .null, .null, .null, .null, .null, .null, .int 0, .null, .null, .null, .int 0, .int 0, .null, .int 0, .null, .null, .null, .null, .null, .null, .null, .null, .null, .null, .null, .null, .null, .null] j := fun j hj => match j, hj with
  | 0, _ => rfl
  | 1, _ => rfl
  | 2, _ => rfl
  | 3, _ => rfl
  | 4, _ => rfl
  | 5, _ => rfl
  | 6, _ => rfl
  | 7, _ => rfl
  | 8, _ => rfl
  | 9, _ => rfl
  | 10, _ => rfl
  | 11, _ => rfl
  | 12, _ => rfl
  | 13, _ => rfl
  | 14, _ => rfl
  | 15, _ => rfl
  | 16, _ => rfl
  | 17, _ => rfl
  | 18, _ => rfl
  | 19, _ => rfl
  | 20, _ => rfl
  | 21, _ => rfl
  | 22, _ => rfl
  | 23, _ => rfl
  | 24, _ => rfl
  | 25, _ => rfl
  | 26, _ => rfl
  | 27, _ => rfl
  | 28, _ => rfl
  | 29, _ => rfl
  | 30, _ => rfl
  | 31, _ => rfl
  | 32, _ => rfl
  | 33, _ => rfl
  | 34, _ => rfl
  | 35, _ => rfl
  | 36, _ => rfl
  | 37, _ => rfl
  | 38, _ => rfl
  | 39, _ => rfl
  | 40, _ => rfl
  | 41, _ => rfl
  | 42, _ => rfl
  | 43, _ => rfl
  | 44, _ => rfl
  | 45, _ => rfl
  | 46, _ => rfl
  | 47, _ => rfl
  | 48, _ => rfl
  | 49, _ => rfl
  | 50, _ => rfl
  | 51, _ => rfl
  | n + 52, h => absurd h (by omega)
end
section
section MW
variable {p : Program} {l : Launch} {e : Env} {R : Room} {s : State} {m : MethodId} {args : Array Value} {below : List Frame} {meth : Method} {c : Code} {H : Heap} {locs : List Loc} {cells slots : Nat} {Q : State → Prop}
/-- what holds while the rows of new int[N][K] are made: i of them stand -/
def mz_I (p : Program) (l : Launch) (e : Env) (R : Room) (s : State) (m : MethodId) (args : Array Value) (below : List Frame) (meth : Method) (c : Code) (locs : List Loc) (cells slots : Nat) (T : State) (f : JFrame) (cA : ClassId) (N K : Nat) (xs : List Nat) (u : State) : Prop :=
  ∃ (i : Nat) (U : State) (oc : Cell), i ≤ N ∧ xs = List.range' i (N - i) ∧ u = U.setTop f ∧ Stand p l e R s m args below meth c U locs (cells + 1 + i) (slots + N + i * K) ∧ U.heap.size = T.heap.size + 1 + i ∧ U.heap[T.heap.size]? = some oc ∧ oc.cls = cA ∧ oc.vm = .none ∧ oc.slots.size = N ∧ U.vm = T.vm ∧ (∀ a : Nat, a < T.heap.size → U.heap[a]? = T.heap[a]?) ∧ U.slotsUsed = T.slotsUsed + N + i * K
theorem mz_make {E : CtlPost} {d : Bool} {acts : List Action} {T : State} {f : JFrame} {cA comp cc : ClassId} {kA kC : Class} {n k : Int32} {N K : Nat} (X : Stand p l e R s m args below meth c T locs cells slots)
    (hkA : T.vm.classes[cA]? = some kA) (hkindA : kA.kind = .array comp (.array .int)) (hkC : T.vm.classes[comp]? = some kC) (hkindC : kC.kind = .array cc .int)
    (hn : ¬ n < 0) (hk : ¬ k < 0) (hN : n.toNatClampNeg = N) (hK : k.toNatClampNeg = K) (hb1 : N * 4 ≤ 536870912) (hb2 : K * 4 ≤ 536870912) (hcells : cells + (1 + N) ≤ R.cells) (hslots : slots + (N + N * K) ≤ R.slots) {P : Addr → Pre}
    (hq : ∀ (U : State) d' acts', Stand p l e R s m args below meth c U locs (cells + 1 + N) (slots + N + N * K) → (∀ a : Nat, a < T.heap.size → U.heap[a]? = T.heap[a]?) → T.heap.size ≤ U.heap.size → P T.heap.size d' acts' (U.setTop f)) :
    wp (multianewarray.make cA [n, k]) P E e d acts (T.setTop f) := by
  obtain ⟨hr1, hr2⟩ := X.roomAbove hcells hslots
  have hl1 : N ≤ e.platform.arrayLengthLimit := by rw [Launch.admits_arrayLengthLimit X.admits]; omega
  have hl2 : K ≤ e.platform.arrayLengthLimit := by rw [Launch.admits_arrayLengthLimit X.admits]; omega
  have hh1 : N * componentBytes (.array .int) ≤ e.platform.maxHeapBytes := by rw [Launch.admits_maxHeapBytes X.admits]; exact hb1
  have hh2 : K * componentBytes .int ≤ e.platform.maxHeapBytes := by rw [Launch.admits_maxHeapBytes X.admits]; exact hb2
  have hfind : ([k].find? (· < 0)) = none := by simp [hk]
  rw [multianewarray.make]
  simp only [wp_bind', W.ite, hn, if_false, wp_pure', W.theClass, hkA, hkindA, Option.some.injEq, exists_eq_left', State.vm_setTop]
  rw [hN]
  refine mz_newArray (u := T.setTop f) (k := kA) hkA hkindA hl1 hh1 rfl rfl (by show T.heap.size < _; omega) (by show T.slotsUsed + N ≤ _; have := Nat.zero_le (N * K); omega) (fun d' acts' => ?_)
  simp only [hfind]
  rw [ite_self, wp_bind', Std.Legacy.Range.forIn_eq_forIn_range']
  have hsz : ([:N] : Std.Legacy.Range).size = N := by simp [Std.Legacy.Range.size]
  rw [hsz]
  show wp (forIn (List.range' 0 N 1) PUnit.unit _) _ E e _ _ _
  refine wp_forIn_inv (mz_I p l e R s m args below meth c locs cells slots T f cA N K) _ _ ?_ ?_ ?_
  · have X0 := X.pushed ({ cls := cA, slots := Array.replicate N .null, vm := .none } : Cell)
    rw [show ({ cls := cA, slots := Array.replicate N .null, vm := .none } : Cell).slots.size = N by simp] at X0
    refine ⟨0, T.pushCell { cls := cA, slots := Array.replicate N .null, vm := .none }, _, Nat.zero_le _, rfl, rfl, by simpa using X0, by simp, State.heap_pushCell_size _ _, rfl, rfl, by simp, rfl, fun a ha => State.heap_pushCell_of_lt _ _ ha, by simp [State.pushCell]⟩
  · rintro x xs u d1 acts1 Q' ⟨i, U, oc, hi, hl, rfl, XU, hz, ho, ho1, ho2, ho3, hv, hold, hus⟩ hnext
    have hlt : i < N := by
      rcases Nat.lt_or_ge i N with h | h
      · exact h
      · rw [show N - i = 0 by omega] at hl
        simp at hl
    obtain ⟨rfl, hrest⟩ : x = i ∧ xs = List.range' (i + 1) (N - (i + 1)) := by
      rw [show N - i = (N - (i + 1)) + 1 by omega, List.range'_succ] at hl
      exact ⟨(List.cons.inj hl).1, (List.cons.inj hl).2⟩
    have hmul : x * K + K ≤ N * K := by
      have h := Nat.mul_le_mul_right K (show x + 1 ≤ N from hlt)
      rw [Nat.succ_mul] at h
      exact h
    simp only [wp_bind']
    rw [multianewarray.make]
    simp only [wp_bind', W.ite, hk, if_false, wp_pure', W.theClass, State.vm_setTop, hv, hkC, hkindC, Option.some.injEq, exists_eq_left']
    rw [hK]
    refine mz_newArray (u := U.setTop f) (k := kC) (by rw [State.vm_setTop, hv]; exact hkC) hkindC hl2 hh2 rfl rfl (by show U.heap.size < _; omega) (by show U.slotsUsed + K ≤ _; omega) (fun d2 acts2 => ?_)
    have hlt0 : T.heap.size < U.heap.size := by omega
    have XP := XU.pushed ({ cls := comp, slots := Array.replicate K (defaultValue .int), vm := .none } : Cell)
    rw [show ({ cls := comp, slots := Array.replicate K (defaultValue .int), vm := .none } : Cell).slots.size = K by simp] at XP
    have hoc : (U.pushCell { cls := comp, slots := Array.replicate K (defaultValue .int), vm := .none }).heap[T.heap.size]? = some oc := by rw [State.heap_pushCell_of_lt (h := hlt0)]; exact ho
    have XS := XP.stored hoc x (.ref U.heap.size)
    have XD : Stand p l e R s m args below meth c _ locs (cells + 1 + x + 1) (slots + N + x * K + K) := Stand.dropFresh XS (fun z hz9 => by
      rw [List.mem_singleton.mp hz9]
      exact X.heapGrown)
    simp only [wp_bind', W.writeLoc, wp_pure']
    refine ⟨oc, hoc, by rw [ho2]; simp, by rw [ho3]; exact hlt, ?_, hnext _ _ _ ⟨x + 1, (U.pushCell { cls := comp, slots := Array.replicate K (defaultValue .int), vm := .none }).setCell T.heap.size (oc.setSlot x (.ref U.heap.size)), oc.setSlot x (.ref U.heap.size), hlt, hrest, rfl, ?_, ?_, ?_, ?_, ?_, ?_, ?_, ?_, ?_⟩⟩
    · rw [ho1, ho2]
      simp [State.fitsSlot, State.slotType?, State.pushCell, hv, hkA, hkindA, fits]
    · have e3 : slots + N + (x + 1) * K = slots + N + x * K + K := by rw [Nat.succ_mul]; omega
      rw [e3]
      exact XD
    · simp [State.setCell, State.pushCell]
      omega
    · exact State.heap_setCell_self hoc
    · simp [Cell.setSlot, ho1]
    · simp [Cell.setSlot, ho2]
    · simp [Cell.setSlot, ho3]
    · simp [State.setCell, State.pushCell, hv]
    · intro a ha
      rw [State.heap_setCell_other (show T.heap.size ≠ a by omega), State.heap_pushCell_of_lt (h := (by omega : a < U.heap.size))]
      exact hold a ha
    · simp [State.setCell, State.pushCell, hus, Nat.succ_mul]
      omega
  · rintro u d1 acts1 ⟨i, U, oc, hi, hl, rfl, XU, hz, -, -, -, -, -, hold, -⟩
    have hiN : i = N := by
      rcases Nat.lt_or_ge i N with h | h
      · rw [show N - i = (N - (i + 1)) + 1 by omega, List.range'_succ] at hl
        cases hl
      · omega
    subst hiN
    simp only [wp_pure']
    exact hq U _ _ XU hold (by omega)
variable {cc : ByteArray} {pc : Nat} {ls : Array Slot} {rest : List Value} {D : va_G} {cl : List vw_C} {A : Nat → Prop} {ws : va_W} {H0 : Heap}
/-- new int[N][K], of which nothing is read -/
theorem mz_multi (hexec : p.tables.exec = Jvm.exec) (hb : c.code = cc) {own : String} {index : Nat} (hown : s.vm.findClass own = some m.cls) (hclink : (Cond.classLink own index "[[I").before args s = true) (hAO : nw_AO s) (harr : (Cond.arrayClass .int).before args s = true)
    (hP : va_P D cl ws H) (hD : va_D A ws) (hS : va_S A H0 H locs) (hA : ∀ q, H0.size ≤ q → A q) {n k : Int32} {N K : Nat} (hn : ¬ n < 0) (hk : ¬ k < 0) (hN : n.toNatClampNeg = N) (hK : k.toNatClampNeg = K) (hb1 : N * 4 ≤ 536870912) (hb2 : K * 4 ≤ 536870912) (hcells : cells + (1 + N) ≤ R.cells) (hslots : slots + (N + N * K) ≤ R.slots) (hdg : decode cc pc = .ok (.multianewarray index 2, 4))
    (kk : ∀ (q : Nat) (H1 : Heap), va_P D cl ws H1 → va_D A ws → va_S A H0 H1 locs → W p l e R s m args below meth c H1 locs (cells + (1 + N)) (slots + (N + N * K)) Q (F0 m (pc + 4) ls (.ref q :: rest))) : W p l e R s m args below meth c H locs cells slots Q (F0 m pc ls (.int k :: .int n :: rest)) := by
  intro T hT X
  have hpl : e.platform.magicAccessors = ({} : Platform).magicAccessors := by rw [X.admits.platform]
  obtain ⟨comp, cA, kA, hcomp, hkA, hkindA, hnameA⟩ := hAO
  obtain ⟨comp', kC, cC, hcomp', hkC, hkindC⟩ := Cond.arrayClass_spec harr
  obtain rfl : comp = comp' := Option.some.inj (hcomp.symm.trans hcomp')
  obtain ⟨c0, hfc0, hcl⟩ := Cond.classLink_spec hown hclink e.platform hpl
  have en : "[" ++ (FieldType.array .int).toString = "[[I" := by decide +kernel
  rw [en] at hnameA
  obtain rfl : cA = c0 := Option.some.inj (hnameA.symm.trans hfc0)
  obtain ⟨hg₁, hwarm₁, hready₁⟩ := State.classEntry (e := e) X.warmed hcl
  generalize hvm1 : T.vm.noted m.cls index (.cls cA) = vm₁ at hg₁ hwarm₁ hready₁
  have hal : s.vm.Alike vm₁ := hwarm₁.alike
  obtain ⟨kA₁, hkA₁, heA⟩ := hal.2.2 _ _ hkA
  obtain ⟨kC₁, hkC₁, heC⟩ := hal.2.2 _ _ hkC
  have X₁ := X.noted hwarm₁
  have hd2 : decode c.code pc = .ok (.multianewarray index 2, 4) := by rw [hb]; exact hdg
  have fin : ∀ (U : State), Stand p l e R s m args below meth c U locs (cells + 1 + N) (slots + N + N * K) → (∀ a : Nat, a < T.heap.size → U.heap[a]? = T.heap[a]?) → T.heap.size ≤ U.heap.size → ∃ t, Steps p.tables e below (U.setTop (F0 m (pc + 4) ls (.ref T.heap.size :: rest))) t ∧ Q t := by
    intro U XU hold hsz
    have hP1 : va_P D cl ws U.heap := hP.kept (fun k x hx => by rw [hold x.1 (by rw [hT]; exact (hP k x hx).lt), hT])
    have hS1 : va_S A H0 U.heap locs := ⟨Nat.le_trans hS.1 (by rw [← hT]; exact hsz), fun q h1 h2 => by rw [hold q (by rw [hT]; exact Nat.lt_of_lt_of_le h1 hS.1), hT]; exact hS.2.1 q h1 h2, hS.2.2⟩
    exact kk T.heap.size U.heap hP1 hD hS1 U rfl (by rw [show cells + (1 + N) = cells + 1 + N by omega, show slots + (N + N * K) = slots + N + N * K by omega]; exact XU)
  have hw : wpRun (p.tables.exec (.multianewarray index 2)) (fun _ s₁ _ => ∃ U : State, s₁ = U.setTop (F0 m pc ls (.ref T.heap.size :: rest)) ∧ Stand p l e R s m args below meth c U locs (cells + 1 + N) (slots + N + N * K) ∧ (∀ a : Nat, a < T.heap.size → U.heap[a]? = T.heap[a]?) ∧ T.heap.size ≤ U.heap.size) (fun _ _ _ => False) e (T.setTop (F0 m pc ls (.int k :: .int n :: rest))) := by
    rw [hexec]
    simp only [wpRun, exec]
    simp only [multianewarray.sem, wp_bind', W.resolveClassAt_links (State.method?_setTop (F0 m pc ls (.int k :: .int n :: rest)) X.here.top) hg₁]
    rw [W.popN, if_neg (by decide)]
    refine ⟨F0 m pc ls (.int k :: .int n :: rest), State.topJava?_setTop' (s := T.setVm vm₁) _ X.here.top, [.int n, .int k], rest, rfl, rfl, ?_⟩
    simp only [List.mapM_cons, List.mapM_nil, wp_bind', wp_pure']
    have eS : ((T.setTop (F0 m pc ls (.int k :: .int n :: rest))).setVm vm₁).setTop { F0 m pc ls (.int k :: .int n :: rest) with stack := rest } = (T.setVm vm₁).setTop (F0 m pc ls rest) := by
      show ((T.setVm vm₁).setTop _).setTop _ = _
      rw [State.setTop_setTop]
    rw [eS]
    refine mz_make (f := F0 m pc ls rest) (kA := kA₁) (kC := kC₁) (comp := comp) (cc := cC) X₁ hkA₁ (by rw [heA]; exact hkindA) hkC₁ (by rw [heC]; exact hkindC) hn hk hN hK hb1 hb2 hcells hslots (fun U d' acts' XU hold hsz => ?_)
    simp only [wp_bind', W.mark, W.pushRef, State.topJava?_setTop' _ XU.here.top, Option.some.injEq, exists_eq_left', State.setTop_setTop]
    exact ⟨U, rfl, XU, hold, hsz⟩
  have hrun := (wpRun_iff_run _ _ _ _ _).mp hw
  cases hr : (p.tables.exec (.multianewarray index 2)).run e (T.setTop (F0 m pc ls (.int k :: .int n :: rest))) with
  | ok a s₁ acts =>
    rw [hr] at hrun
    obtain ⟨U, hU, XU, hold, hsz⟩ := hrun
    obtain ⟨t, st, hQ⟩ := fin U XU hold hsz
    refine ⟨t, ?_, hQ⟩
    refine Steps.instr (f := F0 m pc ls (.int k :: .int n :: rest)) (c := c) X.here ?_
    rw [show decode c.code (F0 m pc ls (.int k :: .int n :: rest)).pc = .ok (.multianewarray index 2, 4) from hd2]
    refine (wpRun_iff_run _ _ _ _ _).mpr ?_
    rw [hr]
    intro acts'
    subst hU
    simp [jvm, XU.here.top]
    exact st
  | ctl x s₁ acts =>
    rw [hr] at hrun
    cases x <;> exact False.elim hrun
end MW
end
section
def wq_X1_init : List Cond := .code yX1_init cX1_init 1 none :: ([.methodLink RX1 3 objectInit, .instanceMethod objectInit, .code objectInit ⟨#[0xb1]⟩ 1 none, .arrayClass .int, .fieldLink RX1 9 "RegisterMill$Code" "starts" "[I", .fieldLink RX1 15 "RegisterMill$Code" "sizes" "[I", .fieldLink RX1 18 "RegisterMill$Code" "parts" "[I"] ++ wsX10)
set_option maxHeartbeats 4000000 in
set_option maxRecDepth 100000 in
/-- Code(): three rows -/
theorem c_X1_init (l : Launch) (dC : Nat → ClassId) (dI : Nat → Nat → Nat) (cyI : ClassId) (sz : Nat) (h0 : Nat) : Met l yX1_init wq_X1_init ({ frames := 1, cells := 3, slots := 2024, locals := 12 }) (va_Pc [.ref h0] (pz_pre dC dI [(cyI, .int)] [(h0, .inr (1, [.null, .null, .int 0, .null]))] sz)) (va_Qv (S := Unit) (fun _ => True) (fun _ t => ∃ a_starts a_sizes a_parts : Nat, pz_B dC dI [(cyI, .int)] (va_A [(h0, .inr (1, [.null, .null, .int 0, .null]))] sz) [(h0, .inr (1, [.ref a_starts, .ref a_sizes, .int 0, .ref a_parts]))] t) (va_A [(h0, .inr (1, [.null, .null, .int 0, .null]))] sz)) 3 2024 (va_A [(h0, .inr (1, [.null, .null, .int 0, .null]))] sz) := by
  refine Met.ofW (cc := cX1_init) (maxL := 1) (ret := none) (by decide) rfl ?_
  intro p e s m args below meth c s₁ B hml hv
  obtain ⟨rfl, hsz, hP, hK, hD0, hNW⟩ := hv
  have hx := B.exec
  have hb := B.bytes
  have hr := B.returns
  have hts := atoms_spec (ws := wq_X1_init) B.pre
  have hown : s.vm.findClass RX1 = some m.cls := findClass_of_methodNamed B.named
  have hlocks := B.notSynchronized
  have hin : meth.name = "<init>" := (name_of_methodNamed B.named B.method).1
  have hiX1 : ∀ w ∈ wsX10, w ∈ wq_X1_init := by decide +kernel
  subst hsz
  have hD := hD0.self (sz := s.heap.size)
  generalize hAe : va_A [(h0, .inr (1, [.null, .null, .int 0, .null]))] s.heap.size = A at hD ⊢
  have hA : ∀ q : Nat, s.heap.size ≤ q → A q := fun q h => by rw [← hAe]; exact Or.inr h
  have hS : va_S A s.heap s.heap [] := va_S.rf
  have hl := lv_entry ([.ref h0]) (n := 1) (Nat.le_of_ble_eq_true rfl)
  rw [lg_entry_eq]
  generalize (lg_sl ([.ref h0]) ++ List.replicate (1 - (lg_sl ([.ref h0])).length) Slot.unset).toArray = ls at hl ⊢
  have hl : lv_has ls 1 [(0, .ref h0)] := hl
  refine lv_aload_n hx hb dX1_init_0 rfl (lv_at hl 0 rfl) ?_
  refine W.objInit hx hb hown (hts (.methodLink RX1 3 objectInit) (by decide +kernel)) (hts (.instanceMethod objectInit) (by decide +kernel)) (hts (.code objectInit ⟨#[0xb1]⟩ 1 none) (by decide +kernel)) rfl (by rw [hml]; exact hl.1) rfl dX1_init_1 (Nat.le_of_ble_eq_true rfl) (Nat.le_of_ble_eq_true rfl) ?_
  refine W.eq (g2 := F0 m 4 ls []) rfl ?_
  refine lv_aload_n hx hb dX1_init_4 rfl (lv_at hl 0 rfl) ?_
  refine lv_bipush (v := 12) hx hb dX1_init_5 (by decide) ?_
  refine pz_newd hx hb (hts (.arrayClass .int) (by decide +kernel)) hK hP hD hS hA 12 (by decide) (by decide) (by decide) (by decide) (by decide) dX1_init_7 (fun q_1 H hP hS => ?_)
  refine W.widen (k := 1) (n := 12) (by omega) (by omega) ?_
  refine va_putF (D := (dC, dI)) (ci := 1) (v := .ref q_1) (ty := .array .int) (C := RX1) (T := TX1) (N := 4) hx hb hts hiX1 tyX1 tyX1_ok nmX1 hown hK hP hD hS 0 rfl rfl 0 (by decide) (hts (.fieldLink RX1 9 "RegisterMill$Code" "starts" "[I") (by decide +kernel)) (fun _ h9 => h9) rfl hin rfl (by decide +kernel) rfl rfl (Nat.le_of_ble_eq_true rfl) dX1_init_9 (fun H locs hP hD hS => ?_)
  have hP : va_P (dC, dI) vwCl [(h0, .inr (1, [.ref q_1, .null, .int 0, .null]))] H := hP
  have hD : va_D A [(h0, .inr (1, [.ref q_1, .null, .int 0, .null]))] := hD
  refine lv_aload_n hx hb dX1_init_12 rfl (lv_at hl 0 rfl) ?_
  refine lv_bipush (v := 12) hx hb dX1_init_13 (by decide) ?_
  refine pz_newd hx hb (hts (.arrayClass .int) (by decide +kernel)) hK hP hD hS hA 12 (by decide) (by decide) (by decide) (by decide) (by decide) dX1_init_15 (fun q_2 H hP hS => ?_)
  refine W.widen (k := 2) (n := 24) (by omega) (by omega) ?_
  refine va_putF (D := (dC, dI)) (ci := 1) (v := .ref q_2) (ty := .array .int) (C := RX1) (T := TX1) (N := 4) hx hb hts hiX1 tyX1 tyX1_ok nmX1 hown hK hP hD hS 0 rfl rfl 1 (by decide) (hts (.fieldLink RX1 15 "RegisterMill$Code" "sizes" "[I") (by decide +kernel)) (fun _ h9 => h9) rfl hin rfl (by decide +kernel) rfl rfl (Nat.le_of_ble_eq_true rfl) dX1_init_17 (fun H locs hP hD hS => ?_)
  have hP : va_P (dC, dI) vwCl [(h0, .inr (1, [.ref q_1, .ref q_2, .int 0, .null]))] H := hP
  have hD : va_D A [(h0, .inr (1, [.ref q_1, .ref q_2, .int 0, .null]))] := hD
  refine lv_aload_n hx hb dX1_init_20 rfl (lv_at hl 0 rfl) ?_
  refine lv_sipush (v := 2000) hx hb dX1_init_21 (by decide) ?_
  refine pz_newd hx hb (hts (.arrayClass .int) (by decide +kernel)) hK hP hD hS hA 2000 (by decide) (by decide) (by decide) (by decide) (by decide) dX1_init_24 (fun q_3 H hP hS => ?_)
  refine W.widen (k := 3) (n := 2024) (by omega) (by omega) ?_
  refine va_put (D := (dC, dI)) (ci := 1) (v := .ref q_3) (ty := .array .int) (C := RX1) (T := TX1) (N := 4) hx hb hts hiX1 tyX1 tyX1_ok nmX1 hown hK hP hD hS 0 rfl rfl 3 (by decide) (hts (.fieldLink RX1 18 "RegisterMill$Code" "parts" "[I") (by decide +kernel)) (fun _ h9 => h9) rfl (by decide +kernel) rfl rfl (Nat.le_of_ble_eq_true rfl) dX1_init_26 (fun H locs hP hD hS => ?_)
  have hP : va_P (dC, dI) vwCl [(h0, .inr (1, [.ref q_1, .ref q_2, .int 0, .ref q_3]))] H := hP
  have hD : va_D A [(h0, .inr (1, [.ref q_1, .ref q_2, .int 0, .ref q_3]))] := hD
  refine W.widen (k := 3) (n := 2024) (by decide) (by decide) ?_
  have hP9 := hP.sub (ws' := [(h0, .inr (1, [.ref q_1, .ref q_2, .int 0, .ref q_3]))]) [0] rfl
  have hD9 := hD.sub (ws' := [(h0, .inr (1, [.ref q_1, .ref q_2, .int 0, .ref q_3]))]) [0] (by decide) rfl
  exact W.vret hx hb hr (fun t ht hW => ⟨⟨(), rfl, trivial, ⟨q_1, q_2, q_3, pz_Bof hP9 hK hD9 ht hW⟩⟩, hS.F ht⟩) hS.2.2 dX1_init_29

def wq_X2_init : List Cond := .code yX2_init cX2_init 1 none :: ([.methodLink RX2 3 objectInit, .instanceMethod objectInit, .code objectInit ⟨#[0xb1]⟩ 1 none, .arrayClass .int, .fieldLink RX2 9 "RegisterMill$Homes" "firsts" "[I", .fieldLink RX2 15 "RegisterMill$Homes" "lasts" "[I", .fieldLink RX2 18 "RegisterMill$Homes" "registers" "[I", .fieldLink RX2 21 "RegisterMill$Homes" "slotNumbers" "[I", .fieldLink RX2 24 "RegisterMill$Homes" "slotCounts" "[I", .fieldLink RX2 27 "RegisterMill$Homes" "holders" "[I"] ++ wsX20)
set_option maxHeartbeats 4000000 in
set_option maxRecDepth 100000 in
/-- Homes(): six rows -/
theorem c_X2_init (l : Launch) (dC : Nat → ClassId) (dI : Nat → Nat → Nat) (cyI : ClassId) (sz : Nat) (h0 : Nat) : Met l yX2_init wq_X2_init ({ frames := 1, cells := 6, slots := 1084, locals := 12 }) (va_Pc [.ref h0] (pz_pre dC dI [(cyI, .int)] [(h0, .inr (2, [.null, .null, .null, .null, .null, .null]))] sz)) (va_Qv (S := Unit) (fun _ => True) (fun _ t => ∃ a_firsts a_lasts a_registers a_slotNumbers a_slotCounts a_holders : Nat, pz_B dC dI [(cyI, .int)] (va_A [(h0, .inr (2, [.null, .null, .null, .null, .null, .null]))] sz) [(h0, .inr (2, [.ref a_firsts, .ref a_lasts, .ref a_registers, .ref a_slotNumbers, .ref a_slotCounts, .ref a_holders]))] t) (va_A [(h0, .inr (2, [.null, .null, .null, .null, .null, .null]))] sz)) 6 1084 (va_A [(h0, .inr (2, [.null, .null, .null, .null, .null, .null]))] sz) := by
  refine Met.ofW (cc := cX2_init) (maxL := 1) (ret := none) (by decide) rfl ?_
  intro p e s m args below meth c s₁ B hml hv
  obtain ⟨rfl, hsz, hP, hK, hD0, hNW⟩ := hv
  have hx := B.exec
  have hb := B.bytes
  have hr := B.returns
  have hts := atoms_spec (ws := wq_X2_init) B.pre
  have hown : s.vm.findClass RX2 = some m.cls := findClass_of_methodNamed B.named
  have hlocks := B.notSynchronized
  have hin : meth.name = "<init>" := (name_of_methodNamed B.named B.method).1
  have hiX2 : ∀ w ∈ wsX20, w ∈ wq_X2_init := by decide +kernel
  subst hsz
  have hD := hD0.self (sz := s.heap.size)
  generalize hAe : va_A [(h0, .inr (2, [.null, .null, .null, .null, .null, .null]))] s.heap.size = A at hD ⊢
  have hA : ∀ q : Nat, s.heap.size ≤ q → A q := fun q h => by rw [← hAe]; exact Or.inr h
  have hS : va_S A s.heap s.heap [] := va_S.rf
  have hl := lv_entry ([.ref h0]) (n := 1) (Nat.le_of_ble_eq_true rfl)
  rw [lg_entry_eq]
  generalize (lg_sl ([.ref h0]) ++ List.replicate (1 - (lg_sl ([.ref h0])).length) Slot.unset).toArray = ls at hl ⊢
  have hl : lv_has ls 1 [(0, .ref h0)] := hl
  refine lv_aload_n hx hb dX2_init_0 rfl (lv_at hl 0 rfl) ?_
  refine W.objInit hx hb hown (hts (.methodLink RX2 3 objectInit) (by decide +kernel)) (hts (.instanceMethod objectInit) (by decide +kernel)) (hts (.code objectInit ⟨#[0xb1]⟩ 1 none) (by decide +kernel)) rfl (by rw [hml]; exact hl.1) rfl dX2_init_1 (Nat.le_of_ble_eq_true rfl) (Nat.le_of_ble_eq_true rfl) ?_
  refine W.eq (g2 := F0 m 4 ls []) rfl ?_
  refine lv_aload_n hx hb dX2_init_4 rfl (lv_at hl 0 rfl) ?_
  refine lv_sipush (v := 264) hx hb dX2_init_5 (by decide) ?_
  refine pz_newd hx hb (hts (.arrayClass .int) (by decide +kernel)) hK hP hD hS hA 264 (by decide) (by decide) (by decide) (by decide) (by decide) dX2_init_8 (fun q_1 H hP hS => ?_)
  refine W.widen (k := 1) (n := 264) (by omega) (by omega) ?_
  refine va_putF (D := (dC, dI)) (ci := 2) (v := .ref q_1) (ty := .array .int) (C := RX2) (T := TX2) (N := 6) hx hb hts hiX2 tyX2 tyX2_ok nmX2 hown hK hP hD hS 0 rfl rfl 0 (by decide) (hts (.fieldLink RX2 9 "RegisterMill$Homes" "firsts" "[I") (by decide +kernel)) (fun _ h9 => h9) rfl hin rfl (by decide +kernel) rfl rfl (Nat.le_of_ble_eq_true rfl) dX2_init_10 (fun H locs hP hD hS => ?_)
  have hP : va_P (dC, dI) vwCl [(h0, .inr (2, [.ref q_1, .null, .null, .null, .null, .null]))] H := hP
  have hD : va_D A [(h0, .inr (2, [.ref q_1, .null, .null, .null, .null, .null]))] := hD
  refine lv_aload_n hx hb dX2_init_13 rfl (lv_at hl 0 rfl) ?_
  refine lv_sipush (v := 264) hx hb dX2_init_14 (by decide) ?_
  refine pz_newd hx hb (hts (.arrayClass .int) (by decide +kernel)) hK hP hD hS hA 264 (by decide) (by decide) (by decide) (by decide) (by decide) dX2_init_17 (fun q_2 H hP hS => ?_)
  refine W.widen (k := 2) (n := 528) (by omega) (by omega) ?_
  refine va_putF (D := (dC, dI)) (ci := 2) (v := .ref q_2) (ty := .array .int) (C := RX2) (T := TX2) (N := 6) hx hb hts hiX2 tyX2 tyX2_ok nmX2 hown hK hP hD hS 0 rfl rfl 1 (by decide) (hts (.fieldLink RX2 15 "RegisterMill$Homes" "lasts" "[I") (by decide +kernel)) (fun _ h9 => h9) rfl hin rfl (by decide +kernel) rfl rfl (Nat.le_of_ble_eq_true rfl) dX2_init_19 (fun H locs hP hD hS => ?_)
  have hP : va_P (dC, dI) vwCl [(h0, .inr (2, [.ref q_1, .ref q_2, .null, .null, .null, .null]))] H := hP
  have hD : va_D A [(h0, .inr (2, [.ref q_1, .ref q_2, .null, .null, .null, .null]))] := hD
  refine lv_aload_n hx hb dX2_init_22 rfl (lv_at hl 0 rfl) ?_
  refine lv_sipush (v := 264) hx hb dX2_init_23 (by decide) ?_
  refine pz_newd hx hb (hts (.arrayClass .int) (by decide +kernel)) hK hP hD hS hA 264 (by decide) (by decide) (by decide) (by decide) (by decide) dX2_init_26 (fun q_3 H hP hS => ?_)
  refine W.widen (k := 3) (n := 792) (by omega) (by omega) ?_
  refine va_putF (D := (dC, dI)) (ci := 2) (v := .ref q_3) (ty := .array .int) (C := RX2) (T := TX2) (N := 6) hx hb hts hiX2 tyX2 tyX2_ok nmX2 hown hK hP hD hS 0 rfl rfl 2 (by decide) (hts (.fieldLink RX2 18 "RegisterMill$Homes" "registers" "[I") (by decide +kernel)) (fun _ h9 => h9) rfl hin rfl (by decide +kernel) rfl rfl (Nat.le_of_ble_eq_true rfl) dX2_init_28 (fun H locs hP hD hS => ?_)
  have hP : va_P (dC, dI) vwCl [(h0, .inr (2, [.ref q_1, .ref q_2, .ref q_3, .null, .null, .null]))] H := hP
  have hD : va_D A [(h0, .inr (2, [.ref q_1, .ref q_2, .ref q_3, .null, .null, .null]))] := hD
  refine lv_aload_n hx hb dX2_init_31 rfl (lv_at hl 0 rfl) ?_
  refine lv_sipush (v := 264) hx hb dX2_init_32 (by decide) ?_
  refine pz_newd hx hb (hts (.arrayClass .int) (by decide +kernel)) hK hP hD hS hA 264 (by decide) (by decide) (by decide) (by decide) (by decide) dX2_init_35 (fun q_4 H hP hS => ?_)
  refine W.widen (k := 4) (n := 1056) (by omega) (by omega) ?_
  refine va_putF (D := (dC, dI)) (ci := 2) (v := .ref q_4) (ty := .array .int) (C := RX2) (T := TX2) (N := 6) hx hb hts hiX2 tyX2 tyX2_ok nmX2 hown hK hP hD hS 0 rfl rfl 3 (by decide) (hts (.fieldLink RX2 21 "RegisterMill$Homes" "slotNumbers" "[I") (by decide +kernel)) (fun _ h9 => h9) rfl hin rfl (by decide +kernel) rfl rfl (Nat.le_of_ble_eq_true rfl) dX2_init_37 (fun H locs hP hD hS => ?_)
  have hP : va_P (dC, dI) vwCl [(h0, .inr (2, [.ref q_1, .ref q_2, .ref q_3, .ref q_4, .null, .null]))] H := hP
  have hD : va_D A [(h0, .inr (2, [.ref q_1, .ref q_2, .ref q_3, .ref q_4, .null, .null]))] := hD
  refine lv_aload_n hx hb dX2_init_40 rfl (lv_at hl 0 rfl) ?_
  refine lv_bipush (v := 12) hx hb dX2_init_41 (by decide) ?_
  refine pz_newd hx hb (hts (.arrayClass .int) (by decide +kernel)) hK hP hD hS hA 12 (by decide) (by decide) (by decide) (by decide) (by decide) dX2_init_43 (fun q_5 H hP hS => ?_)
  refine W.widen (k := 5) (n := 1068) (by omega) (by omega) ?_
  refine va_putF (D := (dC, dI)) (ci := 2) (v := .ref q_5) (ty := .array .int) (C := RX2) (T := TX2) (N := 6) hx hb hts hiX2 tyX2 tyX2_ok nmX2 hown hK hP hD hS 0 rfl rfl 4 (by decide) (hts (.fieldLink RX2 24 "RegisterMill$Homes" "slotCounts" "[I") (by decide +kernel)) (fun _ h9 => h9) rfl hin rfl (by decide +kernel) rfl rfl (Nat.le_of_ble_eq_true rfl) dX2_init_45 (fun H locs hP hD hS => ?_)
  have hP : va_P (dC, dI) vwCl [(h0, .inr (2, [.ref q_1, .ref q_2, .ref q_3, .ref q_4, .ref q_5, .null]))] H := hP
  have hD : va_D A [(h0, .inr (2, [.ref q_1, .ref q_2, .ref q_3, .ref q_4, .ref q_5, .null]))] := hD
  refine lv_aload_n hx hb dX2_init_48 rfl (lv_at hl 0 rfl) ?_
  refine lv_bipush (v := 16) hx hb dX2_init_49 (by decide) ?_
  refine pz_newd hx hb (hts (.arrayClass .int) (by decide +kernel)) hK hP hD hS hA 16 (by decide) (by decide) (by decide) (by decide) (by decide) dX2_init_51 (fun q_6 H hP hS => ?_)
  refine W.widen (k := 6) (n := 1084) (by omega) (by omega) ?_
  refine va_putF (D := (dC, dI)) (ci := 2) (v := .ref q_6) (ty := .array .int) (C := RX2) (T := TX2) (N := 6) hx hb hts hiX2 tyX2 tyX2_ok nmX2 hown hK hP hD hS 0 rfl rfl 5 (by decide) (hts (.fieldLink RX2 27 "RegisterMill$Homes" "holders" "[I") (by decide +kernel)) (fun _ h9 => h9) rfl hin rfl (by decide +kernel) rfl rfl (Nat.le_of_ble_eq_true rfl) dX2_init_53 (fun H locs hP hD hS => ?_)
  have hP : va_P (dC, dI) vwCl [(h0, .inr (2, [.ref q_1, .ref q_2, .ref q_3, .ref q_4, .ref q_5, .ref q_6]))] H := hP
  have hD : va_D A [(h0, .inr (2, [.ref q_1, .ref q_2, .ref q_3, .ref q_4, .ref q_5, .ref q_6]))] := hD
  refine W.widen (k := 6) (n := 1084) (by decide) (by decide) ?_
  have hP9 := hP.sub (ws' := [(h0, .inr (2, [.ref q_1, .ref q_2, .ref q_3, .ref q_4, .ref q_5, .ref q_6]))]) [0] rfl
  have hD9 := hD.sub (ws' := [(h0, .inr (2, [.ref q_1, .ref q_2, .ref q_3, .ref q_4, .ref q_5, .ref q_6]))]) [0] (by decide) rfl
  exact W.vret hx hb hr (fun t ht hW => ⟨⟨(), rfl, trivial, ⟨q_1, q_2, q_3, q_4, q_5, q_6, pz_Bof hP9 hK hD9 ht hW⟩⟩, hS.F ht⟩) hS.2.2 dX2_init_56

def wq_X3_init : List Cond := .code yX3_init cX3_init 1 none :: ([.methodLink RX3 3 objectInit, .instanceMethod objectInit, .code objectInit ⟨#[0xb1]⟩ 1 none, .arrayClass .int, .fieldLink RX3 9 "RegisterMill$Live" "ahead" "[I", .fieldLink RX3 15 "RegisterMill$Live" "behind" "[I"] ++ wsX30)
set_option maxHeartbeats 4000000 in
set_option maxRecDepth 100000 in
/-- Live(): two rows -/
theorem c_X3_init (l : Launch) (dC : Nat → ClassId) (dI : Nat → Nat → Nat) (cyI : ClassId) (sz : Nat) (h0 : Nat) : Met l yX3_init wq_X3_init ({ frames := 1, cells := 2, slots := 600, locals := 12 }) (va_Pc [.ref h0] (pz_pre dC dI [(cyI, .int)] [(h0, .inr (3, [.null, .null]))] sz)) (va_Qv (S := Unit) (fun _ => True) (fun _ t => ∃ a_ahead a_behind : Nat, pz_B dC dI [(cyI, .int)] (va_A [(h0, .inr (3, [.null, .null]))] sz) [(h0, .inr (3, [.ref a_ahead, .ref a_behind]))] t) (va_A [(h0, .inr (3, [.null, .null]))] sz)) 2 600 (va_A [(h0, .inr (3, [.null, .null]))] sz) := by
  refine Met.ofW (cc := cX3_init) (maxL := 1) (ret := none) (by decide) rfl ?_
  intro p e s m args below meth c s₁ B hml hv
  obtain ⟨rfl, hsz, hP, hK, hD0, hNW⟩ := hv
  have hx := B.exec
  have hb := B.bytes
  have hr := B.returns
  have hts := atoms_spec (ws := wq_X3_init) B.pre
  have hown : s.vm.findClass RX3 = some m.cls := findClass_of_methodNamed B.named
  have hlocks := B.notSynchronized
  have hin : meth.name = "<init>" := (name_of_methodNamed B.named B.method).1
  have hiX3 : ∀ w ∈ wsX30, w ∈ wq_X3_init := by decide +kernel
  subst hsz
  have hD := hD0.self (sz := s.heap.size)
  generalize hAe : va_A [(h0, .inr (3, [.null, .null]))] s.heap.size = A at hD ⊢
  have hA : ∀ q : Nat, s.heap.size ≤ q → A q := fun q h => by rw [← hAe]; exact Or.inr h
  have hS : va_S A s.heap s.heap [] := va_S.rf
  have hl := lv_entry ([.ref h0]) (n := 1) (Nat.le_of_ble_eq_true rfl)
  rw [lg_entry_eq]
  generalize (lg_sl ([.ref h0]) ++ List.replicate (1 - (lg_sl ([.ref h0])).length) Slot.unset).toArray = ls at hl ⊢
  have hl : lv_has ls 1 [(0, .ref h0)] := hl
  refine lv_aload_n hx hb dX3_init_0 rfl (lv_at hl 0 rfl) ?_
  refine W.objInit hx hb hown (hts (.methodLink RX3 3 objectInit) (by decide +kernel)) (hts (.instanceMethod objectInit) (by decide +kernel)) (hts (.code objectInit ⟨#[0xb1]⟩ 1 none) (by decide +kernel)) rfl (by rw [hml]; exact hl.1) rfl dX3_init_1 (Nat.le_of_ble_eq_true rfl) (Nat.le_of_ble_eq_true rfl) ?_
  refine W.eq (g2 := F0 m 4 ls []) rfl ?_
  refine lv_aload_n hx hb dX3_init_4 rfl (lv_at hl 0 rfl) ?_
  refine lv_sipush (v := 300) hx hb dX3_init_5 (by decide) ?_
  refine pz_newd hx hb (hts (.arrayClass .int) (by decide +kernel)) hK hP hD hS hA 300 (by decide) (by decide) (by decide) (by decide) (by decide) dX3_init_8 (fun q_1 H hP hS => ?_)
  refine W.widen (k := 1) (n := 300) (by omega) (by omega) ?_
  refine va_putF (D := (dC, dI)) (ci := 3) (v := .ref q_1) (ty := .array .int) (C := RX3) (T := TX3) (N := 2) hx hb hts hiX3 tyX3 tyX3_ok nmX3 hown hK hP hD hS 0 rfl rfl 0 (by decide) (hts (.fieldLink RX3 9 "RegisterMill$Live" "ahead" "[I") (by decide +kernel)) (fun _ h9 => h9) rfl hin rfl (by decide +kernel) rfl rfl (Nat.le_of_ble_eq_true rfl) dX3_init_10 (fun H locs hP hD hS => ?_)
  have hP : va_P (dC, dI) vwCl [(h0, .inr (3, [.ref q_1, .null]))] H := hP
  have hD : va_D A [(h0, .inr (3, [.ref q_1, .null]))] := hD
  refine lv_aload_n hx hb dX3_init_13 rfl (lv_at hl 0 rfl) ?_
  refine lv_sipush (v := 300) hx hb dX3_init_14 (by decide) ?_
  refine pz_newd hx hb (hts (.arrayClass .int) (by decide +kernel)) hK hP hD hS hA 300 (by decide) (by decide) (by decide) (by decide) (by decide) dX3_init_17 (fun q_2 H hP hS => ?_)
  refine W.widen (k := 2) (n := 600) (by omega) (by omega) ?_
  refine va_putF (D := (dC, dI)) (ci := 3) (v := .ref q_2) (ty := .array .int) (C := RX3) (T := TX3) (N := 2) hx hb hts hiX3 tyX3 tyX3_ok nmX3 hown hK hP hD hS 0 rfl rfl 1 (by decide) (hts (.fieldLink RX3 15 "RegisterMill$Live" "behind" "[I") (by decide +kernel)) (fun _ h9 => h9) rfl hin rfl (by decide +kernel) rfl rfl (Nat.le_of_ble_eq_true rfl) dX3_init_19 (fun H locs hP hD hS => ?_)
  have hP : va_P (dC, dI) vwCl [(h0, .inr (3, [.ref q_1, .ref q_2]))] H := hP
  have hD : va_D A [(h0, .inr (3, [.ref q_1, .ref q_2]))] := hD
  refine W.widen (k := 2) (n := 600) (by decide) (by decide) ?_
  have hP9 := hP.sub (ws' := [(h0, .inr (3, [.ref q_1, .ref q_2]))]) [0] rfl
  have hD9 := hD.sub (ws' := [(h0, .inr (3, [.ref q_1, .ref q_2]))]) [0] (by decide) rfl
  exact W.vret hx hb hr (fun t ht hW => ⟨⟨(), rfl, trivial, ⟨q_1, q_2, pz_Bof hP9 hK hD9 ht hW⟩⟩, hS.F ht⟩) hS.2.2 dX3_init_22

def wq_X5_init : List Cond := .code yX5_init cX5_init 1 none :: ([.methodLink RX5 3 objectInit, .instanceMethod objectInit, .code objectInit ⟨#[0xb1]⟩ 1 none, .arrayClass .int, .fieldLink RX5 9 "RegisterMill$Places" "kinds" "[I", .fieldLink RX5 15 "RegisterMill$Places" "numbers" "[I", .fieldLink RX5 18 "RegisterMill$Places" "goals" "[I", .fieldLink RX5 21 "RegisterMill$Places" "written" "[I", .fieldLink RX5 24 "RegisterMill$Places" "readCounts" "[I", .classLink RX5 27 "[[I", .fieldLink RX5 29 "RegisterMill$Places" "reads" "[[I", .fieldLink RX5 32 "RegisterMill$Places" "newNumbers" "[I", .arrayClass .boolean, .fieldLink RX5 35 "RegisterMill$Places" "blockStarts" "[Z", .fieldLink RX5 39 "RegisterMill$Places" "copyOf" "[I"] ++ wsX50)
set_option maxHeartbeats 4000000 in
set_option maxRecDepth 100000 in
/-- Places(): its rows, and six rows in one -/
theorem c_X5_init (l : Launch) (dC : Nat → ClassId) (dI : Nat → Nat → Nat) (cyI : ClassId) (sz : Nat) (h0 : Nat) : Met l yX5_init wq_X5_init ({ frames := 1, cells := 15, slots := 3928, locals := 12 }) (va_Pc [.ref h0] (pz_pre dC dI [(cyI, .int)] [(h0, .inr (4, [.null, .null, .null, .null, .null, .null, .int 0, .null, .null, .null]))] sz)) (va_Qv (S := Unit) (fun _ => True) (fun _ t => ∃ a_kinds a_numbers a_goals a_written a_readCounts a_reads a_newNumbers a_blockStarts a_copyOf : Nat, pz_B dC dI [(cyI, .int)] (va_A [(h0, .inr (4, [.null, .null, .null, .null, .null, .null, .int 0, .null, .null, .null]))] sz) [(h0, .inr (4, [.ref a_kinds, .ref a_numbers, .ref a_goals, .ref a_written, .ref a_readCounts, .ref a_reads, .int 0, .ref a_newNumbers, .ref a_blockStarts, .ref a_copyOf]))] t) (va_A [(h0, .inr (4, [.null, .null, .null, .null, .null, .null, .int 0, .null, .null, .null]))] sz)) 15 3928 (va_A [(h0, .inr (4, [.null, .null, .null, .null, .null, .null, .int 0, .null, .null, .null]))] sz) := by
  refine Met.ofW (cc := cX5_init) (maxL := 1) (ret := none) (by decide) rfl ?_
  intro p e s m args below meth c s₁ B hml hv
  obtain ⟨rfl, hsz, hP, hK, hD0, hNW⟩ := hv
  have hx := B.exec
  have hb := B.bytes
  have hr := B.returns
  have hts := atoms_spec (ws := wq_X5_init) B.pre
  have hown : s.vm.findClass RX5 = some m.cls := findClass_of_methodNamed B.named
  have hlocks := B.notSynchronized
  have hin : meth.name = "<init>" := (name_of_methodNamed B.named B.method).1
  have hiX5 : ∀ w ∈ wsX50, w ∈ wq_X5_init := by decide +kernel
  subst hsz
  have hD := hD0.self (sz := s.heap.size)
  generalize hAe : va_A [(h0, .inr (4, [.null, .null, .null, .null, .null, .null, .int 0, .null, .null, .null]))] s.heap.size = A at hD ⊢
  have hA : ∀ q : Nat, s.heap.size ≤ q → A q := fun q h => by rw [← hAe]; exact Or.inr h
  have hS : va_S A s.heap s.heap [] := va_S.rf
  have hl := lv_entry ([.ref h0]) (n := 1) (Nat.le_of_ble_eq_true rfl)
  rw [lg_entry_eq]
  generalize (lg_sl ([.ref h0]) ++ List.replicate (1 - (lg_sl ([.ref h0])).length) Slot.unset).toArray = ls at hl ⊢
  have hl : lv_has ls 1 [(0, .ref h0)] := hl
  refine lv_aload_n hx hb dX5_init_0 rfl (lv_at hl 0 rfl) ?_
  refine W.objInit hx hb hown (hts (.methodLink RX5 3 objectInit) (by decide +kernel)) (hts (.instanceMethod objectInit) (by decide +kernel)) (hts (.code objectInit ⟨#[0xb1]⟩ 1 none) (by decide +kernel)) rfl (by rw [hml]; exact hl.1) rfl dX5_init_1 (Nat.le_of_ble_eq_true rfl) (Nat.le_of_ble_eq_true rfl) ?_
  refine W.eq (g2 := F0 m 4 ls []) rfl ?_
  refine lv_aload_n hx hb dX5_init_4 rfl (lv_at hl 0 rfl) ?_
  refine lv_sipush (v := 300) hx hb dX5_init_5 (by decide) ?_
  refine pz_newd hx hb (hts (.arrayClass .int) (by decide +kernel)) hK hP hD hS hA 300 (by decide) (by decide) (by decide) (by decide) (by decide) dX5_init_8 (fun q_1 H hP hS => ?_)
  refine W.widen (k := 1) (n := 300) (by omega) (by omega) ?_
  refine va_putF (D := (dC, dI)) (ci := 4) (v := .ref q_1) (ty := .array .int) (C := RX5) (T := TX5) (N := 10) hx hb hts hiX5 tyX5 tyX5_ok nmX5 hown hK hP hD hS 0 rfl rfl 0 (by decide) (hts (.fieldLink RX5 9 "RegisterMill$Places" "kinds" "[I") (by decide +kernel)) (fun _ h9 => h9) rfl hin rfl (by decide +kernel) rfl rfl (Nat.le_of_ble_eq_true rfl) dX5_init_10 (fun H locs hP hD hS => ?_)
  have hP : va_P (dC, dI) vwCl [(h0, .inr (4, [.ref q_1, .null, .null, .null, .null, .null, .int 0, .null, .null, .null]))] H := hP
  have hD : va_D A [(h0, .inr (4, [.ref q_1, .null, .null, .null, .null, .null, .int 0, .null, .null, .null]))] := hD
  refine lv_aload_n hx hb dX5_init_13 rfl (lv_at hl 0 rfl) ?_
  refine lv_sipush (v := 300) hx hb dX5_init_14 (by decide) ?_
  refine pz_newd hx hb (hts (.arrayClass .int) (by decide +kernel)) hK hP hD hS hA 300 (by decide) (by decide) (by decide) (by decide) (by decide) dX5_init_17 (fun q_2 H hP hS => ?_)
  refine W.widen (k := 2) (n := 600) (by omega) (by omega) ?_
  refine va_putF (D := (dC, dI)) (ci := 4) (v := .ref q_2) (ty := .array .int) (C := RX5) (T := TX5) (N := 10) hx hb hts hiX5 tyX5 tyX5_ok nmX5 hown hK hP hD hS 0 rfl rfl 1 (by decide) (hts (.fieldLink RX5 15 "RegisterMill$Places" "numbers" "[I") (by decide +kernel)) (fun _ h9 => h9) rfl hin rfl (by decide +kernel) rfl rfl (Nat.le_of_ble_eq_true rfl) dX5_init_19 (fun H locs hP hD hS => ?_)
  have hP : va_P (dC, dI) vwCl [(h0, .inr (4, [.ref q_1, .ref q_2, .null, .null, .null, .null, .int 0, .null, .null, .null]))] H := hP
  have hD : va_D A [(h0, .inr (4, [.ref q_1, .ref q_2, .null, .null, .null, .null, .int 0, .null, .null, .null]))] := hD
  refine lv_aload_n hx hb dX5_init_22 rfl (lv_at hl 0 rfl) ?_
  refine lv_sipush (v := 300) hx hb dX5_init_23 (by decide) ?_
  refine pz_newd hx hb (hts (.arrayClass .int) (by decide +kernel)) hK hP hD hS hA 300 (by decide) (by decide) (by decide) (by decide) (by decide) dX5_init_26 (fun q_3 H hP hS => ?_)
  refine W.widen (k := 3) (n := 900) (by omega) (by omega) ?_
  refine va_putF (D := (dC, dI)) (ci := 4) (v := .ref q_3) (ty := .array .int) (C := RX5) (T := TX5) (N := 10) hx hb hts hiX5 tyX5 tyX5_ok nmX5 hown hK hP hD hS 0 rfl rfl 2 (by decide) (hts (.fieldLink RX5 18 "RegisterMill$Places" "goals" "[I") (by decide +kernel)) (fun _ h9 => h9) rfl hin rfl (by decide +kernel) rfl rfl (Nat.le_of_ble_eq_true rfl) dX5_init_28 (fun H locs hP hD hS => ?_)
  have hP : va_P (dC, dI) vwCl [(h0, .inr (4, [.ref q_1, .ref q_2, .ref q_3, .null, .null, .null, .int 0, .null, .null, .null]))] H := hP
  have hD : va_D A [(h0, .inr (4, [.ref q_1, .ref q_2, .ref q_3, .null, .null, .null, .int 0, .null, .null, .null]))] := hD
  refine lv_aload_n hx hb dX5_init_31 rfl (lv_at hl 0 rfl) ?_
  refine lv_sipush (v := 300) hx hb dX5_init_32 (by decide) ?_
  refine pz_newd hx hb (hts (.arrayClass .int) (by decide +kernel)) hK hP hD hS hA 300 (by decide) (by decide) (by decide) (by decide) (by decide) dX5_init_35 (fun q_4 H hP hS => ?_)
  refine W.widen (k := 4) (n := 1200) (by omega) (by omega) ?_
  refine va_putF (D := (dC, dI)) (ci := 4) (v := .ref q_4) (ty := .array .int) (C := RX5) (T := TX5) (N := 10) hx hb hts hiX5 tyX5 tyX5_ok nmX5 hown hK hP hD hS 0 rfl rfl 3 (by decide) (hts (.fieldLink RX5 21 "RegisterMill$Places" "written" "[I") (by decide +kernel)) (fun _ h9 => h9) rfl hin rfl (by decide +kernel) rfl rfl (Nat.le_of_ble_eq_true rfl) dX5_init_37 (fun H locs hP hD hS => ?_)
  have hP : va_P (dC, dI) vwCl [(h0, .inr (4, [.ref q_1, .ref q_2, .ref q_3, .ref q_4, .null, .null, .int 0, .null, .null, .null]))] H := hP
  have hD : va_D A [(h0, .inr (4, [.ref q_1, .ref q_2, .ref q_3, .ref q_4, .null, .null, .int 0, .null, .null, .null]))] := hD
  refine lv_aload_n hx hb dX5_init_40 rfl (lv_at hl 0 rfl) ?_
  refine lv_sipush (v := 300) hx hb dX5_init_41 (by decide) ?_
  refine pz_newd hx hb (hts (.arrayClass .int) (by decide +kernel)) hK hP hD hS hA 300 (by decide) (by decide) (by decide) (by decide) (by decide) dX5_init_44 (fun q_5 H hP hS => ?_)
  refine W.widen (k := 5) (n := 1500) (by omega) (by omega) ?_
  refine va_putF (D := (dC, dI)) (ci := 4) (v := .ref q_5) (ty := .array .int) (C := RX5) (T := TX5) (N := 10) hx hb hts hiX5 tyX5 tyX5_ok nmX5 hown hK hP hD hS 0 rfl rfl 4 (by decide) (hts (.fieldLink RX5 24 "RegisterMill$Places" "readCounts" "[I") (by decide +kernel)) (fun _ h9 => h9) rfl hin rfl (by decide +kernel) rfl rfl (Nat.le_of_ble_eq_true rfl) dX5_init_46 (fun H locs hP hD hS => ?_)
  have hP : va_P (dC, dI) vwCl [(h0, .inr (4, [.ref q_1, .ref q_2, .ref q_3, .ref q_4, .ref q_5, .null, .int 0, .null, .null, .null]))] H := hP
  have hD : va_D A [(h0, .inr (4, [.ref q_1, .ref q_2, .ref q_3, .ref q_4, .ref q_5, .null, .int 0, .null, .null, .null]))] := hD
  refine lv_aload_n hx hb dX5_init_49 rfl (lv_at hl 0 rfl) ?_
  refine lv_bipush (v := 6) hx hb dX5_init_50 (by decide) ?_
  refine lv_sipush (v := 300) hx hb dX5_init_52 (by decide) ?_
  refine mz_multi (n := 6) (k := 300) (N := 6) (K := 300) hx hb hown (hts (.classLink RX5 27 "[[I") (by decide +kernel)) hNW.1 (hts (.arrayClass .int) (by decide +kernel)) hP hD hS hA (by decide) (by decide) (by decide) (by decide) (by decide) (by decide) (by decide) (by decide) dX5_init_55 (fun q_6 H hP hD hS => ?_)
  have hP : va_P (dC, dI) vwCl [(h0, .inr (4, [.ref q_1, .ref q_2, .ref q_3, .ref q_4, .ref q_5, .null, .int 0, .null, .null, .null]))] H := hP
  have hD : va_D A [(h0, .inr (4, [.ref q_1, .ref q_2, .ref q_3, .ref q_4, .ref q_5, .null, .int 0, .null, .null, .null]))] := hD
  refine W.widen (k := 12) (n := 3306) (by omega) (by omega) ?_
  refine va_putF (D := (dC, dI)) (ci := 4) (v := .ref q_6) (ty := .array (.array .int)) (C := RX5) (T := TX5) (N := 10) hx hb hts hiX5 tyX5 tyX5_ok nmX5 hown hK hP hD hS 0 rfl rfl 5 (by decide) (hts (.fieldLink RX5 29 "RegisterMill$Places" "reads" "[[I") (by decide +kernel)) (fun _ h9 => h9) rfl hin rfl (by decide +kernel) rfl rfl (Nat.le_of_ble_eq_true rfl) dX5_init_59 (fun H locs hP hD hS => ?_)
  have hP : va_P (dC, dI) vwCl [(h0, .inr (4, [.ref q_1, .ref q_2, .ref q_3, .ref q_4, .ref q_5, .ref q_6, .int 0, .null, .null, .null]))] H := hP
  have hD : va_D A [(h0, .inr (4, [.ref q_1, .ref q_2, .ref q_3, .ref q_4, .ref q_5, .ref q_6, .int 0, .null, .null, .null]))] := hD
  refine lv_aload_n hx hb dX5_init_62 rfl (lv_at hl 0 rfl) ?_
  refine lv_sipush (v := 300) hx hb dX5_init_63 (by decide) ?_
  refine pz_newd hx hb (hts (.arrayClass .int) (by decide +kernel)) hK hP hD hS hA 300 (by decide) (by decide) (by decide) (by decide) (by decide) dX5_init_66 (fun q_7 H hP hS => ?_)
  refine W.widen (k := 13) (n := 3606) (by omega) (by omega) ?_
  refine va_putF (D := (dC, dI)) (ci := 4) (v := .ref q_7) (ty := .array .int) (C := RX5) (T := TX5) (N := 10) hx hb hts hiX5 tyX5 tyX5_ok nmX5 hown hK hP hD hS 0 rfl rfl 7 (by decide) (hts (.fieldLink RX5 32 "RegisterMill$Places" "newNumbers" "[I") (by decide +kernel)) (fun _ h9 => h9) rfl hin rfl (by decide +kernel) rfl rfl (Nat.le_of_ble_eq_true rfl) dX5_init_68 (fun H locs hP hD hS => ?_)
  have hP : va_P (dC, dI) vwCl [(h0, .inr (4, [.ref q_1, .ref q_2, .ref q_3, .ref q_4, .ref q_5, .ref q_6, .int 0, .ref q_7, .null, .null]))] H := hP
  have hD : va_D A [(h0, .inr (4, [.ref q_1, .ref q_2, .ref q_3, .ref q_4, .ref q_5, .ref q_6, .int 0, .ref q_7, .null, .null]))] := hD
  refine lv_aload_n hx hb dX5_init_71 rfl (lv_at hl 0 rfl) ?_
  refine lv_sipush (v := 300) hx hb dX5_init_72 (by decide) ?_
  refine pz_newz hx hb (hts (.arrayClass .boolean) (by decide +kernel)) hK hP hD hS hA 300 (by decide) (by decide) (by decide) (by decide) (by decide) dX5_init_75 (fun q_8 H hP hS => ?_)
  refine W.widen (k := 14) (n := 3906) (by omega) (by omega) ?_
  refine va_putF (D := (dC, dI)) (ci := 4) (v := .ref q_8) (ty := .array .boolean) (C := RX5) (T := TX5) (N := 10) hx hb hts hiX5 tyX5 tyX5_ok nmX5 hown hK hP hD hS 0 rfl rfl 8 (by decide) (hts (.fieldLink RX5 35 "RegisterMill$Places" "blockStarts" "[Z") (by decide +kernel)) (fun _ h9 => h9) rfl hin rfl (by decide +kernel) rfl rfl (Nat.le_of_ble_eq_true rfl) dX5_init_77 (fun H locs hP hD hS => ?_)
  have hP : va_P (dC, dI) vwCl [(h0, .inr (4, [.ref q_1, .ref q_2, .ref q_3, .ref q_4, .ref q_5, .ref q_6, .int 0, .ref q_7, .ref q_8, .null]))] H := hP
  have hD : va_D A [(h0, .inr (4, [.ref q_1, .ref q_2, .ref q_3, .ref q_4, .ref q_5, .ref q_6, .int 0, .ref q_7, .ref q_8, .null]))] := hD
  refine lv_aload_n hx hb dX5_init_80 rfl (lv_at hl 0 rfl) ?_
  refine lv_bipush (v := 22) hx hb dX5_init_81 (by decide) ?_
  refine pz_newd hx hb (hts (.arrayClass .int) (by decide +kernel)) hK hP hD hS hA 22 (by decide) (by decide) (by decide) (by decide) (by decide) dX5_init_83 (fun q_9 H hP hS => ?_)
  refine W.widen (k := 15) (n := 3928) (by omega) (by omega) ?_
  refine va_putF (D := (dC, dI)) (ci := 4) (v := .ref q_9) (ty := .array .int) (C := RX5) (T := TX5) (N := 10) hx hb hts hiX5 tyX5 tyX5_ok nmX5 hown hK hP hD hS 0 rfl rfl 9 (by decide) (hts (.fieldLink RX5 39 "RegisterMill$Places" "copyOf" "[I") (by decide +kernel)) (fun _ h9 => h9) rfl hin rfl (by decide +kernel) rfl rfl (Nat.le_of_ble_eq_true rfl) dX5_init_85 (fun H locs hP hD hS => ?_)
  have hP : va_P (dC, dI) vwCl [(h0, .inr (4, [.ref q_1, .ref q_2, .ref q_3, .ref q_4, .ref q_5, .ref q_6, .int 0, .ref q_7, .ref q_8, .ref q_9]))] H := hP
  have hD : va_D A [(h0, .inr (4, [.ref q_1, .ref q_2, .ref q_3, .ref q_4, .ref q_5, .ref q_6, .int 0, .ref q_7, .ref q_8, .ref q_9]))] := hD
  refine W.widen (k := 15) (n := 3928) (by decide) (by decide) ?_
  have hP9 := hP.sub (ws' := [(h0, .inr (4, [.ref q_1, .ref q_2, .ref q_3, .ref q_4, .ref q_5, .ref q_6, .int 0, .ref q_7, .ref q_8, .ref q_9]))]) [0] rfl
  have hD9 := hD.sub (ws' := [(h0, .inr (4, [.ref q_1, .ref q_2, .ref q_3, .ref q_4, .ref q_5, .ref q_6, .int 0, .ref q_7, .ref q_8, .ref q_9]))]) [0] (by decide) rfl
  exact W.vret hx hb hr (fun t ht hW => ⟨⟨(), rfl, trivial, ⟨q_1, q_2, q_3, q_4, q_5, q_6, q_7, q_8, q_9, pz_Bof hP9 hK hD9 ht hW⟩⟩, hS.F ht⟩) hS.2.2 dX5_init_88

def wq_X6_init : List Cond := .code yX6_init cX6_init 1 none :: ([.methodLink RX6 3 objectInit, .instanceMethod objectInit, .code objectInit ⟨#[0xb1]⟩ 1 none, .arrayClass .int, .fieldLink RX6 9 "RegisterMill$Program" "args" "[I", .fieldLink RX6 15 "RegisterMill$Program" "locals" "[I", .fieldLink RX6 18 "RegisterMill$Program" "starts" "[I", .fieldLink RX6 21 "RegisterMill$Program" "lengths" "[I", .fieldLink RX6 24 "RegisterMill$Program" "ops" "[I", .fieldLink RX6 27 "RegisterMill$Program" "numbers" "[I", .fieldLink RX6 30 "RegisterMill$Program" "depths" "[I"] ++ wsX60)
set_option maxHeartbeats 4000000 in
set_option maxRecDepth 100000 in
/-- Program(): seven rows -/
theorem c_X6_init (l : Launch) (dC : Nat → ClassId) (dI : Nat → Nat → Nat) (cyI : ClassId) (sz : Nat) (h0 : Nat) : Met l yX6_init wq_X6_init ({ frames := 1, cells := 7, slots := 948, locals := 12 }) (va_Pc [.ref h0] (pz_pre dC dI [(cyI, .int)] [(h0, .inr (5, [.null, .null, .null, .null, .null, .null, .null, .int 0, .int 0, .int 0]))] sz)) (va_Qv (S := Unit) (fun _ => True) (fun _ t => ∃ a_args a_locals a_starts a_lengths a_ops a_numbers a_depths : Nat, pz_B dC dI [(cyI, .int)] (va_A [(h0, .inr (5, [.null, .null, .null, .null, .null, .null, .null, .int 0, .int 0, .int 0]))] sz) [(h0, .inr (5, [.ref a_args, .ref a_locals, .ref a_starts, .ref a_lengths, .ref a_ops, .ref a_numbers, .ref a_depths, .int 0, .int 0, .int 0])), (a_args, .inl (cyI, 12, .inl (fun _ => 0))), (a_locals, .inl (cyI, 12, .inl (fun _ => 0))), (a_starts, .inl (cyI, 12, .inl (fun _ => 0))), (a_lengths, .inl (cyI, 12, .inl (fun _ => 0)))] t) (va_A [(h0, .inr (5, [.null, .null, .null, .null, .null, .null, .null, .int 0, .int 0, .int 0]))] sz)) 7 948 (va_A [(h0, .inr (5, [.null, .null, .null, .null, .null, .null, .null, .int 0, .int 0, .int 0]))] sz) := by
  refine Met.ofW (cc := cX6_init) (maxL := 1) (ret := none) (by decide) rfl ?_
  intro p e s m args below meth c s₁ B hml hv
  obtain ⟨rfl, hsz, hP, hK, hD0, hNW⟩ := hv
  have hx := B.exec
  have hb := B.bytes
  have hr := B.returns
  have hts := atoms_spec (ws := wq_X6_init) B.pre
  have hown : s.vm.findClass RX6 = some m.cls := findClass_of_methodNamed B.named
  have hlocks := B.notSynchronized
  have hin : meth.name = "<init>" := (name_of_methodNamed B.named B.method).1
  have hiX6 : ∀ w ∈ wsX60, w ∈ wq_X6_init := by decide +kernel
  subst hsz
  have hD := hD0.self (sz := s.heap.size)
  generalize hAe : va_A [(h0, .inr (5, [.null, .null, .null, .null, .null, .null, .null, .int 0, .int 0, .int 0]))] s.heap.size = A at hD ⊢
  have hA : ∀ q : Nat, s.heap.size ≤ q → A q := fun q h => by rw [← hAe]; exact Or.inr h
  have hS : va_S A s.heap s.heap [] := va_S.rf
  have hl := lv_entry ([.ref h0]) (n := 1) (Nat.le_of_ble_eq_true rfl)
  rw [lg_entry_eq]
  generalize (lg_sl ([.ref h0]) ++ List.replicate (1 - (lg_sl ([.ref h0])).length) Slot.unset).toArray = ls at hl ⊢
  have hl : lv_has ls 1 [(0, .ref h0)] := hl
  refine lv_aload_n hx hb dX6_init_0 rfl (lv_at hl 0 rfl) ?_
  refine W.objInit hx hb hown (hts (.methodLink RX6 3 objectInit) (by decide +kernel)) (hts (.instanceMethod objectInit) (by decide +kernel)) (hts (.code objectInit ⟨#[0xb1]⟩ 1 none) (by decide +kernel)) rfl (by rw [hml]; exact hl.1) rfl dX6_init_1 (Nat.le_of_ble_eq_true rfl) (Nat.le_of_ble_eq_true rfl) ?_
  refine W.eq (g2 := F0 m 4 ls []) rfl ?_
  refine lv_aload_n hx hb dX6_init_4 rfl (lv_at hl 0 rfl) ?_
  refine lv_bipush (v := 12) hx hb dX6_init_5 (by decide) ?_
  refine pz_newa hx hb (hts (.arrayClass .int) (by decide +kernel)) hK hP hD hS hA 12 (by decide) (by decide) (by decide) (by decide) (by decide) dX6_init_7 (fun q_1 H hP hD hS => ?_)
  have hP : va_P (dC, dI) vwCl [(h0, .inr (5, [.null, .null, .null, .null, .null, .null, .null, .int 0, .int 0, .int 0])), (q_1, .inl (cyI, 12, .inl (fun _ => 0)))] H := hP
  have hD : va_D A [(h0, .inr (5, [.null, .null, .null, .null, .null, .null, .null, .int 0, .int 0, .int 0])), (q_1, .inl (cyI, 12, .inl (fun _ => 0)))] := hD
  refine W.widen (k := 1) (n := 12) (by omega) (by omega) ?_
  refine va_putF (D := (dC, dI)) (ci := 5) (v := .ref q_1) (ty := .array .int) (C := RX6) (T := TX6) (N := 10) hx hb hts hiX6 tyX6 tyX6_ok nmX6 hown hK hP hD hS 0 rfl rfl 0 (by decide) (hts (.fieldLink RX6 9 "RegisterMill$Program" "args" "[I") (by decide +kernel)) (fun _ h9 => h9) rfl hin rfl (by decide +kernel) rfl rfl (Nat.le_of_ble_eq_true rfl) dX6_init_9 (fun H locs hP hD hS => ?_)
  have hP : va_P (dC, dI) vwCl [(h0, .inr (5, [.ref q_1, .null, .null, .null, .null, .null, .null, .int 0, .int 0, .int 0])), (q_1, .inl (cyI, 12, .inl (fun _ => 0)))] H := hP
  have hD : va_D A [(h0, .inr (5, [.ref q_1, .null, .null, .null, .null, .null, .null, .int 0, .int 0, .int 0])), (q_1, .inl (cyI, 12, .inl (fun _ => 0)))] := hD
  refine lv_aload_n hx hb dX6_init_12 rfl (lv_at hl 0 rfl) ?_
  refine lv_bipush (v := 12) hx hb dX6_init_13 (by decide) ?_
  refine pz_newa hx hb (hts (.arrayClass .int) (by decide +kernel)) hK hP hD hS hA 12 (by decide) (by decide) (by decide) (by decide) (by decide) dX6_init_15 (fun q_2 H hP hD hS => ?_)
  have hP : va_P (dC, dI) vwCl [(h0, .inr (5, [.ref q_1, .null, .null, .null, .null, .null, .null, .int 0, .int 0, .int 0])), (q_1, .inl (cyI, 12, .inl (fun _ => 0))), (q_2, .inl (cyI, 12, .inl (fun _ => 0)))] H := hP
  have hD : va_D A [(h0, .inr (5, [.ref q_1, .null, .null, .null, .null, .null, .null, .int 0, .int 0, .int 0])), (q_1, .inl (cyI, 12, .inl (fun _ => 0))), (q_2, .inl (cyI, 12, .inl (fun _ => 0)))] := hD
  refine W.widen (k := 2) (n := 24) (by omega) (by omega) ?_
  refine va_putF (D := (dC, dI)) (ci := 5) (v := .ref q_2) (ty := .array .int) (C := RX6) (T := TX6) (N := 10) hx hb hts hiX6 tyX6 tyX6_ok nmX6 hown hK hP hD hS 0 rfl rfl 1 (by decide) (hts (.fieldLink RX6 15 "RegisterMill$Program" "locals" "[I") (by decide +kernel)) (fun _ h9 => h9) rfl hin rfl (by decide +kernel) rfl rfl (Nat.le_of_ble_eq_true rfl) dX6_init_17 (fun H locs hP hD hS => ?_)
  have hP : va_P (dC, dI) vwCl [(h0, .inr (5, [.ref q_1, .ref q_2, .null, .null, .null, .null, .null, .int 0, .int 0, .int 0])), (q_1, .inl (cyI, 12, .inl (fun _ => 0))), (q_2, .inl (cyI, 12, .inl (fun _ => 0)))] H := hP
  have hD : va_D A [(h0, .inr (5, [.ref q_1, .ref q_2, .null, .null, .null, .null, .null, .int 0, .int 0, .int 0])), (q_1, .inl (cyI, 12, .inl (fun _ => 0))), (q_2, .inl (cyI, 12, .inl (fun _ => 0)))] := hD
  refine lv_aload_n hx hb dX6_init_20 rfl (lv_at hl 0 rfl) ?_
  refine lv_bipush (v := 12) hx hb dX6_init_21 (by decide) ?_
  refine pz_newa hx hb (hts (.arrayClass .int) (by decide +kernel)) hK hP hD hS hA 12 (by decide) (by decide) (by decide) (by decide) (by decide) dX6_init_23 (fun q_3 H hP hD hS => ?_)
  have hP : va_P (dC, dI) vwCl [(h0, .inr (5, [.ref q_1, .ref q_2, .null, .null, .null, .null, .null, .int 0, .int 0, .int 0])), (q_1, .inl (cyI, 12, .inl (fun _ => 0))), (q_2, .inl (cyI, 12, .inl (fun _ => 0))), (q_3, .inl (cyI, 12, .inl (fun _ => 0)))] H := hP
  have hD : va_D A [(h0, .inr (5, [.ref q_1, .ref q_2, .null, .null, .null, .null, .null, .int 0, .int 0, .int 0])), (q_1, .inl (cyI, 12, .inl (fun _ => 0))), (q_2, .inl (cyI, 12, .inl (fun _ => 0))), (q_3, .inl (cyI, 12, .inl (fun _ => 0)))] := hD
  refine W.widen (k := 3) (n := 36) (by omega) (by omega) ?_
  refine va_putF (D := (dC, dI)) (ci := 5) (v := .ref q_3) (ty := .array .int) (C := RX6) (T := TX6) (N := 10) hx hb hts hiX6 tyX6 tyX6_ok nmX6 hown hK hP hD hS 0 rfl rfl 2 (by decide) (hts (.fieldLink RX6 18 "RegisterMill$Program" "starts" "[I") (by decide +kernel)) (fun _ h9 => h9) rfl hin rfl (by decide +kernel) rfl rfl (Nat.le_of_ble_eq_true rfl) dX6_init_25 (fun H locs hP hD hS => ?_)
  have hP : va_P (dC, dI) vwCl [(h0, .inr (5, [.ref q_1, .ref q_2, .ref q_3, .null, .null, .null, .null, .int 0, .int 0, .int 0])), (q_1, .inl (cyI, 12, .inl (fun _ => 0))), (q_2, .inl (cyI, 12, .inl (fun _ => 0))), (q_3, .inl (cyI, 12, .inl (fun _ => 0)))] H := hP
  have hD : va_D A [(h0, .inr (5, [.ref q_1, .ref q_2, .ref q_3, .null, .null, .null, .null, .int 0, .int 0, .int 0])), (q_1, .inl (cyI, 12, .inl (fun _ => 0))), (q_2, .inl (cyI, 12, .inl (fun _ => 0))), (q_3, .inl (cyI, 12, .inl (fun _ => 0)))] := hD
  refine lv_aload_n hx hb dX6_init_28 rfl (lv_at hl 0 rfl) ?_
  refine lv_bipush (v := 12) hx hb dX6_init_29 (by decide) ?_
  refine pz_newa hx hb (hts (.arrayClass .int) (by decide +kernel)) hK hP hD hS hA 12 (by decide) (by decide) (by decide) (by decide) (by decide) dX6_init_31 (fun q_4 H hP hD hS => ?_)
  have hP : va_P (dC, dI) vwCl [(h0, .inr (5, [.ref q_1, .ref q_2, .ref q_3, .null, .null, .null, .null, .int 0, .int 0, .int 0])), (q_1, .inl (cyI, 12, .inl (fun _ => 0))), (q_2, .inl (cyI, 12, .inl (fun _ => 0))), (q_3, .inl (cyI, 12, .inl (fun _ => 0))), (q_4, .inl (cyI, 12, .inl (fun _ => 0)))] H := hP
  have hD : va_D A [(h0, .inr (5, [.ref q_1, .ref q_2, .ref q_3, .null, .null, .null, .null, .int 0, .int 0, .int 0])), (q_1, .inl (cyI, 12, .inl (fun _ => 0))), (q_2, .inl (cyI, 12, .inl (fun _ => 0))), (q_3, .inl (cyI, 12, .inl (fun _ => 0))), (q_4, .inl (cyI, 12, .inl (fun _ => 0)))] := hD
  refine W.widen (k := 4) (n := 48) (by omega) (by omega) ?_
  refine va_putF (D := (dC, dI)) (ci := 5) (v := .ref q_4) (ty := .array .int) (C := RX6) (T := TX6) (N := 10) hx hb hts hiX6 tyX6 tyX6_ok nmX6 hown hK hP hD hS 0 rfl rfl 3 (by decide) (hts (.fieldLink RX6 21 "RegisterMill$Program" "lengths" "[I") (by decide +kernel)) (fun _ h9 => h9) rfl hin rfl (by decide +kernel) rfl rfl (Nat.le_of_ble_eq_true rfl) dX6_init_33 (fun H locs hP hD hS => ?_)
  have hP : va_P (dC, dI) vwCl [(h0, .inr (5, [.ref q_1, .ref q_2, .ref q_3, .ref q_4, .null, .null, .null, .int 0, .int 0, .int 0])), (q_1, .inl (cyI, 12, .inl (fun _ => 0))), (q_2, .inl (cyI, 12, .inl (fun _ => 0))), (q_3, .inl (cyI, 12, .inl (fun _ => 0))), (q_4, .inl (cyI, 12, .inl (fun _ => 0)))] H := hP
  have hD : va_D A [(h0, .inr (5, [.ref q_1, .ref q_2, .ref q_3, .ref q_4, .null, .null, .null, .int 0, .int 0, .int 0])), (q_1, .inl (cyI, 12, .inl (fun _ => 0))), (q_2, .inl (cyI, 12, .inl (fun _ => 0))), (q_3, .inl (cyI, 12, .inl (fun _ => 0))), (q_4, .inl (cyI, 12, .inl (fun _ => 0)))] := hD
  refine lv_aload_n hx hb dX6_init_36 rfl (lv_at hl 0 rfl) ?_
  refine lv_sipush (v := 300) hx hb dX6_init_37 (by decide) ?_
  refine pz_newd hx hb (hts (.arrayClass .int) (by decide +kernel)) hK hP hD hS hA 300 (by decide) (by decide) (by decide) (by decide) (by decide) dX6_init_40 (fun q_5 H hP hS => ?_)
  refine W.widen (k := 5) (n := 348) (by omega) (by omega) ?_
  refine va_putF (D := (dC, dI)) (ci := 5) (v := .ref q_5) (ty := .array .int) (C := RX6) (T := TX6) (N := 10) hx hb hts hiX6 tyX6 tyX6_ok nmX6 hown hK hP hD hS 0 rfl rfl 4 (by decide) (hts (.fieldLink RX6 24 "RegisterMill$Program" "ops" "[I") (by decide +kernel)) (fun _ h9 => h9) rfl hin rfl (by decide +kernel) rfl rfl (Nat.le_of_ble_eq_true rfl) dX6_init_42 (fun H locs hP hD hS => ?_)
  have hP : va_P (dC, dI) vwCl [(h0, .inr (5, [.ref q_1, .ref q_2, .ref q_3, .ref q_4, .ref q_5, .null, .null, .int 0, .int 0, .int 0])), (q_1, .inl (cyI, 12, .inl (fun _ => 0))), (q_2, .inl (cyI, 12, .inl (fun _ => 0))), (q_3, .inl (cyI, 12, .inl (fun _ => 0))), (q_4, .inl (cyI, 12, .inl (fun _ => 0)))] H := hP
  have hD : va_D A [(h0, .inr (5, [.ref q_1, .ref q_2, .ref q_3, .ref q_4, .ref q_5, .null, .null, .int 0, .int 0, .int 0])), (q_1, .inl (cyI, 12, .inl (fun _ => 0))), (q_2, .inl (cyI, 12, .inl (fun _ => 0))), (q_3, .inl (cyI, 12, .inl (fun _ => 0))), (q_4, .inl (cyI, 12, .inl (fun _ => 0)))] := hD
  refine lv_aload_n hx hb dX6_init_45 rfl (lv_at hl 0 rfl) ?_
  refine lv_sipush (v := 300) hx hb dX6_init_46 (by decide) ?_
  refine pz_newd hx hb (hts (.arrayClass .int) (by decide +kernel)) hK hP hD hS hA 300 (by decide) (by decide) (by decide) (by decide) (by decide) dX6_init_49 (fun q_6 H hP hS => ?_)
  refine W.widen (k := 6) (n := 648) (by omega) (by omega) ?_
  refine va_putF (D := (dC, dI)) (ci := 5) (v := .ref q_6) (ty := .array .int) (C := RX6) (T := TX6) (N := 10) hx hb hts hiX6 tyX6 tyX6_ok nmX6 hown hK hP hD hS 0 rfl rfl 5 (by decide) (hts (.fieldLink RX6 27 "RegisterMill$Program" "numbers" "[I") (by decide +kernel)) (fun _ h9 => h9) rfl hin rfl (by decide +kernel) rfl rfl (Nat.le_of_ble_eq_true rfl) dX6_init_51 (fun H locs hP hD hS => ?_)
  have hP : va_P (dC, dI) vwCl [(h0, .inr (5, [.ref q_1, .ref q_2, .ref q_3, .ref q_4, .ref q_5, .ref q_6, .null, .int 0, .int 0, .int 0])), (q_1, .inl (cyI, 12, .inl (fun _ => 0))), (q_2, .inl (cyI, 12, .inl (fun _ => 0))), (q_3, .inl (cyI, 12, .inl (fun _ => 0))), (q_4, .inl (cyI, 12, .inl (fun _ => 0)))] H := hP
  have hD : va_D A [(h0, .inr (5, [.ref q_1, .ref q_2, .ref q_3, .ref q_4, .ref q_5, .ref q_6, .null, .int 0, .int 0, .int 0])), (q_1, .inl (cyI, 12, .inl (fun _ => 0))), (q_2, .inl (cyI, 12, .inl (fun _ => 0))), (q_3, .inl (cyI, 12, .inl (fun _ => 0))), (q_4, .inl (cyI, 12, .inl (fun _ => 0)))] := hD
  refine lv_aload_n hx hb dX6_init_54 rfl (lv_at hl 0 rfl) ?_
  refine lv_sipush (v := 300) hx hb dX6_init_55 (by decide) ?_
  refine pz_newd hx hb (hts (.arrayClass .int) (by decide +kernel)) hK hP hD hS hA 300 (by decide) (by decide) (by decide) (by decide) (by decide) dX6_init_58 (fun q_7 H hP hS => ?_)
  refine W.widen (k := 7) (n := 948) (by omega) (by omega) ?_
  refine va_putF (D := (dC, dI)) (ci := 5) (v := .ref q_7) (ty := .array .int) (C := RX6) (T := TX6) (N := 10) hx hb hts hiX6 tyX6 tyX6_ok nmX6 hown hK hP hD hS 0 rfl rfl 6 (by decide) (hts (.fieldLink RX6 30 "RegisterMill$Program" "depths" "[I") (by decide +kernel)) (fun _ h9 => h9) rfl hin rfl (by decide +kernel) rfl rfl (Nat.le_of_ble_eq_true rfl) dX6_init_60 (fun H locs hP hD hS => ?_)
  have hP : va_P (dC, dI) vwCl [(h0, .inr (5, [.ref q_1, .ref q_2, .ref q_3, .ref q_4, .ref q_5, .ref q_6, .ref q_7, .int 0, .int 0, .int 0])), (q_1, .inl (cyI, 12, .inl (fun _ => 0))), (q_2, .inl (cyI, 12, .inl (fun _ => 0))), (q_3, .inl (cyI, 12, .inl (fun _ => 0))), (q_4, .inl (cyI, 12, .inl (fun _ => 0)))] H := hP
  have hD : va_D A [(h0, .inr (5, [.ref q_1, .ref q_2, .ref q_3, .ref q_4, .ref q_5, .ref q_6, .ref q_7, .int 0, .int 0, .int 0])), (q_1, .inl (cyI, 12, .inl (fun _ => 0))), (q_2, .inl (cyI, 12, .inl (fun _ => 0))), (q_3, .inl (cyI, 12, .inl (fun _ => 0))), (q_4, .inl (cyI, 12, .inl (fun _ => 0)))] := hD
  refine W.widen (k := 7) (n := 948) (by decide) (by decide) ?_
  have hP9 := hP.sub (ws' := [(h0, .inr (5, [.ref q_1, .ref q_2, .ref q_3, .ref q_4, .ref q_5, .ref q_6, .ref q_7, .int 0, .int 0, .int 0])), (q_1, .inl (cyI, 12, .inl (fun _ => 0))), (q_2, .inl (cyI, 12, .inl (fun _ => 0))), (q_3, .inl (cyI, 12, .inl (fun _ => 0))), (q_4, .inl (cyI, 12, .inl (fun _ => 0)))]) [0, 1, 2, 3, 4] rfl
  have hD9 := hD.sub (ws' := [(h0, .inr (5, [.ref q_1, .ref q_2, .ref q_3, .ref q_4, .ref q_5, .ref q_6, .ref q_7, .int 0, .int 0, .int 0])), (q_1, .inl (cyI, 12, .inl (fun _ => 0))), (q_2, .inl (cyI, 12, .inl (fun _ => 0))), (q_3, .inl (cyI, 12, .inl (fun _ => 0))), (q_4, .inl (cyI, 12, .inl (fun _ => 0)))]) [0, 1, 2, 3, 4] (by decide) rfl
  exact W.vret hx hb hr (fun t ht hW => ⟨⟨(), rfl, trivial, ⟨q_1, q_2, q_3, q_4, q_5, q_6, q_7, pz_Bof hP9 hK hD9 ht hW⟩⟩, hS.F ht⟩) hS.2.2 dX6_init_63

def wq_X0_init : List Cond := .code yX0_init cX0_init 2 none :: ([.methodLink RX0 3 objectInit, .instanceMethod objectInit, .code objectInit ⟨#[0xb1]⟩ 1 none, .arrayClass .boolean, .fieldLink RX0 9 "RegisterMill$Checker" "passed" "[Z", .fieldLink RX0 15 "RegisterMill$Checker" "program" "LRegisterMill$Program;"] ++ wsX00)
set_option maxHeartbeats 4000000 in
set_option maxRecDepth 100000 in
/-- Checker(program) -/
theorem c_X0_init (l : Launch) (dC : Nat → ClassId) (dI : Nat → Nat → Nat) (cyI : ClassId) (sz : Nat) (h0 : Nat) (pr : Nat) : Met l yX0_init wq_X0_init ({ frames := 1, cells := 1, slots := 300, locals := 12 }) (va_Pc [.ref h0, .ref pr] (pz_pre dC dI [(cyI, .int)] [(h0, .inr (0, [.null, .null, .int 0]))] sz)) (va_Qv (S := Unit) (fun _ => True) (fun _ t => ∃ a_passed : Nat, pz_B dC dI [(cyI, .int)] (va_A [(h0, .inr (0, [.null, .null, .int 0]))] sz) [(h0, .inr (0, [.ref pr, .ref a_passed, .int 0]))] t) (va_A [(h0, .inr (0, [.null, .null, .int 0]))] sz)) 1 300 (va_A [(h0, .inr (0, [.null, .null, .int 0]))] sz) := by
  refine Met.ofW (cc := cX0_init) (maxL := 2) (ret := none) (by decide) rfl ?_
  intro p e s m args below meth c s₁ B hml hv
  obtain ⟨rfl, hsz, hP, hK, hD0, hNW⟩ := hv
  have hx := B.exec
  have hb := B.bytes
  have hr := B.returns
  have hts := atoms_spec (ws := wq_X0_init) B.pre
  have hown : s.vm.findClass RX0 = some m.cls := findClass_of_methodNamed B.named
  have hlocks := B.notSynchronized
  have hin : meth.name = "<init>" := (name_of_methodNamed B.named B.method).1
  have hiX0 : ∀ w ∈ wsX00, w ∈ wq_X0_init := by decide +kernel
  subst hsz
  have hD := hD0.self (sz := s.heap.size)
  generalize hAe : va_A [(h0, .inr (0, [.null, .null, .int 0]))] s.heap.size = A at hD ⊢
  have hA : ∀ q : Nat, s.heap.size ≤ q → A q := fun q h => by rw [← hAe]; exact Or.inr h
  have hS : va_S A s.heap s.heap [] := va_S.rf
  have hl := lv_entry ([.ref h0, .ref pr]) (n := 2) (Nat.le_of_ble_eq_true rfl)
  rw [lg_entry_eq]
  generalize (lg_sl ([.ref h0, .ref pr]) ++ List.replicate (2 - (lg_sl ([.ref h0, .ref pr])).length) Slot.unset).toArray = ls at hl ⊢
  have hl : lv_has ls 2 [(0, .ref h0), (1, .ref pr)] := hl
  refine lv_aload_n hx hb dX0_init_0 rfl (lv_at hl 0 rfl) ?_
  refine W.objInit hx hb hown (hts (.methodLink RX0 3 objectInit) (by decide +kernel)) (hts (.instanceMethod objectInit) (by decide +kernel)) (hts (.code objectInit ⟨#[0xb1]⟩ 1 none) (by decide +kernel)) rfl (by rw [hml]; exact hl.1) rfl dX0_init_1 (Nat.le_of_ble_eq_true rfl) (Nat.le_of_ble_eq_true rfl) ?_
  refine W.eq (g2 := F0 m 4 ls []) rfl ?_
  refine lv_aload_n hx hb dX0_init_4 rfl (lv_at hl 0 rfl) ?_
  refine lv_sipush (v := 300) hx hb dX0_init_5 (by decide) ?_
  refine pz_newz hx hb (hts (.arrayClass .boolean) (by decide +kernel)) hK hP hD hS hA 300 (by decide) (by decide) (by decide) (by decide) (by decide) dX0_init_8 (fun q_1 H hP hS => ?_)
  refine W.widen (k := 1) (n := 300) (by omega) (by omega) ?_
  refine va_putF (D := (dC, dI)) (ci := 0) (v := .ref q_1) (ty := .array .boolean) (C := RX0) (T := TX0) (N := 3) hx hb hts hiX0 tyX0 tyX0_ok nmX0 hown hK hP hD hS 0 rfl rfl 1 (by decide) (hts (.fieldLink RX0 9 "RegisterMill$Checker" "passed" "[Z") (by decide +kernel)) (fun _ h9 => h9) rfl hin rfl (by decide +kernel) rfl rfl (Nat.le_of_ble_eq_true rfl) dX0_init_10 (fun H locs hP hD hS => ?_)
  have hP : va_P (dC, dI) vwCl [(h0, .inr (0, [.null, .ref q_1, .int 0]))] H := hP
  have hD : va_D A [(h0, .inr (0, [.null, .ref q_1, .int 0]))] := hD
  refine lv_aload_n hx hb dX0_init_13 rfl (lv_at hl 0 rfl) ?_
  refine lv_aload_n hx hb dX0_init_14 rfl (lv_at hl 1 rfl) ?_
  refine va_putF (D := (dC, dI)) (ci := 0) (v := .ref pr) (ty := .object "RegisterMill$Program") (C := RX0) (T := TX0) (N := 3) hx hb hts hiX0 tyX0 tyX0_ok nmX0 hown hK hP hD hS 0 rfl rfl 0 (by decide) (hts (.fieldLink RX0 15 "RegisterMill$Checker" "program" "LRegisterMill$Program;") (by decide +kernel)) (fun _ h9 => h9) rfl hin rfl (by decide +kernel) rfl rfl (Nat.le_of_ble_eq_true rfl) dX0_init_15 (fun H locs hP hD hS => ?_)
  have hP : va_P (dC, dI) vwCl [(h0, .inr (0, [.ref pr, .ref q_1, .int 0]))] H := hP
  have hD : va_D A [(h0, .inr (0, [.ref pr, .ref q_1, .int 0]))] := hD
  refine W.widen (k := 1) (n := 300) (by decide) (by decide) ?_
  have hP9 := hP.sub (ws' := [(h0, .inr (0, [.ref pr, .ref q_1, .int 0]))]) [0] rfl
  have hD9 := hD.sub (ws' := [(h0, .inr (0, [.ref pr, .ref q_1, .int 0]))]) [0] (by decide) rfl
  exact W.vret hx hb hr (fun t ht hW => ⟨⟨(), rfl, trivial, ⟨q_1, pz_Bof hP9 hK hD9 ht hW⟩⟩, hS.F ht⟩) hS.2.2 dX0_init_18

def wq_X10_init : List Cond := .code yX10_init cX10_init 4 none :: ([.methodLink RX10 3 objectInit, .instanceMethod objectInit, .code objectInit ⟨#[0xb1]⟩ 1 none, .arrayClass .int, .fieldLink RX10 9 "RegisterMill$Writer" "firstOps" "[I", .fieldLink RX10 15 "RegisterMill$Writer" "places" "LRegisterMill$Places;", .fieldLink RX10 19 "RegisterMill$Writer" "homes" "LRegisterMill$Homes;", .fieldLink RX10 23 "RegisterMill$Writer" "code" "LRegisterMill$Code;"] ++ wsX100)
set_option maxHeartbeats 4000000 in
set_option maxRecDepth 100000 in
/-- Writer(places, homes, code) -/
theorem c_X10_init (l : Launch) (dC : Nat → ClassId) (dI : Nat → Nat → Nat) (cyI : ClassId) (sz : Nat) (h0 : Nat) (pl : Nat) (ho : Nat) (co : Nat) : Met l yX10_init wq_X10_init ({ frames := 1, cells := 1, slots := 300, locals := 12 }) (va_Pc [.ref h0, .ref pl, .ref ho, .ref co] (pz_pre dC dI [(cyI, .int)] [(h0, .inr (9, [.null, .null, .null, .null, .int 0, .int 0, .int 0]))] sz)) (va_Qv (S := Unit) (fun _ => True) (fun _ t => ∃ a_firstOps : Nat, pz_B dC dI [(cyI, .int)] (va_A [(h0, .inr (9, [.null, .null, .null, .null, .int 0, .int 0, .int 0]))] sz) [(h0, .inr (9, [.ref pl, .ref ho, .ref co, .ref a_firstOps, .int 0, .int 0, .int 0]))] t) (va_A [(h0, .inr (9, [.null, .null, .null, .null, .int 0, .int 0, .int 0]))] sz)) 1 300 (va_A [(h0, .inr (9, [.null, .null, .null, .null, .int 0, .int 0, .int 0]))] sz) := by
  refine Met.ofW (cc := cX10_init) (maxL := 4) (ret := none) (by decide) rfl ?_
  intro p e s m args below meth c s₁ B hml hv
  obtain ⟨rfl, hsz, hP, hK, hD0, hNW⟩ := hv
  have hx := B.exec
  have hb := B.bytes
  have hr := B.returns
  have hts := atoms_spec (ws := wq_X10_init) B.pre
  have hown : s.vm.findClass RX10 = some m.cls := findClass_of_methodNamed B.named
  have hlocks := B.notSynchronized
  have hin : meth.name = "<init>" := (name_of_methodNamed B.named B.method).1
  have hiX10 : ∀ w ∈ wsX100, w ∈ wq_X10_init := by decide +kernel
  subst hsz
  have hD := hD0.self (sz := s.heap.size)
  generalize hAe : va_A [(h0, .inr (9, [.null, .null, .null, .null, .int 0, .int 0, .int 0]))] s.heap.size = A at hD ⊢
  have hA : ∀ q : Nat, s.heap.size ≤ q → A q := fun q h => by rw [← hAe]; exact Or.inr h
  have hS : va_S A s.heap s.heap [] := va_S.rf
  have hl := lv_entry ([.ref h0, .ref pl, .ref ho, .ref co]) (n := 4) (Nat.le_of_ble_eq_true rfl)
  rw [lg_entry_eq]
  generalize (lg_sl ([.ref h0, .ref pl, .ref ho, .ref co]) ++ List.replicate (4 - (lg_sl ([.ref h0, .ref pl, .ref ho, .ref co])).length) Slot.unset).toArray = ls at hl ⊢
  have hl : lv_has ls 4 [(0, .ref h0), (1, .ref pl), (2, .ref ho), (3, .ref co)] := hl
  refine lv_aload_n hx hb dX10_init_0 rfl (lv_at hl 0 rfl) ?_
  refine W.objInit hx hb hown (hts (.methodLink RX10 3 objectInit) (by decide +kernel)) (hts (.instanceMethod objectInit) (by decide +kernel)) (hts (.code objectInit ⟨#[0xb1]⟩ 1 none) (by decide +kernel)) rfl (by rw [hml]; exact hl.1) rfl dX10_init_1 (Nat.le_of_ble_eq_true rfl) (Nat.le_of_ble_eq_true rfl) ?_
  refine W.eq (g2 := F0 m 4 ls []) rfl ?_
  refine lv_aload_n hx hb dX10_init_4 rfl (lv_at hl 0 rfl) ?_
  refine lv_sipush (v := 300) hx hb dX10_init_5 (by decide) ?_
  refine pz_newd hx hb (hts (.arrayClass .int) (by decide +kernel)) hK hP hD hS hA 300 (by decide) (by decide) (by decide) (by decide) (by decide) dX10_init_8 (fun q_1 H hP hS => ?_)
  refine W.widen (k := 1) (n := 300) (by omega) (by omega) ?_
  refine va_putF (D := (dC, dI)) (ci := 9) (v := .ref q_1) (ty := .array .int) (C := RX10) (T := TX10) (N := 7) hx hb hts hiX10 tyX10 tyX10_ok nmX10 hown hK hP hD hS 0 rfl rfl 3 (by decide) (hts (.fieldLink RX10 9 "RegisterMill$Writer" "firstOps" "[I") (by decide +kernel)) (fun _ h9 => h9) rfl hin rfl (by decide +kernel) rfl rfl (Nat.le_of_ble_eq_true rfl) dX10_init_10 (fun H locs hP hD hS => ?_)
  have hP : va_P (dC, dI) vwCl [(h0, .inr (9, [.null, .null, .null, .ref q_1, .int 0, .int 0, .int 0]))] H := hP
  have hD : va_D A [(h0, .inr (9, [.null, .null, .null, .ref q_1, .int 0, .int 0, .int 0]))] := hD
  refine lv_aload_n hx hb dX10_init_13 rfl (lv_at hl 0 rfl) ?_
  refine lv_aload_n hx hb dX10_init_14 rfl (lv_at hl 1 rfl) ?_
  refine va_putF (D := (dC, dI)) (ci := 9) (v := .ref pl) (ty := .object "RegisterMill$Places") (C := RX10) (T := TX10) (N := 7) hx hb hts hiX10 tyX10 tyX10_ok nmX10 hown hK hP hD hS 0 rfl rfl 0 (by decide) (hts (.fieldLink RX10 15 "RegisterMill$Writer" "places" "LRegisterMill$Places;") (by decide +kernel)) (fun _ h9 => h9) rfl hin rfl (by decide +kernel) rfl rfl (Nat.le_of_ble_eq_true rfl) dX10_init_15 (fun H locs hP hD hS => ?_)
  have hP : va_P (dC, dI) vwCl [(h0, .inr (9, [.ref pl, .null, .null, .ref q_1, .int 0, .int 0, .int 0]))] H := hP
  have hD : va_D A [(h0, .inr (9, [.ref pl, .null, .null, .ref q_1, .int 0, .int 0, .int 0]))] := hD
  refine lv_aload_n hx hb dX10_init_18 rfl (lv_at hl 0 rfl) ?_
  refine lv_aload_n hx hb dX10_init_19 rfl (lv_at hl 2 rfl) ?_
  refine va_putF (D := (dC, dI)) (ci := 9) (v := .ref ho) (ty := .object "RegisterMill$Homes") (C := RX10) (T := TX10) (N := 7) hx hb hts hiX10 tyX10 tyX10_ok nmX10 hown hK hP hD hS 0 rfl rfl 1 (by decide) (hts (.fieldLink RX10 19 "RegisterMill$Writer" "homes" "LRegisterMill$Homes;") (by decide +kernel)) (fun _ h9 => h9) rfl hin rfl (by decide +kernel) rfl rfl (Nat.le_of_ble_eq_true rfl) dX10_init_20 (fun H locs hP hD hS => ?_)
  have hP : va_P (dC, dI) vwCl [(h0, .inr (9, [.ref pl, .ref ho, .null, .ref q_1, .int 0, .int 0, .int 0]))] H := hP
  have hD : va_D A [(h0, .inr (9, [.ref pl, .ref ho, .null, .ref q_1, .int 0, .int 0, .int 0]))] := hD
  refine lv_aload_n hx hb dX10_init_23 rfl (lv_at hl 0 rfl) ?_
  refine lv_aload_n hx hb dX10_init_24 rfl (lv_at hl 3 rfl) ?_
  refine va_putF (D := (dC, dI)) (ci := 9) (v := .ref co) (ty := .object "RegisterMill$Code") (C := RX10) (T := TX10) (N := 7) hx hb hts hiX10 tyX10 tyX10_ok nmX10 hown hK hP hD hS 0 rfl rfl 2 (by decide) (hts (.fieldLink RX10 23 "RegisterMill$Writer" "code" "LRegisterMill$Code;") (by decide +kernel)) (fun _ h9 => h9) rfl hin rfl (by decide +kernel) rfl rfl (Nat.le_of_ble_eq_true rfl) dX10_init_25 (fun H locs hP hD hS => ?_)
  have hP : va_P (dC, dI) vwCl [(h0, .inr (9, [.ref pl, .ref ho, .ref co, .ref q_1, .int 0, .int 0, .int 0]))] H := hP
  have hD : va_D A [(h0, .inr (9, [.ref pl, .ref ho, .ref co, .ref q_1, .int 0, .int 0, .int 0]))] := hD
  refine W.widen (k := 1) (n := 300) (by decide) (by decide) ?_
  have hP9 := hP.sub (ws' := [(h0, .inr (9, [.ref pl, .ref ho, .ref co, .ref q_1, .int 0, .int 0, .int 0]))]) [0] rfl
  have hD9 := hD.sub (ws' := [(h0, .inr (9, [.ref pl, .ref ho, .ref co, .ref q_1, .int 0, .int 0, .int 0]))]) [0] (by decide) rfl
  exact W.vret hx hb hr (fun t ht hW => ⟨⟨(), rfl, trivial, ⟨q_1, pz_Bof hP9 hK hD9 ht hW⟩⟩, hS.F ht⟩) hS.2.2 dX10_init_28
end
section
def wq_X4_init_X8 : List Cond := .code yX4_init cX4_init 1 none :: ([.methodLink RX4 3 objectInit, .instanceMethod objectInit, .code objectInit ⟨#[0xb1]⟩ 1 none, .arrayClass .int, .fieldLink RX4 9 "RegisterMill$Machine" "memory" "[I", .fieldLink RX4 15 "RegisterMill$Machine" "funcs" "[I", .fieldLink RX4 18 "RegisterMill$Machine" "nexts" "[I"] ++ wsX80)
set_option maxHeartbeats 4000000 in
set_option maxRecDepth 100000 in
/-- Machine(), of a RegisterMill$StackMachine -/
theorem c_X4_init_X8 (l : Launch) (dC : Nat → ClassId) (dI : Nat → Nat → Nat) (cyI : ClassId) (sz : Nat) (h0 : Nat) : Met l yX4_init wq_X4_init_X8 ({ frames := 1, cells := 3, slots := 124, locals := 12 }) (va_Pc [.ref h0] (pz_pre dC dI [(cyI, .int)] [(h0, .inr (7, [.null, .null, .null, .int 0, .int 0, .int 0, .int 0, .int 0, .null, .null, .null, .null, .int 0]))] sz)) (va_Qv (S := Unit) (fun _ => True) (fun _ t => ∃ a_memory a_funcs a_nexts : Nat, pz_B dC dI [(cyI, .int)] (va_A [(h0, .inr (7, [.null, .null, .null, .int 0, .int 0, .int 0, .int 0, .int 0, .null, .null, .null, .null, .int 0]))] sz) [(h0, .inr (7, [.ref a_memory, .ref a_funcs, .ref a_nexts, .int 0, .int 0, .int 0, .int 0, .int 0, .null, .null, .null, .null, .int 0])), (a_memory, .inl (cyI, 64, .inl (fun _ => 0)))] t) (va_A [(h0, .inr (7, [.null, .null, .null, .int 0, .int 0, .int 0, .int 0, .int 0, .null, .null, .null, .null, .int 0]))] sz)) 3 124 (va_A [(h0, .inr (7, [.null, .null, .null, .int 0, .int 0, .int 0, .int 0, .int 0, .null, .null, .null, .null, .int 0]))] sz) := by
  refine Met.ofW (cc := cX4_init) (maxL := 1) (ret := none) (by decide) rfl ?_
  intro p e s m args below meth c s₁ B hml hv
  obtain ⟨rfl, hsz, hP, hK, hD0, hNW⟩ := hv
  have hx := B.exec
  have hb := B.bytes
  have hr := B.returns
  have hts := atoms_spec (ws := wq_X4_init_X8) B.pre
  have hown : s.vm.findClass RX4 = some m.cls := findClass_of_methodNamed B.named
  have hlocks := B.notSynchronized
  have hin : meth.name = "<init>" := (name_of_methodNamed B.named B.method).1
  have hiX8 : ∀ w ∈ wsX80, w ∈ wq_X4_init_X8 := by decide +kernel
  subst hsz
  have hD := hD0.self (sz := s.heap.size)
  generalize hAe : va_A [(h0, .inr (7, [.null, .null, .null, .int 0, .int 0, .int 0, .int 0, .int 0, .null, .null, .null, .null, .int 0]))] s.heap.size = A at hD ⊢
  have hA : ∀ q : Nat, s.heap.size ≤ q → A q := fun q h => by rw [← hAe]; exact Or.inr h
  have hS : va_S A s.heap s.heap [] := va_S.rf
  have hl := lv_entry ([.ref h0]) (n := 1) (Nat.le_of_ble_eq_true rfl)
  rw [lg_entry_eq]
  generalize (lg_sl ([.ref h0]) ++ List.replicate (1 - (lg_sl ([.ref h0])).length) Slot.unset).toArray = ls at hl ⊢
  have hl : lv_has ls 1 [(0, .ref h0)] := hl
  refine lv_aload_n hx hb dX4_init_0 rfl (lv_at hl 0 rfl) ?_
  refine W.objInit hx hb hown (hts (.methodLink RX4 3 objectInit) (by decide +kernel)) (hts (.instanceMethod objectInit) (by decide +kernel)) (hts (.code objectInit ⟨#[0xb1]⟩ 1 none) (by decide +kernel)) rfl (by rw [hml]; exact hl.1) rfl dX4_init_1 (Nat.le_of_ble_eq_true rfl) (Nat.le_of_ble_eq_true rfl) ?_
  refine W.eq (g2 := F0 m 4 ls []) rfl ?_
  refine lv_aload_n hx hb dX4_init_4 rfl (lv_at hl 0 rfl) ?_
  refine lv_bipush (v := 64) hx hb dX4_init_5 (by decide) ?_
  refine pz_newa hx hb (hts (.arrayClass .int) (by decide +kernel)) hK hP hD hS hA 64 (by decide) (by decide) (by decide) (by decide) (by decide) dX4_init_7 (fun q_1 H hP hD hS => ?_)
  have hP : va_P (dC, dI) vwCl [(h0, .inr (7, [.null, .null, .null, .int 0, .int 0, .int 0, .int 0, .int 0, .null, .null, .null, .null, .int 0])), (q_1, .inl (cyI, 64, .inl (fun _ => 0)))] H := hP
  have hD : va_D A [(h0, .inr (7, [.null, .null, .null, .int 0, .int 0, .int 0, .int 0, .int 0, .null, .null, .null, .null, .int 0])), (q_1, .inl (cyI, 64, .inl (fun _ => 0)))] := hD
  refine W.widen (k := 1) (n := 64) (by omega) (by omega) ?_
  refine va_putF (D := (dC, dI)) (ci := 7) (v := .ref q_1) (ty := .array .int) (C := RX8) (T := TX8) (N := 13) hx hb hts hiX8 tyX8 tyX8_ok nmX8 hown hK hP hD hS 0 rfl rfl 0 (by decide) (hts (.fieldLink RX4 9 "RegisterMill$Machine" "memory" "[I") (by decide +kernel)) (fun _ h9 => h9) rfl hin rfl (by decide +kernel) rfl rfl (Nat.le_of_ble_eq_true rfl) dX4_init_9 (fun H locs hP hD hS => ?_)
  have hP : va_P (dC, dI) vwCl [(h0, .inr (7, [.ref q_1, .null, .null, .int 0, .int 0, .int 0, .int 0, .int 0, .null, .null, .null, .null, .int 0])), (q_1, .inl (cyI, 64, .inl (fun _ => 0)))] H := hP
  have hD : va_D A [(h0, .inr (7, [.ref q_1, .null, .null, .int 0, .int 0, .int 0, .int 0, .int 0, .null, .null, .null, .null, .int 0])), (q_1, .inl (cyI, 64, .inl (fun _ => 0)))] := hD
  refine lv_aload_n hx hb dX4_init_12 rfl (lv_at hl 0 rfl) ?_
  refine lv_bipush (v := 30) hx hb dX4_init_13 (by decide) ?_
  refine pz_newd hx hb (hts (.arrayClass .int) (by decide +kernel)) hK hP hD hS hA 30 (by decide) (by decide) (by decide) (by decide) (by decide) dX4_init_15 (fun q_2 H hP hS => ?_)
  refine W.widen (k := 2) (n := 94) (by omega) (by omega) ?_
  refine va_putF (D := (dC, dI)) (ci := 7) (v := .ref q_2) (ty := .array .int) (C := RX8) (T := TX8) (N := 13) hx hb hts hiX8 tyX8 tyX8_ok nmX8 hown hK hP hD hS 0 rfl rfl 1 (by decide) (hts (.fieldLink RX4 15 "RegisterMill$Machine" "funcs" "[I") (by decide +kernel)) (fun _ h9 => h9) rfl hin rfl (by decide +kernel) rfl rfl (Nat.le_of_ble_eq_true rfl) dX4_init_17 (fun H locs hP hD hS => ?_)
  have hP : va_P (dC, dI) vwCl [(h0, .inr (7, [.ref q_1, .ref q_2, .null, .int 0, .int 0, .int 0, .int 0, .int 0, .null, .null, .null, .null, .int 0])), (q_1, .inl (cyI, 64, .inl (fun _ => 0)))] H := hP
  have hD : va_D A [(h0, .inr (7, [.ref q_1, .ref q_2, .null, .int 0, .int 0, .int 0, .int 0, .int 0, .null, .null, .null, .null, .int 0])), (q_1, .inl (cyI, 64, .inl (fun _ => 0)))] := hD
  refine lv_aload_n hx hb dX4_init_20 rfl (lv_at hl 0 rfl) ?_
  refine lv_bipush (v := 30) hx hb dX4_init_21 (by decide) ?_
  refine pz_newd hx hb (hts (.arrayClass .int) (by decide +kernel)) hK hP hD hS hA 30 (by decide) (by decide) (by decide) (by decide) (by decide) dX4_init_23 (fun q_3 H hP hS => ?_)
  refine W.widen (k := 3) (n := 124) (by omega) (by omega) ?_
  refine va_putF (D := (dC, dI)) (ci := 7) (v := .ref q_3) (ty := .array .int) (C := RX8) (T := TX8) (N := 13) hx hb hts hiX8 tyX8 tyX8_ok nmX8 hown hK hP hD hS 0 rfl rfl 2 (by decide) (hts (.fieldLink RX4 18 "RegisterMill$Machine" "nexts" "[I") (by decide +kernel)) (fun _ h9 => h9) rfl hin rfl (by decide +kernel) rfl rfl (Nat.le_of_ble_eq_true rfl) dX4_init_25 (fun H locs hP hD hS => ?_)
  have hP : va_P (dC, dI) vwCl [(h0, .inr (7, [.ref q_1, .ref q_2, .ref q_3, .int 0, .int 0, .int 0, .int 0, .int 0, .null, .null, .null, .null, .int 0])), (q_1, .inl (cyI, 64, .inl (fun _ => 0)))] H := hP
  have hD : va_D A [(h0, .inr (7, [.ref q_1, .ref q_2, .ref q_3, .int 0, .int 0, .int 0, .int 0, .int 0, .null, .null, .null, .null, .int 0])), (q_1, .inl (cyI, 64, .inl (fun _ => 0)))] := hD
  refine W.widen (k := 3) (n := 124) (by decide) (by decide) ?_
  have hP9 := hP.sub (ws' := [(h0, .inr (7, [.ref q_1, .ref q_2, .ref q_3, .int 0, .int 0, .int 0, .int 0, .int 0, .null, .null, .null, .null, .int 0])), (q_1, .inl (cyI, 64, .inl (fun _ => 0)))]) [0, 1] rfl
  have hD9 := hD.sub (ws' := [(h0, .inr (7, [.ref q_1, .ref q_2, .ref q_3, .int 0, .int 0, .int 0, .int 0, .int 0, .null, .null, .null, .null, .int 0])), (q_1, .inl (cyI, 64, .inl (fun _ => 0)))]) [0, 1] (by decide) rfl
  exact W.vret hx hb hr (fun t ht hW => ⟨⟨(), rfl, trivial, ⟨q_1, q_2, q_3, pz_Bof hP9 hK hD9 ht hW⟩⟩, hS.F ht⟩) hS.2.2 dX4_init_28

def wq_X4_init_X7 : List Cond := .code yX4_init cX4_init 1 none :: ([.methodLink RX4 3 objectInit, .instanceMethod objectInit, .code objectInit ⟨#[0xb1]⟩ 1 none, .arrayClass .int, .fieldLink RX4 9 "RegisterMill$Machine" "memory" "[I", .fieldLink RX4 15 "RegisterMill$Machine" "funcs" "[I", .fieldLink RX4 18 "RegisterMill$Machine" "nexts" "[I"] ++ wsX70)
set_option maxHeartbeats 4000000 in
set_option maxRecDepth 100000 in
/-- Machine(), of a RegisterMill$RegisterMachine -/
theorem c_X4_init_X7 (l : Launch) (dC : Nat → ClassId) (dI : Nat → Nat → Nat) (cyI : ClassId) (sz : Nat) (h0 : Nat) : Met l yX4_init wq_X4_init_X7 ({ frames := 1, cells := 3, slots := 124, locals := 12 }) (va_Pc [.ref h0] (pz_pre dC dI [(cyI, .int)] [(h0, .inr (6, [.null, .null, .null, .int 0, .int 0, .int 0, .int 0, .int 0, .null, .null, .null, .null, .int 0]))] sz)) (va_Qv (S := Unit) (fun _ => True) (fun _ t => ∃ a_memory a_funcs a_nexts : Nat, pz_B dC dI [(cyI, .int)] (va_A [(h0, .inr (6, [.null, .null, .null, .int 0, .int 0, .int 0, .int 0, .int 0, .null, .null, .null, .null, .int 0]))] sz) [(h0, .inr (6, [.ref a_memory, .ref a_funcs, .ref a_nexts, .int 0, .int 0, .int 0, .int 0, .int 0, .null, .null, .null, .null, .int 0])), (a_memory, .inl (cyI, 64, .inl (fun _ => 0)))] t) (va_A [(h0, .inr (6, [.null, .null, .null, .int 0, .int 0, .int 0, .int 0, .int 0, .null, .null, .null, .null, .int 0]))] sz)) 3 124 (va_A [(h0, .inr (6, [.null, .null, .null, .int 0, .int 0, .int 0, .int 0, .int 0, .null, .null, .null, .null, .int 0]))] sz) := by
  refine Met.ofW (cc := cX4_init) (maxL := 1) (ret := none) (by decide) rfl ?_
  intro p e s m args below meth c s₁ B hml hv
  obtain ⟨rfl, hsz, hP, hK, hD0, hNW⟩ := hv
  have hx := B.exec
  have hb := B.bytes
  have hr := B.returns
  have hts := atoms_spec (ws := wq_X4_init_X7) B.pre
  have hown : s.vm.findClass RX4 = some m.cls := findClass_of_methodNamed B.named
  have hlocks := B.notSynchronized
  have hin : meth.name = "<init>" := (name_of_methodNamed B.named B.method).1
  have hiX7 : ∀ w ∈ wsX70, w ∈ wq_X4_init_X7 := by decide +kernel
  subst hsz
  have hD := hD0.self (sz := s.heap.size)
  generalize hAe : va_A [(h0, .inr (6, [.null, .null, .null, .int 0, .int 0, .int 0, .int 0, .int 0, .null, .null, .null, .null, .int 0]))] s.heap.size = A at hD ⊢
  have hA : ∀ q : Nat, s.heap.size ≤ q → A q := fun q h => by rw [← hAe]; exact Or.inr h
  have hS : va_S A s.heap s.heap [] := va_S.rf
  have hl := lv_entry ([.ref h0]) (n := 1) (Nat.le_of_ble_eq_true rfl)
  rw [lg_entry_eq]
  generalize (lg_sl ([.ref h0]) ++ List.replicate (1 - (lg_sl ([.ref h0])).length) Slot.unset).toArray = ls at hl ⊢
  have hl : lv_has ls 1 [(0, .ref h0)] := hl
  refine lv_aload_n hx hb dX4_init_0 rfl (lv_at hl 0 rfl) ?_
  refine W.objInit hx hb hown (hts (.methodLink RX4 3 objectInit) (by decide +kernel)) (hts (.instanceMethod objectInit) (by decide +kernel)) (hts (.code objectInit ⟨#[0xb1]⟩ 1 none) (by decide +kernel)) rfl (by rw [hml]; exact hl.1) rfl dX4_init_1 (Nat.le_of_ble_eq_true rfl) (Nat.le_of_ble_eq_true rfl) ?_
  refine W.eq (g2 := F0 m 4 ls []) rfl ?_
  refine lv_aload_n hx hb dX4_init_4 rfl (lv_at hl 0 rfl) ?_
  refine lv_bipush (v := 64) hx hb dX4_init_5 (by decide) ?_
  refine pz_newa hx hb (hts (.arrayClass .int) (by decide +kernel)) hK hP hD hS hA 64 (by decide) (by decide) (by decide) (by decide) (by decide) dX4_init_7 (fun q_1 H hP hD hS => ?_)
  have hP : va_P (dC, dI) vwCl [(h0, .inr (6, [.null, .null, .null, .int 0, .int 0, .int 0, .int 0, .int 0, .null, .null, .null, .null, .int 0])), (q_1, .inl (cyI, 64, .inl (fun _ => 0)))] H := hP
  have hD : va_D A [(h0, .inr (6, [.null, .null, .null, .int 0, .int 0, .int 0, .int 0, .int 0, .null, .null, .null, .null, .int 0])), (q_1, .inl (cyI, 64, .inl (fun _ => 0)))] := hD
  refine W.widen (k := 1) (n := 64) (by omega) (by omega) ?_
  refine va_putF (D := (dC, dI)) (ci := 6) (v := .ref q_1) (ty := .array .int) (C := RX7) (T := TX7) (N := 13) hx hb hts hiX7 tyX7 tyX7_ok nmX7 hown hK hP hD hS 0 rfl rfl 0 (by decide) (hts (.fieldLink RX4 9 "RegisterMill$Machine" "memory" "[I") (by decide +kernel)) (fun _ h9 => h9) rfl hin rfl (by decide +kernel) rfl rfl (Nat.le_of_ble_eq_true rfl) dX4_init_9 (fun H locs hP hD hS => ?_)
  have hP : va_P (dC, dI) vwCl [(h0, .inr (6, [.ref q_1, .null, .null, .int 0, .int 0, .int 0, .int 0, .int 0, .null, .null, .null, .null, .int 0])), (q_1, .inl (cyI, 64, .inl (fun _ => 0)))] H := hP
  have hD : va_D A [(h0, .inr (6, [.ref q_1, .null, .null, .int 0, .int 0, .int 0, .int 0, .int 0, .null, .null, .null, .null, .int 0])), (q_1, .inl (cyI, 64, .inl (fun _ => 0)))] := hD
  refine lv_aload_n hx hb dX4_init_12 rfl (lv_at hl 0 rfl) ?_
  refine lv_bipush (v := 30) hx hb dX4_init_13 (by decide) ?_
  refine pz_newd hx hb (hts (.arrayClass .int) (by decide +kernel)) hK hP hD hS hA 30 (by decide) (by decide) (by decide) (by decide) (by decide) dX4_init_15 (fun q_2 H hP hS => ?_)
  refine W.widen (k := 2) (n := 94) (by omega) (by omega) ?_
  refine va_putF (D := (dC, dI)) (ci := 6) (v := .ref q_2) (ty := .array .int) (C := RX7) (T := TX7) (N := 13) hx hb hts hiX7 tyX7 tyX7_ok nmX7 hown hK hP hD hS 0 rfl rfl 1 (by decide) (hts (.fieldLink RX4 15 "RegisterMill$Machine" "funcs" "[I") (by decide +kernel)) (fun _ h9 => h9) rfl hin rfl (by decide +kernel) rfl rfl (Nat.le_of_ble_eq_true rfl) dX4_init_17 (fun H locs hP hD hS => ?_)
  have hP : va_P (dC, dI) vwCl [(h0, .inr (6, [.ref q_1, .ref q_2, .null, .int 0, .int 0, .int 0, .int 0, .int 0, .null, .null, .null, .null, .int 0])), (q_1, .inl (cyI, 64, .inl (fun _ => 0)))] H := hP
  have hD : va_D A [(h0, .inr (6, [.ref q_1, .ref q_2, .null, .int 0, .int 0, .int 0, .int 0, .int 0, .null, .null, .null, .null, .int 0])), (q_1, .inl (cyI, 64, .inl (fun _ => 0)))] := hD
  refine lv_aload_n hx hb dX4_init_20 rfl (lv_at hl 0 rfl) ?_
  refine lv_bipush (v := 30) hx hb dX4_init_21 (by decide) ?_
  refine pz_newd hx hb (hts (.arrayClass .int) (by decide +kernel)) hK hP hD hS hA 30 (by decide) (by decide) (by decide) (by decide) (by decide) dX4_init_23 (fun q_3 H hP hS => ?_)
  refine W.widen (k := 3) (n := 124) (by omega) (by omega) ?_
  refine va_putF (D := (dC, dI)) (ci := 6) (v := .ref q_3) (ty := .array .int) (C := RX7) (T := TX7) (N := 13) hx hb hts hiX7 tyX7 tyX7_ok nmX7 hown hK hP hD hS 0 rfl rfl 2 (by decide) (hts (.fieldLink RX4 18 "RegisterMill$Machine" "nexts" "[I") (by decide +kernel)) (fun _ h9 => h9) rfl hin rfl (by decide +kernel) rfl rfl (Nat.le_of_ble_eq_true rfl) dX4_init_25 (fun H locs hP hD hS => ?_)
  have hP : va_P (dC, dI) vwCl [(h0, .inr (6, [.ref q_1, .ref q_2, .ref q_3, .int 0, .int 0, .int 0, .int 0, .int 0, .null, .null, .null, .null, .int 0])), (q_1, .inl (cyI, 64, .inl (fun _ => 0)))] H := hP
  have hD : va_D A [(h0, .inr (6, [.ref q_1, .ref q_2, .ref q_3, .int 0, .int 0, .int 0, .int 0, .int 0, .null, .null, .null, .null, .int 0])), (q_1, .inl (cyI, 64, .inl (fun _ => 0)))] := hD
  refine W.widen (k := 3) (n := 124) (by decide) (by decide) ?_
  have hP9 := hP.sub (ws' := [(h0, .inr (6, [.ref q_1, .ref q_2, .ref q_3, .int 0, .int 0, .int 0, .int 0, .int 0, .null, .null, .null, .null, .int 0])), (q_1, .inl (cyI, 64, .inl (fun _ => 0)))]) [0, 1] rfl
  have hD9 := hD.sub (ws' := [(h0, .inr (6, [.ref q_1, .ref q_2, .ref q_3, .int 0, .int 0, .int 0, .int 0, .int 0, .null, .null, .null, .null, .int 0])), (q_1, .inl (cyI, 64, .inl (fun _ => 0)))]) [0, 1] (by decide) rfl
  exact W.vret hx hb hr (fun t ht hW => ⟨⟨(), rfl, trivial, ⟨q_1, q_2, q_3, pz_Bof hP9 hK hD9 ht hW⟩⟩, hS.F ht⟩) hS.2.2 dX4_init_28

def wq_X8_init : List Cond := .code yX8_init cX8_init 2 none :: ([.code yX4_init cX4_init 1 none, .methodLink RX4 3 objectInit, .instanceMethod objectInit, .code objectInit ⟨#[0xb1]⟩ 1 none, .arrayClass .int, .fieldLink RX4 9 "RegisterMill$Machine" "memory" "[I", .fieldLink RX4 15 "RegisterMill$Machine" "funcs" "[I", .fieldLink RX4 18 "RegisterMill$Machine" "nexts" "[I", .initialized RX4, .instanceMethod yX4_init, .fieldLink RX8 9 "RegisterMill$StackMachine" "locals" "[I", .fieldLink RX8 15 "RegisterMill$StackMachine" "stack" "[I", .fieldLink RX8 18 "RegisterMill$StackMachine" "bottoms" "[I", .fieldLink RX8 21 "RegisterMill$StackMachine" "program" "LRegisterMill$Program;"] ++ wsX80)
set_option maxRecDepth 20000 in
theorem gq_X8_init_X4_init_3 : GoodIn wq_X8_init (wq_X4_init_X8) := goodIn_r _ [1, 2, 3, 4, 5, 6, 7, 8, 15, 16, 17, 18, 19, 20, 21, 22, 23, 24, 25, 26, 27] (by decide +kernel) (by decide +kernel)
set_option maxHeartbeats 4000000 in
set_option maxRecDepth 100000 in
/-- StackMachine(program) -/
theorem c_X8_init (l : Launch) (dC : Nat → ClassId) (dI : Nat → Nat → Nat) (cyI : ClassId) (sz : Nat) (h0 : Nat) (pr : Nat) : Met l yX8_init wq_X8_init ({ frames := 2, cells := 6, slots := 814, locals := 32 }) (va_Pc [.ref h0, .ref pr] (pz_pre dC dI [(cyI, .int)] [(h0, .inr (7, [.null, .null, .null, .int 0, .int 0, .int 0, .int 0, .int 0, .null, .null, .null, .null, .int 0]))] sz)) (va_Qv (S := Unit) (fun _ => True) (fun _ t => ∃ a_memory a_funcs a_nexts a_locals a_stack a_bottoms : Nat, pz_B dC dI [(cyI, .int)] (va_A [(h0, .inr (7, [.null, .null, .null, .int 0, .int 0, .int 0, .int 0, .int 0, .null, .null, .null, .null, .int 0]))] sz) [(h0, .inr (7, [.ref a_memory, .ref a_funcs, .ref a_nexts, .int 0, .int 0, .int 0, .int 0, .int 0, .ref pr, .ref a_locals, .ref a_stack, .ref a_bottoms, .int 0])), (a_memory, .inl (cyI, 64, .inl (fun _ => 0)))] t) (va_A [(h0, .inr (7, [.null, .null, .null, .int 0, .int 0, .int 0, .int 0, .int 0, .null, .null, .null, .null, .int 0]))] sz)) 6 814 (va_A [(h0, .inr (7, [.null, .null, .null, .int 0, .int 0, .int 0, .int 0, .int 0, .null, .null, .null, .null, .int 0]))] sz) := by
  refine Met.ofW (cc := cX8_init) (maxL := 2) (ret := none) (by decide) rfl ?_
  intro p e s m args below meth c s₁ B hml hv
  obtain ⟨rfl, hsz, hP, hK, hD0, hNW⟩ := hv
  have hx := B.exec
  have hb := B.bytes
  have hr := B.returns
  have hts := atoms_spec (ws := wq_X8_init) B.pre
  have hown : s.vm.findClass RX8 = some m.cls := findClass_of_methodNamed B.named
  have hlocks := B.notSynchronized
  have hin : meth.name = "<init>" := (name_of_methodNamed B.named B.method).1
  have hiX8 : ∀ w ∈ wsX80, w ∈ wq_X8_init := by decide +kernel
  subst hsz
  have hD := hD0.self (sz := s.heap.size)
  generalize hAe : va_A [(h0, .inr (7, [.null, .null, .null, .int 0, .int 0, .int 0, .int 0, .int 0, .null, .null, .null, .null, .int 0]))] s.heap.size = A at hD ⊢
  have hA : ∀ q : Nat, s.heap.size ≤ q → A q := fun q h => by rw [← hAe]; exact Or.inr h
  have hS : va_S A s.heap s.heap [] := va_S.rf
  have hl := lv_entry ([.ref h0, .ref pr]) (n := 2) (Nat.le_of_ble_eq_true rfl)
  rw [lg_entry_eq]
  generalize (lg_sl ([.ref h0, .ref pr]) ++ List.replicate (2 - (lg_sl ([.ref h0, .ref pr])).length) Slot.unset).toArray = ls at hl ⊢
  have hl : lv_has ls 2 [(0, .ref h0), (1, .ref pr)] := hl
  refine lv_aload_n hx hb dX8_init_0 rfl (lv_at hl 0 rfl) ?_
  have hPc := hP.sub (ws' := [(h0, .inr (7, [.null, .null, .null, .int 0, .int 0, .int 0, .int 0, .int 0, .null, .null, .null, .null, .int 0]))]) [0] rfl
  have hDc := hD.sub (ws' := [(h0, .inr (7, [.null, .null, .null, .int 0, .int 0, .int 0, .int 0, .int 0, .null, .null, .null, .null, .int 0]))]) [0] (by decide) rfl
  have hKc := hK.sub (tys' := [(cyI, .int)]) [0] rfl
  have hFc := va_free (wc := [(h0, .inr (7, [.null, .null, .null, .int 0, .int 0, .int 0, .int 0, .int 0, .null, .null, .null, .null, .int 0]))]) hD hS hA [0] rfl
  refine va_callv (va_runIN (As := []) (rest := []) ⟨hx, hb, hml, hown, hts⟩ (c_X4_init_X8 l dC dI cyI s.heap.size h0) ⟨va_cnB 0 hts gq_X8_init_X4_init_3 rfl rfl rfl hNW.2.2.2.2.2.2.2 (hts (.initialized RX4) (by decide +kernel)) (by decide +kernel) ⟨Nat.le_of_ble_eq_true rfl, Nat.le_of_ble_eq_true rfl⟩, rfl, (hts (.instanceMethod yX4_init) (by decide +kernel))⟩ ⟨pz_blind, pz_to hPc hKc hDc hNW⟩ rfl rfl hl.1 rfl (lv_room (Nat.le_of_ble_eq_true rfl)) dX8_init_1 (by decide)) hS (fun q _ h => hFc q h) hFc (fun u t H1 locs ht hvm hw hB hz1 hk1 hS => ?_)
  obtain ⟨q_2, q_3, q_4, hP1, hK1, hD1⟩ := hB
  rw [ht] at hP1
  obtain ⟨hP, hD⟩ := va_join (wr := []) (w1 := [(h0, .inr (7, [.ref q_2, .ref q_3, .ref q_4, .int 0, .int 0, .int 0, .int 0, .int 0, .null, .null, .null, .null, .int 0])), (q_2, .inl (cyI, 64, .inl (fun _ => 0)))]) hP hD [0] [] rfl rfl (by decide) (by decide) hk1 hFc hP1 hD1
  generalize H1 = H at hP hS ⊢
  have hP : va_P (dC, dI) vwCl [(h0, .inr (7, [.ref q_2, .ref q_3, .ref q_4, .int 0, .int 0, .int 0, .int 0, .int 0, .null, .null, .null, .null, .int 0])), (q_2, .inl (cyI, 64, .inl (fun _ => 0)))] H := hP
  have hD : va_D A [(h0, .inr (7, [.ref q_2, .ref q_3, .ref q_4, .int 0, .int 0, .int 0, .int 0, .int 0, .null, .null, .null, .null, .int 0])), (q_2, .inl (cyI, 64, .inl (fun _ => 0)))] := hD
  refine W.widen (k := 3) (n := 124) (by omega) (by omega) ?_
  refine lv_aload_n hx hb dX8_init_4 rfl (lv_at hl 0 rfl) ?_
  refine lv_sipush (v := 300) hx hb dX8_init_5 (by decide) ?_
  refine pz_newd hx hb (hts (.arrayClass .int) (by decide +kernel)) hK hP hD hS hA 300 (by decide) (by decide) (by decide) (by decide) (by decide) dX8_init_8 (fun q_5 H hP hS => ?_)
  refine W.widen (k := 4) (n := 424) (by omega) (by omega) ?_
  refine va_putF (D := (dC, dI)) (ci := 7) (v := .ref q_5) (ty := .array .int) (C := RX8) (T := TX8) (N := 13) hx hb hts hiX8 tyX8 tyX8_ok nmX8 hown hK hP hD hS 0 rfl rfl 9 (by decide) (hts (.fieldLink RX8 9 "RegisterMill$StackMachine" "locals" "[I") (by decide +kernel)) (fun _ h9 => h9) rfl hin rfl (by decide +kernel) rfl rfl (Nat.le_of_ble_eq_true rfl) dX8_init_10 (fun H locs hP hD hS => ?_)
  have hP : va_P (dC, dI) vwCl [(h0, .inr (7, [.ref q_2, .ref q_3, .ref q_4, .int 0, .int 0, .int 0, .int 0, .int 0, .null, .ref q_5, .null, .null, .int 0])), (q_2, .inl (cyI, 64, .inl (fun _ => 0)))] H := hP
  have hD : va_D A [(h0, .inr (7, [.ref q_2, .ref q_3, .ref q_4, .int 0, .int 0, .int 0, .int 0, .int 0, .null, .ref q_5, .null, .null, .int 0])), (q_2, .inl (cyI, 64, .inl (fun _ => 0)))] := hD
  refine lv_aload_n hx hb dX8_init_13 rfl (lv_at hl 0 rfl) ?_
  refine lv_sipush (v := 360) hx hb dX8_init_14 (by decide) ?_
  refine pz_newd hx hb (hts (.arrayClass .int) (by decide +kernel)) hK hP hD hS hA 360 (by decide) (by decide) (by decide) (by decide) (by decide) dX8_init_17 (fun q_6 H hP hS => ?_)
  refine W.widen (k := 5) (n := 784) (by omega) (by omega) ?_
  refine va_putF (D := (dC, dI)) (ci := 7) (v := .ref q_6) (ty := .array .int) (C := RX8) (T := TX8) (N := 13) hx hb hts hiX8 tyX8 tyX8_ok nmX8 hown hK hP hD hS 0 rfl rfl 10 (by decide) (hts (.fieldLink RX8 15 "RegisterMill$StackMachine" "stack" "[I") (by decide +kernel)) (fun _ h9 => h9) rfl hin rfl (by decide +kernel) rfl rfl (Nat.le_of_ble_eq_true rfl) dX8_init_19 (fun H locs hP hD hS => ?_)
  have hP : va_P (dC, dI) vwCl [(h0, .inr (7, [.ref q_2, .ref q_3, .ref q_4, .int 0, .int 0, .int 0, .int 0, .int 0, .null, .ref q_5, .ref q_6, .null, .int 0])), (q_2, .inl (cyI, 64, .inl (fun _ => 0)))] H := hP
  have hD : va_D A [(h0, .inr (7, [.ref q_2, .ref q_3, .ref q_4, .int 0, .int 0, .int 0, .int 0, .int 0, .null, .ref q_5, .ref q_6, .null, .int 0])), (q_2, .inl (cyI, 64, .inl (fun _ => 0)))] := hD
  refine lv_aload_n hx hb dX8_init_22 rfl (lv_at hl 0 rfl) ?_
  refine lv_bipush (v := 30) hx hb dX8_init_23 (by decide) ?_
  refine pz_newd hx hb (hts (.arrayClass .int) (by decide +kernel)) hK hP hD hS hA 30 (by decide) (by decide) (by decide) (by decide) (by decide) dX8_init_25 (fun q_7 H hP hS => ?_)
  refine W.widen (k := 6) (n := 814) (by omega) (by omega) ?_
  refine va_putF (D := (dC, dI)) (ci := 7) (v := .ref q_7) (ty := .array .int) (C := RX8) (T := TX8) (N := 13) hx hb hts hiX8 tyX8 tyX8_ok nmX8 hown hK hP hD hS 0 rfl rfl 11 (by decide) (hts (.fieldLink RX8 18 "RegisterMill$StackMachine" "bottoms" "[I") (by decide +kernel)) (fun _ h9 => h9) rfl hin rfl (by decide +kernel) rfl rfl (Nat.le_of_ble_eq_true rfl) dX8_init_27 (fun H locs hP hD hS => ?_)
  have hP : va_P (dC, dI) vwCl [(h0, .inr (7, [.ref q_2, .ref q_3, .ref q_4, .int 0, .int 0, .int 0, .int 0, .int 0, .null, .ref q_5, .ref q_6, .ref q_7, .int 0])), (q_2, .inl (cyI, 64, .inl (fun _ => 0)))] H := hP
  have hD : va_D A [(h0, .inr (7, [.ref q_2, .ref q_3, .ref q_4, .int 0, .int 0, .int 0, .int 0, .int 0, .null, .ref q_5, .ref q_6, .ref q_7, .int 0])), (q_2, .inl (cyI, 64, .inl (fun _ => 0)))] := hD
  refine lv_aload_n hx hb dX8_init_30 rfl (lv_at hl 0 rfl) ?_
  refine lv_aload_n hx hb dX8_init_31 rfl (lv_at hl 1 rfl) ?_
  refine va_putF (D := (dC, dI)) (ci := 7) (v := .ref pr) (ty := .object "RegisterMill$Program") (C := RX8) (T := TX8) (N := 13) hx hb hts hiX8 tyX8 tyX8_ok nmX8 hown hK hP hD hS 0 rfl rfl 8 (by decide) (hts (.fieldLink RX8 21 "RegisterMill$StackMachine" "program" "LRegisterMill$Program;") (by decide +kernel)) (fun _ h9 => h9) rfl hin rfl (by decide +kernel) rfl rfl (Nat.le_of_ble_eq_true rfl) dX8_init_32 (fun H locs hP hD hS => ?_)
  have hP : va_P (dC, dI) vwCl [(h0, .inr (7, [.ref q_2, .ref q_3, .ref q_4, .int 0, .int 0, .int 0, .int 0, .int 0, .ref pr, .ref q_5, .ref q_6, .ref q_7, .int 0])), (q_2, .inl (cyI, 64, .inl (fun _ => 0)))] H := hP
  have hD : va_D A [(h0, .inr (7, [.ref q_2, .ref q_3, .ref q_4, .int 0, .int 0, .int 0, .int 0, .int 0, .ref pr, .ref q_5, .ref q_6, .ref q_7, .int 0])), (q_2, .inl (cyI, 64, .inl (fun _ => 0)))] := hD
  refine W.widen (k := 6) (n := 814) (by decide) (by decide) ?_
  have hP9 := hP.sub (ws' := [(h0, .inr (7, [.ref q_2, .ref q_3, .ref q_4, .int 0, .int 0, .int 0, .int 0, .int 0, .ref pr, .ref q_5, .ref q_6, .ref q_7, .int 0])), (q_2, .inl (cyI, 64, .inl (fun _ => 0)))]) [0, 1] rfl
  have hD9 := hD.sub (ws' := [(h0, .inr (7, [.ref q_2, .ref q_3, .ref q_4, .int 0, .int 0, .int 0, .int 0, .int 0, .ref pr, .ref q_5, .ref q_6, .ref q_7, .int 0])), (q_2, .inl (cyI, 64, .inl (fun _ => 0)))]) [0, 1] (by decide) rfl
  exact W.vret hx hb hr (fun t ht hW => ⟨⟨(), rfl, trivial, ⟨q_2, q_3, q_4, q_5, q_6, q_7, pz_Bof hP9 hK hD9 ht hW⟩⟩, hS.F ht⟩) hS.2.2 dX8_init_35

def wq_X7_init : List Cond := .code yX7_init cX7_init 2 none :: ([.code yX4_init cX4_init 1 none, .methodLink RX4 3 objectInit, .instanceMethod objectInit, .code objectInit ⟨#[0xb1]⟩ 1 none, .arrayClass .int, .fieldLink RX4 9 "RegisterMill$Machine" "memory" "[I", .fieldLink RX4 15 "RegisterMill$Machine" "funcs" "[I", .fieldLink RX4 18 "RegisterMill$Machine" "nexts" "[I", .initialized RX4, .instanceMethod yX4_init, .fieldLink RX7 9 "RegisterMill$RegisterMachine" "registers" "[I", .fieldLink RX7 15 "RegisterMill$RegisterMachine" "slotCells" "[I", .fieldLink RX7 18 "RegisterMill$RegisterMachine" "passed" "[I", .fieldLink RX7 21 "RegisterMill$RegisterMachine" "code" "LRegisterMill$Code;"] ++ wsX70)
set_option maxRecDepth 20000 in
theorem gq_X7_init_X4_init_3 : GoodIn wq_X7_init (wq_X4_init_X7) := goodIn_r _ [1, 2, 3, 4, 5, 6, 7, 8, 15, 16, 17, 18, 19, 20, 21, 22, 23, 24, 25, 26, 27] (by decide +kernel) (by decide +kernel)
set_option maxHeartbeats 4000000 in
set_option maxRecDepth 100000 in
/-- RegisterMachine(code) -/
theorem c_X7_init (l : Launch) (dC : Nat → ClassId) (dI : Nat → Nat → Nat) (cyI : ClassId) (sz : Nat) (h0 : Nat) (co : Nat) : Met l yX7_init wq_X7_init ({ frames := 2, cells := 6, slots := 1270, locals := 32 }) (va_Pc [.ref h0, .ref co] (pz_pre dC dI [(cyI, .int)] [(h0, .inr (6, [.null, .null, .null, .int 0, .int 0, .int 0, .int 0, .int 0, .null, .null, .null, .null, .int 0]))] sz)) (va_Qv (S := Unit) (fun _ => True) (fun _ t => ∃ a_memory a_funcs a_nexts a_registers a_slotCells a_passed : Nat, pz_B dC dI [(cyI, .int)] (va_A [(h0, .inr (6, [.null, .null, .null, .int 0, .int 0, .int 0, .int 0, .int 0, .null, .null, .null, .null, .int 0]))] sz) [(h0, .inr (6, [.ref a_memory, .ref a_funcs, .ref a_nexts, .int 0, .int 0, .int 0, .int 0, .int 0, .ref co, .ref a_registers, .ref a_slotCells, .ref a_passed, .int 0])), (a_memory, .inl (cyI, 64, .inl (fun _ => 0))), (a_passed, .inl (cyI, 6, .inl (fun _ => 0)))] t) (va_A [(h0, .inr (6, [.null, .null, .null, .int 0, .int 0, .int 0, .int 0, .int 0, .null, .null, .null, .null, .int 0]))] sz)) 6 1270 (va_A [(h0, .inr (6, [.null, .null, .null, .int 0, .int 0, .int 0, .int 0, .int 0, .null, .null, .null, .null, .int 0]))] sz) := by
  refine Met.ofW (cc := cX7_init) (maxL := 2) (ret := none) (by decide) rfl ?_
  intro p e s m args below meth c s₁ B hml hv
  obtain ⟨rfl, hsz, hP, hK, hD0, hNW⟩ := hv
  have hx := B.exec
  have hb := B.bytes
  have hr := B.returns
  have hts := atoms_spec (ws := wq_X7_init) B.pre
  have hown : s.vm.findClass RX7 = some m.cls := findClass_of_methodNamed B.named
  have hlocks := B.notSynchronized
  have hin : meth.name = "<init>" := (name_of_methodNamed B.named B.method).1
  have hiX7 : ∀ w ∈ wsX70, w ∈ wq_X7_init := by decide +kernel
  subst hsz
  have hD := hD0.self (sz := s.heap.size)
  generalize hAe : va_A [(h0, .inr (6, [.null, .null, .null, .int 0, .int 0, .int 0, .int 0, .int 0, .null, .null, .null, .null, .int 0]))] s.heap.size = A at hD ⊢
  have hA : ∀ q : Nat, s.heap.size ≤ q → A q := fun q h => by rw [← hAe]; exact Or.inr h
  have hS : va_S A s.heap s.heap [] := va_S.rf
  have hl := lv_entry ([.ref h0, .ref co]) (n := 2) (Nat.le_of_ble_eq_true rfl)
  rw [lg_entry_eq]
  generalize (lg_sl ([.ref h0, .ref co]) ++ List.replicate (2 - (lg_sl ([.ref h0, .ref co])).length) Slot.unset).toArray = ls at hl ⊢
  have hl : lv_has ls 2 [(0, .ref h0), (1, .ref co)] := hl
  refine lv_aload_n hx hb dX7_init_0 rfl (lv_at hl 0 rfl) ?_
  have hPc := hP.sub (ws' := [(h0, .inr (6, [.null, .null, .null, .int 0, .int 0, .int 0, .int 0, .int 0, .null, .null, .null, .null, .int 0]))]) [0] rfl
  have hDc := hD.sub (ws' := [(h0, .inr (6, [.null, .null, .null, .int 0, .int 0, .int 0, .int 0, .int 0, .null, .null, .null, .null, .int 0]))]) [0] (by decide) rfl
  have hKc := hK.sub (tys' := [(cyI, .int)]) [0] rfl
  have hFc := va_free (wc := [(h0, .inr (6, [.null, .null, .null, .int 0, .int 0, .int 0, .int 0, .int 0, .null, .null, .null, .null, .int 0]))]) hD hS hA [0] rfl
  refine va_callv (va_runIN (As := []) (rest := []) ⟨hx, hb, hml, hown, hts⟩ (c_X4_init_X7 l dC dI cyI s.heap.size h0) ⟨va_cnB 0 hts gq_X7_init_X4_init_3 rfl rfl rfl hNW.2.2.2.2.2.2.1 (hts (.initialized RX4) (by decide +kernel)) (by decide +kernel) ⟨Nat.le_of_ble_eq_true rfl, Nat.le_of_ble_eq_true rfl⟩, rfl, (hts (.instanceMethod yX4_init) (by decide +kernel))⟩ ⟨pz_blind, pz_to hPc hKc hDc hNW⟩ rfl rfl hl.1 rfl (lv_room (Nat.le_of_ble_eq_true rfl)) dX7_init_1 (by decide)) hS (fun q _ h => hFc q h) hFc (fun u t H1 locs ht hvm hw hB hz1 hk1 hS => ?_)
  obtain ⟨q_2, q_3, q_4, hP1, hK1, hD1⟩ := hB
  rw [ht] at hP1
  obtain ⟨hP, hD⟩ := va_join (wr := []) (w1 := [(h0, .inr (6, [.ref q_2, .ref q_3, .ref q_4, .int 0, .int 0, .int 0, .int 0, .int 0, .null, .null, .null, .null, .int 0])), (q_2, .inl (cyI, 64, .inl (fun _ => 0)))]) hP hD [0] [] rfl rfl (by decide) (by decide) hk1 hFc hP1 hD1
  generalize H1 = H at hP hS ⊢
  have hP : va_P (dC, dI) vwCl [(h0, .inr (6, [.ref q_2, .ref q_3, .ref q_4, .int 0, .int 0, .int 0, .int 0, .int 0, .null, .null, .null, .null, .int 0])), (q_2, .inl (cyI, 64, .inl (fun _ => 0)))] H := hP
  have hD : va_D A [(h0, .inr (6, [.ref q_2, .ref q_3, .ref q_4, .int 0, .int 0, .int 0, .int 0, .int 0, .null, .null, .null, .null, .int 0])), (q_2, .inl (cyI, 64, .inl (fun _ => 0)))] := hD
  refine W.widen (k := 3) (n := 124) (by omega) (by omega) ?_
  refine lv_aload_n hx hb dX7_init_4 rfl (lv_at hl 0 rfl) ?_
  refine lv_sipush (v := 480) hx hb dX7_init_5 (by decide) ?_
  refine pz_newd hx hb (hts (.arrayClass .int) (by decide +kernel)) hK hP hD hS hA 480 (by decide) (by decide) (by decide) (by decide) (by decide) dX7_init_8 (fun q_5 H hP hS => ?_)
  refine W.widen (k := 4) (n := 604) (by omega) (by omega) ?_
  refine va_putF (D := (dC, dI)) (ci := 6) (v := .ref q_5) (ty := .array .int) (C := RX7) (T := TX7) (N := 13) hx hb hts hiX7 tyX7 tyX7_ok nmX7 hown hK hP hD hS 0 rfl rfl 9 (by decide) (hts (.fieldLink RX7 9 "RegisterMill$RegisterMachine" "registers" "[I") (by decide +kernel)) (fun _ h9 => h9) rfl hin rfl (by decide +kernel) rfl rfl (Nat.le_of_ble_eq_true rfl) dX7_init_10 (fun H locs hP hD hS => ?_)
  have hP : va_P (dC, dI) vwCl [(h0, .inr (6, [.ref q_2, .ref q_3, .ref q_4, .int 0, .int 0, .int 0, .int 0, .int 0, .null, .ref q_5, .null, .null, .int 0])), (q_2, .inl (cyI, 64, .inl (fun _ => 0)))] H := hP
  have hD : va_D A [(h0, .inr (6, [.ref q_2, .ref q_3, .ref q_4, .int 0, .int 0, .int 0, .int 0, .int 0, .null, .ref q_5, .null, .null, .int 0])), (q_2, .inl (cyI, 64, .inl (fun _ => 0)))] := hD
  refine lv_aload_n hx hb dX7_init_13 rfl (lv_at hl 0 rfl) ?_
  refine lv_sipush (v := 660) hx hb dX7_init_14 (by decide) ?_
  refine pz_newd hx hb (hts (.arrayClass .int) (by decide +kernel)) hK hP hD hS hA 660 (by decide) (by decide) (by decide) (by decide) (by decide) dX7_init_17 (fun q_6 H hP hS => ?_)
  refine W.widen (k := 5) (n := 1264) (by omega) (by omega) ?_
  refine va_putF (D := (dC, dI)) (ci := 6) (v := .ref q_6) (ty := .array .int) (C := RX7) (T := TX7) (N := 13) hx hb hts hiX7 tyX7 tyX7_ok nmX7 hown hK hP hD hS 0 rfl rfl 10 (by decide) (hts (.fieldLink RX7 15 "RegisterMill$RegisterMachine" "slotCells" "[I") (by decide +kernel)) (fun _ h9 => h9) rfl hin rfl (by decide +kernel) rfl rfl (Nat.le_of_ble_eq_true rfl) dX7_init_19 (fun H locs hP hD hS => ?_)
  have hP : va_P (dC, dI) vwCl [(h0, .inr (6, [.ref q_2, .ref q_3, .ref q_4, .int 0, .int 0, .int 0, .int 0, .int 0, .null, .ref q_5, .ref q_6, .null, .int 0])), (q_2, .inl (cyI, 64, .inl (fun _ => 0)))] H := hP
  have hD : va_D A [(h0, .inr (6, [.ref q_2, .ref q_3, .ref q_4, .int 0, .int 0, .int 0, .int 0, .int 0, .null, .ref q_5, .ref q_6, .null, .int 0])), (q_2, .inl (cyI, 64, .inl (fun _ => 0)))] := hD
  refine lv_aload_n hx hb dX7_init_22 rfl (lv_at hl 0 rfl) ?_
  refine lv_bipush (v := 6) hx hb dX7_init_23 (by decide) ?_
  refine pz_newa hx hb (hts (.arrayClass .int) (by decide +kernel)) hK hP hD hS hA 6 (by decide) (by decide) (by decide) (by decide) (by decide) dX7_init_25 (fun q_7 H hP hD hS => ?_)
  have hP : va_P (dC, dI) vwCl [(h0, .inr (6, [.ref q_2, .ref q_3, .ref q_4, .int 0, .int 0, .int 0, .int 0, .int 0, .null, .ref q_5, .ref q_6, .null, .int 0])), (q_2, .inl (cyI, 64, .inl (fun _ => 0))), (q_7, .inl (cyI, 6, .inl (fun _ => 0)))] H := hP
  have hD : va_D A [(h0, .inr (6, [.ref q_2, .ref q_3, .ref q_4, .int 0, .int 0, .int 0, .int 0, .int 0, .null, .ref q_5, .ref q_6, .null, .int 0])), (q_2, .inl (cyI, 64, .inl (fun _ => 0))), (q_7, .inl (cyI, 6, .inl (fun _ => 0)))] := hD
  refine W.widen (k := 6) (n := 1270) (by omega) (by omega) ?_
  refine va_putF (D := (dC, dI)) (ci := 6) (v := .ref q_7) (ty := .array .int) (C := RX7) (T := TX7) (N := 13) hx hb hts hiX7 tyX7 tyX7_ok nmX7 hown hK hP hD hS 0 rfl rfl 11 (by decide) (hts (.fieldLink RX7 18 "RegisterMill$RegisterMachine" "passed" "[I") (by decide +kernel)) (fun _ h9 => h9) rfl hin rfl (by decide +kernel) rfl rfl (Nat.le_of_ble_eq_true rfl) dX7_init_27 (fun H locs hP hD hS => ?_)
  have hP : va_P (dC, dI) vwCl [(h0, .inr (6, [.ref q_2, .ref q_3, .ref q_4, .int 0, .int 0, .int 0, .int 0, .int 0, .null, .ref q_5, .ref q_6, .ref q_7, .int 0])), (q_2, .inl (cyI, 64, .inl (fun _ => 0))), (q_7, .inl (cyI, 6, .inl (fun _ => 0)))] H := hP
  have hD : va_D A [(h0, .inr (6, [.ref q_2, .ref q_3, .ref q_4, .int 0, .int 0, .int 0, .int 0, .int 0, .null, .ref q_5, .ref q_6, .ref q_7, .int 0])), (q_2, .inl (cyI, 64, .inl (fun _ => 0))), (q_7, .inl (cyI, 6, .inl (fun _ => 0)))] := hD
  refine lv_aload_n hx hb dX7_init_30 rfl (lv_at hl 0 rfl) ?_
  refine lv_aload_n hx hb dX7_init_31 rfl (lv_at hl 1 rfl) ?_
  refine va_putF (D := (dC, dI)) (ci := 6) (v := .ref co) (ty := .object "RegisterMill$Code") (C := RX7) (T := TX7) (N := 13) hx hb hts hiX7 tyX7 tyX7_ok nmX7 hown hK hP hD hS 0 rfl rfl 8 (by decide) (hts (.fieldLink RX7 21 "RegisterMill$RegisterMachine" "code" "LRegisterMill$Code;") (by decide +kernel)) (fun _ h9 => h9) rfl hin rfl (by decide +kernel) rfl rfl (Nat.le_of_ble_eq_true rfl) dX7_init_32 (fun H locs hP hD hS => ?_)
  have hP : va_P (dC, dI) vwCl [(h0, .inr (6, [.ref q_2, .ref q_3, .ref q_4, .int 0, .int 0, .int 0, .int 0, .int 0, .ref co, .ref q_5, .ref q_6, .ref q_7, .int 0])), (q_2, .inl (cyI, 64, .inl (fun _ => 0))), (q_7, .inl (cyI, 6, .inl (fun _ => 0)))] H := hP
  have hD : va_D A [(h0, .inr (6, [.ref q_2, .ref q_3, .ref q_4, .int 0, .int 0, .int 0, .int 0, .int 0, .ref co, .ref q_5, .ref q_6, .ref q_7, .int 0])), (q_2, .inl (cyI, 64, .inl (fun _ => 0))), (q_7, .inl (cyI, 6, .inl (fun _ => 0)))] := hD
  refine W.widen (k := 6) (n := 1270) (by decide) (by decide) ?_
  have hP9 := hP.sub (ws' := [(h0, .inr (6, [.ref q_2, .ref q_3, .ref q_4, .int 0, .int 0, .int 0, .int 0, .int 0, .ref co, .ref q_5, .ref q_6, .ref q_7, .int 0])), (q_2, .inl (cyI, 64, .inl (fun _ => 0))), (q_7, .inl (cyI, 6, .inl (fun _ => 0)))]) [0, 1, 2] rfl
  have hD9 := hD.sub (ws' := [(h0, .inr (6, [.ref q_2, .ref q_3, .ref q_4, .int 0, .int 0, .int 0, .int 0, .int 0, .ref co, .ref q_5, .ref q_6, .ref q_7, .int 0])), (q_2, .inl (cyI, 64, .inl (fun _ => 0))), (q_7, .inl (cyI, 6, .inl (fun _ => 0)))]) [0, 1, 2] (by decide) rfl
  exact W.vret hx hb hr (fun t ht hW => ⟨⟨(), rfl, trivial, ⟨q_2, q_3, q_4, q_5, q_6, q_7, pz_Bof hP9 hK hD9 ht hW⟩⟩, hS.F ht⟩) hS.2.2 dX7_init_35

def wq_X9_init : List Cond := .code yX9_init cX9_init 2 none :: ([.methodLink RX9 3 objectInit, .instanceMethod objectInit, .code objectInit ⟨#[0xb1]⟩ 1 none, .classLink RX9 9 RX5, .instantiable RX5 10, .initialized RX5, .code yX5_init cX5_init 1 none, .methodLink RX5 3 objectInit, .arrayClass .int, .fieldLink RX5 9 "RegisterMill$Places" "kinds" "[I", .fieldLink RX5 15 "RegisterMill$Places" "numbers" "[I", .fieldLink RX5 18 "RegisterMill$Places" "goals" "[I", .fieldLink RX5 21 "RegisterMill$Places" "written" "[I", .fieldLink RX5 24 "RegisterMill$Places" "readCounts" "[I", .classLink RX5 27 "[[I", .fieldLink RX5 29 "RegisterMill$Places" "reads" "[[I", .fieldLink RX5 32 "RegisterMill$Places" "newNumbers" "[I", .arrayClass .boolean, .fieldLink RX5 35 "RegisterMill$Places" "blockStarts" "[Z", .fieldLink RX5 39 "RegisterMill$Places" "copyOf" "[I", .instanceMethod yX5_init, .fieldLink RX9 12 "RegisterMill$Turner" "places" "LRegisterMill$Places;", .classLink RX9 18 RX3, .instantiable RX3 2, .initialized RX3, .code yX3_init cX3_init 1 none, .methodLink RX3 3 objectInit, .fieldLink RX3 9 "RegisterMill$Live" "ahead" "[I", .fieldLink RX3 15 "RegisterMill$Live" "behind" "[I", .instanceMethod yX3_init, .fieldLink RX9 21 "RegisterMill$Turner" "live" "LRegisterMill$Live;", .classLink RX9 25 RX2, .instantiable RX2 6, .initialized RX2, .code yX2_init cX2_init 1 none, .methodLink RX2 3 objectInit, .fieldLink RX2 9 "RegisterMill$Homes" "firsts" "[I", .fieldLink RX2 15 "RegisterMill$Homes" "lasts" "[I", .fieldLink RX2 18 "RegisterMill$Homes" "registers" "[I", .fieldLink RX2 21 "RegisterMill$Homes" "slotNumbers" "[I", .fieldLink RX2 24 "RegisterMill$Homes" "slotCounts" "[I", .fieldLink RX2 27 "RegisterMill$Homes" "holders" "[I", .instanceMethod yX2_init, .fieldLink RX9 28 "RegisterMill$Turner" "homes" "LRegisterMill$Homes;", .classLink RX9 32 RX1, .instantiable RX1 4, .initialized RX1, .code yX1_init cX1_init 1 none, .methodLink RX1 3 objectInit, .fieldLink RX1 9 "RegisterMill$Code" "starts" "[I", .fieldLink RX1 15 "RegisterMill$Code" "sizes" "[I", .fieldLink RX1 18 "RegisterMill$Code" "parts" "[I", .instanceMethod yX1_init, .fieldLink RX9 35 "RegisterMill$Turner" "code" "LRegisterMill$Code;", .fieldLink RX9 39 "RegisterMill$Turner" "placeCounts" "[I", .fieldLink RX9 43 "RegisterMill$Turner" "program" "LRegisterMill$Program;", .classLink RX9 47 RX10, .instantiable RX10 7, .initialized RX10, .code yX10_init cX10_init 4 none, .methodLink RX10 3 objectInit, .fieldLink RX10 9 "RegisterMill$Writer" "firstOps" "[I", .fieldLink RX10 15 "RegisterMill$Writer" "places" "LRegisterMill$Places;", .fieldLink RX10 19 "RegisterMill$Writer" "homes" "LRegisterMill$Homes;", .fieldLink RX10 23 "RegisterMill$Writer" "code" "LRegisterMill$Code;", .methodLink RX9 49 yX10_init, .instanceMethod yX10_init, .fieldLink RX9 52 "RegisterMill$Turner" "writer" "LRegisterMill$Writer;"] ++ wsX50 ++ wsX90 ++ wsX30 ++ wsX20 ++ wsX10 ++ wsX100)
set_option maxRecDepth 20000 in
theorem gq_X9_init_X5_init_11 : GoodIn wq_X9_init (wq_X5_init) := goodIn_r _ [7, 8, 2, 3, 9, 10, 11, 12, 13, 14, 15, 16, 17, 18, 19, 20, 69, 70, 71, 72, 73, 74, 75, 76, 77, 78] (by decide +kernel) (by decide +kernel)
set_option maxRecDepth 20000 in
theorem gq_X9_init_X3_init_20 : GoodIn wq_X9_init (wq_X3_init) := goodIn_r _ [26, 27, 2, 3, 9, 28, 29, 87, 88] (by decide +kernel) (by decide +kernel)
set_option maxRecDepth 20000 in
theorem gq_X9_init_X2_init_27 : GoodIn wq_X9_init (wq_X2_init) := goodIn_r _ [35, 36, 2, 3, 9, 37, 38, 39, 40, 41, 42, 89, 90, 91, 92, 93, 94] (by decide +kernel) (by decide +kernel)
set_option maxRecDepth 20000 in
theorem gq_X9_init_X1_init_34 : GoodIn wq_X9_init (wq_X1_init) := goodIn_r _ [48, 49, 2, 3, 9, 50, 51, 52, 95, 96, 97, 98] (by decide +kernel) (by decide +kernel)
set_option maxRecDepth 20000 in
theorem gq_X9_init_X10_init_49 : GoodIn wq_X9_init (wq_X10_init) := goodIn_r _ [60, 61, 2, 3, 9, 62, 63, 64, 65, 99, 100, 101, 102, 103, 104, 105] (by decide +kernel) (by decide +kernel)
set_option maxHeartbeats 4000000 in
set_option maxRecDepth 100000 in
/-- Turner(program) -/
theorem c_X9_init (l : Launch) (dC : Nat → ClassId) (dI : Nat → Nat → Nat) (cyI : ClassId) (sz : Nat) (h0 : Nat) (pr : Nat) : Met l yX9_init wq_X9_init ({ frames := 2, cells := 33, slots := 7977, locals := 35 }) (va_Pc [.ref h0, .ref pr] (pz_pre dC dI [(cyI, .int)] [(h0, .inr (8, [.null, .null, .null, .null, .null, .null, .null, .int 0]))] sz)) (va_Qv (S := Unit) (fun _ => True) (fun _ t => ∃ a_places a_live a_homes a_code a_writer a_placeCounts : Nat, pz_B dC dI [(cyI, .int)] (va_A [(h0, .inr (8, [.null, .null, .null, .null, .null, .null, .null, .int 0]))] sz) [(h0, .inr (8, [.ref pr, .ref a_places, .ref a_live, .ref a_homes, .ref a_code, .ref a_writer, .ref a_placeCounts, .int 0]))] t) (va_A [(h0, .inr (8, [.null, .null, .null, .null, .null, .null, .null, .int 0]))] sz)) 33 7977 (va_A [(h0, .inr (8, [.null, .null, .null, .null, .null, .null, .null, .int 0]))] sz) := by
  refine Met.ofW (cc := cX9_init) (maxL := 2) (ret := none) (by decide) rfl ?_
  intro p e s m args below meth c s₁ B hml hv
  obtain ⟨rfl, hsz, hP, hK, hD0, hNW⟩ := hv
  have hx := B.exec
  have hb := B.bytes
  have hr := B.returns
  have hts := atoms_spec (ws := wq_X9_init) B.pre
  have hown : s.vm.findClass RX9 = some m.cls := findClass_of_methodNamed B.named
  have hlocks := B.notSynchronized
  have hin : meth.name = "<init>" := (name_of_methodNamed B.named B.method).1
  have hiX5 : ∀ w ∈ wsX50, w ∈ wq_X9_init := by decide +kernel
  have hiX9 : ∀ w ∈ wsX90, w ∈ wq_X9_init := by decide +kernel
  have hiX3 : ∀ w ∈ wsX30, w ∈ wq_X9_init := by decide +kernel
  have hiX2 : ∀ w ∈ wsX20, w ∈ wq_X9_init := by decide +kernel
  have hiX1 : ∀ w ∈ wsX10, w ∈ wq_X9_init := by decide +kernel
  have hiX10 : ∀ w ∈ wsX100, w ∈ wq_X9_init := by decide +kernel
  subst hsz
  have hD := hD0.self (sz := s.heap.size)
  generalize hAe : va_A [(h0, .inr (8, [.null, .null, .null, .null, .null, .null, .null, .int 0]))] s.heap.size = A at hD ⊢
  have hA : ∀ q : Nat, s.heap.size ≤ q → A q := fun q h => by rw [← hAe]; exact Or.inr h
  have hS : va_S A s.heap s.heap [] := va_S.rf
  have hl := lv_entry ([.ref h0, .ref pr]) (n := 2) (Nat.le_of_ble_eq_true rfl)
  rw [lg_entry_eq]
  generalize (lg_sl ([.ref h0, .ref pr]) ++ List.replicate (2 - (lg_sl ([.ref h0, .ref pr])).length) Slot.unset).toArray = ls at hl ⊢
  have hl : lv_has ls 2 [(0, .ref h0), (1, .ref pr)] := hl
  refine lv_aload_n hx hb dX9_init_0 rfl (lv_at hl 0 rfl) ?_
  refine W.objInit hx hb hown (hts (.methodLink RX9 3 objectInit) (by decide +kernel)) (hts (.instanceMethod objectInit) (by decide +kernel)) (hts (.code objectInit ⟨#[0xb1]⟩ 1 none) (by decide +kernel)) rfl (by rw [hml]; exact hl.1) rfl dX9_init_1 (Nat.le_of_ble_eq_true rfl) (Nat.le_of_ble_eq_true rfl) ?_
  refine W.eq (g2 := F0 m 4 ls []) rfl ?_
  refine lv_aload_n hx hb dX9_init_4 rfl (lv_at hl 0 rfl) ?_
  refine va_new (ci := 4) (fs := [.null, .null, .null, .null, .null, .null, .int 0, .null, .null, .null]) (C := RX5) (T := TX5) (N := 10) hx hb hts hiX5 tyX5 tyX5_ok hown (hts (.classLink RX9 9 RX5) (by decide +kernel)) (hts (.instantiable RX5 10) (by decide +kernel)) (hts (.initialized RX5) (by decide +kernel)) hK hP hD hS hA rfl (fun j hj => fsX5 j hj) (by decide) (by decide) dX9_init_5 (fun q_1 H hP hD hS => ?_)
  have hP : va_P (dC, dI) vwCl [(h0, .inr (8, [.null, .null, .null, .null, .null, .null, .null, .int 0])), (q_1, .inr (4, [.null, .null, .null, .null, .null, .null, .int 0, .null, .null, .null]))] H := hP
  have hD : va_D A [(h0, .inr (8, [.null, .null, .null, .null, .null, .null, .null, .int 0])), (q_1, .inr (4, [.null, .null, .null, .null, .null, .null, .int 0, .null, .null, .null]))] := hD
  refine W.widen (k := 1) (n := 10) (by omega) (by omega) ?_
  refine lv_dup hx hb dX9_init_8 rfl ?_
  have hPc := hP.sub (ws' := [(q_1, .inr (4, [.null, .null, .null, .null, .null, .null, .int 0, .null, .null, .null]))]) [1] rfl
  have hDc := hD.sub (ws' := [(q_1, .inr (4, [.null, .null, .null, .null, .null, .null, .int 0, .null, .null, .null]))]) [1] (by decide) rfl
  have hKc := hK.sub (tys' := [(cyI, .int)]) [0] rfl
  have hFc := va_free (wc := [(q_1, .inr (4, [.null, .null, .null, .null, .null, .null, .int 0, .null, .null, .null]))]) hD hS hA [1] rfl
  refine va_callv (va_runIN (As := []) (rest := [.ref q_1, .ref h0]) ⟨hx, hb, hml, hown, hts⟩ (c_X5_init l dC dI cyI H.size q_1) ⟨va_cnB 0 hts gq_X9_init_X5_init_11 rfl rfl rfl hNW.2.2.1 (hts (.initialized RX5) (by decide +kernel)) (by decide +kernel) ⟨Nat.le_of_ble_eq_true rfl, Nat.le_of_ble_eq_true rfl⟩, rfl, (hts (.instanceMethod yX5_init) (by decide +kernel))⟩ ⟨pz_blind, pz_to hPc hKc hDc hNW⟩ rfl rfl hl.1 rfl (lv_room (Nat.le_of_ble_eq_true rfl)) dX9_init_9 (by decide)) hS (fun q _ h => hFc q h) hFc (fun u t H1 locs ht hvm hw hB hz1 hk1 hS => ?_)
  obtain ⟨q_3, q_4, q_5, q_6, q_7, q_8, q_9, q_10, q_11, hP1, hK1, hD1⟩ := hB
  rw [ht] at hP1
  obtain ⟨hP, hD⟩ := va_join (wr := [(h0, .inr (8, [.null, .null, .null, .null, .null, .null, .null, .int 0]))]) (w1 := [(q_1, .inr (4, [.ref q_3, .ref q_4, .ref q_5, .ref q_6, .ref q_7, .ref q_8, .int 0, .ref q_9, .ref q_10, .ref q_11]))]) hP hD [1] [0] rfl rfl (by decide) (by decide) hk1 hFc hP1 hD1
  generalize H1 = H at hP hS ⊢
  have hP : va_P (dC, dI) vwCl [(h0, .inr (8, [.null, .null, .null, .null, .null, .null, .null, .int 0])), (q_1, .inr (4, [.ref q_3, .ref q_4, .ref q_5, .ref q_6, .ref q_7, .ref q_8, .int 0, .ref q_9, .ref q_10, .ref q_11]))] H := hP
  have hD : va_D A [(h0, .inr (8, [.null, .null, .null, .null, .null, .null, .null, .int 0])), (q_1, .inr (4, [.ref q_3, .ref q_4, .ref q_5, .ref q_6, .ref q_7, .ref q_8, .int 0, .ref q_9, .ref q_10, .ref q_11]))] := hD
  refine W.widen (k := 16) (n := 3938) (by omega) (by omega) ?_
  refine va_putF (D := (dC, dI)) (ci := 8) (v := .ref q_1) (ty := .object "RegisterMill$Places") (C := RX9) (T := TX9) (N := 8) hx hb hts hiX9 tyX9 tyX9_ok nmX9 hown hK hP hD hS 0 rfl rfl 1 (by decide) (hts (.fieldLink RX9 12 "RegisterMill$Turner" "places" "LRegisterMill$Places;") (by decide +kernel)) (fun _ h9 => h9) rfl hin rfl (by decide +kernel) rfl rfl (Nat.le_of_ble_eq_true rfl) dX9_init_12 (fun H locs hP hD hS => ?_)
  have hP : va_P (dC, dI) vwCl [(h0, .inr (8, [.null, .ref q_1, .null, .null, .null, .null, .null, .int 0])), (q_1, .inr (4, [.ref q_3, .ref q_4, .ref q_5, .ref q_6, .ref q_7, .ref q_8, .int 0, .ref q_9, .ref q_10, .ref q_11]))] H := hP
  have hD : va_D A [(h0, .inr (8, [.null, .ref q_1, .null, .null, .null, .null, .null, .int 0])), (q_1, .inr (4, [.ref q_3, .ref q_4, .ref q_5, .ref q_6, .ref q_7, .ref q_8, .int 0, .ref q_9, .ref q_10, .ref q_11]))] := hD
  refine lv_aload_n hx hb dX9_init_15 rfl (lv_at hl 0 rfl) ?_
  refine va_new (ci := 3) (fs := [.null, .null]) (C := RX3) (T := TX3) (N := 2) hx hb hts hiX3 tyX3 tyX3_ok hown (hts (.classLink RX9 18 RX3) (by decide +kernel)) (hts (.instantiable RX3 2) (by decide +kernel)) (hts (.initialized RX3) (by decide +kernel)) hK hP hD hS hA rfl (fun j hj => fsX3 j hj) (by decide) (by decide) dX9_init_16 (fun q_12 H hP hD hS => ?_)
  have hP : va_P (dC, dI) vwCl [(h0, .inr (8, [.null, .ref q_1, .null, .null, .null, .null, .null, .int 0])), (q_1, .inr (4, [.ref q_3, .ref q_4, .ref q_5, .ref q_6, .ref q_7, .ref q_8, .int 0, .ref q_9, .ref q_10, .ref q_11])), (q_12, .inr (3, [.null, .null]))] H := hP
  have hD : va_D A [(h0, .inr (8, [.null, .ref q_1, .null, .null, .null, .null, .null, .int 0])), (q_1, .inr (4, [.ref q_3, .ref q_4, .ref q_5, .ref q_6, .ref q_7, .ref q_8, .int 0, .ref q_9, .ref q_10, .ref q_11])), (q_12, .inr (3, [.null, .null]))] := hD
  refine W.widen (k := 17) (n := 3940) (by omega) (by omega) ?_
  refine lv_dup hx hb dX9_init_19 rfl ?_
  have hPc := hP.sub (ws' := [(q_12, .inr (3, [.null, .null]))]) [2] rfl
  have hDc := hD.sub (ws' := [(q_12, .inr (3, [.null, .null]))]) [2] (by decide) rfl
  have hKc := hK.sub (tys' := [(cyI, .int)]) [0] rfl
  have hFc := va_free (wc := [(q_12, .inr (3, [.null, .null]))]) hD hS hA [2] rfl
  refine va_callv (va_runIN (As := []) (rest := [.ref q_12, .ref h0]) ⟨hx, hb, hml, hown, hts⟩ (c_X3_init l dC dI cyI H.size q_12) ⟨va_cnB 0 hts gq_X9_init_X3_init_20 rfl rfl rfl hNW.2.2.2.1 (hts (.initialized RX3) (by decide +kernel)) (by decide +kernel) ⟨Nat.le_of_ble_eq_true rfl, Nat.le_of_ble_eq_true rfl⟩, rfl, (hts (.instanceMethod yX3_init) (by decide +kernel))⟩ ⟨pz_blind, pz_to hPc hKc hDc hNW⟩ rfl rfl hl.1 rfl (lv_room (Nat.le_of_ble_eq_true rfl)) dX9_init_20 (by decide)) hS (fun q _ h => hFc q h) hFc (fun u t H1 locs ht hvm hw hB hz1 hk1 hS => ?_)
  obtain ⟨q_14, q_15, hP1, hK1, hD1⟩ := hB
  rw [ht] at hP1
  obtain ⟨hP, hD⟩ := va_join (wr := [(h0, .inr (8, [.null, .ref q_1, .null, .null, .null, .null, .null, .int 0])), (q_1, .inr (4, [.ref q_3, .ref q_4, .ref q_5, .ref q_6, .ref q_7, .ref q_8, .int 0, .ref q_9, .ref q_10, .ref q_11]))]) (w1 := [(q_12, .inr (3, [.ref q_14, .ref q_15]))]) hP hD [2] [0, 1] rfl rfl (by decide) (by decide) hk1 hFc hP1 hD1
  generalize H1 = H at hP hS ⊢
  have hP : va_P (dC, dI) vwCl [(h0, .inr (8, [.null, .ref q_1, .null, .null, .null, .null, .null, .int 0])), (q_1, .inr (4, [.ref q_3, .ref q_4, .ref q_5, .ref q_6, .ref q_7, .ref q_8, .int 0, .ref q_9, .ref q_10, .ref q_11])), (q_12, .inr (3, [.ref q_14, .ref q_15]))] H := hP
  have hD : va_D A [(h0, .inr (8, [.null, .ref q_1, .null, .null, .null, .null, .null, .int 0])), (q_1, .inr (4, [.ref q_3, .ref q_4, .ref q_5, .ref q_6, .ref q_7, .ref q_8, .int 0, .ref q_9, .ref q_10, .ref q_11])), (q_12, .inr (3, [.ref q_14, .ref q_15]))] := hD
  refine W.widen (k := 19) (n := 4540) (by omega) (by omega) ?_
  refine va_putF (D := (dC, dI)) (ci := 8) (v := .ref q_12) (ty := .object "RegisterMill$Live") (C := RX9) (T := TX9) (N := 8) hx hb hts hiX9 tyX9 tyX9_ok nmX9 hown hK hP hD hS 0 rfl rfl 2 (by decide) (hts (.fieldLink RX9 21 "RegisterMill$Turner" "live" "LRegisterMill$Live;") (by decide +kernel)) (fun _ h9 => h9) rfl hin rfl (by decide +kernel) rfl rfl (Nat.le_of_ble_eq_true rfl) dX9_init_23 (fun H locs hP hD hS => ?_)
  have hP : va_P (dC, dI) vwCl [(h0, .inr (8, [.null, .ref q_1, .ref q_12, .null, .null, .null, .null, .int 0])), (q_1, .inr (4, [.ref q_3, .ref q_4, .ref q_5, .ref q_6, .ref q_7, .ref q_8, .int 0, .ref q_9, .ref q_10, .ref q_11])), (q_12, .inr (3, [.ref q_14, .ref q_15]))] H := hP
  have hD : va_D A [(h0, .inr (8, [.null, .ref q_1, .ref q_12, .null, .null, .null, .null, .int 0])), (q_1, .inr (4, [.ref q_3, .ref q_4, .ref q_5, .ref q_6, .ref q_7, .ref q_8, .int 0, .ref q_9, .ref q_10, .ref q_11])), (q_12, .inr (3, [.ref q_14, .ref q_15]))] := hD
  refine lv_aload_n hx hb dX9_init_26 rfl (lv_at hl 0 rfl) ?_
  refine va_new (ci := 2) (fs := [.null, .null, .null, .null, .null, .null]) (C := RX2) (T := TX2) (N := 6) hx hb hts hiX2 tyX2 tyX2_ok hown (hts (.classLink RX9 25 RX2) (by decide +kernel)) (hts (.instantiable RX2 6) (by decide +kernel)) (hts (.initialized RX2) (by decide +kernel)) hK hP hD hS hA rfl (fun j hj => fsX2 j hj) (by decide) (by decide) dX9_init_27 (fun q_16 H hP hD hS => ?_)
  have hP : va_P (dC, dI) vwCl [(h0, .inr (8, [.null, .ref q_1, .ref q_12, .null, .null, .null, .null, .int 0])), (q_1, .inr (4, [.ref q_3, .ref q_4, .ref q_5, .ref q_6, .ref q_7, .ref q_8, .int 0, .ref q_9, .ref q_10, .ref q_11])), (q_12, .inr (3, [.ref q_14, .ref q_15])), (q_16, .inr (2, [.null, .null, .null, .null, .null, .null]))] H := hP
  have hD : va_D A [(h0, .inr (8, [.null, .ref q_1, .ref q_12, .null, .null, .null, .null, .int 0])), (q_1, .inr (4, [.ref q_3, .ref q_4, .ref q_5, .ref q_6, .ref q_7, .ref q_8, .int 0, .ref q_9, .ref q_10, .ref q_11])), (q_12, .inr (3, [.ref q_14, .ref q_15])), (q_16, .inr (2, [.null, .null, .null, .null, .null, .null]))] := hD
  refine W.widen (k := 20) (n := 4546) (by omega) (by omega) ?_
  refine lv_dup hx hb dX9_init_30 rfl ?_
  have hPc := hP.sub (ws' := [(q_16, .inr (2, [.null, .null, .null, .null, .null, .null]))]) [3] rfl
  have hDc := hD.sub (ws' := [(q_16, .inr (2, [.null, .null, .null, .null, .null, .null]))]) [3] (by decide) rfl
  have hKc := hK.sub (tys' := [(cyI, .int)]) [0] rfl
  have hFc := va_free (wc := [(q_16, .inr (2, [.null, .null, .null, .null, .null, .null]))]) hD hS hA [3] rfl
  refine va_callv (va_runIN (As := []) (rest := [.ref q_16, .ref h0]) ⟨hx, hb, hml, hown, hts⟩ (c_X2_init l dC dI cyI H.size q_16) ⟨va_cnB 0 hts gq_X9_init_X2_init_27 rfl rfl rfl hNW.2.2.2.2.1 (hts (.initialized RX2) (by decide +kernel)) (by decide +kernel) ⟨Nat.le_of_ble_eq_true rfl, Nat.le_of_ble_eq_true rfl⟩, rfl, (hts (.instanceMethod yX2_init) (by decide +kernel))⟩ ⟨pz_blind, pz_to hPc hKc hDc hNW⟩ rfl rfl hl.1 rfl (lv_room (Nat.le_of_ble_eq_true rfl)) dX9_init_31 (by decide)) hS (fun q _ h => hFc q h) hFc (fun u t H1 locs ht hvm hw hB hz1 hk1 hS => ?_)
  obtain ⟨q_18, q_19, q_20, q_21, q_22, q_23, hP1, hK1, hD1⟩ := hB
  rw [ht] at hP1
  obtain ⟨hP, hD⟩ := va_join (wr := [(h0, .inr (8, [.null, .ref q_1, .ref q_12, .null, .null, .null, .null, .int 0])), (q_1, .inr (4, [.ref q_3, .ref q_4, .ref q_5, .ref q_6, .ref q_7, .ref q_8, .int 0, .ref q_9, .ref q_10, .ref q_11])), (q_12, .inr (3, [.ref q_14, .ref q_15]))]) (w1 := [(q_16, .inr (2, [.ref q_18, .ref q_19, .ref q_20, .ref q_21, .ref q_22, .ref q_23]))]) hP hD [3] [0, 1, 2] rfl rfl (by decide) (by decide) hk1 hFc hP1 hD1
  generalize H1 = H at hP hS ⊢
  have hP : va_P (dC, dI) vwCl [(h0, .inr (8, [.null, .ref q_1, .ref q_12, .null, .null, .null, .null, .int 0])), (q_1, .inr (4, [.ref q_3, .ref q_4, .ref q_5, .ref q_6, .ref q_7, .ref q_8, .int 0, .ref q_9, .ref q_10, .ref q_11])), (q_12, .inr (3, [.ref q_14, .ref q_15])), (q_16, .inr (2, [.ref q_18, .ref q_19, .ref q_20, .ref q_21, .ref q_22, .ref q_23]))] H := hP
  have hD : va_D A [(h0, .inr (8, [.null, .ref q_1, .ref q_12, .null, .null, .null, .null, .int 0])), (q_1, .inr (4, [.ref q_3, .ref q_4, .ref q_5, .ref q_6, .ref q_7, .ref q_8, .int 0, .ref q_9, .ref q_10, .ref q_11])), (q_12, .inr (3, [.ref q_14, .ref q_15])), (q_16, .inr (2, [.ref q_18, .ref q_19, .ref q_20, .ref q_21, .ref q_22, .ref q_23]))] := hD
  refine W.widen (k := 26) (n := 5630) (by omega) (by omega) ?_
  refine va_putF (D := (dC, dI)) (ci := 8) (v := .ref q_16) (ty := .object "RegisterMill$Homes") (C := RX9) (T := TX9) (N := 8) hx hb hts hiX9 tyX9 tyX9_ok nmX9 hown hK hP hD hS 0 rfl rfl 3 (by decide) (hts (.fieldLink RX9 28 "RegisterMill$Turner" "homes" "LRegisterMill$Homes;") (by decide +kernel)) (fun _ h9 => h9) rfl hin rfl (by decide +kernel) rfl rfl (Nat.le_of_ble_eq_true rfl) dX9_init_34 (fun H locs hP hD hS => ?_)
  have hP : va_P (dC, dI) vwCl [(h0, .inr (8, [.null, .ref q_1, .ref q_12, .ref q_16, .null, .null, .null, .int 0])), (q_1, .inr (4, [.ref q_3, .ref q_4, .ref q_5, .ref q_6, .ref q_7, .ref q_8, .int 0, .ref q_9, .ref q_10, .ref q_11])), (q_12, .inr (3, [.ref q_14, .ref q_15])), (q_16, .inr (2, [.ref q_18, .ref q_19, .ref q_20, .ref q_21, .ref q_22, .ref q_23]))] H := hP
  have hD : va_D A [(h0, .inr (8, [.null, .ref q_1, .ref q_12, .ref q_16, .null, .null, .null, .int 0])), (q_1, .inr (4, [.ref q_3, .ref q_4, .ref q_5, .ref q_6, .ref q_7, .ref q_8, .int 0, .ref q_9, .ref q_10, .ref q_11])), (q_12, .inr (3, [.ref q_14, .ref q_15])), (q_16, .inr (2, [.ref q_18, .ref q_19, .ref q_20, .ref q_21, .ref q_22, .ref q_23]))] := hD
  refine lv_aload_n hx hb dX9_init_37 rfl (lv_at hl 0 rfl) ?_
  refine va_new (ci := 1) (fs := [.null, .null, .int 0, .null]) (C := RX1) (T := TX1) (N := 4) hx hb hts hiX1 tyX1 tyX1_ok hown (hts (.classLink RX9 32 RX1) (by decide +kernel)) (hts (.instantiable RX1 4) (by decide +kernel)) (hts (.initialized RX1) (by decide +kernel)) hK hP hD hS hA rfl (fun j hj => fsX1 j hj) (by decide) (by decide) dX9_init_38 (fun q_24 H hP hD hS => ?_)
  have hP : va_P (dC, dI) vwCl [(h0, .inr (8, [.null, .ref q_1, .ref q_12, .ref q_16, .null, .null, .null, .int 0])), (q_1, .inr (4, [.ref q_3, .ref q_4, .ref q_5, .ref q_6, .ref q_7, .ref q_8, .int 0, .ref q_9, .ref q_10, .ref q_11])), (q_12, .inr (3, [.ref q_14, .ref q_15])), (q_16, .inr (2, [.ref q_18, .ref q_19, .ref q_20, .ref q_21, .ref q_22, .ref q_23])), (q_24, .inr (1, [.null, .null, .int 0, .null]))] H := hP
  have hD : va_D A [(h0, .inr (8, [.null, .ref q_1, .ref q_12, .ref q_16, .null, .null, .null, .int 0])), (q_1, .inr (4, [.ref q_3, .ref q_4, .ref q_5, .ref q_6, .ref q_7, .ref q_8, .int 0, .ref q_9, .ref q_10, .ref q_11])), (q_12, .inr (3, [.ref q_14, .ref q_15])), (q_16, .inr (2, [.ref q_18, .ref q_19, .ref q_20, .ref q_21, .ref q_22, .ref q_23])), (q_24, .inr (1, [.null, .null, .int 0, .null]))] := hD
  refine W.widen (k := 27) (n := 5634) (by omega) (by omega) ?_
  refine lv_dup hx hb dX9_init_41 rfl ?_
  have hPc := hP.sub (ws' := [(q_24, .inr (1, [.null, .null, .int 0, .null]))]) [4] rfl
  have hDc := hD.sub (ws' := [(q_24, .inr (1, [.null, .null, .int 0, .null]))]) [4] (by decide) rfl
  have hKc := hK.sub (tys' := [(cyI, .int)]) [0] rfl
  have hFc := va_free (wc := [(q_24, .inr (1, [.null, .null, .int 0, .null]))]) hD hS hA [4] rfl
  refine va_callv (va_runIN (As := []) (rest := [.ref q_24, .ref h0]) ⟨hx, hb, hml, hown, hts⟩ (c_X1_init l dC dI cyI H.size q_24) ⟨va_cnB 0 hts gq_X9_init_X1_init_34 rfl rfl rfl hNW.2.2.2.2.2.1 (hts (.initialized RX1) (by decide +kernel)) (by decide +kernel) ⟨Nat.le_of_ble_eq_true rfl, Nat.le_of_ble_eq_true rfl⟩, rfl, (hts (.instanceMethod yX1_init) (by decide +kernel))⟩ ⟨pz_blind, pz_to hPc hKc hDc hNW⟩ rfl rfl hl.1 rfl (lv_room (Nat.le_of_ble_eq_true rfl)) dX9_init_42 (by decide)) hS (fun q _ h => hFc q h) hFc (fun u t H1 locs ht hvm hw hB hz1 hk1 hS => ?_)
  obtain ⟨q_26, q_27, q_28, hP1, hK1, hD1⟩ := hB
  rw [ht] at hP1
  obtain ⟨hP, hD⟩ := va_join (wr := [(h0, .inr (8, [.null, .ref q_1, .ref q_12, .ref q_16, .null, .null, .null, .int 0])), (q_1, .inr (4, [.ref q_3, .ref q_4, .ref q_5, .ref q_6, .ref q_7, .ref q_8, .int 0, .ref q_9, .ref q_10, .ref q_11])), (q_12, .inr (3, [.ref q_14, .ref q_15])), (q_16, .inr (2, [.ref q_18, .ref q_19, .ref q_20, .ref q_21, .ref q_22, .ref q_23]))]) (w1 := [(q_24, .inr (1, [.ref q_26, .ref q_27, .int 0, .ref q_28]))]) hP hD [4] [0, 1, 2, 3] rfl rfl (by decide) (by decide) hk1 hFc hP1 hD1
  generalize H1 = H at hP hS ⊢
  have hP : va_P (dC, dI) vwCl [(h0, .inr (8, [.null, .ref q_1, .ref q_12, .ref q_16, .null, .null, .null, .int 0])), (q_1, .inr (4, [.ref q_3, .ref q_4, .ref q_5, .ref q_6, .ref q_7, .ref q_8, .int 0, .ref q_9, .ref q_10, .ref q_11])), (q_12, .inr (3, [.ref q_14, .ref q_15])), (q_16, .inr (2, [.ref q_18, .ref q_19, .ref q_20, .ref q_21, .ref q_22, .ref q_23])), (q_24, .inr (1, [.ref q_26, .ref q_27, .int 0, .ref q_28]))] H := hP
  have hD : va_D A [(h0, .inr (8, [.null, .ref q_1, .ref q_12, .ref q_16, .null, .null, .null, .int 0])), (q_1, .inr (4, [.ref q_3, .ref q_4, .ref q_5, .ref q_6, .ref q_7, .ref q_8, .int 0, .ref q_9, .ref q_10, .ref q_11])), (q_12, .inr (3, [.ref q_14, .ref q_15])), (q_16, .inr (2, [.ref q_18, .ref q_19, .ref q_20, .ref q_21, .ref q_22, .ref q_23])), (q_24, .inr (1, [.ref q_26, .ref q_27, .int 0, .ref q_28]))] := hD
  refine W.widen (k := 30) (n := 7658) (by omega) (by omega) ?_
  refine va_putF (D := (dC, dI)) (ci := 8) (v := .ref q_24) (ty := .object "RegisterMill$Code") (C := RX9) (T := TX9) (N := 8) hx hb hts hiX9 tyX9 tyX9_ok nmX9 hown hK hP hD hS 0 rfl rfl 4 (by decide) (hts (.fieldLink RX9 35 "RegisterMill$Turner" "code" "LRegisterMill$Code;") (by decide +kernel)) (fun _ h9 => h9) rfl hin rfl (by decide +kernel) rfl rfl (Nat.le_of_ble_eq_true rfl) dX9_init_45 (fun H locs hP hD hS => ?_)
  have hP : va_P (dC, dI) vwCl [(h0, .inr (8, [.null, .ref q_1, .ref q_12, .ref q_16, .ref q_24, .null, .null, .int 0])), (q_1, .inr (4, [.ref q_3, .ref q_4, .ref q_5, .ref q_6, .ref q_7, .ref q_8, .int 0, .ref q_9, .ref q_10, .ref q_11])), (q_12, .inr (3, [.ref q_14, .ref q_15])), (q_16, .inr (2, [.ref q_18, .ref q_19, .ref q_20, .ref q_21, .ref q_22, .ref q_23])), (q_24, .inr (1, [.ref q_26, .ref q_27, .int 0, .ref q_28]))] H := hP
  have hD : va_D A [(h0, .inr (8, [.null, .ref q_1, .ref q_12, .ref q_16, .ref q_24, .null, .null, .int 0])), (q_1, .inr (4, [.ref q_3, .ref q_4, .ref q_5, .ref q_6, .ref q_7, .ref q_8, .int 0, .ref q_9, .ref q_10, .ref q_11])), (q_12, .inr (3, [.ref q_14, .ref q_15])), (q_16, .inr (2, [.ref q_18, .ref q_19, .ref q_20, .ref q_21, .ref q_22, .ref q_23])), (q_24, .inr (1, [.ref q_26, .ref q_27, .int 0, .ref q_28]))] := hD
  refine lv_aload_n hx hb dX9_init_48 rfl (lv_at hl 0 rfl) ?_
  refine lv_bipush (v := 12) hx hb dX9_init_49 (by decide) ?_
  refine pz_newd hx hb (hts (.arrayClass .int) (by decide +kernel)) hK hP hD hS hA 12 (by decide) (by decide) (by decide) (by decide) (by decide) dX9_init_51 (fun q_29 H hP hS => ?_)
  refine W.widen (k := 31) (n := 7670) (by omega) (by omega) ?_
  refine va_putF (D := (dC, dI)) (ci := 8) (v := .ref q_29) (ty := .array .int) (C := RX9) (T := TX9) (N := 8) hx hb hts hiX9 tyX9 tyX9_ok nmX9 hown hK hP hD hS 0 rfl rfl 6 (by decide) (hts (.fieldLink RX9 39 "RegisterMill$Turner" "placeCounts" "[I") (by decide +kernel)) (fun _ h9 => h9) rfl hin rfl (by decide +kernel) rfl rfl (Nat.le_of_ble_eq_true rfl) dX9_init_53 (fun H locs hP hD hS => ?_)
  have hP : va_P (dC, dI) vwCl [(h0, .inr (8, [.null, .ref q_1, .ref q_12, .ref q_16, .ref q_24, .null, .ref q_29, .int 0])), (q_1, .inr (4, [.ref q_3, .ref q_4, .ref q_5, .ref q_6, .ref q_7, .ref q_8, .int 0, .ref q_9, .ref q_10, .ref q_11])), (q_12, .inr (3, [.ref q_14, .ref q_15])), (q_16, .inr (2, [.ref q_18, .ref q_19, .ref q_20, .ref q_21, .ref q_22, .ref q_23])), (q_24, .inr (1, [.ref q_26, .ref q_27, .int 0, .ref q_28]))] H := hP
  have hD : va_D A [(h0, .inr (8, [.null, .ref q_1, .ref q_12, .ref q_16, .ref q_24, .null, .ref q_29, .int 0])), (q_1, .inr (4, [.ref q_3, .ref q_4, .ref q_5, .ref q_6, .ref q_7, .ref q_8, .int 0, .ref q_9, .ref q_10, .ref q_11])), (q_12, .inr (3, [.ref q_14, .ref q_15])), (q_16, .inr (2, [.ref q_18, .ref q_19, .ref q_20, .ref q_21, .ref q_22, .ref q_23])), (q_24, .inr (1, [.ref q_26, .ref q_27, .int 0, .ref q_28]))] := hD
  refine lv_aload_n hx hb dX9_init_56 rfl (lv_at hl 0 rfl) ?_
  refine lv_aload_n hx hb dX9_init_57 rfl (lv_at hl 1 rfl) ?_
  refine va_putF (D := (dC, dI)) (ci := 8) (v := .ref pr) (ty := .object "RegisterMill$Program") (C := RX9) (T := TX9) (N := 8) hx hb hts hiX9 tyX9 tyX9_ok nmX9 hown hK hP hD hS 0 rfl rfl 0 (by decide) (hts (.fieldLink RX9 43 "RegisterMill$Turner" "program" "LRegisterMill$Program;") (by decide +kernel)) (fun _ h9 => h9) rfl hin rfl (by decide +kernel) rfl rfl (Nat.le_of_ble_eq_true rfl) dX9_init_58 (fun H locs hP hD hS => ?_)
  have hP : va_P (dC, dI) vwCl [(h0, .inr (8, [.ref pr, .ref q_1, .ref q_12, .ref q_16, .ref q_24, .null, .ref q_29, .int 0])), (q_1, .inr (4, [.ref q_3, .ref q_4, .ref q_5, .ref q_6, .ref q_7, .ref q_8, .int 0, .ref q_9, .ref q_10, .ref q_11])), (q_12, .inr (3, [.ref q_14, .ref q_15])), (q_16, .inr (2, [.ref q_18, .ref q_19, .ref q_20, .ref q_21, .ref q_22, .ref q_23])), (q_24, .inr (1, [.ref q_26, .ref q_27, .int 0, .ref q_28]))] H := hP
  have hD : va_D A [(h0, .inr (8, [.ref pr, .ref q_1, .ref q_12, .ref q_16, .ref q_24, .null, .ref q_29, .int 0])), (q_1, .inr (4, [.ref q_3, .ref q_4, .ref q_5, .ref q_6, .ref q_7, .ref q_8, .int 0, .ref q_9, .ref q_10, .ref q_11])), (q_12, .inr (3, [.ref q_14, .ref q_15])), (q_16, .inr (2, [.ref q_18, .ref q_19, .ref q_20, .ref q_21, .ref q_22, .ref q_23])), (q_24, .inr (1, [.ref q_26, .ref q_27, .int 0, .ref q_28]))] := hD
  refine lv_aload_n hx hb dX9_init_61 rfl (lv_at hl 0 rfl) ?_
  refine va_new (ci := 9) (fs := [.null, .null, .null, .null, .int 0, .int 0, .int 0]) (C := RX10) (T := TX10) (N := 7) hx hb hts hiX10 tyX10 tyX10_ok hown (hts (.classLink RX9 47 RX10) (by decide +kernel)) (hts (.instantiable RX10 7) (by decide +kernel)) (hts (.initialized RX10) (by decide +kernel)) hK hP hD hS hA rfl (fun j hj => fsX10 j hj) (by decide) (by decide) dX9_init_62 (fun q_30 H hP hD hS => ?_)
  have hP : va_P (dC, dI) vwCl [(h0, .inr (8, [.ref pr, .ref q_1, .ref q_12, .ref q_16, .ref q_24, .null, .ref q_29, .int 0])), (q_1, .inr (4, [.ref q_3, .ref q_4, .ref q_5, .ref q_6, .ref q_7, .ref q_8, .int 0, .ref q_9, .ref q_10, .ref q_11])), (q_12, .inr (3, [.ref q_14, .ref q_15])), (q_16, .inr (2, [.ref q_18, .ref q_19, .ref q_20, .ref q_21, .ref q_22, .ref q_23])), (q_24, .inr (1, [.ref q_26, .ref q_27, .int 0, .ref q_28])), (q_30, .inr (9, [.null, .null, .null, .null, .int 0, .int 0, .int 0]))] H := hP
  have hD : va_D A [(h0, .inr (8, [.ref pr, .ref q_1, .ref q_12, .ref q_16, .ref q_24, .null, .ref q_29, .int 0])), (q_1, .inr (4, [.ref q_3, .ref q_4, .ref q_5, .ref q_6, .ref q_7, .ref q_8, .int 0, .ref q_9, .ref q_10, .ref q_11])), (q_12, .inr (3, [.ref q_14, .ref q_15])), (q_16, .inr (2, [.ref q_18, .ref q_19, .ref q_20, .ref q_21, .ref q_22, .ref q_23])), (q_24, .inr (1, [.ref q_26, .ref q_27, .int 0, .ref q_28])), (q_30, .inr (9, [.null, .null, .null, .null, .int 0, .int 0, .int 0]))] := hD
  refine W.widen (k := 32) (n := 7677) (by omega) (by omega) ?_
  refine lv_dup hx hb dX9_init_65 rfl ?_
  refine lv_aload_n hx hb dX9_init_66 rfl (lv_at hl 0 rfl) ?_
  refine va_get (D := (dC, dI)) (ci := 8) (v := .ref q_1) (C := RX9) (T := TX9) (N := 8) hx hb hts hiX9 hown hK hP 0 rfl rfl 1 (by decide) (hts (.fieldLink RX9 12 "RegisterMill$Turner" "places" "LRegisterMill$Places;") (by decide +kernel)) (fun _ h9 => h9) rfl dX9_init_67 ?_
  refine lv_aload_n hx hb dX9_init_70 rfl (lv_at hl 0 rfl) ?_
  refine va_get (D := (dC, dI)) (ci := 8) (v := .ref q_16) (C := RX9) (T := TX9) (N := 8) hx hb hts hiX9 hown hK hP 0 rfl rfl 3 (by decide) (hts (.fieldLink RX9 28 "RegisterMill$Turner" "homes" "LRegisterMill$Homes;") (by decide +kernel)) (fun _ h9 => h9) rfl dX9_init_71 ?_
  refine lv_aload_n hx hb dX9_init_74 rfl (lv_at hl 0 rfl) ?_
  refine va_get (D := (dC, dI)) (ci := 8) (v := .ref q_24) (C := RX9) (T := TX9) (N := 8) hx hb hts hiX9 hown hK hP 0 rfl rfl 4 (by decide) (hts (.fieldLink RX9 35 "RegisterMill$Turner" "code" "LRegisterMill$Code;") (by decide +kernel)) (fun _ h9 => h9) rfl dX9_init_75 ?_
  have hPc := hP.sub (ws' := [(q_30, .inr (9, [.null, .null, .null, .null, .int 0, .int 0, .int 0]))]) [5] rfl
  have hDc := hD.sub (ws' := [(q_30, .inr (9, [.null, .null, .null, .null, .int 0, .int 0, .int 0]))]) [5] (by decide) rfl
  have hKc := hK.sub (tys' := [(cyI, .int)]) [0] rfl
  have hFc := va_free (wc := [(q_30, .inr (9, [.null, .null, .null, .null, .int 0, .int 0, .int 0]))]) hD hS hA [5] rfl
  refine va_callv (va_runI (As := [.ref q_1, .ref q_16, .ref q_24]) (rest := [.ref q_30, .ref h0]) ⟨hx, hb, hml, hown, hts⟩ (c_X10_init l dC dI cyI H.size q_30 q_1 q_16 q_24) (cwI 3 hts gq_X9_init_X10_init_49 rfl rfl rfl (hts (.initialized RX10) (by decide +kernel)) (hts (.methodLink RX9 49 yX10_init) (by decide +kernel)) (hts (.instanceMethod yX10_init) (by decide +kernel)) rfl (by decide +kernel) ⟨Nat.le_of_ble_eq_true rfl, Nat.le_of_ble_eq_true rfl⟩) ⟨pz_blind, pz_to hPc hKc hDc hNW⟩ rfl rfl hl.1 rfl (lv_room (Nat.le_of_ble_eq_true rfl)) dX9_init_78 (by decide)) hS (fun q _ h => hFc q h) hFc (fun u t H1 locs ht hvm hw hB hz1 hk1 hS => ?_)
  obtain ⟨q_32, hP1, hK1, hD1⟩ := hB
  rw [ht] at hP1
  obtain ⟨hP, hD⟩ := va_join (wr := [(h0, .inr (8, [.ref pr, .ref q_1, .ref q_12, .ref q_16, .ref q_24, .null, .ref q_29, .int 0])), (q_1, .inr (4, [.ref q_3, .ref q_4, .ref q_5, .ref q_6, .ref q_7, .ref q_8, .int 0, .ref q_9, .ref q_10, .ref q_11])), (q_12, .inr (3, [.ref q_14, .ref q_15])), (q_16, .inr (2, [.ref q_18, .ref q_19, .ref q_20, .ref q_21, .ref q_22, .ref q_23])), (q_24, .inr (1, [.ref q_26, .ref q_27, .int 0, .ref q_28]))]) (w1 := [(q_30, .inr (9, [.ref q_1, .ref q_16, .ref q_24, .ref q_32, .int 0, .int 0, .int 0]))]) hP hD [5] [0, 1, 2, 3, 4] rfl rfl (by decide) (by decide) hk1 hFc hP1 hD1
  generalize H1 = H at hP hS ⊢
  have hP : va_P (dC, dI) vwCl [(h0, .inr (8, [.ref pr, .ref q_1, .ref q_12, .ref q_16, .ref q_24, .null, .ref q_29, .int 0])), (q_1, .inr (4, [.ref q_3, .ref q_4, .ref q_5, .ref q_6, .ref q_7, .ref q_8, .int 0, .ref q_9, .ref q_10, .ref q_11])), (q_12, .inr (3, [.ref q_14, .ref q_15])), (q_16, .inr (2, [.ref q_18, .ref q_19, .ref q_20, .ref q_21, .ref q_22, .ref q_23])), (q_24, .inr (1, [.ref q_26, .ref q_27, .int 0, .ref q_28])), (q_30, .inr (9, [.ref q_1, .ref q_16, .ref q_24, .ref q_32, .int 0, .int 0, .int 0]))] H := hP
  have hD : va_D A [(h0, .inr (8, [.ref pr, .ref q_1, .ref q_12, .ref q_16, .ref q_24, .null, .ref q_29, .int 0])), (q_1, .inr (4, [.ref q_3, .ref q_4, .ref q_5, .ref q_6, .ref q_7, .ref q_8, .int 0, .ref q_9, .ref q_10, .ref q_11])), (q_12, .inr (3, [.ref q_14, .ref q_15])), (q_16, .inr (2, [.ref q_18, .ref q_19, .ref q_20, .ref q_21, .ref q_22, .ref q_23])), (q_24, .inr (1, [.ref q_26, .ref q_27, .int 0, .ref q_28])), (q_30, .inr (9, [.ref q_1, .ref q_16, .ref q_24, .ref q_32, .int 0, .int 0, .int 0]))] := hD
  refine W.widen (k := 33) (n := 7977) (by omega) (by omega) ?_
  refine va_putF (D := (dC, dI)) (ci := 8) (v := .ref q_30) (ty := .object "RegisterMill$Writer") (C := RX9) (T := TX9) (N := 8) hx hb hts hiX9 tyX9 tyX9_ok nmX9 hown hK hP hD hS 0 rfl rfl 5 (by decide) (hts (.fieldLink RX9 52 "RegisterMill$Turner" "writer" "LRegisterMill$Writer;") (by decide +kernel)) (fun _ h9 => h9) rfl hin rfl (by decide +kernel) rfl rfl (Nat.le_of_ble_eq_true rfl) dX9_init_81 (fun H locs hP hD hS => ?_)
  have hP : va_P (dC, dI) vwCl [(h0, .inr (8, [.ref pr, .ref q_1, .ref q_12, .ref q_16, .ref q_24, .ref q_30, .ref q_29, .int 0])), (q_1, .inr (4, [.ref q_3, .ref q_4, .ref q_5, .ref q_6, .ref q_7, .ref q_8, .int 0, .ref q_9, .ref q_10, .ref q_11])), (q_12, .inr (3, [.ref q_14, .ref q_15])), (q_16, .inr (2, [.ref q_18, .ref q_19, .ref q_20, .ref q_21, .ref q_22, .ref q_23])), (q_24, .inr (1, [.ref q_26, .ref q_27, .int 0, .ref q_28])), (q_30, .inr (9, [.ref q_1, .ref q_16, .ref q_24, .ref q_32, .int 0, .int 0, .int 0]))] H := hP
  have hD : va_D A [(h0, .inr (8, [.ref pr, .ref q_1, .ref q_12, .ref q_16, .ref q_24, .ref q_30, .ref q_29, .int 0])), (q_1, .inr (4, [.ref q_3, .ref q_4, .ref q_5, .ref q_6, .ref q_7, .ref q_8, .int 0, .ref q_9, .ref q_10, .ref q_11])), (q_12, .inr (3, [.ref q_14, .ref q_15])), (q_16, .inr (2, [.ref q_18, .ref q_19, .ref q_20, .ref q_21, .ref q_22, .ref q_23])), (q_24, .inr (1, [.ref q_26, .ref q_27, .int 0, .ref q_28])), (q_30, .inr (9, [.ref q_1, .ref q_16, .ref q_24, .ref q_32, .int 0, .int 0, .int 0]))] := hD
  refine W.widen (k := 33) (n := 7977) (by decide) (by decide) ?_
  have hP9 := hP.sub (ws' := [(h0, .inr (8, [.ref pr, .ref q_1, .ref q_12, .ref q_16, .ref q_24, .ref q_30, .ref q_29, .int 0]))]) [0] rfl
  have hD9 := hD.sub (ws' := [(h0, .inr (8, [.ref pr, .ref q_1, .ref q_12, .ref q_16, .ref q_24, .ref q_30, .ref q_29, .int 0]))]) [0] (by decide) rfl
  exact W.vret hx hb hr (fun t ht hW => ⟨⟨(), rfl, trivial, ⟨q_1, q_12, q_16, q_24, q_30, q_29, pz_Bof hP9 hK hD9 ht hW⟩⟩, hS.F ht⟩) hS.2.2 dX9_init_84
end
section
def wq_X11_init : List Cond := .code yX11_init cX11_init 1 none :: ([.methodLink RX11 3 objectInit, .instanceMethod objectInit, .code objectInit ⟨#[0xb1]⟩ 1 none, .classLink RX11 9 RX6, .instantiable RX6 10, .initialized RX6, .code yX6_init cX6_init 1 none, .methodLink RX6 3 objectInit, .arrayClass .int, .fieldLink RX6 9 "RegisterMill$Program" "args" "[I", .fieldLink RX6 15 "RegisterMill$Program" "locals" "[I", .fieldLink RX6 18 "RegisterMill$Program" "starts" "[I", .fieldLink RX6 21 "RegisterMill$Program" "lengths" "[I", .fieldLink RX6 24 "RegisterMill$Program" "ops" "[I", .fieldLink RX6 27 "RegisterMill$Program" "numbers" "[I", .fieldLink RX6 30 "RegisterMill$Program" "depths" "[I", .instanceMethod yX6_init, .fieldLink RX11 12 "RegisterMill" "program" "LRegisterMill$Program;", .classLink RX11 16 RX0, .instantiable RX0 3, .initialized RX0, .code yX0_init cX0_init 2 none, .methodLink RX0 3 objectInit, .arrayClass .boolean, .fieldLink RX0 9 "RegisterMill$Checker" "passed" "[Z", .fieldLink RX0 15 "RegisterMill$Checker" "program" "LRegisterMill$Program;", .methodLink RX11 18 yX0_init, .instanceMethod yX0_init, .fieldLink RX11 21 "RegisterMill" "checker" "LRegisterMill$Checker;", .classLink RX11 25 RX9, .instantiable RX9 8, .initialized RX9, .code yX9_init cX9_init 2 none, .methodLink RX9 3 objectInit, .classLink RX9 9 RX5, .instantiable RX5 10, .initialized RX5, .code yX5_init cX5_init 1 none, .methodLink RX5 3 objectInit, .fieldLink RX5 9 "RegisterMill$Places" "kinds" "[I", .fieldLink RX5 15 "RegisterMill$Places" "numbers" "[I", .fieldLink RX5 18 "RegisterMill$Places" "goals" "[I", .fieldLink RX5 21 "RegisterMill$Places" "written" "[I", .fieldLink RX5 24 "RegisterMill$Places" "readCounts" "[I", .classLink RX5 27 "[[I", .fieldLink RX5 29 "RegisterMill$Places" "reads" "[[I", .fieldLink RX5 32 "RegisterMill$Places" "newNumbers" "[I", .fieldLink RX5 35 "RegisterMill$Places" "blockStarts" "[Z", .fieldLink RX5 39 "RegisterMill$Places" "copyOf" "[I", .instanceMethod yX5_init, .fieldLink RX9 12 "RegisterMill$Turner" "places" "LRegisterMill$Places;", .classLink RX9 18 RX3, .instantiable RX3 2, .initialized RX3, .code yX3_init cX3_init 1 none, .methodLink RX3 3 objectInit, .fieldLink RX3 9 "RegisterMill$Live" "ahead" "[I", .fieldLink RX3 15 "RegisterMill$Live" "behind" "[I", .instanceMethod yX3_init, .fieldLink RX9 21 "RegisterMill$Turner" "live" "LRegisterMill$Live;", .classLink RX9 25 RX2, .instantiable RX2 6, .initialized RX2, .code yX2_init cX2_init 1 none, .methodLink RX2 3 objectInit, .fieldLink RX2 9 "RegisterMill$Homes" "firsts" "[I", .fieldLink RX2 15 "RegisterMill$Homes" "lasts" "[I", .fieldLink RX2 18 "RegisterMill$Homes" "registers" "[I", .fieldLink RX2 21 "RegisterMill$Homes" "slotNumbers" "[I", .fieldLink RX2 24 "RegisterMill$Homes" "slotCounts" "[I", .fieldLink RX2 27 "RegisterMill$Homes" "holders" "[I", .instanceMethod yX2_init, .fieldLink RX9 28 "RegisterMill$Turner" "homes" "LRegisterMill$Homes;", .classLink RX9 32 RX1, .instantiable RX1 4, .initialized RX1, .code yX1_init cX1_init 1 none, .methodLink RX1 3 objectInit, .fieldLink RX1 9 "RegisterMill$Code" "starts" "[I", .fieldLink RX1 15 "RegisterMill$Code" "sizes" "[I", .fieldLink RX1 18 "RegisterMill$Code" "parts" "[I", .instanceMethod yX1_init, .fieldLink RX9 35 "RegisterMill$Turner" "code" "LRegisterMill$Code;", .fieldLink RX9 39 "RegisterMill$Turner" "placeCounts" "[I", .fieldLink RX9 43 "RegisterMill$Turner" "program" "LRegisterMill$Program;", .classLink RX9 47 RX10, .instantiable RX10 7, .initialized RX10, .code yX10_init cX10_init 4 none, .methodLink RX10 3 objectInit, .fieldLink RX10 9 "RegisterMill$Writer" "firstOps" "[I", .fieldLink RX10 15 "RegisterMill$Writer" "places" "LRegisterMill$Places;", .fieldLink RX10 19 "RegisterMill$Writer" "homes" "LRegisterMill$Homes;", .fieldLink RX10 23 "RegisterMill$Writer" "code" "LRegisterMill$Code;", .methodLink RX9 49 yX10_init, .instanceMethod yX10_init, .fieldLink RX9 52 "RegisterMill$Turner" "writer" "LRegisterMill$Writer;", .methodLink RX11 27 yX9_init, .instanceMethod yX9_init, .fieldLink RX11 28 "RegisterMill" "turner" "LRegisterMill$Turner;", .classLink RX11 32 RX8, .instantiable RX8 13, .initialized RX8, .code yX8_init cX8_init 2 none, .code yX4_init cX4_init 1 none, .methodLink RX4 3 objectInit, .fieldLink RX4 9 "RegisterMill$Machine" "memory" "[I", .fieldLink RX4 15 "RegisterMill$Machine" "funcs" "[I", .fieldLink RX4 18 "RegisterMill$Machine" "nexts" "[I", .initialized RX4, .instanceMethod yX4_init, .fieldLink RX8 9 "RegisterMill$StackMachine" "locals" "[I", .fieldLink RX8 15 "RegisterMill$StackMachine" "stack" "[I", .fieldLink RX8 18 "RegisterMill$StackMachine" "bottoms" "[I", .fieldLink RX8 21 "RegisterMill$StackMachine" "program" "LRegisterMill$Program;", .methodLink RX11 34 yX8_init, .instanceMethod yX8_init, .fieldLink RX11 35 "RegisterMill" "stackMachine" "LRegisterMill$Machine;", .classLink RX11 39 RX7, .instantiable RX7 13, .initialized RX7, .fieldLink RX11 41 "RegisterMill$Turner" "code" "LRegisterMill$Code;", .code yX7_init cX7_init 2 none, .fieldLink RX7 9 "RegisterMill$RegisterMachine" "registers" "[I", .fieldLink RX7 15 "RegisterMill$RegisterMachine" "slotCells" "[I", .fieldLink RX7 18 "RegisterMill$RegisterMachine" "passed" "[I", .fieldLink RX7 21 "RegisterMill$RegisterMachine" "code" "LRegisterMill$Code;", .methodLink RX11 45 yX7_init, .instanceMethod yX7_init, .fieldLink RX11 48 "RegisterMill" "registerMachine" "LRegisterMill$Machine;"] ++ wsX60 ++ wsX110 ++ wsX00 ++ wsX90 ++ wsX50 ++ wsX30 ++ wsX20 ++ wsX10 ++ wsX100 ++ wsX80 ++ wsX70)
set_option maxRecDepth 20000 in
theorem gq_X11_init_X6_init_11 : GoodIn wq_X11_init (wq_X6_init) := goodIn_r _ [7, 8, 2, 3, 9, 10, 11, 12, 13, 14, 15, 16, 131, 132, 133, 134, 135, 136, 137, 138, 139, 140] (by decide +kernel) (by decide +kernel)
set_option maxRecDepth 20000 in
theorem gq_X11_init_X0_init_18 : GoodIn wq_X11_init (wq_X0_init) := goodIn_r _ [22, 23, 2, 3, 24, 25, 26, 146, 147, 148] (by decide +kernel) (by decide +kernel)
set_option maxRecDepth 20000 in
theorem gq_X11_init_X9_init_27 : GoodIn wq_X11_init (wq_X9_init) := goodIn_r _ [33, 34, 2, 3, 35, 36, 37, 38, 39, 9, 40, 41, 42, 43, 44, 45, 46, 47, 24, 48, 49, 50, 51, 52, 53, 54, 55, 56, 57, 58, 59, 60, 61, 62, 63, 64, 65, 66, 67, 68, 69, 70, 71, 72, 73, 74, 75, 76, 77, 78, 79, 80, 81, 82, 83, 84, 85, 86, 87, 88, 89, 90, 91, 92, 93, 94, 95, 96, 97, 157, 158, 159, 160, 161, 162, 163, 164, 165, 166, 149, 150, 151, 152, 153, 154, 155, 156, 167, 168, 169, 170, 171, 172, 173, 174, 175, 176, 177, 178, 179, 180, 181, 182, 183, 184, 185] (by decide +kernel) (by decide +kernel)
set_option maxRecDepth 20000 in
theorem gq_X11_init_X8_init_34 : GoodIn wq_X11_init (wq_X8_init) := goodIn_r _ [104, 105, 106, 2, 3, 9, 107, 108, 109, 110, 111, 112, 113, 114, 115, 186, 187, 188, 189, 190, 191, 192, 193, 194, 195, 196, 197, 198] (by decide +kernel) (by decide +kernel)
set_option maxRecDepth 20000 in
theorem gq_X11_init_X7_init_45 : GoodIn wq_X11_init (wq_X7_init) := goodIn_r _ [123, 105, 106, 2, 3, 9, 107, 108, 109, 110, 111, 124, 125, 126, 127, 199, 200, 201, 202, 203, 204, 205, 206, 207, 208, 209, 210, 211] (by decide +kernel) (by decide +kernel)
set_option maxHeartbeats 4000000 in
set_option maxRecDepth 100000 in
/-- RegisterMill(): the fresh system -/
theorem c_X11_init (l : Launch) (dC : Nat → ClassId) (dI : Nat → Nat → Nat) (cyI : ClassId) (sz : Nat) (h0 : Nat) : Met l yX11_init wq_X11_init ({ frames := 3, cells := 58, slots := 11356, locals := 56 }) (va_Pc [.ref h0] (pz_pre dC dI [(cyI, .int)] [(h0, .inr (10, [.null, .null, .null, .null, .null]))] sz)) (va_Qv (S := Unit) (fun _ => True) (fun _ t => ∃ pr ck tu sm rm p_args p_locals p_starts p_lengths p_ops p_numbers p_depths k_passed t_places t_live t_homes t_code t_writer t_placeCounts s_memory s_funcs s_nexts s_locals s_stack s_bottoms r_memory r_funcs r_nexts r_registers r_slotCells r_passed : Nat, pz_B dC dI [(cyI, .int)] (va_A [(h0, .inr (10, [.null, .null, .null, .null, .null]))] sz) [(h0, .inr (10, [.ref pr, .ref ck, .ref tu, .ref sm, .ref rm])), (pr, .inr (5, [.ref p_args, .ref p_locals, .ref p_starts, .ref p_lengths, .ref p_ops, .ref p_numbers, .ref p_depths, .int 0, .int 0, .int 0])), (p_args, .inl (cyI, 12, .inl (fun _ => 0))), (p_locals, .inl (cyI, 12, .inl (fun _ => 0))), (p_starts, .inl (cyI, 12, .inl (fun _ => 0))), (p_lengths, .inl (cyI, 12, .inl (fun _ => 0))), (ck, .inr (0, [.ref pr, .ref k_passed, .int 0])), (tu, .inr (8, [.ref pr, .ref t_places, .ref t_live, .ref t_homes, .ref t_code, .ref t_writer, .ref t_placeCounts, .int 0])), (sm, .inr (7, [.ref s_memory, .ref s_funcs, .ref s_nexts, .int 0, .int 0, .int 0, .int 0, .int 0, .ref pr, .ref s_locals, .ref s_stack, .ref s_bottoms, .int 0])), (s_memory, .inl (cyI, 64, .inl (fun _ => 0))), (rm, .inr (6, [.ref r_memory, .ref r_funcs, .ref r_nexts, .int 0, .int 0, .int 0, .int 0, .int 0, .ref t_code, .ref r_registers, .ref r_slotCells, .ref r_passed, .int 0])), (r_memory, .inl (cyI, 64, .inl (fun _ => 0))), (r_passed, .inl (cyI, 6, .inl (fun _ => 0)))] t) (va_A [(h0, .inr (10, [.null, .null, .null, .null, .null]))] sz)) 58 11356 (va_A [(h0, .inr (10, [.null, .null, .null, .null, .null]))] sz) := by
  refine Met.ofW (cc := cX11_init) (maxL := 1) (ret := none) (by decide) rfl ?_
  intro p e s m args below meth c s₁ B hml hv
  obtain ⟨rfl, hsz, hP, hK, hD0, hNW⟩ := hv
  have hx := B.exec
  have hb := B.bytes
  have hr := B.returns
  have hts := atoms_spec (ws := wq_X11_init) B.pre
  have hown : s.vm.findClass RX11 = some m.cls := findClass_of_methodNamed B.named
  have hlocks := B.notSynchronized
  have hin : meth.name = "<init>" := (name_of_methodNamed B.named B.method).1
  have hiX6 : ∀ w ∈ wsX60, w ∈ wq_X11_init := by decide +kernel
  have hiX11 : ∀ w ∈ wsX110, w ∈ wq_X11_init := by decide +kernel
  have hiX0 : ∀ w ∈ wsX00, w ∈ wq_X11_init := by decide +kernel
  have hiX9 : ∀ w ∈ wsX90, w ∈ wq_X11_init := by decide +kernel
  have hiX5 : ∀ w ∈ wsX50, w ∈ wq_X11_init := by decide +kernel
  have hiX3 : ∀ w ∈ wsX30, w ∈ wq_X11_init := by decide +kernel
  have hiX2 : ∀ w ∈ wsX20, w ∈ wq_X11_init := by decide +kernel
  have hiX1 : ∀ w ∈ wsX10, w ∈ wq_X11_init := by decide +kernel
  have hiX10 : ∀ w ∈ wsX100, w ∈ wq_X11_init := by decide +kernel
  have hiX8 : ∀ w ∈ wsX80, w ∈ wq_X11_init := by decide +kernel
  have hiX7 : ∀ w ∈ wsX70, w ∈ wq_X11_init := by decide +kernel
  subst hsz
  have hD := hD0.self (sz := s.heap.size)
  generalize hAe : va_A [(h0, .inr (10, [.null, .null, .null, .null, .null]))] s.heap.size = A at hD ⊢
  have hA : ∀ q : Nat, s.heap.size ≤ q → A q := fun q h => by rw [← hAe]; exact Or.inr h
  have hS : va_S A s.heap s.heap [] := va_S.rf
  have hl := lv_entry ([.ref h0]) (n := 1) (Nat.le_of_ble_eq_true rfl)
  rw [lg_entry_eq]
  generalize (lg_sl ([.ref h0]) ++ List.replicate (1 - (lg_sl ([.ref h0])).length) Slot.unset).toArray = ls at hl ⊢
  have hl : lv_has ls 1 [(0, .ref h0)] := hl
  refine lv_aload_n hx hb dX11_init_0 rfl (lv_at hl 0 rfl) ?_
  refine W.objInit hx hb hown (hts (.methodLink RX11 3 objectInit) (by decide +kernel)) (hts (.instanceMethod objectInit) (by decide +kernel)) (hts (.code objectInit ⟨#[0xb1]⟩ 1 none) (by decide +kernel)) rfl (by rw [hml]; exact hl.1) rfl dX11_init_1 (Nat.le_of_ble_eq_true rfl) (Nat.le_of_ble_eq_true rfl) ?_
  refine W.eq (g2 := F0 m 4 ls []) rfl ?_
  refine lv_aload_n hx hb dX11_init_4 rfl (lv_at hl 0 rfl) ?_
  refine va_new (ci := 5) (fs := [.null, .null, .null, .null, .null, .null, .null, .int 0, .int 0, .int 0]) (C := RX6) (T := TX6) (N := 10) hx hb hts hiX6 tyX6 tyX6_ok hown (hts (.classLink RX11 9 RX6) (by decide +kernel)) (hts (.instantiable RX6 10) (by decide +kernel)) (hts (.initialized RX6) (by decide +kernel)) hK hP hD hS hA rfl (fun j hj => fsX6 j hj) (by decide) (by decide) dX11_init_5 (fun q_1 H hP hD hS => ?_)
  have hP : va_P (dC, dI) vwCl [(h0, .inr (10, [.null, .null, .null, .null, .null])), (q_1, .inr (5, [.null, .null, .null, .null, .null, .null, .null, .int 0, .int 0, .int 0]))] H := hP
  have hD : va_D A [(h0, .inr (10, [.null, .null, .null, .null, .null])), (q_1, .inr (5, [.null, .null, .null, .null, .null, .null, .null, .int 0, .int 0, .int 0]))] := hD
  refine W.widen (k := 1) (n := 10) (by omega) (by omega) ?_
  refine lv_dup hx hb dX11_init_8 rfl ?_
  have hPc := hP.sub (ws' := [(q_1, .inr (5, [.null, .null, .null, .null, .null, .null, .null, .int 0, .int 0, .int 0]))]) [1] rfl
  have hDc := hD.sub (ws' := [(q_1, .inr (5, [.null, .null, .null, .null, .null, .null, .null, .int 0, .int 0, .int 0]))]) [1] (by decide) rfl
  have hKc := hK.sub (tys' := [(cyI, .int)]) [0] rfl
  have hFc := va_free (wc := [(q_1, .inr (5, [.null, .null, .null, .null, .null, .null, .null, .int 0, .int 0, .int 0]))]) hD hS hA [1] rfl
  refine va_callv (va_runIN (As := []) (rest := [.ref q_1, .ref h0]) ⟨hx, hb, hml, hown, hts⟩ (c_X6_init l dC dI cyI H.size q_1) ⟨va_cnB 0 hts gq_X11_init_X6_init_11 rfl rfl rfl hNW.2.1 (hts (.initialized RX6) (by decide +kernel)) (by decide +kernel) ⟨Nat.le_of_ble_eq_true rfl, Nat.le_of_ble_eq_true rfl⟩, rfl, (hts (.instanceMethod yX6_init) (by decide +kernel))⟩ ⟨pz_blind, pz_to hPc hKc hDc hNW⟩ rfl rfl hl.1 rfl (lv_room (Nat.le_of_ble_eq_true rfl)) dX11_init_9 (by decide)) hS (fun q _ h => hFc q h) hFc (fun u t H1 locs ht hvm hw hB hz1 hk1 hS => ?_)
  obtain ⟨q_3, q_4, q_5, q_6, q_7, q_8, q_9, hP1, hK1, hD1⟩ := hB
  rw [ht] at hP1
  obtain ⟨hP, hD⟩ := va_join (wr := [(h0, .inr (10, [.null, .null, .null, .null, .null]))]) (w1 := [(q_1, .inr (5, [.ref q_3, .ref q_4, .ref q_5, .ref q_6, .ref q_7, .ref q_8, .ref q_9, .int 0, .int 0, .int 0])), (q_3, .inl (cyI, 12, .inl (fun _ => 0))), (q_4, .inl (cyI, 12, .inl (fun _ => 0))), (q_5, .inl (cyI, 12, .inl (fun _ => 0))), (q_6, .inl (cyI, 12, .inl (fun _ => 0)))]) hP hD [1] [0] rfl rfl (by decide) (by decide) hk1 hFc hP1 hD1
  generalize H1 = H at hP hS ⊢
  have hP : va_P (dC, dI) vwCl [(h0, .inr (10, [.null, .null, .null, .null, .null])), (q_1, .inr (5, [.ref q_3, .ref q_4, .ref q_5, .ref q_6, .ref q_7, .ref q_8, .ref q_9, .int 0, .int 0, .int 0])), (q_3, .inl (cyI, 12, .inl (fun _ => 0))), (q_4, .inl (cyI, 12, .inl (fun _ => 0))), (q_5, .inl (cyI, 12, .inl (fun _ => 0))), (q_6, .inl (cyI, 12, .inl (fun _ => 0)))] H := hP
  have hD : va_D A [(h0, .inr (10, [.null, .null, .null, .null, .null])), (q_1, .inr (5, [.ref q_3, .ref q_4, .ref q_5, .ref q_6, .ref q_7, .ref q_8, .ref q_9, .int 0, .int 0, .int 0])), (q_3, .inl (cyI, 12, .inl (fun _ => 0))), (q_4, .inl (cyI, 12, .inl (fun _ => 0))), (q_5, .inl (cyI, 12, .inl (fun _ => 0))), (q_6, .inl (cyI, 12, .inl (fun _ => 0)))] := hD
  refine W.widen (k := 8) (n := 958) (by omega) (by omega) ?_
  refine va_putF (D := (dC, dI)) (ci := 10) (v := .ref q_1) (ty := .object "RegisterMill$Program") (C := RX11) (T := TX11) (N := 5) hx hb hts hiX11 tyX11 tyX11_ok nmX11 hown hK hP hD hS 0 rfl rfl 0 (by decide) (hts (.fieldLink RX11 12 "RegisterMill" "program" "LRegisterMill$Program;") (by decide +kernel)) (fun _ h9 => h9) rfl hin rfl (by decide +kernel) rfl rfl (Nat.le_of_ble_eq_true rfl) dX11_init_12 (fun H locs hP hD hS => ?_)
  have hP : va_P (dC, dI) vwCl [(h0, .inr (10, [.ref q_1, .null, .null, .null, .null])), (q_1, .inr (5, [.ref q_3, .ref q_4, .ref q_5, .ref q_6, .ref q_7, .ref q_8, .ref q_9, .int 0, .int 0, .int 0])), (q_3, .inl (cyI, 12, .inl (fun _ => 0))), (q_4, .inl (cyI, 12, .inl (fun _ => 0))), (q_5, .inl (cyI, 12, .inl (fun _ => 0))), (q_6, .inl (cyI, 12, .inl (fun _ => 0)))] H := hP
  have hD : va_D A [(h0, .inr (10, [.ref q_1, .null, .null, .null, .null])), (q_1, .inr (5, [.ref q_3, .ref q_4, .ref q_5, .ref q_6, .ref q_7, .ref q_8, .ref q_9, .int 0, .int 0, .int 0])), (q_3, .inl (cyI, 12, .inl (fun _ => 0))), (q_4, .inl (cyI, 12, .inl (fun _ => 0))), (q_5, .inl (cyI, 12, .inl (fun _ => 0))), (q_6, .inl (cyI, 12, .inl (fun _ => 0)))] := hD
  refine lv_aload_n hx hb dX11_init_15 rfl (lv_at hl 0 rfl) ?_
  refine va_new (ci := 0) (fs := [.null, .null, .int 0]) (C := RX0) (T := TX0) (N := 3) hx hb hts hiX0 tyX0 tyX0_ok hown (hts (.classLink RX11 16 RX0) (by decide +kernel)) (hts (.instantiable RX0 3) (by decide +kernel)) (hts (.initialized RX0) (by decide +kernel)) hK hP hD hS hA rfl (fun j hj => fsX0 j hj) (by decide) (by decide) dX11_init_16 (fun q_10 H hP hD hS => ?_)
  have hP : va_P (dC, dI) vwCl [(h0, .inr (10, [.ref q_1, .null, .null, .null, .null])), (q_1, .inr (5, [.ref q_3, .ref q_4, .ref q_5, .ref q_6, .ref q_7, .ref q_8, .ref q_9, .int 0, .int 0, .int 0])), (q_3, .inl (cyI, 12, .inl (fun _ => 0))), (q_4, .inl (cyI, 12, .inl (fun _ => 0))), (q_5, .inl (cyI, 12, .inl (fun _ => 0))), (q_6, .inl (cyI, 12, .inl (fun _ => 0))), (q_10, .inr (0, [.null, .null, .int 0]))] H := hP
  have hD : va_D A [(h0, .inr (10, [.ref q_1, .null, .null, .null, .null])), (q_1, .inr (5, [.ref q_3, .ref q_4, .ref q_5, .ref q_6, .ref q_7, .ref q_8, .ref q_9, .int 0, .int 0, .int 0])), (q_3, .inl (cyI, 12, .inl (fun _ => 0))), (q_4, .inl (cyI, 12, .inl (fun _ => 0))), (q_5, .inl (cyI, 12, .inl (fun _ => 0))), (q_6, .inl (cyI, 12, .inl (fun _ => 0))), (q_10, .inr (0, [.null, .null, .int 0]))] := hD
  refine W.widen (k := 9) (n := 961) (by omega) (by omega) ?_
  refine lv_dup hx hb dX11_init_19 rfl ?_
  refine lv_aload_n hx hb dX11_init_20 rfl (lv_at hl 0 rfl) ?_
  refine va_get (D := (dC, dI)) (ci := 10) (v := .ref q_1) (C := RX11) (T := TX11) (N := 5) hx hb hts hiX11 hown hK hP 0 rfl rfl 0 (by decide) (hts (.fieldLink RX11 12 "RegisterMill" "program" "LRegisterMill$Program;") (by decide +kernel)) (fun _ h9 => h9) rfl dX11_init_21 ?_
  have hPc := hP.sub (ws' := [(q_10, .inr (0, [.null, .null, .int 0]))]) [6] rfl
  have hDc := hD.sub (ws' := [(q_10, .inr (0, [.null, .null, .int 0]))]) [6] (by decide) rfl
  have hKc := hK.sub (tys' := [(cyI, .int)]) [0] rfl
  have hFc := va_free (wc := [(q_10, .inr (0, [.null, .null, .int 0]))]) hD hS hA [6] rfl
  refine va_callv (va_runI (As := [.ref q_1]) (rest := [.ref q_10, .ref h0]) ⟨hx, hb, hml, hown, hts⟩ (c_X0_init l dC dI cyI H.size q_10 q_1) (cwI 1 hts gq_X11_init_X0_init_18 rfl rfl rfl (hts (.initialized RX0) (by decide +kernel)) (hts (.methodLink RX11 18 yX0_init) (by decide +kernel)) (hts (.instanceMethod yX0_init) (by decide +kernel)) rfl (by decide +kernel) ⟨Nat.le_of_ble_eq_true rfl, Nat.le_of_ble_eq_true rfl⟩) ⟨pz_blind, pz_to hPc hKc hDc hNW⟩ rfl rfl hl.1 rfl (lv_room (Nat.le_of_ble_eq_true rfl)) dX11_init_24 (by decide)) hS (fun q _ h => hFc q h) hFc (fun u t H1 locs ht hvm hw hB hz1 hk1 hS => ?_)
  obtain ⟨q_12, hP1, hK1, hD1⟩ := hB
  rw [ht] at hP1
  obtain ⟨hP, hD⟩ := va_join (wr := [(h0, .inr (10, [.ref q_1, .null, .null, .null, .null])), (q_1, .inr (5, [.ref q_3, .ref q_4, .ref q_5, .ref q_6, .ref q_7, .ref q_8, .ref q_9, .int 0, .int 0, .int 0])), (q_3, .inl (cyI, 12, .inl (fun _ => 0))), (q_4, .inl (cyI, 12, .inl (fun _ => 0))), (q_5, .inl (cyI, 12, .inl (fun _ => 0))), (q_6, .inl (cyI, 12, .inl (fun _ => 0)))]) (w1 := [(q_10, .inr (0, [.ref q_1, .ref q_12, .int 0]))]) hP hD [6] [0, 1, 2, 3, 4, 5] rfl rfl (by decide) (by decide) hk1 hFc hP1 hD1
  generalize H1 = H at hP hS ⊢
  have hP : va_P (dC, dI) vwCl [(h0, .inr (10, [.ref q_1, .null, .null, .null, .null])), (q_1, .inr (5, [.ref q_3, .ref q_4, .ref q_5, .ref q_6, .ref q_7, .ref q_8, .ref q_9, .int 0, .int 0, .int 0])), (q_3, .inl (cyI, 12, .inl (fun _ => 0))), (q_4, .inl (cyI, 12, .inl (fun _ => 0))), (q_5, .inl (cyI, 12, .inl (fun _ => 0))), (q_6, .inl (cyI, 12, .inl (fun _ => 0))), (q_10, .inr (0, [.ref q_1, .ref q_12, .int 0]))] H := hP
  have hD : va_D A [(h0, .inr (10, [.ref q_1, .null, .null, .null, .null])), (q_1, .inr (5, [.ref q_3, .ref q_4, .ref q_5, .ref q_6, .ref q_7, .ref q_8, .ref q_9, .int 0, .int 0, .int 0])), (q_3, .inl (cyI, 12, .inl (fun _ => 0))), (q_4, .inl (cyI, 12, .inl (fun _ => 0))), (q_5, .inl (cyI, 12, .inl (fun _ => 0))), (q_6, .inl (cyI, 12, .inl (fun _ => 0))), (q_10, .inr (0, [.ref q_1, .ref q_12, .int 0]))] := hD
  refine W.widen (k := 10) (n := 1261) (by omega) (by omega) ?_
  refine va_putF (D := (dC, dI)) (ci := 10) (v := .ref q_10) (ty := .object "RegisterMill$Checker") (C := RX11) (T := TX11) (N := 5) hx hb hts hiX11 tyX11 tyX11_ok nmX11 hown hK hP hD hS 0 rfl rfl 1 (by decide) (hts (.fieldLink RX11 21 "RegisterMill" "checker" "LRegisterMill$Checker;") (by decide +kernel)) (fun _ h9 => h9) rfl hin rfl (by decide +kernel) rfl rfl (Nat.le_of_ble_eq_true rfl) dX11_init_27 (fun H locs hP hD hS => ?_)
  have hP : va_P (dC, dI) vwCl [(h0, .inr (10, [.ref q_1, .ref q_10, .null, .null, .null])), (q_1, .inr (5, [.ref q_3, .ref q_4, .ref q_5, .ref q_6, .ref q_7, .ref q_8, .ref q_9, .int 0, .int 0, .int 0])), (q_3, .inl (cyI, 12, .inl (fun _ => 0))), (q_4, .inl (cyI, 12, .inl (fun _ => 0))), (q_5, .inl (cyI, 12, .inl (fun _ => 0))), (q_6, .inl (cyI, 12, .inl (fun _ => 0))), (q_10, .inr (0, [.ref q_1, .ref q_12, .int 0]))] H := hP
  have hD : va_D A [(h0, .inr (10, [.ref q_1, .ref q_10, .null, .null, .null])), (q_1, .inr (5, [.ref q_3, .ref q_4, .ref q_5, .ref q_6, .ref q_7, .ref q_8, .ref q_9, .int 0, .int 0, .int 0])), (q_3, .inl (cyI, 12, .inl (fun _ => 0))), (q_4, .inl (cyI, 12, .inl (fun _ => 0))), (q_5, .inl (cyI, 12, .inl (fun _ => 0))), (q_6, .inl (cyI, 12, .inl (fun _ => 0))), (q_10, .inr (0, [.ref q_1, .ref q_12, .int 0]))] := hD
  refine lv_aload_n hx hb dX11_init_30 rfl (lv_at hl 0 rfl) ?_
  refine va_new (ci := 8) (fs := [.null, .null, .null, .null, .null, .null, .null, .int 0]) (C := RX9) (T := TX9) (N := 8) hx hb hts hiX9 tyX9 tyX9_ok hown (hts (.classLink RX11 25 RX9) (by decide +kernel)) (hts (.instantiable RX9 8) (by decide +kernel)) (hts (.initialized RX9) (by decide +kernel)) hK hP hD hS hA rfl (fun j hj => fsX9 j hj) (by decide) (by decide) dX11_init_31 (fun q_13 H hP hD hS => ?_)
  have hP : va_P (dC, dI) vwCl [(h0, .inr (10, [.ref q_1, .ref q_10, .null, .null, .null])), (q_1, .inr (5, [.ref q_3, .ref q_4, .ref q_5, .ref q_6, .ref q_7, .ref q_8, .ref q_9, .int 0, .int 0, .int 0])), (q_3, .inl (cyI, 12, .inl (fun _ => 0))), (q_4, .inl (cyI, 12, .inl (fun _ => 0))), (q_5, .inl (cyI, 12, .inl (fun _ => 0))), (q_6, .inl (cyI, 12, .inl (fun _ => 0))), (q_10, .inr (0, [.ref q_1, .ref q_12, .int 0])), (q_13, .inr (8, [.null, .null, .null, .null, .null, .null, .null, .int 0]))] H := hP
  have hD : va_D A [(h0, .inr (10, [.ref q_1, .ref q_10, .null, .null, .null])), (q_1, .inr (5, [.ref q_3, .ref q_4, .ref q_5, .ref q_6, .ref q_7, .ref q_8, .ref q_9, .int 0, .int 0, .int 0])), (q_3, .inl (cyI, 12, .inl (fun _ => 0))), (q_4, .inl (cyI, 12, .inl (fun _ => 0))), (q_5, .inl (cyI, 12, .inl (fun _ => 0))), (q_6, .inl (cyI, 12, .inl (fun _ => 0))), (q_10, .inr (0, [.ref q_1, .ref q_12, .int 0])), (q_13, .inr (8, [.null, .null, .null, .null, .null, .null, .null, .int 0]))] := hD
  refine W.widen (k := 11) (n := 1269) (by omega) (by omega) ?_
  refine lv_dup hx hb dX11_init_34 rfl ?_
  refine lv_aload_n hx hb dX11_init_35 rfl (lv_at hl 0 rfl) ?_
  refine va_get (D := (dC, dI)) (ci := 10) (v := .ref q_1) (C := RX11) (T := TX11) (N := 5) hx hb hts hiX11 hown hK hP 0 rfl rfl 0 (by decide) (hts (.fieldLink RX11 12 "RegisterMill" "program" "LRegisterMill$Program;") (by decide +kernel)) (fun _ h9 => h9) rfl dX11_init_36 ?_
  have hPc := hP.sub (ws' := [(q_13, .inr (8, [.null, .null, .null, .null, .null, .null, .null, .int 0]))]) [7] rfl
  have hDc := hD.sub (ws' := [(q_13, .inr (8, [.null, .null, .null, .null, .null, .null, .null, .int 0]))]) [7] (by decide) rfl
  have hKc := hK.sub (tys' := [(cyI, .int)]) [0] rfl
  have hFc := va_free (wc := [(q_13, .inr (8, [.null, .null, .null, .null, .null, .null, .null, .int 0]))]) hD hS hA [7] rfl
  refine va_callv (va_runI (As := [.ref q_1]) (rest := [.ref q_13, .ref h0]) ⟨hx, hb, hml, hown, hts⟩ (c_X9_init l dC dI cyI H.size q_13 q_1) (cwI 1 hts gq_X11_init_X9_init_27 rfl rfl rfl (hts (.initialized RX9) (by decide +kernel)) (hts (.methodLink RX11 27 yX9_init) (by decide +kernel)) (hts (.instanceMethod yX9_init) (by decide +kernel)) rfl (by decide +kernel) ⟨Nat.le_of_ble_eq_true rfl, Nat.le_of_ble_eq_true rfl⟩) ⟨pz_blind, pz_to hPc hKc hDc hNW⟩ rfl rfl hl.1 rfl (lv_room (Nat.le_of_ble_eq_true rfl)) dX11_init_39 (by decide)) hS (fun q _ h => hFc q h) hFc (fun u t H1 locs ht hvm hw hB hz1 hk1 hS => ?_)
  obtain ⟨q_15, q_16, q_17, q_18, q_19, q_20, hP1, hK1, hD1⟩ := hB
  rw [ht] at hP1
  obtain ⟨hP, hD⟩ := va_join (wr := [(h0, .inr (10, [.ref q_1, .ref q_10, .null, .null, .null])), (q_1, .inr (5, [.ref q_3, .ref q_4, .ref q_5, .ref q_6, .ref q_7, .ref q_8, .ref q_9, .int 0, .int 0, .int 0])), (q_3, .inl (cyI, 12, .inl (fun _ => 0))), (q_4, .inl (cyI, 12, .inl (fun _ => 0))), (q_5, .inl (cyI, 12, .inl (fun _ => 0))), (q_6, .inl (cyI, 12, .inl (fun _ => 0))), (q_10, .inr (0, [.ref q_1, .ref q_12, .int 0]))]) (w1 := [(q_13, .inr (8, [.ref q_1, .ref q_15, .ref q_16, .ref q_17, .ref q_18, .ref q_19, .ref q_20, .int 0]))]) hP hD [7] [0, 1, 2, 3, 4, 5, 6] rfl rfl (by decide) (by decide) hk1 hFc hP1 hD1
  generalize H1 = H at hP hS ⊢
  have hP : va_P (dC, dI) vwCl [(h0, .inr (10, [.ref q_1, .ref q_10, .null, .null, .null])), (q_1, .inr (5, [.ref q_3, .ref q_4, .ref q_5, .ref q_6, .ref q_7, .ref q_8, .ref q_9, .int 0, .int 0, .int 0])), (q_3, .inl (cyI, 12, .inl (fun _ => 0))), (q_4, .inl (cyI, 12, .inl (fun _ => 0))), (q_5, .inl (cyI, 12, .inl (fun _ => 0))), (q_6, .inl (cyI, 12, .inl (fun _ => 0))), (q_10, .inr (0, [.ref q_1, .ref q_12, .int 0])), (q_13, .inr (8, [.ref q_1, .ref q_15, .ref q_16, .ref q_17, .ref q_18, .ref q_19, .ref q_20, .int 0]))] H := hP
  have hD : va_D A [(h0, .inr (10, [.ref q_1, .ref q_10, .null, .null, .null])), (q_1, .inr (5, [.ref q_3, .ref q_4, .ref q_5, .ref q_6, .ref q_7, .ref q_8, .ref q_9, .int 0, .int 0, .int 0])), (q_3, .inl (cyI, 12, .inl (fun _ => 0))), (q_4, .inl (cyI, 12, .inl (fun _ => 0))), (q_5, .inl (cyI, 12, .inl (fun _ => 0))), (q_6, .inl (cyI, 12, .inl (fun _ => 0))), (q_10, .inr (0, [.ref q_1, .ref q_12, .int 0])), (q_13, .inr (8, [.ref q_1, .ref q_15, .ref q_16, .ref q_17, .ref q_18, .ref q_19, .ref q_20, .int 0]))] := hD
  refine W.widen (k := 44) (n := 9246) (by omega) (by omega) ?_
  refine va_putF (D := (dC, dI)) (ci := 10) (v := .ref q_13) (ty := .object "RegisterMill$Turner") (C := RX11) (T := TX11) (N := 5) hx hb hts hiX11 tyX11 tyX11_ok nmX11 hown hK hP hD hS 0 rfl rfl 2 (by decide) (hts (.fieldLink RX11 28 "RegisterMill" "turner" "LRegisterMill$Turner;") (by decide +kernel)) (fun _ h9 => h9) rfl hin rfl (by decide +kernel) rfl rfl (Nat.le_of_ble_eq_true rfl) dX11_init_42 (fun H locs hP hD hS => ?_)
  have hP : va_P (dC, dI) vwCl [(h0, .inr (10, [.ref q_1, .ref q_10, .ref q_13, .null, .null])), (q_1, .inr (5, [.ref q_3, .ref q_4, .ref q_5, .ref q_6, .ref q_7, .ref q_8, .ref q_9, .int 0, .int 0, .int 0])), (q_3, .inl (cyI, 12, .inl (fun _ => 0))), (q_4, .inl (cyI, 12, .inl (fun _ => 0))), (q_5, .inl (cyI, 12, .inl (fun _ => 0))), (q_6, .inl (cyI, 12, .inl (fun _ => 0))), (q_10, .inr (0, [.ref q_1, .ref q_12, .int 0])), (q_13, .inr (8, [.ref q_1, .ref q_15, .ref q_16, .ref q_17, .ref q_18, .ref q_19, .ref q_20, .int 0]))] H := hP
  have hD : va_D A [(h0, .inr (10, [.ref q_1, .ref q_10, .ref q_13, .null, .null])), (q_1, .inr (5, [.ref q_3, .ref q_4, .ref q_5, .ref q_6, .ref q_7, .ref q_8, .ref q_9, .int 0, .int 0, .int 0])), (q_3, .inl (cyI, 12, .inl (fun _ => 0))), (q_4, .inl (cyI, 12, .inl (fun _ => 0))), (q_5, .inl (cyI, 12, .inl (fun _ => 0))), (q_6, .inl (cyI, 12, .inl (fun _ => 0))), (q_10, .inr (0, [.ref q_1, .ref q_12, .int 0])), (q_13, .inr (8, [.ref q_1, .ref q_15, .ref q_16, .ref q_17, .ref q_18, .ref q_19, .ref q_20, .int 0]))] := hD
  refine lv_aload_n hx hb dX11_init_45 rfl (lv_at hl 0 rfl) ?_
  refine va_new (ci := 7) (fs := [.null, .null, .null, .int 0, .int 0, .int 0, .int 0, .int 0, .null, .null, .null, .null, .int 0]) (C := RX8) (T := TX8) (N := 13) hx hb hts hiX8 tyX8 tyX8_ok hown (hts (.classLink RX11 32 RX8) (by decide +kernel)) (hts (.instantiable RX8 13) (by decide +kernel)) (hts (.initialized RX8) (by decide +kernel)) hK hP hD hS hA rfl (fun j hj => fsX8 j hj) (by decide) (by decide) dX11_init_46 (fun q_21 H hP hD hS => ?_)
  have hP : va_P (dC, dI) vwCl [(h0, .inr (10, [.ref q_1, .ref q_10, .ref q_13, .null, .null])), (q_1, .inr (5, [.ref q_3, .ref q_4, .ref q_5, .ref q_6, .ref q_7, .ref q_8, .ref q_9, .int 0, .int 0, .int 0])), (q_3, .inl (cyI, 12, .inl (fun _ => 0))), (q_4, .inl (cyI, 12, .inl (fun _ => 0))), (q_5, .inl (cyI, 12, .inl (fun _ => 0))), (q_6, .inl (cyI, 12, .inl (fun _ => 0))), (q_10, .inr (0, [.ref q_1, .ref q_12, .int 0])), (q_13, .inr (8, [.ref q_1, .ref q_15, .ref q_16, .ref q_17, .ref q_18, .ref q_19, .ref q_20, .int 0])), (q_21, .inr (7, [.null, .null, .null, .int 0, .int 0, .int 0, .int 0, .int 0, .null, .null, .null, .null, .int 0]))] H := hP
  have hD : va_D A [(h0, .inr (10, [.ref q_1, .ref q_10, .ref q_13, .null, .null])), (q_1, .inr (5, [.ref q_3, .ref q_4, .ref q_5, .ref q_6, .ref q_7, .ref q_8, .ref q_9, .int 0, .int 0, .int 0])), (q_3, .inl (cyI, 12, .inl (fun _ => 0))), (q_4, .inl (cyI, 12, .inl (fun _ => 0))), (q_5, .inl (cyI, 12, .inl (fun _ => 0))), (q_6, .inl (cyI, 12, .inl (fun _ => 0))), (q_10, .inr (0, [.ref q_1, .ref q_12, .int 0])), (q_13, .inr (8, [.ref q_1, .ref q_15, .ref q_16, .ref q_17, .ref q_18, .ref q_19, .ref q_20, .int 0])), (q_21, .inr (7, [.null, .null, .null, .int 0, .int 0, .int 0, .int 0, .int 0, .null, .null, .null, .null, .int 0]))] := hD
  refine W.widen (k := 45) (n := 9259) (by omega) (by omega) ?_
  refine lv_dup hx hb dX11_init_49 rfl ?_
  refine lv_aload_n hx hb dX11_init_50 rfl (lv_at hl 0 rfl) ?_
  refine va_get (D := (dC, dI)) (ci := 10) (v := .ref q_1) (C := RX11) (T := TX11) (N := 5) hx hb hts hiX11 hown hK hP 0 rfl rfl 0 (by decide) (hts (.fieldLink RX11 12 "RegisterMill" "program" "LRegisterMill$Program;") (by decide +kernel)) (fun _ h9 => h9) rfl dX11_init_51 ?_
  have hPc := hP.sub (ws' := [(q_21, .inr (7, [.null, .null, .null, .int 0, .int 0, .int 0, .int 0, .int 0, .null, .null, .null, .null, .int 0]))]) [8] rfl
  have hDc := hD.sub (ws' := [(q_21, .inr (7, [.null, .null, .null, .int 0, .int 0, .int 0, .int 0, .int 0, .null, .null, .null, .null, .int 0]))]) [8] (by decide) rfl
  have hKc := hK.sub (tys' := [(cyI, .int)]) [0] rfl
  have hFc := va_free (wc := [(q_21, .inr (7, [.null, .null, .null, .int 0, .int 0, .int 0, .int 0, .int 0, .null, .null, .null, .null, .int 0]))]) hD hS hA [8] rfl
  refine va_callv (va_runI (As := [.ref q_1]) (rest := [.ref q_21, .ref h0]) ⟨hx, hb, hml, hown, hts⟩ (c_X8_init l dC dI cyI H.size q_21 q_1) (cwI 1 hts gq_X11_init_X8_init_34 rfl rfl rfl (hts (.initialized RX8) (by decide +kernel)) (hts (.methodLink RX11 34 yX8_init) (by decide +kernel)) (hts (.instanceMethod yX8_init) (by decide +kernel)) rfl (by decide +kernel) ⟨Nat.le_of_ble_eq_true rfl, Nat.le_of_ble_eq_true rfl⟩) ⟨pz_blind, pz_to hPc hKc hDc hNW⟩ rfl rfl hl.1 rfl (lv_room (Nat.le_of_ble_eq_true rfl)) dX11_init_54 (by decide)) hS (fun q _ h => hFc q h) hFc (fun u t H1 locs ht hvm hw hB hz1 hk1 hS => ?_)
  obtain ⟨q_23, q_24, q_25, q_26, q_27, q_28, hP1, hK1, hD1⟩ := hB
  rw [ht] at hP1
  obtain ⟨hP, hD⟩ := va_join (wr := [(h0, .inr (10, [.ref q_1, .ref q_10, .ref q_13, .null, .null])), (q_1, .inr (5, [.ref q_3, .ref q_4, .ref q_5, .ref q_6, .ref q_7, .ref q_8, .ref q_9, .int 0, .int 0, .int 0])), (q_3, .inl (cyI, 12, .inl (fun _ => 0))), (q_4, .inl (cyI, 12, .inl (fun _ => 0))), (q_5, .inl (cyI, 12, .inl (fun _ => 0))), (q_6, .inl (cyI, 12, .inl (fun _ => 0))), (q_10, .inr (0, [.ref q_1, .ref q_12, .int 0])), (q_13, .inr (8, [.ref q_1, .ref q_15, .ref q_16, .ref q_17, .ref q_18, .ref q_19, .ref q_20, .int 0]))]) (w1 := [(q_21, .inr (7, [.ref q_23, .ref q_24, .ref q_25, .int 0, .int 0, .int 0, .int 0, .int 0, .ref q_1, .ref q_26, .ref q_27, .ref q_28, .int 0])), (q_23, .inl (cyI, 64, .inl (fun _ => 0)))]) hP hD [8] [0, 1, 2, 3, 4, 5, 6, 7] rfl rfl (by decide) (by decide) hk1 hFc hP1 hD1
  generalize H1 = H at hP hS ⊢
  have hP : va_P (dC, dI) vwCl [(h0, .inr (10, [.ref q_1, .ref q_10, .ref q_13, .null, .null])), (q_1, .inr (5, [.ref q_3, .ref q_4, .ref q_5, .ref q_6, .ref q_7, .ref q_8, .ref q_9, .int 0, .int 0, .int 0])), (q_3, .inl (cyI, 12, .inl (fun _ => 0))), (q_4, .inl (cyI, 12, .inl (fun _ => 0))), (q_5, .inl (cyI, 12, .inl (fun _ => 0))), (q_6, .inl (cyI, 12, .inl (fun _ => 0))), (q_10, .inr (0, [.ref q_1, .ref q_12, .int 0])), (q_13, .inr (8, [.ref q_1, .ref q_15, .ref q_16, .ref q_17, .ref q_18, .ref q_19, .ref q_20, .int 0])), (q_21, .inr (7, [.ref q_23, .ref q_24, .ref q_25, .int 0, .int 0, .int 0, .int 0, .int 0, .ref q_1, .ref q_26, .ref q_27, .ref q_28, .int 0])), (q_23, .inl (cyI, 64, .inl (fun _ => 0)))] H := hP
  have hD : va_D A [(h0, .inr (10, [.ref q_1, .ref q_10, .ref q_13, .null, .null])), (q_1, .inr (5, [.ref q_3, .ref q_4, .ref q_5, .ref q_6, .ref q_7, .ref q_8, .ref q_9, .int 0, .int 0, .int 0])), (q_3, .inl (cyI, 12, .inl (fun _ => 0))), (q_4, .inl (cyI, 12, .inl (fun _ => 0))), (q_5, .inl (cyI, 12, .inl (fun _ => 0))), (q_6, .inl (cyI, 12, .inl (fun _ => 0))), (q_10, .inr (0, [.ref q_1, .ref q_12, .int 0])), (q_13, .inr (8, [.ref q_1, .ref q_15, .ref q_16, .ref q_17, .ref q_18, .ref q_19, .ref q_20, .int 0])), (q_21, .inr (7, [.ref q_23, .ref q_24, .ref q_25, .int 0, .int 0, .int 0, .int 0, .int 0, .ref q_1, .ref q_26, .ref q_27, .ref q_28, .int 0])), (q_23, .inl (cyI, 64, .inl (fun _ => 0)))] := hD
  refine W.widen (k := 51) (n := 10073) (by omega) (by omega) ?_
  refine va_putF (D := (dC, dI)) (ci := 10) (v := .ref q_21) (ty := .object "RegisterMill$Machine") (C := RX11) (T := TX11) (N := 5) hx hb hts hiX11 tyX11 tyX11_ok nmX11 hown hK hP hD hS 0 rfl rfl 3 (by decide) (hts (.fieldLink RX11 35 "RegisterMill" "stackMachine" "LRegisterMill$Machine;") (by decide +kernel)) (fun _ h9 => h9) rfl hin rfl (by decide +kernel) rfl rfl (Nat.le_of_ble_eq_true rfl) dX11_init_57 (fun H locs hP hD hS => ?_)
  have hP : va_P (dC, dI) vwCl [(h0, .inr (10, [.ref q_1, .ref q_10, .ref q_13, .ref q_21, .null])), (q_1, .inr (5, [.ref q_3, .ref q_4, .ref q_5, .ref q_6, .ref q_7, .ref q_8, .ref q_9, .int 0, .int 0, .int 0])), (q_3, .inl (cyI, 12, .inl (fun _ => 0))), (q_4, .inl (cyI, 12, .inl (fun _ => 0))), (q_5, .inl (cyI, 12, .inl (fun _ => 0))), (q_6, .inl (cyI, 12, .inl (fun _ => 0))), (q_10, .inr (0, [.ref q_1, .ref q_12, .int 0])), (q_13, .inr (8, [.ref q_1, .ref q_15, .ref q_16, .ref q_17, .ref q_18, .ref q_19, .ref q_20, .int 0])), (q_21, .inr (7, [.ref q_23, .ref q_24, .ref q_25, .int 0, .int 0, .int 0, .int 0, .int 0, .ref q_1, .ref q_26, .ref q_27, .ref q_28, .int 0])), (q_23, .inl (cyI, 64, .inl (fun _ => 0)))] H := hP
  have hD : va_D A [(h0, .inr (10, [.ref q_1, .ref q_10, .ref q_13, .ref q_21, .null])), (q_1, .inr (5, [.ref q_3, .ref q_4, .ref q_5, .ref q_6, .ref q_7, .ref q_8, .ref q_9, .int 0, .int 0, .int 0])), (q_3, .inl (cyI, 12, .inl (fun _ => 0))), (q_4, .inl (cyI, 12, .inl (fun _ => 0))), (q_5, .inl (cyI, 12, .inl (fun _ => 0))), (q_6, .inl (cyI, 12, .inl (fun _ => 0))), (q_10, .inr (0, [.ref q_1, .ref q_12, .int 0])), (q_13, .inr (8, [.ref q_1, .ref q_15, .ref q_16, .ref q_17, .ref q_18, .ref q_19, .ref q_20, .int 0])), (q_21, .inr (7, [.ref q_23, .ref q_24, .ref q_25, .int 0, .int 0, .int 0, .int 0, .int 0, .ref q_1, .ref q_26, .ref q_27, .ref q_28, .int 0])), (q_23, .inl (cyI, 64, .inl (fun _ => 0)))] := hD
  refine lv_aload_n hx hb dX11_init_60 rfl (lv_at hl 0 rfl) ?_
  refine va_new (ci := 6) (fs := [.null, .null, .null, .int 0, .int 0, .int 0, .int 0, .int 0, .null, .null, .null, .null, .int 0]) (C := RX7) (T := TX7) (N := 13) hx hb hts hiX7 tyX7 tyX7_ok hown (hts (.classLink RX11 39 RX7) (by decide +kernel)) (hts (.instantiable RX7 13) (by decide +kernel)) (hts (.initialized RX7) (by decide +kernel)) hK hP hD hS hA rfl (fun j hj => fsX7 j hj) (by decide) (by decide) dX11_init_61 (fun q_29 H hP hD hS => ?_)
  have hP : va_P (dC, dI) vwCl [(h0, .inr (10, [.ref q_1, .ref q_10, .ref q_13, .ref q_21, .null])), (q_1, .inr (5, [.ref q_3, .ref q_4, .ref q_5, .ref q_6, .ref q_7, .ref q_8, .ref q_9, .int 0, .int 0, .int 0])), (q_3, .inl (cyI, 12, .inl (fun _ => 0))), (q_4, .inl (cyI, 12, .inl (fun _ => 0))), (q_5, .inl (cyI, 12, .inl (fun _ => 0))), (q_6, .inl (cyI, 12, .inl (fun _ => 0))), (q_10, .inr (0, [.ref q_1, .ref q_12, .int 0])), (q_13, .inr (8, [.ref q_1, .ref q_15, .ref q_16, .ref q_17, .ref q_18, .ref q_19, .ref q_20, .int 0])), (q_21, .inr (7, [.ref q_23, .ref q_24, .ref q_25, .int 0, .int 0, .int 0, .int 0, .int 0, .ref q_1, .ref q_26, .ref q_27, .ref q_28, .int 0])), (q_23, .inl (cyI, 64, .inl (fun _ => 0))), (q_29, .inr (6, [.null, .null, .null, .int 0, .int 0, .int 0, .int 0, .int 0, .null, .null, .null, .null, .int 0]))] H := hP
  have hD : va_D A [(h0, .inr (10, [.ref q_1, .ref q_10, .ref q_13, .ref q_21, .null])), (q_1, .inr (5, [.ref q_3, .ref q_4, .ref q_5, .ref q_6, .ref q_7, .ref q_8, .ref q_9, .int 0, .int 0, .int 0])), (q_3, .inl (cyI, 12, .inl (fun _ => 0))), (q_4, .inl (cyI, 12, .inl (fun _ => 0))), (q_5, .inl (cyI, 12, .inl (fun _ => 0))), (q_6, .inl (cyI, 12, .inl (fun _ => 0))), (q_10, .inr (0, [.ref q_1, .ref q_12, .int 0])), (q_13, .inr (8, [.ref q_1, .ref q_15, .ref q_16, .ref q_17, .ref q_18, .ref q_19, .ref q_20, .int 0])), (q_21, .inr (7, [.ref q_23, .ref q_24, .ref q_25, .int 0, .int 0, .int 0, .int 0, .int 0, .ref q_1, .ref q_26, .ref q_27, .ref q_28, .int 0])), (q_23, .inl (cyI, 64, .inl (fun _ => 0))), (q_29, .inr (6, [.null, .null, .null, .int 0, .int 0, .int 0, .int 0, .int 0, .null, .null, .null, .null, .int 0]))] := hD
  refine W.widen (k := 52) (n := 10086) (by omega) (by omega) ?_
  refine lv_dup hx hb dX11_init_64 rfl ?_
  refine lv_aload_n hx hb dX11_init_65 rfl (lv_at hl 0 rfl) ?_
  refine va_get (D := (dC, dI)) (ci := 10) (v := .ref q_13) (C := RX11) (T := TX11) (N := 5) hx hb hts hiX11 hown hK hP 0 rfl rfl 2 (by decide) (hts (.fieldLink RX11 28 "RegisterMill" "turner" "LRegisterMill$Turner;") (by decide +kernel)) (fun _ h9 => h9) rfl dX11_init_66 ?_
  refine va_get (D := (dC, dI)) (ci := 8) (v := .ref q_18) (C := RX9) (T := TX9) (N := 8) hx hb hts hiX9 hown hK hP 7 rfl rfl 4 (by decide) (hts (.fieldLink RX11 41 "RegisterMill$Turner" "code" "LRegisterMill$Code;") (by decide +kernel)) (fun _ h9 => h9) rfl dX11_init_69 ?_
  have hPc := hP.sub (ws' := [(q_29, .inr (6, [.null, .null, .null, .int 0, .int 0, .int 0, .int 0, .int 0, .null, .null, .null, .null, .int 0]))]) [10] rfl
  have hDc := hD.sub (ws' := [(q_29, .inr (6, [.null, .null, .null, .int 0, .int 0, .int 0, .int 0, .int 0, .null, .null, .null, .null, .int 0]))]) [10] (by decide) rfl
  have hKc := hK.sub (tys' := [(cyI, .int)]) [0] rfl
  have hFc := va_free (wc := [(q_29, .inr (6, [.null, .null, .null, .int 0, .int 0, .int 0, .int 0, .int 0, .null, .null, .null, .null, .int 0]))]) hD hS hA [10] rfl
  refine va_callv (va_runI (As := [.ref q_18]) (rest := [.ref q_29, .ref h0]) ⟨hx, hb, hml, hown, hts⟩ (c_X7_init l dC dI cyI H.size q_29 q_18) (cwI 1 hts gq_X11_init_X7_init_45 rfl rfl rfl (hts (.initialized RX7) (by decide +kernel)) (hts (.methodLink RX11 45 yX7_init) (by decide +kernel)) (hts (.instanceMethod yX7_init) (by decide +kernel)) rfl (by decide +kernel) ⟨Nat.le_of_ble_eq_true rfl, Nat.le_of_ble_eq_true rfl⟩) ⟨pz_blind, pz_to hPc hKc hDc hNW⟩ rfl rfl hl.1 rfl (lv_room (Nat.le_of_ble_eq_true rfl)) dX11_init_72 (by decide)) hS (fun q _ h => hFc q h) hFc (fun u t H1 locs ht hvm hw hB hz1 hk1 hS => ?_)
  obtain ⟨q_31, q_32, q_33, q_34, q_35, q_36, hP1, hK1, hD1⟩ := hB
  rw [ht] at hP1
  obtain ⟨hP, hD⟩ := va_join (wr := [(h0, .inr (10, [.ref q_1, .ref q_10, .ref q_13, .ref q_21, .null])), (q_1, .inr (5, [.ref q_3, .ref q_4, .ref q_5, .ref q_6, .ref q_7, .ref q_8, .ref q_9, .int 0, .int 0, .int 0])), (q_3, .inl (cyI, 12, .inl (fun _ => 0))), (q_4, .inl (cyI, 12, .inl (fun _ => 0))), (q_5, .inl (cyI, 12, .inl (fun _ => 0))), (q_6, .inl (cyI, 12, .inl (fun _ => 0))), (q_10, .inr (0, [.ref q_1, .ref q_12, .int 0])), (q_13, .inr (8, [.ref q_1, .ref q_15, .ref q_16, .ref q_17, .ref q_18, .ref q_19, .ref q_20, .int 0])), (q_21, .inr (7, [.ref q_23, .ref q_24, .ref q_25, .int 0, .int 0, .int 0, .int 0, .int 0, .ref q_1, .ref q_26, .ref q_27, .ref q_28, .int 0])), (q_23, .inl (cyI, 64, .inl (fun _ => 0)))]) (w1 := [(q_29, .inr (6, [.ref q_31, .ref q_32, .ref q_33, .int 0, .int 0, .int 0, .int 0, .int 0, .ref q_18, .ref q_34, .ref q_35, .ref q_36, .int 0])), (q_31, .inl (cyI, 64, .inl (fun _ => 0))), (q_36, .inl (cyI, 6, .inl (fun _ => 0)))]) hP hD [10] [0, 1, 2, 3, 4, 5, 6, 7, 8, 9] rfl rfl (by decide) (by decide) hk1 hFc hP1 hD1
  generalize H1 = H at hP hS ⊢
  have hP : va_P (dC, dI) vwCl [(h0, .inr (10, [.ref q_1, .ref q_10, .ref q_13, .ref q_21, .null])), (q_1, .inr (5, [.ref q_3, .ref q_4, .ref q_5, .ref q_6, .ref q_7, .ref q_8, .ref q_9, .int 0, .int 0, .int 0])), (q_3, .inl (cyI, 12, .inl (fun _ => 0))), (q_4, .inl (cyI, 12, .inl (fun _ => 0))), (q_5, .inl (cyI, 12, .inl (fun _ => 0))), (q_6, .inl (cyI, 12, .inl (fun _ => 0))), (q_10, .inr (0, [.ref q_1, .ref q_12, .int 0])), (q_13, .inr (8, [.ref q_1, .ref q_15, .ref q_16, .ref q_17, .ref q_18, .ref q_19, .ref q_20, .int 0])), (q_21, .inr (7, [.ref q_23, .ref q_24, .ref q_25, .int 0, .int 0, .int 0, .int 0, .int 0, .ref q_1, .ref q_26, .ref q_27, .ref q_28, .int 0])), (q_23, .inl (cyI, 64, .inl (fun _ => 0))), (q_29, .inr (6, [.ref q_31, .ref q_32, .ref q_33, .int 0, .int 0, .int 0, .int 0, .int 0, .ref q_18, .ref q_34, .ref q_35, .ref q_36, .int 0])), (q_31, .inl (cyI, 64, .inl (fun _ => 0))), (q_36, .inl (cyI, 6, .inl (fun _ => 0)))] H := hP
  have hD : va_D A [(h0, .inr (10, [.ref q_1, .ref q_10, .ref q_13, .ref q_21, .null])), (q_1, .inr (5, [.ref q_3, .ref q_4, .ref q_5, .ref q_6, .ref q_7, .ref q_8, .ref q_9, .int 0, .int 0, .int 0])), (q_3, .inl (cyI, 12, .inl (fun _ => 0))), (q_4, .inl (cyI, 12, .inl (fun _ => 0))), (q_5, .inl (cyI, 12, .inl (fun _ => 0))), (q_6, .inl (cyI, 12, .inl (fun _ => 0))), (q_10, .inr (0, [.ref q_1, .ref q_12, .int 0])), (q_13, .inr (8, [.ref q_1, .ref q_15, .ref q_16, .ref q_17, .ref q_18, .ref q_19, .ref q_20, .int 0])), (q_21, .inr (7, [.ref q_23, .ref q_24, .ref q_25, .int 0, .int 0, .int 0, .int 0, .int 0, .ref q_1, .ref q_26, .ref q_27, .ref q_28, .int 0])), (q_23, .inl (cyI, 64, .inl (fun _ => 0))), (q_29, .inr (6, [.ref q_31, .ref q_32, .ref q_33, .int 0, .int 0, .int 0, .int 0, .int 0, .ref q_18, .ref q_34, .ref q_35, .ref q_36, .int 0])), (q_31, .inl (cyI, 64, .inl (fun _ => 0))), (q_36, .inl (cyI, 6, .inl (fun _ => 0)))] := hD
  refine W.widen (k := 58) (n := 11356) (by omega) (by omega) ?_
  refine va_putF (D := (dC, dI)) (ci := 10) (v := .ref q_29) (ty := .object "RegisterMill$Machine") (C := RX11) (T := TX11) (N := 5) hx hb hts hiX11 tyX11 tyX11_ok nmX11 hown hK hP hD hS 0 rfl rfl 4 (by decide) (hts (.fieldLink RX11 48 "RegisterMill" "registerMachine" "LRegisterMill$Machine;") (by decide +kernel)) (fun _ h9 => h9) rfl hin rfl (by decide +kernel) rfl rfl (Nat.le_of_ble_eq_true rfl) dX11_init_75 (fun H locs hP hD hS => ?_)
  have hP : va_P (dC, dI) vwCl [(h0, .inr (10, [.ref q_1, .ref q_10, .ref q_13, .ref q_21, .ref q_29])), (q_1, .inr (5, [.ref q_3, .ref q_4, .ref q_5, .ref q_6, .ref q_7, .ref q_8, .ref q_9, .int 0, .int 0, .int 0])), (q_3, .inl (cyI, 12, .inl (fun _ => 0))), (q_4, .inl (cyI, 12, .inl (fun _ => 0))), (q_5, .inl (cyI, 12, .inl (fun _ => 0))), (q_6, .inl (cyI, 12, .inl (fun _ => 0))), (q_10, .inr (0, [.ref q_1, .ref q_12, .int 0])), (q_13, .inr (8, [.ref q_1, .ref q_15, .ref q_16, .ref q_17, .ref q_18, .ref q_19, .ref q_20, .int 0])), (q_21, .inr (7, [.ref q_23, .ref q_24, .ref q_25, .int 0, .int 0, .int 0, .int 0, .int 0, .ref q_1, .ref q_26, .ref q_27, .ref q_28, .int 0])), (q_23, .inl (cyI, 64, .inl (fun _ => 0))), (q_29, .inr (6, [.ref q_31, .ref q_32, .ref q_33, .int 0, .int 0, .int 0, .int 0, .int 0, .ref q_18, .ref q_34, .ref q_35, .ref q_36, .int 0])), (q_31, .inl (cyI, 64, .inl (fun _ => 0))), (q_36, .inl (cyI, 6, .inl (fun _ => 0)))] H := hP
  have hD : va_D A [(h0, .inr (10, [.ref q_1, .ref q_10, .ref q_13, .ref q_21, .ref q_29])), (q_1, .inr (5, [.ref q_3, .ref q_4, .ref q_5, .ref q_6, .ref q_7, .ref q_8, .ref q_9, .int 0, .int 0, .int 0])), (q_3, .inl (cyI, 12, .inl (fun _ => 0))), (q_4, .inl (cyI, 12, .inl (fun _ => 0))), (q_5, .inl (cyI, 12, .inl (fun _ => 0))), (q_6, .inl (cyI, 12, .inl (fun _ => 0))), (q_10, .inr (0, [.ref q_1, .ref q_12, .int 0])), (q_13, .inr (8, [.ref q_1, .ref q_15, .ref q_16, .ref q_17, .ref q_18, .ref q_19, .ref q_20, .int 0])), (q_21, .inr (7, [.ref q_23, .ref q_24, .ref q_25, .int 0, .int 0, .int 0, .int 0, .int 0, .ref q_1, .ref q_26, .ref q_27, .ref q_28, .int 0])), (q_23, .inl (cyI, 64, .inl (fun _ => 0))), (q_29, .inr (6, [.ref q_31, .ref q_32, .ref q_33, .int 0, .int 0, .int 0, .int 0, .int 0, .ref q_18, .ref q_34, .ref q_35, .ref q_36, .int 0])), (q_31, .inl (cyI, 64, .inl (fun _ => 0))), (q_36, .inl (cyI, 6, .inl (fun _ => 0)))] := hD
  refine W.widen (k := 58) (n := 11356) (by decide) (by decide) ?_
  have hP9 := hP.sub (ws' := [(h0, .inr (10, [.ref q_1, .ref q_10, .ref q_13, .ref q_21, .ref q_29])), (q_1, .inr (5, [.ref q_3, .ref q_4, .ref q_5, .ref q_6, .ref q_7, .ref q_8, .ref q_9, .int 0, .int 0, .int 0])), (q_3, .inl (cyI, 12, .inl (fun _ => 0))), (q_4, .inl (cyI, 12, .inl (fun _ => 0))), (q_5, .inl (cyI, 12, .inl (fun _ => 0))), (q_6, .inl (cyI, 12, .inl (fun _ => 0))), (q_10, .inr (0, [.ref q_1, .ref q_12, .int 0])), (q_13, .inr (8, [.ref q_1, .ref q_15, .ref q_16, .ref q_17, .ref q_18, .ref q_19, .ref q_20, .int 0])), (q_21, .inr (7, [.ref q_23, .ref q_24, .ref q_25, .int 0, .int 0, .int 0, .int 0, .int 0, .ref q_1, .ref q_26, .ref q_27, .ref q_28, .int 0])), (q_23, .inl (cyI, 64, .inl (fun _ => 0))), (q_29, .inr (6, [.ref q_31, .ref q_32, .ref q_33, .int 0, .int 0, .int 0, .int 0, .int 0, .ref q_18, .ref q_34, .ref q_35, .ref q_36, .int 0])), (q_31, .inl (cyI, 64, .inl (fun _ => 0))), (q_36, .inl (cyI, 6, .inl (fun _ => 0)))]) [0, 1, 2, 3, 4, 5, 6, 7, 8, 9, 10, 11, 12] rfl
  have hD9 := hD.sub (ws' := [(h0, .inr (10, [.ref q_1, .ref q_10, .ref q_13, .ref q_21, .ref q_29])), (q_1, .inr (5, [.ref q_3, .ref q_4, .ref q_5, .ref q_6, .ref q_7, .ref q_8, .ref q_9, .int 0, .int 0, .int 0])), (q_3, .inl (cyI, 12, .inl (fun _ => 0))), (q_4, .inl (cyI, 12, .inl (fun _ => 0))), (q_5, .inl (cyI, 12, .inl (fun _ => 0))), (q_6, .inl (cyI, 12, .inl (fun _ => 0))), (q_10, .inr (0, [.ref q_1, .ref q_12, .int 0])), (q_13, .inr (8, [.ref q_1, .ref q_15, .ref q_16, .ref q_17, .ref q_18, .ref q_19, .ref q_20, .int 0])), (q_21, .inr (7, [.ref q_23, .ref q_24, .ref q_25, .int 0, .int 0, .int 0, .int 0, .int 0, .ref q_1, .ref q_26, .ref q_27, .ref q_28, .int 0])), (q_23, .inl (cyI, 64, .inl (fun _ => 0))), (q_29, .inr (6, [.ref q_31, .ref q_32, .ref q_33, .int 0, .int 0, .int 0, .int 0, .int 0, .ref q_18, .ref q_34, .ref q_35, .ref q_36, .int 0])), (q_31, .inl (cyI, 64, .inl (fun _ => 0))), (q_36, .inl (cyI, 6, .inl (fun _ => 0)))]) [0, 1, 2, 3, 4, 5, 6, 7, 8, 9, 10, 11, 12] (by decide) rfl
  exact W.vret hx hb hr (fun t ht hW => ⟨⟨(), rfl, trivial, ⟨q_1, q_10, q_13, q_21, q_29, q_3, q_4, q_5, q_6, q_7, q_8, q_9, q_12, q_15, q_16, q_17, q_18, q_19, q_20, q_23, q_24, q_25, q_26, q_27, q_28, q_31, q_32, q_33, q_34, q_35, q_36, pz_Bof hP9 hK hD9 ht hW⟩⟩, hS.F ht⟩) hS.2.2 dX11_init_78
end
section
/-! what each call answers on a fresh object -/
def fz_func (a l : Int32) : Int32 := if a < 0 then -1 else if 6 < a then -1 else if l < a then -1 else if 10 < l then -1 else 0
def fz_cell (k : Int32) : Int32 := if k < 0 then 0 else if 64 ≤ k then 0 else 1
def fz_tell (w : Int32) : Int32 := if w = 0 then 0 else if w = 1 then 0 else if w = 2 then 0 else if w = 3 then 0 else if w = 4 then 0 else -1
def fz_look (m w : Int32) : Int32 := if m < 0 then -1 else if 1 < m then -1 else fz_tell w
def fz_bad (m k : Int32) : Prop := m < 0 ∨ 1 < m ∨ k < 0 ∨ 64 ≤ k
theorem pz_in2 {k : Int32} (h0 : ¬ k < 0) (h1 : ¬ 1 < k) : vp_in k 2 := by
  rcases pz_01 h0 h1 with rfl | rfl <;> (unfold vp_in; decide)
theorem pz_in128a {k : Int32} (h0 : ¬ k < 0) (h1 : ¬ 64 ≤ k) : vp_in (0 + k) 128 := by
  have e : (0 : Int32) + k = k := by simp
  rw [e]
  exact pz_in128 h0 h1
theorem pz_n2 {k : Int32} (h : ¬ 1 < k) : ¬ 2 ≤ k := by
  have b : ¬ (1 : Int) < k.toInt := fun q => h (Int32.lt_iff_toInt_lt.mpr q)
  intro q
  have a : (2 : Int) ≤ k.toInt := Int32.le_iff_toInt_le.mp q
  omega
theorem pz_2n {k : Int32} (h : ¬ 2 ≤ k) : ¬ 1 < k := by
  have b : ¬ (2 : Int) ≤ k.toInt := fun q => h (Int32.le_iff_toInt_le.mpr q)
  intro q
  have a : (1 : Int) < k.toInt := Int32.lt_iff_toInt_lt.mp q
  omega
theorem pz_01b {k : Int32} (h0 : ¬ k < 0) (h1 : ¬ 2 ≤ k) : k = 0 ∨ k = 1 := pz_01 h0 (pz_2n h1)
end
section
def wq_X6_addFunc : List Cond := .code yX6_addFunc cX6_addFunc 3 (some .int) :: ([.fieldLink RX6 9 "RegisterMill$Program" "args" "[I", .fieldLink RX6 33 "RegisterMill$Program" "funcs" "I", .fieldLink RX6 15 "RegisterMill$Program" "locals" "[I", .fieldLink RX6 18 "RegisterMill$Program" "starts" "[I", .fieldLink RX6 37 "RegisterMill$Program" "words" "I", .fieldLink RX6 21 "RegisterMill$Program" "lengths" "[I"] ++ wsX60)
set_option maxHeartbeats 4000000 in
set_option maxRecDepth 100000 in
/-- addFunc on a fresh program: the first -/
theorem c_X6_addFunc (l : Launch) (dC : Nat → ClassId) (dI : Nat → Nat → Nat) (cyI : ClassId) (sz : Nat) (pr : Nat) (p_args : Nat) (p_locals : Nat) (p_starts : Nat) (p_lengths : Nat) (p_ops : Nat) (p_numbers : Nat) (p_depths : Nat) (p0 : Int32) (p1 : Int32) : Met l yX6_addFunc wq_X6_addFunc ({ frames := 0, cells := 0, slots := 0, locals := 0 }) (va_Pc [.ref pr, .int p0, .int p1] (pz_pre dC dI [(cyI, .int)] [(pr, .inr (5, [.ref p_args, .ref p_locals, .ref p_starts, .ref p_lengths, .ref p_ops, .ref p_numbers, .ref p_depths, .int 0, .int 0, .int 0])), (p_args, .inl (cyI, 12, .inl (fun _ => 0))), (p_locals, .inl (cyI, 12, .inl (fun _ => 0))), (p_starts, .inl (cyI, 12, .inl (fun _ => 0))), (p_lengths, .inl (cyI, 12, .inl (fun _ => 0)))] sz)) (va_Qi (S := Unit) (fun (r : Int32) _ => r = 0) (fun _ _ => True) (va_A [(pr, .inr (5, [.ref p_args, .ref p_locals, .ref p_starts, .ref p_lengths, .ref p_ops, .ref p_numbers, .ref p_depths, .int 0, .int 0, .int 0])), (p_args, .inl (cyI, 12, .inl (fun _ => 0))), (p_locals, .inl (cyI, 12, .inl (fun _ => 0))), (p_starts, .inl (cyI, 12, .inl (fun _ => 0))), (p_lengths, .inl (cyI, 12, .inl (fun _ => 0)))] sz)) 0 0 (va_A [(pr, .inr (5, [.ref p_args, .ref p_locals, .ref p_starts, .ref p_lengths, .ref p_ops, .ref p_numbers, .ref p_depths, .int 0, .int 0, .int 0])), (p_args, .inl (cyI, 12, .inl (fun _ => 0))), (p_locals, .inl (cyI, 12, .inl (fun _ => 0))), (p_starts, .inl (cyI, 12, .inl (fun _ => 0))), (p_lengths, .inl (cyI, 12, .inl (fun _ => 0)))] sz) := by
  refine Met.ofW (cc := cX6_addFunc) (maxL := 3) (ret := (some .int)) (by decide) rfl ?_
  intro p e s m args below meth c s₁ B hml hv
  obtain ⟨rfl, hsz, hP, hK, hD0, hNW⟩ := hv
  have hx := B.exec
  have hb := B.bytes
  have hr := B.returns
  have hts := atoms_spec (ws := wq_X6_addFunc) B.pre
  have hown : s.vm.findClass RX6 = some m.cls := findClass_of_methodNamed B.named
  have hlocks := B.notSynchronized
  have hiX6 : ∀ w ∈ wsX60, w ∈ wq_X6_addFunc := by decide +kernel
  subst hsz
  have hD := hD0.self (sz := s.heap.size)
  generalize hAe : va_A [(pr, .inr (5, [.ref p_args, .ref p_locals, .ref p_starts, .ref p_lengths, .ref p_ops, .ref p_numbers, .ref p_depths, .int 0, .int 0, .int 0])), (p_args, .inl (cyI, 12, .inl (fun _ => 0))), (p_locals, .inl (cyI, 12, .inl (fun _ => 0))), (p_starts, .inl (cyI, 12, .inl (fun _ => 0))), (p_lengths, .inl (cyI, 12, .inl (fun _ => 0)))] s.heap.size = A at hD ⊢
  have hA : ∀ q : Nat, s.heap.size ≤ q → A q := fun q h => by rw [← hAe]; exact Or.inr h
  have hS : va_S A s.heap s.heap [] := va_S.rf
  have hl := lv_entry ([.ref pr, .int p0, .int p1]) (n := 3) (Nat.le_of_ble_eq_true rfl)
  rw [lg_entry_eq]
  generalize (lg_sl ([.ref pr, .int p0, .int p1]) ++ List.replicate (3 - (lg_sl ([.ref pr, .int p0, .int p1])).length) Slot.unset).toArray = ls at hl ⊢
  have hl : lv_has ls 3 [(0, .ref pr), (1, .int p0), (2, .int p1)] := hl
  refine lv_aload_n hx hb dX6_addFunc_0 rfl (lv_at hl 0 rfl) ?_
  refine va_get (D := (dC, dI)) (ci := 5) (v := .ref p_args) (C := RX6) (T := TX6) (N := 10) hx hb hts hiX6 hown hK hP 0 rfl rfl 0 (by decide) (hts (.fieldLink RX6 9 "RegisterMill$Program" "args" "[I") (by decide +kernel)) (fun _ h9 => h9) rfl dX6_addFunc_1 ?_
  refine lv_aload_n hx hb dX6_addFunc_4 rfl (lv_at hl 0 rfl) ?_
  refine va_get (D := (dC, dI)) (ci := 5) (v := .int 0) (C := RX6) (T := TX6) (N := 10) hx hb hts hiX6 hown hK hP 0 rfl rfl 7 (by decide) (hts (.fieldLink RX6 33 "RegisterMill$Program" "funcs" "I") (by decide +kernel)) (fun _ h9 => h9) rfl dX6_addFunc_5 ?_
  refine lv_iload_n hx hb dX6_addFunc_8 rfl (lv_at hl 1 rfl) ?_
  refine va_iast hx hb hK hP hD hS 1 0 rfl rfl (by unfold vp_in; decide) dX6_addFunc_9 (fun H locs hP hD hS => ?_)
  have hP : va_P (dC, dI) vwCl [(pr, .inr (5, [.ref p_args, .ref p_locals, .ref p_starts, .ref p_lengths, .ref p_ops, .ref p_numbers, .ref p_depths, .int 0, .int 0, .int 0])), (p_args, .inl (cyI, 12, .inl (upd (fun _ => 0) (Int32.toNatClampNeg 0) p0))), (p_locals, .inl (cyI, 12, .inl (fun _ => 0))), (p_starts, .inl (cyI, 12, .inl (fun _ => 0))), (p_lengths, .inl (cyI, 12, .inl (fun _ => 0)))] H := hP
  have hD : va_D A [(pr, .inr (5, [.ref p_args, .ref p_locals, .ref p_starts, .ref p_lengths, .ref p_ops, .ref p_numbers, .ref p_depths, .int 0, .int 0, .int 0])), (p_args, .inl (cyI, 12, .inl (upd (fun _ => 0) (Int32.toNatClampNeg 0) p0))), (p_locals, .inl (cyI, 12, .inl (fun _ => 0))), (p_starts, .inl (cyI, 12, .inl (fun _ => 0))), (p_lengths, .inl (cyI, 12, .inl (fun _ => 0)))] := hD
  refine lv_aload_n hx hb dX6_addFunc_10 rfl (lv_at hl 0 rfl) ?_
  refine va_get (D := (dC, dI)) (ci := 5) (v := .ref p_locals) (C := RX6) (T := TX6) (N := 10) hx hb hts hiX6 hown hK hP 0 rfl rfl 1 (by decide) (hts (.fieldLink RX6 15 "RegisterMill$Program" "locals" "[I") (by decide +kernel)) (fun _ h9 => h9) rfl dX6_addFunc_11 ?_
  refine lv_aload_n hx hb dX6_addFunc_14 rfl (lv_at hl 0 rfl) ?_
  refine va_get (D := (dC, dI)) (ci := 5) (v := .int 0) (C := RX6) (T := TX6) (N := 10) hx hb hts hiX6 hown hK hP 0 rfl rfl 7 (by decide) (hts (.fieldLink RX6 33 "RegisterMill$Program" "funcs" "I") (by decide +kernel)) (fun _ h9 => h9) rfl dX6_addFunc_15 ?_
  refine lv_iload_n hx hb dX6_addFunc_18 rfl (lv_at hl 2 rfl) ?_
  refine va_iast hx hb hK hP hD hS 2 0 rfl rfl (by unfold vp_in; decide) dX6_addFunc_19 (fun H locs hP hD hS => ?_)
  have hP : va_P (dC, dI) vwCl [(pr, .inr (5, [.ref p_args, .ref p_locals, .ref p_starts, .ref p_lengths, .ref p_ops, .ref p_numbers, .ref p_depths, .int 0, .int 0, .int 0])), (p_args, .inl (cyI, 12, .inl (upd (fun _ => 0) (Int32.toNatClampNeg 0) p0))), (p_locals, .inl (cyI, 12, .inl (upd (fun _ => 0) (Int32.toNatClampNeg 0) p1))), (p_starts, .inl (cyI, 12, .inl (fun _ => 0))), (p_lengths, .inl (cyI, 12, .inl (fun _ => 0)))] H := hP
  have hD : va_D A [(pr, .inr (5, [.ref p_args, .ref p_locals, .ref p_starts, .ref p_lengths, .ref p_ops, .ref p_numbers, .ref p_depths, .int 0, .int 0, .int 0])), (p_args, .inl (cyI, 12, .inl (upd (fun _ => 0) (Int32.toNatClampNeg 0) p0))), (p_locals, .inl (cyI, 12, .inl (upd (fun _ => 0) (Int32.toNatClampNeg 0) p1))), (p_starts, .inl (cyI, 12, .inl (fun _ => 0))), (p_lengths, .inl (cyI, 12, .inl (fun _ => 0)))] := hD
  refine lv_aload_n hx hb dX6_addFunc_20 rfl (lv_at hl 0 rfl) ?_
  refine va_get (D := (dC, dI)) (ci := 5) (v := .ref p_starts) (C := RX6) (T := TX6) (N := 10) hx hb hts hiX6 hown hK hP 0 rfl rfl 2 (by decide) (hts (.fieldLink RX6 18 "RegisterMill$Program" "starts" "[I") (by decide +kernel)) (fun _ h9 => h9) rfl dX6_addFunc_21 ?_
  refine lv_aload_n hx hb dX6_addFunc_24 rfl (lv_at hl 0 rfl) ?_
  refine va_get (D := (dC, dI)) (ci := 5) (v := .int 0) (C := RX6) (T := TX6) (N := 10) hx hb hts hiX6 hown hK hP 0 rfl rfl 7 (by decide) (hts (.fieldLink RX6 33 "RegisterMill$Program" "funcs" "I") (by decide +kernel)) (fun _ h9 => h9) rfl dX6_addFunc_25 ?_
  refine lv_aload_n hx hb dX6_addFunc_28 rfl (lv_at hl 0 rfl) ?_
  refine va_get (D := (dC, dI)) (ci := 5) (v := .int 0) (C := RX6) (T := TX6) (N := 10) hx hb hts hiX6 hown hK hP 0 rfl rfl 8 (by decide) (hts (.fieldLink RX6 37 "RegisterMill$Program" "words" "I") (by decide +kernel)) (fun _ h9 => h9) rfl dX6_addFunc_29 ?_
  refine va_iast hx hb hK hP hD hS 3 0 rfl rfl (by unfold vp_in; decide) dX6_addFunc_32 (fun H locs hP hD hS => ?_)
  rw [pz_up0] at hP hD
  have hP : va_P (dC, dI) vwCl [(pr, .inr (5, [.ref p_args, .ref p_locals, .ref p_starts, .ref p_lengths, .ref p_ops, .ref p_numbers, .ref p_depths, .int 0, .int 0, .int 0])), (p_args, .inl (cyI, 12, .inl (upd (fun _ => 0) (Int32.toNatClampNeg 0) p0))), (p_locals, .inl (cyI, 12, .inl (upd (fun _ => 0) (Int32.toNatClampNeg 0) p1))), (p_starts, .inl (cyI, 12, .inl (fun _ => 0))), (p_lengths, .inl (cyI, 12, .inl (fun _ => 0)))] H := hP
  have hD : va_D A [(pr, .inr (5, [.ref p_args, .ref p_locals, .ref p_starts, .ref p_lengths, .ref p_ops, .ref p_numbers, .ref p_depths, .int 0, .int 0, .int 0])), (p_args, .inl (cyI, 12, .inl (upd (fun _ => 0) (Int32.toNatClampNeg 0) p0))), (p_locals, .inl (cyI, 12, .inl (upd (fun _ => 0) (Int32.toNatClampNeg 0) p1))), (p_starts, .inl (cyI, 12, .inl (fun _ => 0))), (p_lengths, .inl (cyI, 12, .inl (fun _ => 0)))] := hD
  refine lv_aload_n hx hb dX6_addFunc_33 rfl (lv_at hl 0 rfl) ?_
  refine va_get (D := (dC, dI)) (ci := 5) (v := .ref p_lengths) (C := RX6) (T := TX6) (N := 10) hx hb hts hiX6 hown hK hP 0 rfl rfl 3 (by decide) (hts (.fieldLink RX6 21 "RegisterMill$Program" "lengths" "[I") (by decide +kernel)) (fun _ h9 => h9) rfl dX6_addFunc_34 ?_
  refine lv_aload_n hx hb dX6_addFunc_37 rfl (lv_at hl 0 rfl) ?_
  refine va_get (D := (dC, dI)) (ci := 5) (v := .int 0) (C := RX6) (T := TX6) (N := 10) hx hb hts hiX6 hown hK hP 0 rfl rfl 7 (by decide) (hts (.fieldLink RX6 33 "RegisterMill$Program" "funcs" "I") (by decide +kernel)) (fun _ h9 => h9) rfl dX6_addFunc_38 ?_
  refine lv_iconst (v := 0) hx hb dX6_addFunc_41 (by decide) ?_
  refine va_iast hx hb hK hP hD hS 4 0 rfl rfl (by unfold vp_in; decide) dX6_addFunc_42 (fun H locs hP hD hS => ?_)
  rw [pz_up0] at hP hD
  have hP : va_P (dC, dI) vwCl [(pr, .inr (5, [.ref p_args, .ref p_locals, .ref p_starts, .ref p_lengths, .ref p_ops, .ref p_numbers, .ref p_depths, .int 0, .int 0, .int 0])), (p_args, .inl (cyI, 12, .inl (upd (fun _ => 0) (Int32.toNatClampNeg 0) p0))), (p_locals, .inl (cyI, 12, .inl (upd (fun _ => 0) (Int32.toNatClampNeg 0) p1))), (p_starts, .inl (cyI, 12, .inl (fun _ => 0))), (p_lengths, .inl (cyI, 12, .inl (fun _ => 0)))] H := hP
  have hD : va_D A [(pr, .inr (5, [.ref p_args, .ref p_locals, .ref p_starts, .ref p_lengths, .ref p_ops, .ref p_numbers, .ref p_depths, .int 0, .int 0, .int 0])), (p_args, .inl (cyI, 12, .inl (upd (fun _ => 0) (Int32.toNatClampNeg 0) p0))), (p_locals, .inl (cyI, 12, .inl (upd (fun _ => 0) (Int32.toNatClampNeg 0) p1))), (p_starts, .inl (cyI, 12, .inl (fun _ => 0))), (p_lengths, .inl (cyI, 12, .inl (fun _ => 0)))] := hD
  refine lv_aload_n hx hb dX6_addFunc_43 rfl (lv_at hl 0 rfl) ?_
  refine lv_dup hx hb dX6_addFunc_44 rfl ?_
  refine va_get (D := (dC, dI)) (ci := 5) (v := .int 0) (C := RX6) (T := TX6) (N := 10) hx hb hts hiX6 hown hK hP 0 rfl rfl 7 (by decide) (hts (.fieldLink RX6 33 "RegisterMill$Program" "funcs" "I") (by decide +kernel)) (fun _ h9 => h9) rfl dX6_addFunc_45 ?_
  refine lv_iconst (v := 1) hx hb dX6_addFunc_48 (by decide) ?_
  refine lv_iadd hx hb dX6_addFunc_49 ?_
  refine W.eq (g2 := F0 m 50 ls [.int 1, .ref pr]) (by first | rfl | exact congrArg (fun z => F0 m 50 ls (.int z :: _)) (by decide)) ?_
  refine va_put (D := (dC, dI)) (ci := 5) (v := .int 1) (ty := .int) (C := RX6) (T := TX6) (N := 10) hx hb hts hiX6 tyX6 tyX6_ok nmX6 hown hK hP hD hS 0 rfl rfl 7 (by decide) (hts (.fieldLink RX6 33 "RegisterMill$Program" "funcs" "I") (by decide +kernel)) (fun _ h9 => h9) rfl (by decide +kernel) rfl rfl (Nat.le_of_ble_eq_true rfl) dX6_addFunc_50 (fun H locs hP hD hS => ?_)
  have hP : va_P (dC, dI) vwCl [(pr, .inr (5, [.ref p_args, .ref p_locals, .ref p_starts, .ref p_lengths, .ref p_ops, .ref p_numbers, .ref p_depths, .int 1, .int 0, .int 0])), (p_args, .inl (cyI, 12, .inl (upd (fun _ => 0) (Int32.toNatClampNeg 0) p0))), (p_locals, .inl (cyI, 12, .inl (upd (fun _ => 0) (Int32.toNatClampNeg 0) p1))), (p_starts, .inl (cyI, 12, .inl (fun _ => 0))), (p_lengths, .inl (cyI, 12, .inl (fun _ => 0)))] H := hP
  have hD : va_D A [(pr, .inr (5, [.ref p_args, .ref p_locals, .ref p_starts, .ref p_lengths, .ref p_ops, .ref p_numbers, .ref p_depths, .int 1, .int 0, .int 0])), (p_args, .inl (cyI, 12, .inl (upd (fun _ => 0) (Int32.toNatClampNeg 0) p0))), (p_locals, .inl (cyI, 12, .inl (upd (fun _ => 0) (Int32.toNatClampNeg 0) p1))), (p_starts, .inl (cyI, 12, .inl (fun _ => 0))), (p_lengths, .inl (cyI, 12, .inl (fun _ => 0)))] := hD
  refine lv_aload_n hx hb dX6_addFunc_53 rfl (lv_at hl 0 rfl) ?_
  refine va_get (D := (dC, dI)) (ci := 5) (v := .int 1) (C := RX6) (T := TX6) (N := 10) hx hb hts hiX6 hown hK hP 0 rfl rfl 7 (by decide) (hts (.fieldLink RX6 33 "RegisterMill$Program" "funcs" "I") (by decide +kernel)) (fun _ h9 => h9) rfl dX6_addFunc_54 ?_
  refine lv_iconst (v := 1) hx hb dX6_addFunc_57 (by decide) ?_
  refine lv_isub hx hb dX6_addFunc_58 ?_
  refine W.eq (g2 := F0 m 59 ls [.int 0]) (by first | rfl | exact congrArg (fun z => F0 m 59 ls (.int z :: _)) (by decide)) ?_
  have h9 : (0 : Int32) = 0 := rfl
  exact W.iret (v := (0)) hx hb hr (fun t ht hW => ⟨⟨_, (), rfl, h9, trivial⟩, hS.F ht⟩) hS.2.2 dX6_addFunc_59

def wq_X6_empty : List Cond := .code yX6_empty cX6_empty 1 none :: ([.fieldLink RX6 33 "RegisterMill$Program" "funcs" "I", .fieldLink RX6 37 "RegisterMill$Program" "words" "I", .fieldLink RX6 40 "RegisterMill$Program" "checked" "Z"] ++ wsX60)
set_option maxHeartbeats 4000000 in
set_option maxRecDepth 100000 in
/-- empty: a fresh program stays as it is -/
theorem c_X6_empty (l : Launch) (dC : Nat → ClassId) (dI : Nat → Nat → Nat) (cyI : ClassId) (sz : Nat) (pr : Nat) (p_args : Nat) (p_locals : Nat) (p_starts : Nat) (p_lengths : Nat) (p_ops : Nat) (p_numbers : Nat) (p_depths : Nat) : Met l yX6_empty wq_X6_empty ({ frames := 0, cells := 0, slots := 0, locals := 0 }) (va_Pc [.ref pr] (pz_pre dC dI [(cyI, .int)] [(pr, .inr (5, [.ref p_args, .ref p_locals, .ref p_starts, .ref p_lengths, .ref p_ops, .ref p_numbers, .ref p_depths, .int 0, .int 0, .int 0]))] sz)) (va_Qv (S := Unit) (fun _ => True) (fun _ t => pz_B dC dI [(cyI, .int)] (va_A [(pr, .inr (5, [.ref p_args, .ref p_locals, .ref p_starts, .ref p_lengths, .ref p_ops, .ref p_numbers, .ref p_depths, .int 0, .int 0, .int 0]))] sz) [(pr, .inr (5, [.ref p_args, .ref p_locals, .ref p_starts, .ref p_lengths, .ref p_ops, .ref p_numbers, .ref p_depths, .int 0, .int 0, .int 0]))] t) (va_A [(pr, .inr (5, [.ref p_args, .ref p_locals, .ref p_starts, .ref p_lengths, .ref p_ops, .ref p_numbers, .ref p_depths, .int 0, .int 0, .int 0]))] sz)) 0 0 (va_A [(pr, .inr (5, [.ref p_args, .ref p_locals, .ref p_starts, .ref p_lengths, .ref p_ops, .ref p_numbers, .ref p_depths, .int 0, .int 0, .int 0]))] sz) := by
  refine Met.ofW (cc := cX6_empty) (maxL := 1) (ret := none) (by decide) rfl ?_
  intro p e s m args below meth c s₁ B hml hv
  obtain ⟨rfl, hsz, hP, hK, hD0, hNW⟩ := hv
  have hx := B.exec
  have hb := B.bytes
  have hr := B.returns
  have hts := atoms_spec (ws := wq_X6_empty) B.pre
  have hown : s.vm.findClass RX6 = some m.cls := findClass_of_methodNamed B.named
  have hlocks := B.notSynchronized
  have hiX6 : ∀ w ∈ wsX60, w ∈ wq_X6_empty := by decide +kernel
  subst hsz
  have hD := hD0.self (sz := s.heap.size)
  generalize hAe : va_A [(pr, .inr (5, [.ref p_args, .ref p_locals, .ref p_starts, .ref p_lengths, .ref p_ops, .ref p_numbers, .ref p_depths, .int 0, .int 0, .int 0]))] s.heap.size = A at hD ⊢
  have hA : ∀ q : Nat, s.heap.size ≤ q → A q := fun q h => by rw [← hAe]; exact Or.inr h
  have hS : va_S A s.heap s.heap [] := va_S.rf
  have hl := lv_entry ([.ref pr]) (n := 1) (Nat.le_of_ble_eq_true rfl)
  rw [lg_entry_eq]
  generalize (lg_sl ([.ref pr]) ++ List.replicate (1 - (lg_sl ([.ref pr])).length) Slot.unset).toArray = ls at hl ⊢
  have hl : lv_has ls 1 [(0, .ref pr)] := hl
  refine lv_aload_n hx hb dX6_empty_0 rfl (lv_at hl 0 rfl) ?_
  refine lv_iconst (v := 0) hx hb dX6_empty_1 (by decide) ?_
  refine va_put (D := (dC, dI)) (ci := 5) (v := .int 0) (ty := .int) (C := RX6) (T := TX6) (N := 10) hx hb hts hiX6 tyX6 tyX6_ok nmX6 hown hK hP hD hS 0 rfl rfl 7 (by decide) (hts (.fieldLink RX6 33 "RegisterMill$Program" "funcs" "I") (by decide +kernel)) (fun _ h9 => h9) rfl (by decide +kernel) rfl rfl (Nat.le_of_ble_eq_true rfl) dX6_empty_2 (fun H locs hP hD hS => ?_)
  have hP : va_P (dC, dI) vwCl [(pr, .inr (5, [.ref p_args, .ref p_locals, .ref p_starts, .ref p_lengths, .ref p_ops, .ref p_numbers, .ref p_depths, .int 0, .int 0, .int 0]))] H := hP
  have hD : va_D A [(pr, .inr (5, [.ref p_args, .ref p_locals, .ref p_starts, .ref p_lengths, .ref p_ops, .ref p_numbers, .ref p_depths, .int 0, .int 0, .int 0]))] := hD
  refine lv_aload_n hx hb dX6_empty_5 rfl (lv_at hl 0 rfl) ?_
  refine lv_iconst (v := 0) hx hb dX6_empty_6 (by decide) ?_
  refine va_put (D := (dC, dI)) (ci := 5) (v := .int 0) (ty := .int) (C := RX6) (T := TX6) (N := 10) hx hb hts hiX6 tyX6 tyX6_ok nmX6 hown hK hP hD hS 0 rfl rfl 8 (by decide) (hts (.fieldLink RX6 37 "RegisterMill$Program" "words" "I") (by decide +kernel)) (fun _ h9 => h9) rfl (by decide +kernel) rfl rfl (Nat.le_of_ble_eq_true rfl) dX6_empty_7 (fun H locs hP hD hS => ?_)
  have hP : va_P (dC, dI) vwCl [(pr, .inr (5, [.ref p_args, .ref p_locals, .ref p_starts, .ref p_lengths, .ref p_ops, .ref p_numbers, .ref p_depths, .int 0, .int 0, .int 0]))] H := hP
  have hD : va_D A [(pr, .inr (5, [.ref p_args, .ref p_locals, .ref p_starts, .ref p_lengths, .ref p_ops, .ref p_numbers, .ref p_depths, .int 0, .int 0, .int 0]))] := hD
  refine lv_aload_n hx hb dX6_empty_10 rfl (lv_at hl 0 rfl) ?_
  refine lv_iconst (v := 0) hx hb dX6_empty_11 (by decide) ?_
  refine va_put (D := (dC, dI)) (ci := 5) (v := .int 0) (ty := .boolean) (C := RX6) (T := TX6) (N := 10) hx hb hts hiX6 tyX6 tyX6_ok nmX6 hown hK hP hD hS 0 rfl rfl 9 (by decide) (hts (.fieldLink RX6 40 "RegisterMill$Program" "checked" "Z") (by decide +kernel)) (fun _ h9 => h9) rfl (by decide +kernel) (by decide) (by decide) (Nat.le_of_ble_eq_true rfl) dX6_empty_12 (fun H locs hP hD hS => ?_)
  have hP : va_P (dC, dI) vwCl [(pr, .inr (5, [.ref p_args, .ref p_locals, .ref p_starts, .ref p_lengths, .ref p_ops, .ref p_numbers, .ref p_depths, .int 0, .int 0, .int 0]))] H := hP
  have hD : va_D A [(pr, .inr (5, [.ref p_args, .ref p_locals, .ref p_starts, .ref p_lengths, .ref p_ops, .ref p_numbers, .ref p_depths, .int 0, .int 0, .int 0]))] := hD
  have hP9 := hP.sub (ws' := [(pr, .inr (5, [.ref p_args, .ref p_locals, .ref p_starts, .ref p_lengths, .ref p_ops, .ref p_numbers, .ref p_depths, .int 0, .int 0, .int 0]))]) [0] rfl
  have hD9 := hD.sub (ws' := [(pr, .inr (5, [.ref p_args, .ref p_locals, .ref p_starts, .ref p_lengths, .ref p_ops, .ref p_numbers, .ref p_depths, .int 0, .int 0, .int 0]))]) [0] (by decide) rfl
  exact W.vret hx hb hr (fun t ht hW => ⟨⟨(), rfl, trivial, pz_Bof hP9 hK hD9 ht hW⟩, hS.F ht⟩) hS.2.2 dX6_empty_15

def wq_X0_firstFault : List Cond := .code yX0_firstFault cX0_firstFault 3 (some .int) :: ([.fieldLink RX0 15 "RegisterMill$Checker" "program" "LRegisterMill$Program;", .fieldLink RX0 19 "RegisterMill$Program" "funcs" "I"] ++ wsX00 ++ wsX60)
set_option maxHeartbeats 4000000 in
set_option maxRecDepth 100000 in
/-- no FUNC -/
theorem c_X0_firstFault (l : Launch) (dC : Nat → ClassId) (dI : Nat → Nat → Nat) (cyI : ClassId) (sz : Nat) (ck : Nat) (pr : Nat) (k_passed : Nat) (p_args : Nat) (p_locals : Nat) (p_starts : Nat) (p_lengths : Nat) (p_ops : Nat) (p_numbers : Nat) (p_depths : Nat) : Met l yX0_firstFault wq_X0_firstFault ({ frames := 0, cells := 0, slots := 0, locals := 0 }) (va_Pc [.ref ck] (pz_pre dC dI [(cyI, .int)] [(ck, .inr (0, [.ref pr, .ref k_passed, .int 0])), (pr, .inr (5, [.ref p_args, .ref p_locals, .ref p_starts, .ref p_lengths, .ref p_ops, .ref p_numbers, .ref p_depths, .int 0, .int 0, .int 0]))] sz)) (va_Qi (S := Unit) (fun (r : Int32) _ => r = 7) (fun _ t => pz_B dC dI [(cyI, .int)] (va_A [(ck, .inr (0, [.ref pr, .ref k_passed, .int 0])), (pr, .inr (5, [.ref p_args, .ref p_locals, .ref p_starts, .ref p_lengths, .ref p_ops, .ref p_numbers, .ref p_depths, .int 0, .int 0, .int 0]))] sz) [(ck, .inr (0, [.ref pr, .ref k_passed, .int 0])), (pr, .inr (5, [.ref p_args, .ref p_locals, .ref p_starts, .ref p_lengths, .ref p_ops, .ref p_numbers, .ref p_depths, .int 0, .int 0, .int 0]))] t) (va_A [(ck, .inr (0, [.ref pr, .ref k_passed, .int 0])), (pr, .inr (5, [.ref p_args, .ref p_locals, .ref p_starts, .ref p_lengths, .ref p_ops, .ref p_numbers, .ref p_depths, .int 0, .int 0, .int 0]))] sz)) 0 0 (va_A [(ck, .inr (0, [.ref pr, .ref k_passed, .int 0])), (pr, .inr (5, [.ref p_args, .ref p_locals, .ref p_starts, .ref p_lengths, .ref p_ops, .ref p_numbers, .ref p_depths, .int 0, .int 0, .int 0]))] sz) := by
  refine Met.ofW (cc := cX0_firstFault) (maxL := 3) (ret := (some .int)) (by decide) rfl ?_
  intro p e s m args below meth c s₁ B hml hv
  obtain ⟨rfl, hsz, hP, hK, hD0, hNW⟩ := hv
  have hx := B.exec
  have hb := B.bytes
  have hr := B.returns
  have hts := atoms_spec (ws := wq_X0_firstFault) B.pre
  have hown : s.vm.findClass RX0 = some m.cls := findClass_of_methodNamed B.named
  have hlocks := B.notSynchronized
  have hiX0 : ∀ w ∈ wsX00, w ∈ wq_X0_firstFault := by decide +kernel
  have hiX6 : ∀ w ∈ wsX60, w ∈ wq_X0_firstFault := by decide +kernel
  subst hsz
  have hD := hD0.self (sz := s.heap.size)
  generalize hAe : va_A [(ck, .inr (0, [.ref pr, .ref k_passed, .int 0])), (pr, .inr (5, [.ref p_args, .ref p_locals, .ref p_starts, .ref p_lengths, .ref p_ops, .ref p_numbers, .ref p_depths, .int 0, .int 0, .int 0]))] s.heap.size = A at hD ⊢
  have hA : ∀ q : Nat, s.heap.size ≤ q → A q := fun q h => by rw [← hAe]; exact Or.inr h
  have hS : va_S A s.heap s.heap [] := va_S.rf
  have hl := lv_entry ([.ref ck]) (n := 3) (Nat.le_of_ble_eq_true rfl)
  rw [lg_entry_eq]
  generalize (lg_sl ([.ref ck]) ++ List.replicate (3 - (lg_sl ([.ref ck])).length) Slot.unset).toArray = ls at hl ⊢
  have hl : lv_has ls 3 [(0, .ref ck)] := hl
  refine lv_aload_n hx hb dX0_firstFault_0 rfl (lv_at hl 0 rfl) ?_
  refine va_get (D := (dC, dI)) (ci := 0) (v := .ref pr) (C := RX0) (T := TX0) (N := 3) hx hb hts hiX0 hown hK hP 0 rfl rfl 0 (by decide) (hts (.fieldLink RX0 15 "RegisterMill$Checker" "program" "LRegisterMill$Program;") (by decide +kernel)) (fun _ h9 => h9) rfl dX0_firstFault_1 ?_
  refine va_get (D := (dC, dI)) (ci := 5) (v := .int 0) (C := RX6) (T := TX6) (N := 10) hx hb hts hiX6 hown hK hP 1 rfl rfl 7 (by decide) (hts (.fieldLink RX0 19 "RegisterMill$Program" "funcs" "I") (by decide +kernel)) (fun _ h9 => h9) rfl dX0_firstFault_4 ?_
  refine lv_if_ne (tgt := 13) hx hb dX0_firstFault_7 (by decide) (fun h => absurd h (by decide)) (fun _ => ?_)
  refine lv_bipush (v := 7) hx hb dX0_firstFault_10 (by decide) ?_
  have hP9 := hP.sub (ws' := [(ck, .inr (0, [.ref pr, .ref k_passed, .int 0])), (pr, .inr (5, [.ref p_args, .ref p_locals, .ref p_starts, .ref p_lengths, .ref p_ops, .ref p_numbers, .ref p_depths, .int 0, .int 0, .int 0]))]) [0, 1] rfl
  have hD9 := hD.sub (ws' := [(ck, .inr (0, [.ref pr, .ref k_passed, .int 0])), (pr, .inr (5, [.ref p_args, .ref p_locals, .ref p_starts, .ref p_lengths, .ref p_ops, .ref p_numbers, .ref p_depths, .int 0, .int 0, .int 0]))]) [0, 1] (by decide) rfl
  have h9 : (7 : Int32) = 7 := rfl
  exact W.iret (v := (7)) hx hb hr (fun t ht hW => ⟨⟨_, (), rfl, h9, pz_Bof hP9 hK hD9 ht hW⟩, hS.F ht⟩) hS.2.2 dX0_firstFault_12

def wq_J7_fill_53178_64 : List Cond := .code yJ7_fill_53178 cJ7_fill_53178 4 none :: ([])
set_option maxHeartbeats 4000000 in
set_option maxRecDepth 100000 in
theorem lp_J7_fill_53178_64_5 {p : Program} {l : Launch} {e : Env} {R : Room} {s : State} {m : MethodId} {args : Array Value} {below : List Frame} {meth : Method} {c : Code} {cells slots : Nat} {Q : State → Prop} {A : Nat → Prop} {dC : Nat → ClassId} {dI : Nat → Nat → Nat} {cyI : ClassId} {a0 : Nat}
    (hx : p.tables.exec = Jvm.exec) (hb : c.code = cJ7_fill_53178) (hown : s.vm.findClass RJ7 = some m.cls) (hts : ∀ w ∈ wq_J7_fill_53178_64, w.before args s = true) (hK : va_K (dC, dI) vwCl [(cyI, .int)] s)
    (hexit : ∀ (H : Heap) (locs : List Loc), va_P (dC, dI) vwCl [(a0, .inl (cyI, 64, .inl (fun _ => 0)))] H → va_D A [(a0, .inl (cyI, 64, .inl (fun _ => 0)))] → va_S A s.heap H locs → ∀ ls : Array Slot, lv_has ls 4 [(0, .ref a0), (1, .int 0), (3, .int 64)] → W p l e R s m args below meth c H locs cells slots Q (F0 m 20 ls [])) :
    ∀ (k j : Nat), j ≤ 64 → 64 < j + k → ∀ (H : Heap) (locs : List Loc), va_P (dC, dI) vwCl [(a0, .inl (cyI, 64, .inl (fun _ => 0)))] H → va_D A [(a0, .inl (cyI, 64, .inl (fun _ => 0)))] → va_S A s.heap H locs → ∀ ls : Array Slot, lv_has ls 4 [(0, .ref a0), (1, .int 0), (2, .int (nI j)), (3, .int 64)] → W p l e R s m args below meth c H locs cells slots Q (F0 m 5 ls []) := by
  intro k
  induction k with
  | zero => intro j h1 h2; omega
  | succ k ih =>
    intro j hj hjk H locs hP hD hS ls hl
    refine lv_iload_n hx hb dJ7_fill_53178_5 rfl (lv_at hl 2 rfl) ?_
    refine lv_iload_n hx hb dJ7_fill_53178_6 rfl (lv_at hl 3 rfl) ?_
    refine lv_icmp_ge (tgt := 20) hx hb dJ7_fill_53178_7 (by decide) (fun h => ?_) (fun h => ?_)
    · exact hexit _ _ hP hD hS ls (lv_sub hl [0, 1, 3] rfl)
    · have hlt : j < 64 := Nat.lt_of_not_le fun q => h (nI_le q (by omega))
      refine lv_aload_n hx hb dJ7_fill_53178_10 rfl (lv_at hl 0 rfl) ?_
      refine lv_iload_n hx hb dJ7_fill_53178_11 rfl (lv_at hl 2 rfl) ?_
      refine lv_iload_n hx hb dJ7_fill_53178_12 rfl (lv_at hl 1 rfl) ?_
      refine va_iast hx hb hK hP hD hS 0 0 rfl rfl (vp_in_nI (by omega) (by decide)) dJ7_fill_53178_13 (fun H locs hP hD hS => ?_)
      rw [pz_up0] at hP hD
      have hP : va_P (dC, dI) vwCl [(a0, .inl (cyI, 64, .inl (fun _ => 0)))] H := hP
      have hD : va_D A [(a0, .inl (cyI, 64, .inl (fun _ => 0)))] := hD
      refine lv_iinc (v := nI (j + 1)) (lv' := [(2, .int (nI (j + 1))), (0, .ref a0), (1, .int 0), (3, .int 64)]) hx hb dJ7_fill_53178_14 hl (k := 2) rfl (nI_1 j) (by decide) rfl (fun ls hl => ?_)
      refine lv_goto (tgt := 5) hx hb dJ7_fill_53178_17 (by decide) ?_
      exact ih (j + 1) (by omega) (by omega) _ _ hP hD hS ls (lv_sub hl [1, 2, 0, 3] rfl)
set_option maxHeartbeats 4000000 in
set_option maxRecDepth 100000 in
/-- Arrays.fill(row, 0) over a row of zeros -/
theorem c_J7_fill_53178_64 (l : Launch) (dC : Nat → ClassId) (dI : Nat → Nat → Nat) (cyI : ClassId) (sz : Nat) (a0 : Nat) : Met l yJ7_fill_53178 wq_J7_fill_53178_64 ({ frames := 0, cells := 0, slots := 0, locals := 0 }) (va_Pc [.ref a0, .int 0] (pz_pre dC dI [(cyI, .int)] [(a0, .inl (cyI, 64, .inl (fun _ => 0)))] sz)) (va_Qv (S := Unit) (fun _ => True) (fun _ t => pz_B dC dI [(cyI, .int)] (va_A [(a0, .inl (cyI, 64, .inl (fun _ => 0)))] sz) [(a0, .inl (cyI, 64, .inl (fun _ => 0)))] t) (va_A [(a0, .inl (cyI, 64, .inl (fun _ => 0)))] sz)) 0 0 (va_A [(a0, .inl (cyI, 64, .inl (fun _ => 0)))] sz) := by
  refine Met.ofW (cc := cJ7_fill_53178) (maxL := 4) (ret := none) (by decide) rfl ?_
  intro p e s m args below meth c s₁ B hml hv
  obtain ⟨rfl, hsz, hP, hK, hD0, hNW⟩ := hv
  have hx := B.exec
  have hb := B.bytes
  have hr := B.returns
  have hts := atoms_spec (ws := wq_J7_fill_53178_64) B.pre
  have hown : s.vm.findClass RJ7 = some m.cls := findClass_of_methodNamed B.named
  have hlocks := B.notSynchronized
  subst hsz
  have hD := hD0.self (sz := s.heap.size)
  generalize hAe : va_A [(a0, .inl (cyI, 64, .inl (fun _ => 0)))] s.heap.size = A at hD ⊢
  have hA : ∀ q : Nat, s.heap.size ≤ q → A q := fun q h => by rw [← hAe]; exact Or.inr h
  have hS : va_S A s.heap s.heap [] := va_S.rf
  have hl := lv_entry ([.ref a0, .int 0]) (n := 4) (Nat.le_of_ble_eq_true rfl)
  rw [lg_entry_eq]
  generalize (lg_sl ([.ref a0, .int 0]) ++ List.replicate (4 - (lg_sl ([.ref a0, .int 0])).length) Slot.unset).toArray = ls at hl ⊢
  have hl : lv_has ls 4 [(0, .ref a0), (1, .int 0)] := hl
  refine lv_iconst (v := 0) hx hb dJ7_fill_53178_0 (by decide) ?_
  refine lv_istore_n (lv' := [(2, .int 0), (0, .ref a0), (1, .int 0)]) hx hb dJ7_fill_53178_1 rfl hl (by decide) rfl (fun ls hl => ?_)
  refine lv_aload_n hx hb dJ7_fill_53178_2 rfl (lv_at hl 1 rfl) ?_
  refine va_alen (v := 64) hx hb hK hP 0 0 rfl rfl (by decide) dJ7_fill_53178_3 ?_
  refine lv_istore_n (lv' := [(3, .int 64), (2, .int 0), (0, .ref a0), (1, .int 0)]) hx hb dJ7_fill_53178_4 rfl hl (by decide) rfl (fun ls hl => ?_)
  refine lp_J7_fill_53178_64_5 hx hb hown hts hK (fun H locs hP hD hS ls hl => ?_) 65 0 (by decide) (by decide) _ _ hP hD hS ls (by rw [nI_0]; exact lv_sub hl [2, 3, 1, 0] rfl)
  have hP9 := hP.sub (ws' := [(a0, .inl (cyI, 64, .inl (fun _ => 0)))]) [0] rfl
  have hD9 := hD.sub (ws' := [(a0, .inl (cyI, 64, .inl (fun _ => 0)))]) [0] (by decide) rfl
  exact W.vret hx hb hr (fun t ht hW => ⟨⟨(), rfl, trivial, pz_Bof hP9 hK hD9 ht hW⟩, hS.F ht⟩) hS.2.2 dJ7_fill_53178_20

def wq_J7_fill_53178_6 : List Cond := .code yJ7_fill_53178 cJ7_fill_53178 4 none :: ([])
set_option maxHeartbeats 4000000 in
set_option maxRecDepth 100000 in
theorem lp_J7_fill_53178_6_5 {p : Program} {l : Launch} {e : Env} {R : Room} {s : State} {m : MethodId} {args : Array Value} {below : List Frame} {meth : Method} {c : Code} {cells slots : Nat} {Q : State → Prop} {A : Nat → Prop} {dC : Nat → ClassId} {dI : Nat → Nat → Nat} {cyI : ClassId} {a0 : Nat}
    (hx : p.tables.exec = Jvm.exec) (hb : c.code = cJ7_fill_53178) (hown : s.vm.findClass RJ7 = some m.cls) (hts : ∀ w ∈ wq_J7_fill_53178_6, w.before args s = true) (hK : va_K (dC, dI) vwCl [(cyI, .int)] s)
    (hexit : ∀ (H : Heap) (locs : List Loc), va_P (dC, dI) vwCl [(a0, .inl (cyI, 6, .inl (fun _ => 0)))] H → va_D A [(a0, .inl (cyI, 6, .inl (fun _ => 0)))] → va_S A s.heap H locs → ∀ ls : Array Slot, lv_has ls 4 [(0, .ref a0), (1, .int 0), (3, .int 6)] → W p l e R s m args below meth c H locs cells slots Q (F0 m 20 ls [])) :
    ∀ (k j : Nat), j ≤ 6 → 6 < j + k → ∀ (H : Heap) (locs : List Loc), va_P (dC, dI) vwCl [(a0, .inl (cyI, 6, .inl (fun _ => 0)))] H → va_D A [(a0, .inl (cyI, 6, .inl (fun _ => 0)))] → va_S A s.heap H locs → ∀ ls : Array Slot, lv_has ls 4 [(0, .ref a0), (1, .int 0), (2, .int (nI j)), (3, .int 6)] → W p l e R s m args below meth c H locs cells slots Q (F0 m 5 ls []) := by
  intro k
  induction k with
  | zero => intro j h1 h2; omega
  | succ k ih =>
    intro j hj hjk H locs hP hD hS ls hl
    refine lv_iload_n hx hb dJ7_fill_53178_5 rfl (lv_at hl 2 rfl) ?_
    refine lv_iload_n hx hb dJ7_fill_53178_6 rfl (lv_at hl 3 rfl) ?_
    refine lv_icmp_ge (tgt := 20) hx hb dJ7_fill_53178_7 (by decide) (fun h => ?_) (fun h => ?_)
    · exact hexit _ _ hP hD hS ls (lv_sub hl [0, 1, 3] rfl)
    · have hlt : j < 6 := Nat.lt_of_not_le fun q => h (nI_le q (by omega))
      refine lv_aload_n hx hb dJ7_fill_53178_10 rfl (lv_at hl 0 rfl) ?_
      refine lv_iload_n hx hb dJ7_fill_53178_11 rfl (lv_at hl 2 rfl) ?_
      refine lv_iload_n hx hb dJ7_fill_53178_12 rfl (lv_at hl 1 rfl) ?_
      refine va_iast hx hb hK hP hD hS 0 0 rfl rfl (vp_in_nI (by omega) (by decide)) dJ7_fill_53178_13 (fun H locs hP hD hS => ?_)
      rw [pz_up0] at hP hD
      have hP : va_P (dC, dI) vwCl [(a0, .inl (cyI, 6, .inl (fun _ => 0)))] H := hP
      have hD : va_D A [(a0, .inl (cyI, 6, .inl (fun _ => 0)))] := hD
      refine lv_iinc (v := nI (j + 1)) (lv' := [(2, .int (nI (j + 1))), (0, .ref a0), (1, .int 0), (3, .int 6)]) hx hb dJ7_fill_53178_14 hl (k := 2) rfl (nI_1 j) (by decide) rfl (fun ls hl => ?_)
      refine lv_goto (tgt := 5) hx hb dJ7_fill_53178_17 (by decide) ?_
      exact ih (j + 1) (by omega) (by omega) _ _ hP hD hS ls (lv_sub hl [1, 2, 0, 3] rfl)
set_option maxHeartbeats 4000000 in
set_option maxRecDepth 100000 in
/-- Arrays.fill(row, 0) over a row of zeros -/
theorem c_J7_fill_53178_6 (l : Launch) (dC : Nat → ClassId) (dI : Nat → Nat → Nat) (cyI : ClassId) (sz : Nat) (a0 : Nat) : Met l yJ7_fill_53178 wq_J7_fill_53178_6 ({ frames := 0, cells := 0, slots := 0, locals := 0 }) (va_Pc [.ref a0, .int 0] (pz_pre dC dI [(cyI, .int)] [(a0, .inl (cyI, 6, .inl (fun _ => 0)))] sz)) (va_Qv (S := Unit) (fun _ => True) (fun _ t => pz_B dC dI [(cyI, .int)] (va_A [(a0, .inl (cyI, 6, .inl (fun _ => 0)))] sz) [(a0, .inl (cyI, 6, .inl (fun _ => 0)))] t) (va_A [(a0, .inl (cyI, 6, .inl (fun _ => 0)))] sz)) 0 0 (va_A [(a0, .inl (cyI, 6, .inl (fun _ => 0)))] sz) := by
  refine Met.ofW (cc := cJ7_fill_53178) (maxL := 4) (ret := none) (by decide) rfl ?_
  intro p e s m args below meth c s₁ B hml hv
  obtain ⟨rfl, hsz, hP, hK, hD0, hNW⟩ := hv
  have hx := B.exec
  have hb := B.bytes
  have hr := B.returns
  have hts := atoms_spec (ws := wq_J7_fill_53178_6) B.pre
  have hown : s.vm.findClass RJ7 = some m.cls := findClass_of_methodNamed B.named
  have hlocks := B.notSynchronized
  subst hsz
  have hD := hD0.self (sz := s.heap.size)
  generalize hAe : va_A [(a0, .inl (cyI, 6, .inl (fun _ => 0)))] s.heap.size = A at hD ⊢
  have hA : ∀ q : Nat, s.heap.size ≤ q → A q := fun q h => by rw [← hAe]; exact Or.inr h
  have hS : va_S A s.heap s.heap [] := va_S.rf
  have hl := lv_entry ([.ref a0, .int 0]) (n := 4) (Nat.le_of_ble_eq_true rfl)
  rw [lg_entry_eq]
  generalize (lg_sl ([.ref a0, .int 0]) ++ List.replicate (4 - (lg_sl ([.ref a0, .int 0])).length) Slot.unset).toArray = ls at hl ⊢
  have hl : lv_has ls 4 [(0, .ref a0), (1, .int 0)] := hl
  refine lv_iconst (v := 0) hx hb dJ7_fill_53178_0 (by decide) ?_
  refine lv_istore_n (lv' := [(2, .int 0), (0, .ref a0), (1, .int 0)]) hx hb dJ7_fill_53178_1 rfl hl (by decide) rfl (fun ls hl => ?_)
  refine lv_aload_n hx hb dJ7_fill_53178_2 rfl (lv_at hl 1 rfl) ?_
  refine va_alen (v := 6) hx hb hK hP 0 0 rfl rfl (by decide) dJ7_fill_53178_3 ?_
  refine lv_istore_n (lv' := [(3, .int 6), (2, .int 0), (0, .ref a0), (1, .int 0)]) hx hb dJ7_fill_53178_4 rfl hl (by decide) rfl (fun ls hl => ?_)
  refine lp_J7_fill_53178_6_5 hx hb hown hts hK (fun H locs hP hD hS ls hl => ?_) 7 0 (by decide) (by decide) _ _ hP hD hS ls (by rw [nI_0]; exact lv_sub hl [2, 3, 1, 0] rfl)
  have hP9 := hP.sub (ws' := [(a0, .inl (cyI, 6, .inl (fun _ => 0)))]) [0] rfl
  have hD9 := hD.sub (ws' := [(a0, .inl (cyI, 6, .inl (fun _ => 0)))]) [0] (by decide) rfl
  exact W.vret hx hb hr (fun t ht hW => ⟨⟨(), rfl, trivial, pz_Bof hP9 hK hD9 ht hW⟩, hS.F ht⟩) hS.2.2 dJ7_fill_53178_20

def wq_X4_begin_X8 : List Cond := .code yX4_begin cX4_begin 1 none :: ([.fieldLink RX4 21 "RegisterMill$Machine" "end" "I", .fieldLink RX4 25 "RegisterMill$Machine" "told" "I", .fieldLink RX4 28 "RegisterMill$Machine" "steps" "I", .fieldLink RX4 31 "RegisterMill$Machine" "calls" "I", .fieldLink RX4 34 "RegisterMill$Machine" "nested" "I"] ++ wsX80)
set_option maxHeartbeats 4000000 in
set_option maxRecDepth 100000 in
/-- begin: a fresh machine stays as it is -/
theorem c_X4_begin_X8 (l : Launch) (dC : Nat → ClassId) (dI : Nat → Nat → Nat) (cyI : ClassId) (sz : Nat) (sm : Nat) (s_memory : Nat) (s_funcs : Nat) (s_nexts : Nat) (pr : Nat) (s_locals : Nat) (s_stack : Nat) (s_bottoms : Nat) : Met l yX4_begin wq_X4_begin_X8 ({ frames := 0, cells := 0, slots := 0, locals := 0 }) (va_Pc [.ref sm] (pz_pre dC dI [(cyI, .int)] [(sm, .inr (7, [.ref s_memory, .ref s_funcs, .ref s_nexts, .int 0, .int 0, .int 0, .int 0, .int 0, .ref pr, .ref s_locals, .ref s_stack, .ref s_bottoms, .int 0]))] sz)) (va_Qv (S := Unit) (fun _ => True) (fun _ t => pz_B dC dI [(cyI, .int)] (va_A [(sm, .inr (7, [.ref s_memory, .ref s_funcs, .ref s_nexts, .int 0, .int 0, .int 0, .int 0, .int 0, .ref pr, .ref s_locals, .ref s_stack, .ref s_bottoms, .int 0]))] sz) [(sm, .inr (7, [.ref s_memory, .ref s_funcs, .ref s_nexts, .int 0, .int 0, .int 0, .int 0, .int 0, .ref pr, .ref s_locals, .ref s_stack, .ref s_bottoms, .int 0]))] t) (va_A [(sm, .inr (7, [.ref s_memory, .ref s_funcs, .ref s_nexts, .int 0, .int 0, .int 0, .int 0, .int 0, .ref pr, .ref s_locals, .ref s_stack, .ref s_bottoms, .int 0]))] sz)) 0 0 (va_A [(sm, .inr (7, [.ref s_memory, .ref s_funcs, .ref s_nexts, .int 0, .int 0, .int 0, .int 0, .int 0, .ref pr, .ref s_locals, .ref s_stack, .ref s_bottoms, .int 0]))] sz) := by
  refine Met.ofW (cc := cX4_begin) (maxL := 1) (ret := none) (by decide) rfl ?_
  intro p e s m args below meth c s₁ B hml hv
  obtain ⟨rfl, hsz, hP, hK, hD0, hNW⟩ := hv
  have hx := B.exec
  have hb := B.bytes
  have hr := B.returns
  have hts := atoms_spec (ws := wq_X4_begin_X8) B.pre
  have hown : s.vm.findClass RX4 = some m.cls := findClass_of_methodNamed B.named
  have hlocks := B.notSynchronized
  have hiX8 : ∀ w ∈ wsX80, w ∈ wq_X4_begin_X8 := by decide +kernel
  subst hsz
  have hD := hD0.self (sz := s.heap.size)
  generalize hAe : va_A [(sm, .inr (7, [.ref s_memory, .ref s_funcs, .ref s_nexts, .int 0, .int 0, .int 0, .int 0, .int 0, .ref pr, .ref s_locals, .ref s_stack, .ref s_bottoms, .int 0]))] s.heap.size = A at hD ⊢
  have hA : ∀ q : Nat, s.heap.size ≤ q → A q := fun q h => by rw [← hAe]; exact Or.inr h
  have hS : va_S A s.heap s.heap [] := va_S.rf
  have hl := lv_entry ([.ref sm]) (n := 1) (Nat.le_of_ble_eq_true rfl)
  rw [lg_entry_eq]
  generalize (lg_sl ([.ref sm]) ++ List.replicate (1 - (lg_sl ([.ref sm])).length) Slot.unset).toArray = ls at hl ⊢
  have hl : lv_has ls 1 [(0, .ref sm)] := hl
  refine lv_aload_n hx hb dX4_begin_0 rfl (lv_at hl 0 rfl) ?_
  refine lv_iconst (v := 0) hx hb dX4_begin_1 (by decide) ?_
  refine va_put (D := (dC, dI)) (ci := 7) (v := .int 0) (ty := .int) (C := RX8) (T := TX8) (N := 13) hx hb hts hiX8 tyX8 tyX8_ok nmX8 hown hK hP hD hS 0 rfl rfl 3 (by decide) (hts (.fieldLink RX4 21 "RegisterMill$Machine" "end" "I") (by decide +kernel)) (fun _ h9 => h9) rfl (by decide +kernel) rfl rfl (Nat.le_of_ble_eq_true rfl) dX4_begin_2 (fun H locs hP hD hS => ?_)
  have hP : va_P (dC, dI) vwCl [(sm, .inr (7, [.ref s_memory, .ref s_funcs, .ref s_nexts, .int 0, .int 0, .int 0, .int 0, .int 0, .ref pr, .ref s_locals, .ref s_stack, .ref s_bottoms, .int 0]))] H := hP
  have hD : va_D A [(sm, .inr (7, [.ref s_memory, .ref s_funcs, .ref s_nexts, .int 0, .int 0, .int 0, .int 0, .int 0, .ref pr, .ref s_locals, .ref s_stack, .ref s_bottoms, .int 0]))] := hD
  refine lv_aload_n hx hb dX4_begin_5 rfl (lv_at hl 0 rfl) ?_
  refine lv_iconst (v := 0) hx hb dX4_begin_6 (by decide) ?_
  refine va_put (D := (dC, dI)) (ci := 7) (v := .int 0) (ty := .int) (C := RX8) (T := TX8) (N := 13) hx hb hts hiX8 tyX8 tyX8_ok nmX8 hown hK hP hD hS 0 rfl rfl 4 (by decide) (hts (.fieldLink RX4 25 "RegisterMill$Machine" "told" "I") (by decide +kernel)) (fun _ h9 => h9) rfl (by decide +kernel) rfl rfl (Nat.le_of_ble_eq_true rfl) dX4_begin_7 (fun H locs hP hD hS => ?_)
  have hP : va_P (dC, dI) vwCl [(sm, .inr (7, [.ref s_memory, .ref s_funcs, .ref s_nexts, .int 0, .int 0, .int 0, .int 0, .int 0, .ref pr, .ref s_locals, .ref s_stack, .ref s_bottoms, .int 0]))] H := hP
  have hD : va_D A [(sm, .inr (7, [.ref s_memory, .ref s_funcs, .ref s_nexts, .int 0, .int 0, .int 0, .int 0, .int 0, .ref pr, .ref s_locals, .ref s_stack, .ref s_bottoms, .int 0]))] := hD
  refine lv_aload_n hx hb dX4_begin_10 rfl (lv_at hl 0 rfl) ?_
  refine lv_iconst (v := 0) hx hb dX4_begin_11 (by decide) ?_
  refine va_put (D := (dC, dI)) (ci := 7) (v := .int 0) (ty := .int) (C := RX8) (T := TX8) (N := 13) hx hb hts hiX8 tyX8 tyX8_ok nmX8 hown hK hP hD hS 0 rfl rfl 5 (by decide) (hts (.fieldLink RX4 28 "RegisterMill$Machine" "steps" "I") (by decide +kernel)) (fun _ h9 => h9) rfl (by decide +kernel) rfl rfl (Nat.le_of_ble_eq_true rfl) dX4_begin_12 (fun H locs hP hD hS => ?_)
  have hP : va_P (dC, dI) vwCl [(sm, .inr (7, [.ref s_memory, .ref s_funcs, .ref s_nexts, .int 0, .int 0, .int 0, .int 0, .int 0, .ref pr, .ref s_locals, .ref s_stack, .ref s_bottoms, .int 0]))] H := hP
  have hD : va_D A [(sm, .inr (7, [.ref s_memory, .ref s_funcs, .ref s_nexts, .int 0, .int 0, .int 0, .int 0, .int 0, .ref pr, .ref s_locals, .ref s_stack, .ref s_bottoms, .int 0]))] := hD
  refine lv_aload_n hx hb dX4_begin_15 rfl (lv_at hl 0 rfl) ?_
  refine lv_iconst (v := 0) hx hb dX4_begin_16 (by decide) ?_
  refine va_put (D := (dC, dI)) (ci := 7) (v := .int 0) (ty := .int) (C := RX8) (T := TX8) (N := 13) hx hb hts hiX8 tyX8 tyX8_ok nmX8 hown hK hP hD hS 0 rfl rfl 6 (by decide) (hts (.fieldLink RX4 31 "RegisterMill$Machine" "calls" "I") (by decide +kernel)) (fun _ h9 => h9) rfl (by decide +kernel) rfl rfl (Nat.le_of_ble_eq_true rfl) dX4_begin_17 (fun H locs hP hD hS => ?_)
  have hP : va_P (dC, dI) vwCl [(sm, .inr (7, [.ref s_memory, .ref s_funcs, .ref s_nexts, .int 0, .int 0, .int 0, .int 0, .int 0, .ref pr, .ref s_locals, .ref s_stack, .ref s_bottoms, .int 0]))] H := hP
  have hD : va_D A [(sm, .inr (7, [.ref s_memory, .ref s_funcs, .ref s_nexts, .int 0, .int 0, .int 0, .int 0, .int 0, .ref pr, .ref s_locals, .ref s_stack, .ref s_bottoms, .int 0]))] := hD
  refine lv_aload_n hx hb dX4_begin_20 rfl (lv_at hl 0 rfl) ?_
  refine lv_iconst (v := 0) hx hb dX4_begin_21 (by decide) ?_
  refine va_put (D := (dC, dI)) (ci := 7) (v := .int 0) (ty := .int) (C := RX8) (T := TX8) (N := 13) hx hb hts hiX8 tyX8 tyX8_ok nmX8 hown hK hP hD hS 0 rfl rfl 7 (by decide) (hts (.fieldLink RX4 34 "RegisterMill$Machine" "nested" "I") (by decide +kernel)) (fun _ h9 => h9) rfl (by decide +kernel) rfl rfl (Nat.le_of_ble_eq_true rfl) dX4_begin_22 (fun H locs hP hD hS => ?_)
  have hP : va_P (dC, dI) vwCl [(sm, .inr (7, [.ref s_memory, .ref s_funcs, .ref s_nexts, .int 0, .int 0, .int 0, .int 0, .int 0, .ref pr, .ref s_locals, .ref s_stack, .ref s_bottoms, .int 0]))] H := hP
  have hD : va_D A [(sm, .inr (7, [.ref s_memory, .ref s_funcs, .ref s_nexts, .int 0, .int 0, .int 0, .int 0, .int 0, .ref pr, .ref s_locals, .ref s_stack, .ref s_bottoms, .int 0]))] := hD
  have hP9 := hP.sub (ws' := [(sm, .inr (7, [.ref s_memory, .ref s_funcs, .ref s_nexts, .int 0, .int 0, .int 0, .int 0, .int 0, .ref pr, .ref s_locals, .ref s_stack, .ref s_bottoms, .int 0]))]) [0] rfl
  have hD9 := hD.sub (ws' := [(sm, .inr (7, [.ref s_memory, .ref s_funcs, .ref s_nexts, .int 0, .int 0, .int 0, .int 0, .int 0, .ref pr, .ref s_locals, .ref s_stack, .ref s_bottoms, .int 0]))]) [0] (by decide) rfl
  exact W.vret hx hb hr (fun t ht hW => ⟨⟨(), rfl, trivial, pz_Bof hP9 hK hD9 ht hW⟩, hS.F ht⟩) hS.2.2 dX4_begin_25

def wq_X4_tell_X8 : List Cond := .code yX4_tell cX4_tell 2 (some .int) :: ([.fieldLink RX4 21 "RegisterMill$Machine" "end" "I", .fieldLink RX4 25 "RegisterMill$Machine" "told" "I", .fieldLink RX4 28 "RegisterMill$Machine" "steps" "I", .fieldLink RX4 31 "RegisterMill$Machine" "calls" "I", .fieldLink RX4 34 "RegisterMill$Machine" "nested" "I"] ++ wsX80)
set_option maxHeartbeats 4000000 in
set_option maxRecDepth 100000 in
/-- tell on a fresh machine -/
theorem c_X4_tell_X8 (l : Launch) (dC : Nat → ClassId) (dI : Nat → Nat → Nat) (cyI : ClassId) (sz : Nat) (sm : Nat) (s_memory : Nat) (s_funcs : Nat) (s_nexts : Nat) (pr : Nat) (s_locals : Nat) (s_stack : Nat) (s_bottoms : Nat) (p0 : Int32) : Met l yX4_tell wq_X4_tell_X8 ({ frames := 0, cells := 0, slots := 0, locals := 0 }) (va_Pc [.ref sm, .int p0] (pz_pre dC dI [(cyI, .int)] [(sm, .inr (7, [.ref s_memory, .ref s_funcs, .ref s_nexts, .int 0, .int 0, .int 0, .int 0, .int 0, .ref pr, .ref s_locals, .ref s_stack, .ref s_bottoms, .int 0]))] sz)) (va_Qi (S := Unit) (fun (r : Int32) _ => r = fz_tell p0) (fun _ t => pz_B dC dI [(cyI, .int)] (va_A [(sm, .inr (7, [.ref s_memory, .ref s_funcs, .ref s_nexts, .int 0, .int 0, .int 0, .int 0, .int 0, .ref pr, .ref s_locals, .ref s_stack, .ref s_bottoms, .int 0]))] sz) [(sm, .inr (7, [.ref s_memory, .ref s_funcs, .ref s_nexts, .int 0, .int 0, .int 0, .int 0, .int 0, .ref pr, .ref s_locals, .ref s_stack, .ref s_bottoms, .int 0]))] t) (va_A [(sm, .inr (7, [.ref s_memory, .ref s_funcs, .ref s_nexts, .int 0, .int 0, .int 0, .int 0, .int 0, .ref pr, .ref s_locals, .ref s_stack, .ref s_bottoms, .int 0]))] sz)) 0 0 (va_A [(sm, .inr (7, [.ref s_memory, .ref s_funcs, .ref s_nexts, .int 0, .int 0, .int 0, .int 0, .int 0, .ref pr, .ref s_locals, .ref s_stack, .ref s_bottoms, .int 0]))] sz) := by
  refine Met.ofW (cc := cX4_tell) (maxL := 2) (ret := (some .int)) (by decide) rfl ?_
  intro p e s m args below meth c s₁ B hml hv
  obtain ⟨rfl, hsz, hP, hK, hD0, hNW⟩ := hv
  have hx := B.exec
  have hb := B.bytes
  have hr := B.returns
  have hts := atoms_spec (ws := wq_X4_tell_X8) B.pre
  have hown : s.vm.findClass RX4 = some m.cls := findClass_of_methodNamed B.named
  have hlocks := B.notSynchronized
  have hiX8 : ∀ w ∈ wsX80, w ∈ wq_X4_tell_X8 := by decide +kernel
  subst hsz
  have hD := hD0.self (sz := s.heap.size)
  generalize hAe : va_A [(sm, .inr (7, [.ref s_memory, .ref s_funcs, .ref s_nexts, .int 0, .int 0, .int 0, .int 0, .int 0, .ref pr, .ref s_locals, .ref s_stack, .ref s_bottoms, .int 0]))] s.heap.size = A at hD ⊢
  have hA : ∀ q : Nat, s.heap.size ≤ q → A q := fun q h => by rw [← hAe]; exact Or.inr h
  have hS : va_S A s.heap s.heap [] := va_S.rf
  have hl := lv_entry ([.ref sm, .int p0]) (n := 2) (Nat.le_of_ble_eq_true rfl)
  rw [lg_entry_eq]
  generalize (lg_sl ([.ref sm, .int p0]) ++ List.replicate (2 - (lg_sl ([.ref sm, .int p0])).length) Slot.unset).toArray = ls at hl ⊢
  have hl : lv_has ls 2 [(0, .ref sm), (1, .int p0)] := hl
  refine lv_iload_n hx hb dX4_tell_0 rfl (lv_at hl 1 rfl) ?_
  rcases pz_sw4 p0 with w_1 | w_1 | w_1 | w_1 | w_1 | w_1
  · refine lv_tableIn (off := 35) (tgt := 36) hx hb dX4_tell_1 (by rw [w_1]; decide) (by rw [w_1]; decide) (by rw [w_1]; rfl) (by decide) ?_
    refine lv_aload_n hx hb dX4_tell_36 rfl (lv_at hl 0 rfl) ?_
    refine va_get (D := (dC, dI)) (ci := 7) (v := .int 0) (C := RX8) (T := TX8) (N := 13) hx hb hts hiX8 hown hK hP 0 rfl rfl 3 (by decide) (hts (.fieldLink RX4 21 "RegisterMill$Machine" "end" "I") (by decide +kernel)) (fun _ h9 => h9) rfl dX4_tell_37 ?_
    have hP9 := hP.sub (ws' := [(sm, .inr (7, [.ref s_memory, .ref s_funcs, .ref s_nexts, .int 0, .int 0, .int 0, .int 0, .int 0, .ref pr, .ref s_locals, .ref s_stack, .ref s_bottoms, .int 0]))]) [0] rfl
    have hD9 := hD.sub (ws' := [(sm, .inr (7, [.ref s_memory, .ref s_funcs, .ref s_nexts, .int 0, .int 0, .int 0, .int 0, .int 0, .ref pr, .ref s_locals, .ref s_stack, .ref s_bottoms, .int 0]))]) [0] (by decide) rfl
    have h9 : (0 : Int32) = fz_tell p0 := by simp [fz_tell, w_1]
    exact W.iret (v := (0)) hx hb hr (fun t ht hW => ⟨⟨_, (), rfl, h9, pz_Bof hP9 hK hD9 ht hW⟩, hS.F ht⟩) hS.2.2 dX4_tell_40
  · refine lv_tableIn (off := 40) (tgt := 41) hx hb dX4_tell_1 (by rw [w_1]; decide) (by rw [w_1]; decide) (by rw [w_1]; rfl) (by decide) ?_
    refine lv_aload_n hx hb dX4_tell_41 rfl (lv_at hl 0 rfl) ?_
    refine va_get (D := (dC, dI)) (ci := 7) (v := .int 0) (C := RX8) (T := TX8) (N := 13) hx hb hts hiX8 hown hK hP 0 rfl rfl 4 (by decide) (hts (.fieldLink RX4 25 "RegisterMill$Machine" "told" "I") (by decide +kernel)) (fun _ h9 => h9) rfl dX4_tell_42 ?_
    have hP9 := hP.sub (ws' := [(sm, .inr (7, [.ref s_memory, .ref s_funcs, .ref s_nexts, .int 0, .int 0, .int 0, .int 0, .int 0, .ref pr, .ref s_locals, .ref s_stack, .ref s_bottoms, .int 0]))]) [0] rfl
    have hD9 := hD.sub (ws' := [(sm, .inr (7, [.ref s_memory, .ref s_funcs, .ref s_nexts, .int 0, .int 0, .int 0, .int 0, .int 0, .ref pr, .ref s_locals, .ref s_stack, .ref s_bottoms, .int 0]))]) [0] (by decide) rfl
    have h9 : (0 : Int32) = fz_tell p0 := by simp [fz_tell, w_1]
    exact W.iret (v := (0)) hx hb hr (fun t ht hW => ⟨⟨_, (), rfl, h9, pz_Bof hP9 hK hD9 ht hW⟩, hS.F ht⟩) hS.2.2 dX4_tell_45
  · refine lv_tableIn (off := 45) (tgt := 46) hx hb dX4_tell_1 (by rw [w_1]; decide) (by rw [w_1]; decide) (by rw [w_1]; rfl) (by decide) ?_
    refine lv_aload_n hx hb dX4_tell_46 rfl (lv_at hl 0 rfl) ?_
    refine va_get (D := (dC, dI)) (ci := 7) (v := .int 0) (C := RX8) (T := TX8) (N := 13) hx hb hts hiX8 hown hK hP 0 rfl rfl 5 (by decide) (hts (.fieldLink RX4 28 "RegisterMill$Machine" "steps" "I") (by decide +kernel)) (fun _ h9 => h9) rfl dX4_tell_47 ?_
    have hP9 := hP.sub (ws' := [(sm, .inr (7, [.ref s_memory, .ref s_funcs, .ref s_nexts, .int 0, .int 0, .int 0, .int 0, .int 0, .ref pr, .ref s_locals, .ref s_stack, .ref s_bottoms, .int 0]))]) [0] rfl
    have hD9 := hD.sub (ws' := [(sm, .inr (7, [.ref s_memory, .ref s_funcs, .ref s_nexts, .int 0, .int 0, .int 0, .int 0, .int 0, .ref pr, .ref s_locals, .ref s_stack, .ref s_bottoms, .int 0]))]) [0] (by decide) rfl
    have h9 : (0 : Int32) = fz_tell p0 := by simp [fz_tell, w_1]
    exact W.iret (v := (0)) hx hb hr (fun t ht hW => ⟨⟨_, (), rfl, h9, pz_Bof hP9 hK hD9 ht hW⟩, hS.F ht⟩) hS.2.2 dX4_tell_50
  · refine lv_tableIn (off := 50) (tgt := 51) hx hb dX4_tell_1 (by rw [w_1]; decide) (by rw [w_1]; decide) (by rw [w_1]; rfl) (by decide) ?_
    refine lv_aload_n hx hb dX4_tell_51 rfl (lv_at hl 0 rfl) ?_
    refine va_get (D := (dC, dI)) (ci := 7) (v := .int 0) (C := RX8) (T := TX8) (N := 13) hx hb hts hiX8 hown hK hP 0 rfl rfl 6 (by decide) (hts (.fieldLink RX4 31 "RegisterMill$Machine" "calls" "I") (by decide +kernel)) (fun _ h9 => h9) rfl dX4_tell_52 ?_
    have hP9 := hP.sub (ws' := [(sm, .inr (7, [.ref s_memory, .ref s_funcs, .ref s_nexts, .int 0, .int 0, .int 0, .int 0, .int 0, .ref pr, .ref s_locals, .ref s_stack, .ref s_bottoms, .int 0]))]) [0] rfl
    have hD9 := hD.sub (ws' := [(sm, .inr (7, [.ref s_memory, .ref s_funcs, .ref s_nexts, .int 0, .int 0, .int 0, .int 0, .int 0, .ref pr, .ref s_locals, .ref s_stack, .ref s_bottoms, .int 0]))]) [0] (by decide) rfl
    have h9 : (0 : Int32) = fz_tell p0 := by simp [fz_tell, w_1]
    exact W.iret (v := (0)) hx hb hr (fun t ht hW => ⟨⟨_, (), rfl, h9, pz_Bof hP9 hK hD9 ht hW⟩, hS.F ht⟩) hS.2.2 dX4_tell_55
  · refine lv_tableIn (off := 55) (tgt := 56) hx hb dX4_tell_1 (by rw [w_1]; decide) (by rw [w_1]; decide) (by rw [w_1]; rfl) (by decide) ?_
    refine lv_aload_n hx hb dX4_tell_56 rfl (lv_at hl 0 rfl) ?_
    refine va_get (D := (dC, dI)) (ci := 7) (v := .int 0) (C := RX8) (T := TX8) (N := 13) hx hb hts hiX8 hown hK hP 0 rfl rfl 7 (by decide) (hts (.fieldLink RX4 34 "RegisterMill$Machine" "nested" "I") (by decide +kernel)) (fun _ h9 => h9) rfl dX4_tell_57 ?_
    have hP9 := hP.sub (ws' := [(sm, .inr (7, [.ref s_memory, .ref s_funcs, .ref s_nexts, .int 0, .int 0, .int 0, .int 0, .int 0, .ref pr, .ref s_locals, .ref s_stack, .ref s_bottoms, .int 0]))]) [0] rfl
    have hD9 := hD.sub (ws' := [(sm, .inr (7, [.ref s_memory, .ref s_funcs, .ref s_nexts, .int 0, .int 0, .int 0, .int 0, .int 0, .ref pr, .ref s_locals, .ref s_stack, .ref s_bottoms, .int 0]))]) [0] (by decide) rfl
    have h9 : (0 : Int32) = fz_tell p0 := by simp [fz_tell, w_1]
    exact W.iret (v := (0)) hx hb hr (fun t ht hW => ⟨⟨_, (), rfl, h9, pz_Bof hP9 hK hD9 ht hW⟩, hS.F ht⟩) hS.2.2 dX4_tell_60
  · refine lv_tableOut (tgt := 61) hx hb dX4_tell_1 w_1.1 (by decide) ?_
    refine lv_iconst (v := -1) hx hb dX4_tell_61 (by decide) ?_
    have hP9 := hP.sub (ws' := [(sm, .inr (7, [.ref s_memory, .ref s_funcs, .ref s_nexts, .int 0, .int 0, .int 0, .int 0, .int 0, .ref pr, .ref s_locals, .ref s_stack, .ref s_bottoms, .int 0]))]) [0] rfl
    have hD9 := hD.sub (ws' := [(sm, .inr (7, [.ref s_memory, .ref s_funcs, .ref s_nexts, .int 0, .int 0, .int 0, .int 0, .int 0, .ref pr, .ref s_locals, .ref s_stack, .ref s_bottoms, .int 0]))]) [0] (by decide) rfl
    have h9 : (-1 : Int32) = fz_tell p0 := by simp [fz_tell, w_1.2]
    exact W.iret (v := (-1)) hx hb hr (fun t ht hW => ⟨⟨_, (), rfl, h9, pz_Bof hP9 hK hD9 ht hW⟩, hS.F ht⟩) hS.2.2 dX4_tell_62

def wq_X4_begin_X7 : List Cond := .code yX4_begin cX4_begin 1 none :: ([.fieldLink RX4 21 "RegisterMill$Machine" "end" "I", .fieldLink RX4 25 "RegisterMill$Machine" "told" "I", .fieldLink RX4 28 "RegisterMill$Machine" "steps" "I", .fieldLink RX4 31 "RegisterMill$Machine" "calls" "I", .fieldLink RX4 34 "RegisterMill$Machine" "nested" "I"] ++ wsX70)
set_option maxHeartbeats 4000000 in
set_option maxRecDepth 100000 in
/-- begin: a fresh machine stays as it is -/
theorem c_X4_begin_X7 (l : Launch) (dC : Nat → ClassId) (dI : Nat → Nat → Nat) (cyI : ClassId) (sz : Nat) (rm : Nat) (r_memory : Nat) (r_funcs : Nat) (r_nexts : Nat) (t_code : Nat) (r_registers : Nat) (r_slotCells : Nat) (r_passed : Nat) : Met l yX4_begin wq_X4_begin_X7 ({ frames := 0, cells := 0, slots := 0, locals := 0 }) (va_Pc [.ref rm] (pz_pre dC dI [(cyI, .int)] [(rm, .inr (6, [.ref r_memory, .ref r_funcs, .ref r_nexts, .int 0, .int 0, .int 0, .int 0, .int 0, .ref t_code, .ref r_registers, .ref r_slotCells, .ref r_passed, .int 0]))] sz)) (va_Qv (S := Unit) (fun _ => True) (fun _ t => pz_B dC dI [(cyI, .int)] (va_A [(rm, .inr (6, [.ref r_memory, .ref r_funcs, .ref r_nexts, .int 0, .int 0, .int 0, .int 0, .int 0, .ref t_code, .ref r_registers, .ref r_slotCells, .ref r_passed, .int 0]))] sz) [(rm, .inr (6, [.ref r_memory, .ref r_funcs, .ref r_nexts, .int 0, .int 0, .int 0, .int 0, .int 0, .ref t_code, .ref r_registers, .ref r_slotCells, .ref r_passed, .int 0]))] t) (va_A [(rm, .inr (6, [.ref r_memory, .ref r_funcs, .ref r_nexts, .int 0, .int 0, .int 0, .int 0, .int 0, .ref t_code, .ref r_registers, .ref r_slotCells, .ref r_passed, .int 0]))] sz)) 0 0 (va_A [(rm, .inr (6, [.ref r_memory, .ref r_funcs, .ref r_nexts, .int 0, .int 0, .int 0, .int 0, .int 0, .ref t_code, .ref r_registers, .ref r_slotCells, .ref r_passed, .int 0]))] sz) := by
  refine Met.ofW (cc := cX4_begin) (maxL := 1) (ret := none) (by decide) rfl ?_
  intro p e s m args below meth c s₁ B hml hv
  obtain ⟨rfl, hsz, hP, hK, hD0, hNW⟩ := hv
  have hx := B.exec
  have hb := B.bytes
  have hr := B.returns
  have hts := atoms_spec (ws := wq_X4_begin_X7) B.pre
  have hown : s.vm.findClass RX4 = some m.cls := findClass_of_methodNamed B.named
  have hlocks := B.notSynchronized
  have hiX7 : ∀ w ∈ wsX70, w ∈ wq_X4_begin_X7 := by decide +kernel
  subst hsz
  have hD := hD0.self (sz := s.heap.size)
  generalize hAe : va_A [(rm, .inr (6, [.ref r_memory, .ref r_funcs, .ref r_nexts, .int 0, .int 0, .int 0, .int 0, .int 0, .ref t_code, .ref r_registers, .ref r_slotCells, .ref r_passed, .int 0]))] s.heap.size = A at hD ⊢
  have hA : ∀ q : Nat, s.heap.size ≤ q → A q := fun q h => by rw [← hAe]; exact Or.inr h
  have hS : va_S A s.heap s.heap [] := va_S.rf
  have hl := lv_entry ([.ref rm]) (n := 1) (Nat.le_of_ble_eq_true rfl)
  rw [lg_entry_eq]
  generalize (lg_sl ([.ref rm]) ++ List.replicate (1 - (lg_sl ([.ref rm])).length) Slot.unset).toArray = ls at hl ⊢
  have hl : lv_has ls 1 [(0, .ref rm)] := hl
  refine lv_aload_n hx hb dX4_begin_0 rfl (lv_at hl 0 rfl) ?_
  refine lv_iconst (v := 0) hx hb dX4_begin_1 (by decide) ?_
  refine va_put (D := (dC, dI)) (ci := 6) (v := .int 0) (ty := .int) (C := RX7) (T := TX7) (N := 13) hx hb hts hiX7 tyX7 tyX7_ok nmX7 hown hK hP hD hS 0 rfl rfl 3 (by decide) (hts (.fieldLink RX4 21 "RegisterMill$Machine" "end" "I") (by decide +kernel)) (fun _ h9 => h9) rfl (by decide +kernel) rfl rfl (Nat.le_of_ble_eq_true rfl) dX4_begin_2 (fun H locs hP hD hS => ?_)
  have hP : va_P (dC, dI) vwCl [(rm, .inr (6, [.ref r_memory, .ref r_funcs, .ref r_nexts, .int 0, .int 0, .int 0, .int 0, .int 0, .ref t_code, .ref r_registers, .ref r_slotCells, .ref r_passed, .int 0]))] H := hP
  have hD : va_D A [(rm, .inr (6, [.ref r_memory, .ref r_funcs, .ref r_nexts, .int 0, .int 0, .int 0, .int 0, .int 0, .ref t_code, .ref r_registers, .ref r_slotCells, .ref r_passed, .int 0]))] := hD
  refine lv_aload_n hx hb dX4_begin_5 rfl (lv_at hl 0 rfl) ?_
  refine lv_iconst (v := 0) hx hb dX4_begin_6 (by decide) ?_
  refine va_put (D := (dC, dI)) (ci := 6) (v := .int 0) (ty := .int) (C := RX7) (T := TX7) (N := 13) hx hb hts hiX7 tyX7 tyX7_ok nmX7 hown hK hP hD hS 0 rfl rfl 4 (by decide) (hts (.fieldLink RX4 25 "RegisterMill$Machine" "told" "I") (by decide +kernel)) (fun _ h9 => h9) rfl (by decide +kernel) rfl rfl (Nat.le_of_ble_eq_true rfl) dX4_begin_7 (fun H locs hP hD hS => ?_)
  have hP : va_P (dC, dI) vwCl [(rm, .inr (6, [.ref r_memory, .ref r_funcs, .ref r_nexts, .int 0, .int 0, .int 0, .int 0, .int 0, .ref t_code, .ref r_registers, .ref r_slotCells, .ref r_passed, .int 0]))] H := hP
  have hD : va_D A [(rm, .inr (6, [.ref r_memory, .ref r_funcs, .ref r_nexts, .int 0, .int 0, .int 0, .int 0, .int 0, .ref t_code, .ref r_registers, .ref r_slotCells, .ref r_passed, .int 0]))] := hD
  refine lv_aload_n hx hb dX4_begin_10 rfl (lv_at hl 0 rfl) ?_
  refine lv_iconst (v := 0) hx hb dX4_begin_11 (by decide) ?_
  refine va_put (D := (dC, dI)) (ci := 6) (v := .int 0) (ty := .int) (C := RX7) (T := TX7) (N := 13) hx hb hts hiX7 tyX7 tyX7_ok nmX7 hown hK hP hD hS 0 rfl rfl 5 (by decide) (hts (.fieldLink RX4 28 "RegisterMill$Machine" "steps" "I") (by decide +kernel)) (fun _ h9 => h9) rfl (by decide +kernel) rfl rfl (Nat.le_of_ble_eq_true rfl) dX4_begin_12 (fun H locs hP hD hS => ?_)
  have hP : va_P (dC, dI) vwCl [(rm, .inr (6, [.ref r_memory, .ref r_funcs, .ref r_nexts, .int 0, .int 0, .int 0, .int 0, .int 0, .ref t_code, .ref r_registers, .ref r_slotCells, .ref r_passed, .int 0]))] H := hP
  have hD : va_D A [(rm, .inr (6, [.ref r_memory, .ref r_funcs, .ref r_nexts, .int 0, .int 0, .int 0, .int 0, .int 0, .ref t_code, .ref r_registers, .ref r_slotCells, .ref r_passed, .int 0]))] := hD
  refine lv_aload_n hx hb dX4_begin_15 rfl (lv_at hl 0 rfl) ?_
  refine lv_iconst (v := 0) hx hb dX4_begin_16 (by decide) ?_
  refine va_put (D := (dC, dI)) (ci := 6) (v := .int 0) (ty := .int) (C := RX7) (T := TX7) (N := 13) hx hb hts hiX7 tyX7 tyX7_ok nmX7 hown hK hP hD hS 0 rfl rfl 6 (by decide) (hts (.fieldLink RX4 31 "RegisterMill$Machine" "calls" "I") (by decide +kernel)) (fun _ h9 => h9) rfl (by decide +kernel) rfl rfl (Nat.le_of_ble_eq_true rfl) dX4_begin_17 (fun H locs hP hD hS => ?_)
  have hP : va_P (dC, dI) vwCl [(rm, .inr (6, [.ref r_memory, .ref r_funcs, .ref r_nexts, .int 0, .int 0, .int 0, .int 0, .int 0, .ref t_code, .ref r_registers, .ref r_slotCells, .ref r_passed, .int 0]))] H := hP
  have hD : va_D A [(rm, .inr (6, [.ref r_memory, .ref r_funcs, .ref r_nexts, .int 0, .int 0, .int 0, .int 0, .int 0, .ref t_code, .ref r_registers, .ref r_slotCells, .ref r_passed, .int 0]))] := hD
  refine lv_aload_n hx hb dX4_begin_20 rfl (lv_at hl 0 rfl) ?_
  refine lv_iconst (v := 0) hx hb dX4_begin_21 (by decide) ?_
  refine va_put (D := (dC, dI)) (ci := 6) (v := .int 0) (ty := .int) (C := RX7) (T := TX7) (N := 13) hx hb hts hiX7 tyX7 tyX7_ok nmX7 hown hK hP hD hS 0 rfl rfl 7 (by decide) (hts (.fieldLink RX4 34 "RegisterMill$Machine" "nested" "I") (by decide +kernel)) (fun _ h9 => h9) rfl (by decide +kernel) rfl rfl (Nat.le_of_ble_eq_true rfl) dX4_begin_22 (fun H locs hP hD hS => ?_)
  have hP : va_P (dC, dI) vwCl [(rm, .inr (6, [.ref r_memory, .ref r_funcs, .ref r_nexts, .int 0, .int 0, .int 0, .int 0, .int 0, .ref t_code, .ref r_registers, .ref r_slotCells, .ref r_passed, .int 0]))] H := hP
  have hD : va_D A [(rm, .inr (6, [.ref r_memory, .ref r_funcs, .ref r_nexts, .int 0, .int 0, .int 0, .int 0, .int 0, .ref t_code, .ref r_registers, .ref r_slotCells, .ref r_passed, .int 0]))] := hD
  have hP9 := hP.sub (ws' := [(rm, .inr (6, [.ref r_memory, .ref r_funcs, .ref r_nexts, .int 0, .int 0, .int 0, .int 0, .int 0, .ref t_code, .ref r_registers, .ref r_slotCells, .ref r_passed, .int 0]))]) [0] rfl
  have hD9 := hD.sub (ws' := [(rm, .inr (6, [.ref r_memory, .ref r_funcs, .ref r_nexts, .int 0, .int 0, .int 0, .int 0, .int 0, .ref t_code, .ref r_registers, .ref r_slotCells, .ref r_passed, .int 0]))]) [0] (by decide) rfl
  exact W.vret hx hb hr (fun t ht hW => ⟨⟨(), rfl, trivial, pz_Bof hP9 hK hD9 ht hW⟩, hS.F ht⟩) hS.2.2 dX4_begin_25

def wq_X4_tell_X7 : List Cond := .code yX4_tell cX4_tell 2 (some .int) :: ([.fieldLink RX4 21 "RegisterMill$Machine" "end" "I", .fieldLink RX4 25 "RegisterMill$Machine" "told" "I", .fieldLink RX4 28 "RegisterMill$Machine" "steps" "I", .fieldLink RX4 31 "RegisterMill$Machine" "calls" "I", .fieldLink RX4 34 "RegisterMill$Machine" "nested" "I"] ++ wsX70)
set_option maxHeartbeats 4000000 in
set_option maxRecDepth 100000 in
/-- tell on a fresh machine -/
theorem c_X4_tell_X7 (l : Launch) (dC : Nat → ClassId) (dI : Nat → Nat → Nat) (cyI : ClassId) (sz : Nat) (rm : Nat) (r_memory : Nat) (r_funcs : Nat) (r_nexts : Nat) (t_code : Nat) (r_registers : Nat) (r_slotCells : Nat) (r_passed : Nat) (p0 : Int32) : Met l yX4_tell wq_X4_tell_X7 ({ frames := 0, cells := 0, slots := 0, locals := 0 }) (va_Pc [.ref rm, .int p0] (pz_pre dC dI [(cyI, .int)] [(rm, .inr (6, [.ref r_memory, .ref r_funcs, .ref r_nexts, .int 0, .int 0, .int 0, .int 0, .int 0, .ref t_code, .ref r_registers, .ref r_slotCells, .ref r_passed, .int 0]))] sz)) (va_Qi (S := Unit) (fun (r : Int32) _ => r = fz_tell p0) (fun _ t => pz_B dC dI [(cyI, .int)] (va_A [(rm, .inr (6, [.ref r_memory, .ref r_funcs, .ref r_nexts, .int 0, .int 0, .int 0, .int 0, .int 0, .ref t_code, .ref r_registers, .ref r_slotCells, .ref r_passed, .int 0]))] sz) [(rm, .inr (6, [.ref r_memory, .ref r_funcs, .ref r_nexts, .int 0, .int 0, .int 0, .int 0, .int 0, .ref t_code, .ref r_registers, .ref r_slotCells, .ref r_passed, .int 0]))] t) (va_A [(rm, .inr (6, [.ref r_memory, .ref r_funcs, .ref r_nexts, .int 0, .int 0, .int 0, .int 0, .int 0, .ref t_code, .ref r_registers, .ref r_slotCells, .ref r_passed, .int 0]))] sz)) 0 0 (va_A [(rm, .inr (6, [.ref r_memory, .ref r_funcs, .ref r_nexts, .int 0, .int 0, .int 0, .int 0, .int 0, .ref t_code, .ref r_registers, .ref r_slotCells, .ref r_passed, .int 0]))] sz) := by
  refine Met.ofW (cc := cX4_tell) (maxL := 2) (ret := (some .int)) (by decide) rfl ?_
  intro p e s m args below meth c s₁ B hml hv
  obtain ⟨rfl, hsz, hP, hK, hD0, hNW⟩ := hv
  have hx := B.exec
  have hb := B.bytes
  have hr := B.returns
  have hts := atoms_spec (ws := wq_X4_tell_X7) B.pre
  have hown : s.vm.findClass RX4 = some m.cls := findClass_of_methodNamed B.named
  have hlocks := B.notSynchronized
  have hiX7 : ∀ w ∈ wsX70, w ∈ wq_X4_tell_X7 := by decide +kernel
  subst hsz
  have hD := hD0.self (sz := s.heap.size)
  generalize hAe : va_A [(rm, .inr (6, [.ref r_memory, .ref r_funcs, .ref r_nexts, .int 0, .int 0, .int 0, .int 0, .int 0, .ref t_code, .ref r_registers, .ref r_slotCells, .ref r_passed, .int 0]))] s.heap.size = A at hD ⊢
  have hA : ∀ q : Nat, s.heap.size ≤ q → A q := fun q h => by rw [← hAe]; exact Or.inr h
  have hS : va_S A s.heap s.heap [] := va_S.rf
  have hl := lv_entry ([.ref rm, .int p0]) (n := 2) (Nat.le_of_ble_eq_true rfl)
  rw [lg_entry_eq]
  generalize (lg_sl ([.ref rm, .int p0]) ++ List.replicate (2 - (lg_sl ([.ref rm, .int p0])).length) Slot.unset).toArray = ls at hl ⊢
  have hl : lv_has ls 2 [(0, .ref rm), (1, .int p0)] := hl
  refine lv_iload_n hx hb dX4_tell_0 rfl (lv_at hl 1 rfl) ?_
  rcases pz_sw4 p0 with w_1 | w_1 | w_1 | w_1 | w_1 | w_1
  · refine lv_tableIn (off := 35) (tgt := 36) hx hb dX4_tell_1 (by rw [w_1]; decide) (by rw [w_1]; decide) (by rw [w_1]; rfl) (by decide) ?_
    refine lv_aload_n hx hb dX4_tell_36 rfl (lv_at hl 0 rfl) ?_
    refine va_get (D := (dC, dI)) (ci := 6) (v := .int 0) (C := RX7) (T := TX7) (N := 13) hx hb hts hiX7 hown hK hP 0 rfl rfl 3 (by decide) (hts (.fieldLink RX4 21 "RegisterMill$Machine" "end" "I") (by decide +kernel)) (fun _ h9 => h9) rfl dX4_tell_37 ?_
    have hP9 := hP.sub (ws' := [(rm, .inr (6, [.ref r_memory, .ref r_funcs, .ref r_nexts, .int 0, .int 0, .int 0, .int 0, .int 0, .ref t_code, .ref r_registers, .ref r_slotCells, .ref r_passed, .int 0]))]) [0] rfl
    have hD9 := hD.sub (ws' := [(rm, .inr (6, [.ref r_memory, .ref r_funcs, .ref r_nexts, .int 0, .int 0, .int 0, .int 0, .int 0, .ref t_code, .ref r_registers, .ref r_slotCells, .ref r_passed, .int 0]))]) [0] (by decide) rfl
    have h9 : (0 : Int32) = fz_tell p0 := by simp [fz_tell, w_1]
    exact W.iret (v := (0)) hx hb hr (fun t ht hW => ⟨⟨_, (), rfl, h9, pz_Bof hP9 hK hD9 ht hW⟩, hS.F ht⟩) hS.2.2 dX4_tell_40
  · refine lv_tableIn (off := 40) (tgt := 41) hx hb dX4_tell_1 (by rw [w_1]; decide) (by rw [w_1]; decide) (by rw [w_1]; rfl) (by decide) ?_
    refine lv_aload_n hx hb dX4_tell_41 rfl (lv_at hl 0 rfl) ?_
    refine va_get (D := (dC, dI)) (ci := 6) (v := .int 0) (C := RX7) (T := TX7) (N := 13) hx hb hts hiX7 hown hK hP 0 rfl rfl 4 (by decide) (hts (.fieldLink RX4 25 "RegisterMill$Machine" "told" "I") (by decide +kernel)) (fun _ h9 => h9) rfl dX4_tell_42 ?_
    have hP9 := hP.sub (ws' := [(rm, .inr (6, [.ref r_memory, .ref r_funcs, .ref r_nexts, .int 0, .int 0, .int 0, .int 0, .int 0, .ref t_code, .ref r_registers, .ref r_slotCells, .ref r_passed, .int 0]))]) [0] rfl
    have hD9 := hD.sub (ws' := [(rm, .inr (6, [.ref r_memory, .ref r_funcs, .ref r_nexts, .int 0, .int 0, .int 0, .int 0, .int 0, .ref t_code, .ref r_registers, .ref r_slotCells, .ref r_passed, .int 0]))]) [0] (by decide) rfl
    have h9 : (0 : Int32) = fz_tell p0 := by simp [fz_tell, w_1]
    exact W.iret (v := (0)) hx hb hr (fun t ht hW => ⟨⟨_, (), rfl, h9, pz_Bof hP9 hK hD9 ht hW⟩, hS.F ht⟩) hS.2.2 dX4_tell_45
  · refine lv_tableIn (off := 45) (tgt := 46) hx hb dX4_tell_1 (by rw [w_1]; decide) (by rw [w_1]; decide) (by rw [w_1]; rfl) (by decide) ?_
    refine lv_aload_n hx hb dX4_tell_46 rfl (lv_at hl 0 rfl) ?_
    refine va_get (D := (dC, dI)) (ci := 6) (v := .int 0) (C := RX7) (T := TX7) (N := 13) hx hb hts hiX7 hown hK hP 0 rfl rfl 5 (by decide) (hts (.fieldLink RX4 28 "RegisterMill$Machine" "steps" "I") (by decide +kernel)) (fun _ h9 => h9) rfl dX4_tell_47 ?_
    have hP9 := hP.sub (ws' := [(rm, .inr (6, [.ref r_memory, .ref r_funcs, .ref r_nexts, .int 0, .int 0, .int 0, .int 0, .int 0, .ref t_code, .ref r_registers, .ref r_slotCells, .ref r_passed, .int 0]))]) [0] rfl
    have hD9 := hD.sub (ws' := [(rm, .inr (6, [.ref r_memory, .ref r_funcs, .ref r_nexts, .int 0, .int 0, .int 0, .int 0, .int 0, .ref t_code, .ref r_registers, .ref r_slotCells, .ref r_passed, .int 0]))]) [0] (by decide) rfl
    have h9 : (0 : Int32) = fz_tell p0 := by simp [fz_tell, w_1]
    exact W.iret (v := (0)) hx hb hr (fun t ht hW => ⟨⟨_, (), rfl, h9, pz_Bof hP9 hK hD9 ht hW⟩, hS.F ht⟩) hS.2.2 dX4_tell_50
  · refine lv_tableIn (off := 50) (tgt := 51) hx hb dX4_tell_1 (by rw [w_1]; decide) (by rw [w_1]; decide) (by rw [w_1]; rfl) (by decide) ?_
    refine lv_aload_n hx hb dX4_tell_51 rfl (lv_at hl 0 rfl) ?_
    refine va_get (D := (dC, dI)) (ci := 6) (v := .int 0) (C := RX7) (T := TX7) (N := 13) hx hb hts hiX7 hown hK hP 0 rfl rfl 6 (by decide) (hts (.fieldLink RX4 31 "RegisterMill$Machine" "calls" "I") (by decide +kernel)) (fun _ h9 => h9) rfl dX4_tell_52 ?_
    have hP9 := hP.sub (ws' := [(rm, .inr (6, [.ref r_memory, .ref r_funcs, .ref r_nexts, .int 0, .int 0, .int 0, .int 0, .int 0, .ref t_code, .ref r_registers, .ref r_slotCells, .ref r_passed, .int 0]))]) [0] rfl
    have hD9 := hD.sub (ws' := [(rm, .inr (6, [.ref r_memory, .ref r_funcs, .ref r_nexts, .int 0, .int 0, .int 0, .int 0, .int 0, .ref t_code, .ref r_registers, .ref r_slotCells, .ref r_passed, .int 0]))]) [0] (by decide) rfl
    have h9 : (0 : Int32) = fz_tell p0 := by simp [fz_tell, w_1]
    exact W.iret (v := (0)) hx hb hr (fun t ht hW => ⟨⟨_, (), rfl, h9, pz_Bof hP9 hK hD9 ht hW⟩, hS.F ht⟩) hS.2.2 dX4_tell_55
  · refine lv_tableIn (off := 55) (tgt := 56) hx hb dX4_tell_1 (by rw [w_1]; decide) (by rw [w_1]; decide) (by rw [w_1]; rfl) (by decide) ?_
    refine lv_aload_n hx hb dX4_tell_56 rfl (lv_at hl 0 rfl) ?_
    refine va_get (D := (dC, dI)) (ci := 6) (v := .int 0) (C := RX7) (T := TX7) (N := 13) hx hb hts hiX7 hown hK hP 0 rfl rfl 7 (by decide) (hts (.fieldLink RX4 34 "RegisterMill$Machine" "nested" "I") (by decide +kernel)) (fun _ h9 => h9) rfl dX4_tell_57 ?_
    have hP9 := hP.sub (ws' := [(rm, .inr (6, [.ref r_memory, .ref r_funcs, .ref r_nexts, .int 0, .int 0, .int 0, .int 0, .int 0, .ref t_code, .ref r_registers, .ref r_slotCells, .ref r_passed, .int 0]))]) [0] rfl
    have hD9 := hD.sub (ws' := [(rm, .inr (6, [.ref r_memory, .ref r_funcs, .ref r_nexts, .int 0, .int 0, .int 0, .int 0, .int 0, .ref t_code, .ref r_registers, .ref r_slotCells, .ref r_passed, .int 0]))]) [0] (by decide) rfl
    have h9 : (0 : Int32) = fz_tell p0 := by simp [fz_tell, w_1]
    exact W.iret (v := (0)) hx hb hr (fun t ht hW => ⟨⟨_, (), rfl, h9, pz_Bof hP9 hK hD9 ht hW⟩, hS.F ht⟩) hS.2.2 dX4_tell_60
  · refine lv_tableOut (tgt := 61) hx hb dX4_tell_1 w_1.1 (by decide) ?_
    refine lv_iconst (v := -1) hx hb dX4_tell_61 (by decide) ?_
    have hP9 := hP.sub (ws' := [(rm, .inr (6, [.ref r_memory, .ref r_funcs, .ref r_nexts, .int 0, .int 0, .int 0, .int 0, .int 0, .ref t_code, .ref r_registers, .ref r_slotCells, .ref r_passed, .int 0]))]) [0] rfl
    have hD9 := hD.sub (ws' := [(rm, .inr (6, [.ref r_memory, .ref r_funcs, .ref r_nexts, .int 0, .int 0, .int 0, .int 0, .int 0, .ref t_code, .ref r_registers, .ref r_slotCells, .ref r_passed, .int 0]))]) [0] (by decide) rfl
    have h9 : (-1 : Int32) = fz_tell p0 := by simp [fz_tell, w_1.2]
    exact W.iret (v := (-1)) hx hb hr (fun t ht hW => ⟨⟨_, (), rfl, h9, pz_Bof hP9 hK hD9 ht hW⟩, hS.F ht⟩) hS.2.2 dX4_tell_62

def wq_X8_begin : List Cond := .code yX8_begin cX8_begin 1 none :: ([.code yX4_begin cX4_begin 1 none, .fieldLink RX4 21 "RegisterMill$Machine" "end" "I", .fieldLink RX4 25 "RegisterMill$Machine" "told" "I", .fieldLink RX4 28 "RegisterMill$Machine" "steps" "I", .fieldLink RX4 31 "RegisterMill$Machine" "calls" "I", .fieldLink RX4 34 "RegisterMill$Machine" "nested" "I", .methodLink RX8 25 yX4_begin, .sameMethod "RegisterMill$Machine" "RegisterMill$Machine" "begin" "()V", .superclass RX8 RX4, .instanceMethod yX4_begin, .initialized RX4, .fieldLink RX8 28 "RegisterMill$StackMachine" "top" "I"] ++ wsX80)
set_option maxRecDepth 20000 in
theorem gq_X8_begin_X4_begin_25 : GoodIn wq_X8_begin (va_wsSU RX8 25 yX4_begin wq_X4_begin_X8) := goodIn_r _ [7, 8, 9, 10, 11, 1, 2, 3, 4, 5, 6, 13, 14, 15, 16, 17, 18, 19, 20, 21, 22, 23, 24, 25] (by decide +kernel) (by decide +kernel)
set_option maxHeartbeats 4000000 in
set_option maxRecDepth 100000 in
/-- StackMachine.begin -/
theorem c_X8_begin (l : Launch) (dC : Nat → ClassId) (dI : Nat → Nat → Nat) (cyI : ClassId) (sz : Nat) (sm : Nat) (s_memory : Nat) (s_funcs : Nat) (s_nexts : Nat) (pr : Nat) (s_locals : Nat) (s_stack : Nat) (s_bottoms : Nat) : Met l yX8_begin wq_X8_begin ({ frames := 1, cells := 0, slots := 0, locals := 20 }) (va_Pc [.ref sm] (pz_pre dC dI [(cyI, .int)] [(sm, .inr (7, [.ref s_memory, .ref s_funcs, .ref s_nexts, .int 0, .int 0, .int 0, .int 0, .int 0, .ref pr, .ref s_locals, .ref s_stack, .ref s_bottoms, .int 0]))] sz)) (va_Qv (S := Unit) (fun _ => True) (fun _ t => pz_B dC dI [(cyI, .int)] (va_A [(sm, .inr (7, [.ref s_memory, .ref s_funcs, .ref s_nexts, .int 0, .int 0, .int 0, .int 0, .int 0, .ref pr, .ref s_locals, .ref s_stack, .ref s_bottoms, .int 0]))] sz) [(sm, .inr (7, [.ref s_memory, .ref s_funcs, .ref s_nexts, .int 0, .int 0, .int 0, .int 0, .int 0, .ref pr, .ref s_locals, .ref s_stack, .ref s_bottoms, .int 0]))] t) (va_A [(sm, .inr (7, [.ref s_memory, .ref s_funcs, .ref s_nexts, .int 0, .int 0, .int 0, .int 0, .int 0, .ref pr, .ref s_locals, .ref s_stack, .ref s_bottoms, .int 0]))] sz)) 0 0 (va_A [(sm, .inr (7, [.ref s_memory, .ref s_funcs, .ref s_nexts, .int 0, .int 0, .int 0, .int 0, .int 0, .ref pr, .ref s_locals, .ref s_stack, .ref s_bottoms, .int 0]))] sz) := by
  refine Met.ofW (cc := cX8_begin) (maxL := 1) (ret := none) (by decide) rfl ?_
  intro p e s m args below meth c s₁ B hml hv
  obtain ⟨rfl, hsz, hP, hK, hD0, hNW⟩ := hv
  have hx := B.exec
  have hb := B.bytes
  have hr := B.returns
  have hts := atoms_spec (ws := wq_X8_begin) B.pre
  have hown : s.vm.findClass RX8 = some m.cls := findClass_of_methodNamed B.named
  have hlocks := B.notSynchronized
  have hiX8 : ∀ w ∈ wsX80, w ∈ wq_X8_begin := by decide +kernel
  subst hsz
  have hD := hD0.self (sz := s.heap.size)
  generalize hAe : va_A [(sm, .inr (7, [.ref s_memory, .ref s_funcs, .ref s_nexts, .int 0, .int 0, .int 0, .int 0, .int 0, .ref pr, .ref s_locals, .ref s_stack, .ref s_bottoms, .int 0]))] s.heap.size = A at hD ⊢
  have hA : ∀ q : Nat, s.heap.size ≤ q → A q := fun q h => by rw [← hAe]; exact Or.inr h
  have hS : va_S A s.heap s.heap [] := va_S.rf
  have hl := lv_entry ([.ref sm]) (n := 1) (Nat.le_of_ble_eq_true rfl)
  rw [lg_entry_eq]
  generalize (lg_sl ([.ref sm]) ++ List.replicate (1 - (lg_sl ([.ref sm])).length) Slot.unset).toArray = ls at hl ⊢
  have hl : lv_has ls 1 [(0, .ref sm)] := hl
  refine lv_aload_n hx hb dX8_begin_0 rfl (lv_at hl 0 rfl) ?_
  have hPc := hP.sub (ws' := [(sm, .inr (7, [.ref s_memory, .ref s_funcs, .ref s_nexts, .int 0, .int 0, .int 0, .int 0, .int 0, .ref pr, .ref s_locals, .ref s_stack, .ref s_bottoms, .int 0]))]) [0] rfl
  have hDc := hD.sub (ws' := [(sm, .inr (7, [.ref s_memory, .ref s_funcs, .ref s_nexts, .int 0, .int 0, .int 0, .int 0, .int 0, .ref pr, .ref s_locals, .ref s_stack, .ref s_bottoms, .int 0]))]) [0] (by decide) rfl
  have hKc := hK.sub (tys' := [(cyI, .int)]) [0] rfl
  have hFc := va_free (wc := [(sm, .inr (7, [.ref s_memory, .ref s_funcs, .ref s_nexts, .int 0, .int 0, .int 0, .int 0, .int 0, .ref pr, .ref s_locals, .ref s_stack, .ref s_bottoms, .int 0]))]) hD hS hA [0] rfl
  refine va_callv (va_runSU (C := RX8) (hK.1 7 _ rfl).2 (As := []) (rest := []) ⟨hx, hb, hml, hown, hts⟩ (c_X4_begin_X8 l dC dI cyI s.heap.size sm s_memory s_funcs s_nexts pr s_locals s_stack s_bottoms) (va_cwSU 0 hts gq_X8_begin_X4_begin_25 rfl rfl rfl (by decide +kernel) ⟨Nat.le_of_ble_eq_true rfl, Nat.le_of_ble_eq_true rfl⟩) ⟨pz_blind, va_recv hKc hPc (ci := 7) (q0 := 0) rfl rfl, pz_to hPc hKc hDc hNW⟩ rfl rfl hl.1 rfl (lv_room (Nat.le_of_ble_eq_true rfl)) dX8_begin_1 (by decide)) hS (fun q _ h => hFc q h) hFc (fun u t H1 locs ht hvm hw hB hz1 hk1 hS => ?_)
  obtain ⟨hP1, hK1, hD1⟩ := hB
  rw [ht] at hP1
  obtain ⟨hP, hD⟩ := va_join (wr := []) (w1 := [(sm, .inr (7, [.ref s_memory, .ref s_funcs, .ref s_nexts, .int 0, .int 0, .int 0, .int 0, .int 0, .ref pr, .ref s_locals, .ref s_stack, .ref s_bottoms, .int 0]))]) hP hD [0] [] rfl rfl (by decide) (by decide) hk1 hFc hP1 hD1
  generalize H1 = H at hP hS ⊢
  have hP : va_P (dC, dI) vwCl [(sm, .inr (7, [.ref s_memory, .ref s_funcs, .ref s_nexts, .int 0, .int 0, .int 0, .int 0, .int 0, .ref pr, .ref s_locals, .ref s_stack, .ref s_bottoms, .int 0]))] H := hP
  have hD : va_D A [(sm, .inr (7, [.ref s_memory, .ref s_funcs, .ref s_nexts, .int 0, .int 0, .int 0, .int 0, .int 0, .ref pr, .ref s_locals, .ref s_stack, .ref s_bottoms, .int 0]))] := hD
  refine lv_aload_n hx hb dX8_begin_4 rfl (lv_at hl 0 rfl) ?_
  refine lv_iconst (v := 0) hx hb dX8_begin_5 (by decide) ?_
  refine va_put (D := (dC, dI)) (ci := 7) (v := .int 0) (ty := .int) (C := RX8) (T := TX8) (N := 13) hx hb hts hiX8 tyX8 tyX8_ok nmX8 hown hK hP hD hS 0 rfl rfl 12 (by decide) (hts (.fieldLink RX8 28 "RegisterMill$StackMachine" "top" "I") (by decide +kernel)) (fun _ h9 => h9) rfl (by decide +kernel) rfl rfl (Nat.le_of_ble_eq_true rfl) dX8_begin_6 (fun H locs hP hD hS => ?_)
  have hP : va_P (dC, dI) vwCl [(sm, .inr (7, [.ref s_memory, .ref s_funcs, .ref s_nexts, .int 0, .int 0, .int 0, .int 0, .int 0, .ref pr, .ref s_locals, .ref s_stack, .ref s_bottoms, .int 0]))] H := hP
  have hD : va_D A [(sm, .inr (7, [.ref s_memory, .ref s_funcs, .ref s_nexts, .int 0, .int 0, .int 0, .int 0, .int 0, .ref pr, .ref s_locals, .ref s_stack, .ref s_bottoms, .int 0]))] := hD
  have hP9 := hP.sub (ws' := [(sm, .inr (7, [.ref s_memory, .ref s_funcs, .ref s_nexts, .int 0, .int 0, .int 0, .int 0, .int 0, .ref pr, .ref s_locals, .ref s_stack, .ref s_bottoms, .int 0]))]) [0] rfl
  have hD9 := hD.sub (ws' := [(sm, .inr (7, [.ref s_memory, .ref s_funcs, .ref s_nexts, .int 0, .int 0, .int 0, .int 0, .int 0, .ref pr, .ref s_locals, .ref s_stack, .ref s_bottoms, .int 0]))]) [0] (by decide) rfl
  exact W.vret hx hb hr (fun t ht hW => ⟨⟨(), rfl, trivial, pz_Bof hP9 hK hD9 ht hW⟩, hS.F ht⟩) hS.2.2 dX8_begin_9

def wq_X7_begin : List Cond := .code yX7_begin cX7_begin 1 none :: ([.code yX4_begin cX4_begin 1 none, .fieldLink RX4 21 "RegisterMill$Machine" "end" "I", .fieldLink RX4 25 "RegisterMill$Machine" "told" "I", .fieldLink RX4 28 "RegisterMill$Machine" "steps" "I", .fieldLink RX4 31 "RegisterMill$Machine" "calls" "I", .fieldLink RX4 34 "RegisterMill$Machine" "nested" "I", .methodLink RX7 25 yX4_begin, .sameMethod "RegisterMill$Machine" "RegisterMill$Machine" "begin" "()V", .superclass RX7 RX4, .instanceMethod yX4_begin, .initialized RX4, .fieldLink RX7 28 "RegisterMill$RegisterMachine" "answered" "I", .fieldLink RX7 18 "RegisterMill$RegisterMachine" "passed" "[I", .code yJ7_fill_53178 cJ7_fill_53178 4 none, .methodLink RX7 32 yJ7_fill_53178, .static yJ7_fill_53178, .initialized RJ7] ++ wsX70)
set_option maxRecDepth 20000 in
theorem gq_X7_begin_X4_begin_25 : GoodIn wq_X7_begin (va_wsSU RX7 25 yX4_begin wq_X4_begin_X7) := goodIn_r _ [7, 8, 9, 10, 11, 1, 2, 3, 4, 5, 6, 18, 19, 20, 21, 22, 23, 24, 25, 26, 27, 28, 29, 30] (by decide +kernel) (by decide +kernel)
set_option maxRecDepth 20000 in
theorem gq_X7_begin_J7_fill_53178_32 : GoodIn wq_X7_begin (va_wsS RX7 32 yJ7_fill_53178 wq_J7_fill_53178_6) := goodIn_r _ [15, 16, 17, 14] (by decide +kernel) (by decide +kernel)
set_option maxHeartbeats 4000000 in
set_option maxRecDepth 100000 in
/-- RegisterMachine.begin -/
theorem c_X7_begin (l : Launch) (dC : Nat → ClassId) (dI : Nat → Nat → Nat) (cyI : ClassId) (sz : Nat) (rm : Nat) (r_memory : Nat) (r_funcs : Nat) (r_nexts : Nat) (t_code : Nat) (r_registers : Nat) (r_slotCells : Nat) (r_passed : Nat) : Met l yX7_begin wq_X7_begin ({ frames := 1, cells := 0, slots := 0, locals := 23 }) (va_Pc [.ref rm] (pz_pre dC dI [(cyI, .int)] [(rm, .inr (6, [.ref r_memory, .ref r_funcs, .ref r_nexts, .int 0, .int 0, .int 0, .int 0, .int 0, .ref t_code, .ref r_registers, .ref r_slotCells, .ref r_passed, .int 0])), (r_passed, .inl (cyI, 6, .inl (fun _ => 0)))] sz)) (va_Qv (S := Unit) (fun _ => True) (fun _ t => pz_B dC dI [(cyI, .int)] (va_A [(rm, .inr (6, [.ref r_memory, .ref r_funcs, .ref r_nexts, .int 0, .int 0, .int 0, .int 0, .int 0, .ref t_code, .ref r_registers, .ref r_slotCells, .ref r_passed, .int 0])), (r_passed, .inl (cyI, 6, .inl (fun _ => 0)))] sz) [(rm, .inr (6, [.ref r_memory, .ref r_funcs, .ref r_nexts, .int 0, .int 0, .int 0, .int 0, .int 0, .ref t_code, .ref r_registers, .ref r_slotCells, .ref r_passed, .int 0])), (r_passed, .inl (cyI, 6, .inl (fun _ => 0)))] t) (va_A [(rm, .inr (6, [.ref r_memory, .ref r_funcs, .ref r_nexts, .int 0, .int 0, .int 0, .int 0, .int 0, .ref t_code, .ref r_registers, .ref r_slotCells, .ref r_passed, .int 0])), (r_passed, .inl (cyI, 6, .inl (fun _ => 0)))] sz)) 0 0 (va_A [(rm, .inr (6, [.ref r_memory, .ref r_funcs, .ref r_nexts, .int 0, .int 0, .int 0, .int 0, .int 0, .ref t_code, .ref r_registers, .ref r_slotCells, .ref r_passed, .int 0])), (r_passed, .inl (cyI, 6, .inl (fun _ => 0)))] sz) := by
  refine Met.ofW (cc := cX7_begin) (maxL := 1) (ret := none) (by decide) rfl ?_
  intro p e s m args below meth c s₁ B hml hv
  obtain ⟨rfl, hsz, hP, hK, hD0, hNW⟩ := hv
  have hx := B.exec
  have hb := B.bytes
  have hr := B.returns
  have hts := atoms_spec (ws := wq_X7_begin) B.pre
  have hown : s.vm.findClass RX7 = some m.cls := findClass_of_methodNamed B.named
  have hlocks := B.notSynchronized
  have hiX7 : ∀ w ∈ wsX70, w ∈ wq_X7_begin := by decide +kernel
  subst hsz
  have hD := hD0.self (sz := s.heap.size)
  generalize hAe : va_A [(rm, .inr (6, [.ref r_memory, .ref r_funcs, .ref r_nexts, .int 0, .int 0, .int 0, .int 0, .int 0, .ref t_code, .ref r_registers, .ref r_slotCells, .ref r_passed, .int 0])), (r_passed, .inl (cyI, 6, .inl (fun _ => 0)))] s.heap.size = A at hD ⊢
  have hA : ∀ q : Nat, s.heap.size ≤ q → A q := fun q h => by rw [← hAe]; exact Or.inr h
  have hS : va_S A s.heap s.heap [] := va_S.rf
  have hl := lv_entry ([.ref rm]) (n := 1) (Nat.le_of_ble_eq_true rfl)
  rw [lg_entry_eq]
  generalize (lg_sl ([.ref rm]) ++ List.replicate (1 - (lg_sl ([.ref rm])).length) Slot.unset).toArray = ls at hl ⊢
  have hl : lv_has ls 1 [(0, .ref rm)] := hl
  refine lv_aload_n hx hb dX7_begin_0 rfl (lv_at hl 0 rfl) ?_
  have hPc := hP.sub (ws' := [(rm, .inr (6, [.ref r_memory, .ref r_funcs, .ref r_nexts, .int 0, .int 0, .int 0, .int 0, .int 0, .ref t_code, .ref r_registers, .ref r_slotCells, .ref r_passed, .int 0]))]) [0] rfl
  have hDc := hD.sub (ws' := [(rm, .inr (6, [.ref r_memory, .ref r_funcs, .ref r_nexts, .int 0, .int 0, .int 0, .int 0, .int 0, .ref t_code, .ref r_registers, .ref r_slotCells, .ref r_passed, .int 0]))]) [0] (by decide) rfl
  have hKc := hK.sub (tys' := [(cyI, .int)]) [0] rfl
  have hFc := va_free (wc := [(rm, .inr (6, [.ref r_memory, .ref r_funcs, .ref r_nexts, .int 0, .int 0, .int 0, .int 0, .int 0, .ref t_code, .ref r_registers, .ref r_slotCells, .ref r_passed, .int 0]))]) hD hS hA [0] rfl
  refine va_callv (va_runSU (C := RX7) (hK.1 6 _ rfl).2 (As := []) (rest := []) ⟨hx, hb, hml, hown, hts⟩ (c_X4_begin_X7 l dC dI cyI s.heap.size rm r_memory r_funcs r_nexts t_code r_registers r_slotCells r_passed) (va_cwSU 0 hts gq_X7_begin_X4_begin_25 rfl rfl rfl (by decide +kernel) ⟨Nat.le_of_ble_eq_true rfl, Nat.le_of_ble_eq_true rfl⟩) ⟨pz_blind, va_recv hKc hPc (ci := 6) (q0 := 0) rfl rfl, pz_to hPc hKc hDc hNW⟩ rfl rfl hl.1 rfl (lv_room (Nat.le_of_ble_eq_true rfl)) dX7_begin_1 (by decide)) hS (fun q _ h => hFc q h) hFc (fun u t H1 locs ht hvm hw hB hz1 hk1 hS => ?_)
  obtain ⟨hP1, hK1, hD1⟩ := hB
  rw [ht] at hP1
  obtain ⟨hP, hD⟩ := va_join (wr := [(r_passed, .inl (cyI, 6, .inl (fun _ => 0)))]) (w1 := [(rm, .inr (6, [.ref r_memory, .ref r_funcs, .ref r_nexts, .int 0, .int 0, .int 0, .int 0, .int 0, .ref t_code, .ref r_registers, .ref r_slotCells, .ref r_passed, .int 0]))]) hP hD [0] [1] rfl rfl (by decide) (by decide) hk1 hFc hP1 hD1
  generalize H1 = H at hP hS ⊢
  have hP : va_P (dC, dI) vwCl [(r_passed, .inl (cyI, 6, .inl (fun _ => 0))), (rm, .inr (6, [.ref r_memory, .ref r_funcs, .ref r_nexts, .int 0, .int 0, .int 0, .int 0, .int 0, .ref t_code, .ref r_registers, .ref r_slotCells, .ref r_passed, .int 0]))] H := hP
  have hD : va_D A [(r_passed, .inl (cyI, 6, .inl (fun _ => 0))), (rm, .inr (6, [.ref r_memory, .ref r_funcs, .ref r_nexts, .int 0, .int 0, .int 0, .int 0, .int 0, .ref t_code, .ref r_registers, .ref r_slotCells, .ref r_passed, .int 0]))] := hD
  refine lv_aload_n hx hb dX7_begin_4 rfl (lv_at hl 0 rfl) ?_
  refine lv_iconst (v := 0) hx hb dX7_begin_5 (by decide) ?_
  refine va_put (D := (dC, dI)) (ci := 6) (v := .int 0) (ty := .int) (C := RX7) (T := TX7) (N := 13) hx hb hts hiX7 tyX7 tyX7_ok nmX7 hown hK hP hD hS 1 rfl rfl 12 (by decide) (hts (.fieldLink RX7 28 "RegisterMill$RegisterMachine" "answered" "I") (by decide +kernel)) (fun _ h9 => h9) rfl (by decide +kernel) rfl rfl (Nat.le_of_ble_eq_true rfl) dX7_begin_6 (fun H locs hP hD hS => ?_)
  have hP : va_P (dC, dI) vwCl [(r_passed, .inl (cyI, 6, .inl (fun _ => 0))), (rm, .inr (6, [.ref r_memory, .ref r_funcs, .ref r_nexts, .int 0, .int 0, .int 0, .int 0, .int 0, .ref t_code, .ref r_registers, .ref r_slotCells, .ref r_passed, .int 0]))] H := hP
  have hD : va_D A [(r_passed, .inl (cyI, 6, .inl (fun _ => 0))), (rm, .inr (6, [.ref r_memory, .ref r_funcs, .ref r_nexts, .int 0, .int 0, .int 0, .int 0, .int 0, .ref t_code, .ref r_registers, .ref r_slotCells, .ref r_passed, .int 0]))] := hD
  refine lv_aload_n hx hb dX7_begin_9 rfl (lv_at hl 0 rfl) ?_
  refine va_get (D := (dC, dI)) (ci := 6) (v := .ref r_passed) (C := RX7) (T := TX7) (N := 13) hx hb hts hiX7 hown hK hP 1 rfl rfl 11 (by decide) (hts (.fieldLink RX7 18 "RegisterMill$RegisterMachine" "passed" "[I") (by decide +kernel)) (fun _ h9 => h9) rfl dX7_begin_10 ?_
  refine lv_iconst (v := 0) hx hb dX7_begin_13 (by decide) ?_
  have hPc := hP.sub (ws' := [(r_passed, .inl (cyI, 6, .inl (fun _ => 0)))]) [0] rfl
  have hDc := hD.sub (ws' := [(r_passed, .inl (cyI, 6, .inl (fun _ => 0)))]) [0] (by decide) rfl
  have hKc := hK.sub (tys' := [(cyI, .int)]) [0] rfl
  have hFc := va_free (wc := [(r_passed, .inl (cyI, 6, .inl (fun _ => 0)))]) hD hS hA [0] rfl
  refine va_callv (va_runS (As := [.ref r_passed, .int 0]) (rest := []) ⟨hx, hb, hml, hown, hts⟩ (c_J7_fill_53178_6 l dC dI cyI H.size r_passed) (va_cwS 2 hts gq_X7_begin_J7_fill_53178_32 rfl rfl rfl (by decide +kernel) ⟨Nat.le_of_ble_eq_true rfl, Nat.le_of_ble_eq_true rfl⟩) ⟨pz_blind, pz_to hPc hKc hDc hNW⟩ rfl rfl hl.1 rfl (lv_room (Nat.le_of_ble_eq_true rfl)) dX7_begin_14 (by decide)) hS (fun q _ h => hFc q h) hFc (fun u t H1 locs ht hvm hw hB hz1 hk1 hS => ?_)
  obtain ⟨hP1, hK1, hD1⟩ := hB
  rw [ht] at hP1
  obtain ⟨hP, hD⟩ := va_join (wr := [(rm, .inr (6, [.ref r_memory, .ref r_funcs, .ref r_nexts, .int 0, .int 0, .int 0, .int 0, .int 0, .ref t_code, .ref r_registers, .ref r_slotCells, .ref r_passed, .int 0]))]) (w1 := [(r_passed, .inl (cyI, 6, .inl (fun _ => 0)))]) hP hD [0] [1] rfl rfl (by decide) (by decide) hk1 hFc hP1 hD1
  generalize H1 = H at hP hS ⊢
  have hP : va_P (dC, dI) vwCl [(rm, .inr (6, [.ref r_memory, .ref r_funcs, .ref r_nexts, .int 0, .int 0, .int 0, .int 0, .int 0, .ref t_code, .ref r_registers, .ref r_slotCells, .ref r_passed, .int 0])), (r_passed, .inl (cyI, 6, .inl (fun _ => 0)))] H := hP
  have hD : va_D A [(rm, .inr (6, [.ref r_memory, .ref r_funcs, .ref r_nexts, .int 0, .int 0, .int 0, .int 0, .int 0, .ref t_code, .ref r_registers, .ref r_slotCells, .ref r_passed, .int 0])), (r_passed, .inl (cyI, 6, .inl (fun _ => 0)))] := hD
  have hP9 := hP.sub (ws' := [(rm, .inr (6, [.ref r_memory, .ref r_funcs, .ref r_nexts, .int 0, .int 0, .int 0, .int 0, .int 0, .ref t_code, .ref r_registers, .ref r_slotCells, .ref r_passed, .int 0])), (r_passed, .inl (cyI, 6, .inl (fun _ => 0)))]) [0, 1] rfl
  have hD9 := hD.sub (ws' := [(rm, .inr (6, [.ref r_memory, .ref r_funcs, .ref r_nexts, .int 0, .int 0, .int 0, .int 0, .int 0, .ref t_code, .ref r_registers, .ref r_slotCells, .ref r_passed, .int 0])), (r_passed, .inl (cyI, 6, .inl (fun _ => 0)))]) [0, 1] (by decide) rfl
  exact W.vret hx hb hr (fun t ht hW => ⟨⟨(), rfl, trivial, pz_Bof hP9 hK hD9 ht hW⟩, hS.F ht⟩) hS.2.2 dX7_begin_17

def wq_X11_isTurned : List Cond := .code yX11_isTurned cX11_isTurned 2 (some .boolean) :: ([.fieldLink RX11 28 "RegisterMill" "turner" "LRegisterMill$Turner;", .fieldLink RX11 90 "RegisterMill$Turner" "registers" "I"] ++ wsX110 ++ wsX90)
set_option maxHeartbeats 4000000 in
set_option maxRecDepth 100000 in
/-- a fresh object is not turned -/
theorem c_X11_isTurned (l : Launch) (dC : Nat → ClassId) (dI : Nat → Nat → Nat) (cyI : ClassId) (sz : Nat) (h0 : Nat) (pr : Nat) (ck : Nat) (tu : Nat) (sm : Nat) (rm : Nat) (t_places : Nat) (t_live : Nat) (t_homes : Nat) (t_code : Nat) (t_writer : Nat) (t_placeCounts : Nat) (p0 : Int32) : Met l yX11_isTurned wq_X11_isTurned ({ frames := 0, cells := 0, slots := 0, locals := 0 }) (va_Pc [.ref h0, .int p0] (pz_pre dC dI [(cyI, .int)] [(h0, .inr (10, [.ref pr, .ref ck, .ref tu, .ref sm, .ref rm])), (tu, .inr (8, [.ref pr, .ref t_places, .ref t_live, .ref t_homes, .ref t_code, .ref t_writer, .ref t_placeCounts, .int 0]))] sz)) (va_Qi (S := Unit) (fun (r : Int32) _ => r = 0) (fun _ t => pz_B dC dI [(cyI, .int)] (va_A [(h0, .inr (10, [.ref pr, .ref ck, .ref tu, .ref sm, .ref rm])), (tu, .inr (8, [.ref pr, .ref t_places, .ref t_live, .ref t_homes, .ref t_code, .ref t_writer, .ref t_placeCounts, .int 0]))] sz) [(h0, .inr (10, [.ref pr, .ref ck, .ref tu, .ref sm, .ref rm])), (tu, .inr (8, [.ref pr, .ref t_places, .ref t_live, .ref t_homes, .ref t_code, .ref t_writer, .ref t_placeCounts, .int 0]))] t) (va_A [(h0, .inr (10, [.ref pr, .ref ck, .ref tu, .ref sm, .ref rm])), (tu, .inr (8, [.ref pr, .ref t_places, .ref t_live, .ref t_homes, .ref t_code, .ref t_writer, .ref t_placeCounts, .int 0]))] sz)) 0 0 (va_A [(h0, .inr (10, [.ref pr, .ref ck, .ref tu, .ref sm, .ref rm])), (tu, .inr (8, [.ref pr, .ref t_places, .ref t_live, .ref t_homes, .ref t_code, .ref t_writer, .ref t_placeCounts, .int 0]))] sz) := by
  refine Met.ofW (cc := cX11_isTurned) (maxL := 2) (ret := (some .boolean)) (by decide) rfl ?_
  intro p e s m args below meth c s₁ B hml hv
  obtain ⟨rfl, hsz, hP, hK, hD0, hNW⟩ := hv
  have hx := B.exec
  have hb := B.bytes
  have hr := B.returns
  have hts := atoms_spec (ws := wq_X11_isTurned) B.pre
  have hown : s.vm.findClass RX11 = some m.cls := findClass_of_methodNamed B.named
  have hlocks := B.notSynchronized
  have hiX11 : ∀ w ∈ wsX110, w ∈ wq_X11_isTurned := by decide +kernel
  have hiX9 : ∀ w ∈ wsX90, w ∈ wq_X11_isTurned := by decide +kernel
  subst hsz
  have hD := hD0.self (sz := s.heap.size)
  generalize hAe : va_A [(h0, .inr (10, [.ref pr, .ref ck, .ref tu, .ref sm, .ref rm])), (tu, .inr (8, [.ref pr, .ref t_places, .ref t_live, .ref t_homes, .ref t_code, .ref t_writer, .ref t_placeCounts, .int 0]))] s.heap.size = A at hD ⊢
  have hA : ∀ q : Nat, s.heap.size ≤ q → A q := fun q h => by rw [← hAe]; exact Or.inr h
  have hS : va_S A s.heap s.heap [] := va_S.rf
  have hl := lv_entry ([.ref h0, .int p0]) (n := 2) (Nat.le_of_ble_eq_true rfl)
  rw [lg_entry_eq]
  generalize (lg_sl ([.ref h0, .int p0]) ++ List.replicate (2 - (lg_sl ([.ref h0, .int p0])).length) Slot.unset).toArray = ls at hl ⊢
  have hl : lv_has ls 2 [(0, .ref h0), (1, .int p0)] := hl
  refine lv_aload_n hx hb dX11_isTurned_0 rfl (lv_at hl 0 rfl) ?_
  refine va_get (D := (dC, dI)) (ci := 10) (v := .ref tu) (C := RX11) (T := TX11) (N := 5) hx hb hts hiX11 hown hK hP 0 rfl rfl 2 (by decide) (hts (.fieldLink RX11 28 "RegisterMill" "turner" "LRegisterMill$Turner;") (by decide +kernel)) (fun _ h9 => h9) rfl dX11_isTurned_1 ?_
  refine va_get (D := (dC, dI)) (ci := 8) (v := .int 0) (C := RX9) (T := TX9) (N := 8) hx hb hts hiX9 hown hK hP 1 rfl rfl 7 (by decide) (hts (.fieldLink RX11 90 "RegisterMill$Turner" "registers" "I") (by decide +kernel)) (fun _ h9 => h9) rfl dX11_isTurned_4 ?_
  refine lv_if_eq (tgt := 25) hx hb dX11_isTurned_7 (by decide) (fun _ => ?_) (fun h => absurd (by decide) h)
  refine lv_iconst (v := 0) hx hb dX11_isTurned_25 (by decide) ?_
  have hP9 := hP.sub (ws' := [(h0, .inr (10, [.ref pr, .ref ck, .ref tu, .ref sm, .ref rm])), (tu, .inr (8, [.ref pr, .ref t_places, .ref t_live, .ref t_homes, .ref t_code, .ref t_writer, .ref t_placeCounts, .int 0]))]) [0, 1] rfl
  have hD9 := hD.sub (ws' := [(h0, .inr (10, [.ref pr, .ref ck, .ref tu, .ref sm, .ref rm])), (tu, .inr (8, [.ref pr, .ref t_places, .ref t_live, .ref t_homes, .ref t_code, .ref t_writer, .ref t_placeCounts, .int 0]))]) [0, 1] (by decide) rfl
  have h9 : (0 : Int32) = 0 := rfl
  exact W.zret (v := (0)) hx hb hr (by decide) (fun t ht hW => ⟨⟨_, (), rfl, h9, pz_Bof hP9 hK hD9 ht hW⟩, hS.F ht⟩) hS.2.2 dX11_isTurned_26

def wq_X11_machineOf_0 : List Cond := .code yX11_machineOf cX11_machineOf 2 (some (.object "RegisterMill$Machine")) :: ([.fieldLink RX11 35 "RegisterMill" "stackMachine" "LRegisterMill$Machine;"] ++ wsX110)
set_option maxHeartbeats 4000000 in
set_option maxRecDepth 100000 in
/-- machineOf(0) -/
theorem c_X11_machineOf_0 (l : Launch) (dC : Nat → ClassId) (dI : Nat → Nat → Nat) (cyI : ClassId) (sz : Nat) (h0 : Nat) (pr : Nat) (ck : Nat) (tu : Nat) (sm : Nat) (rm : Nat) : Met l yX11_machineOf wq_X11_machineOf_0 ({ frames := 0, cells := 0, slots := 0, locals := 0 }) (va_Pc [.ref h0, .int 0] (pz_pre dC dI [(cyI, .int)] [(h0, .inr (10, [.ref pr, .ref ck, .ref tu, .ref sm, .ref rm]))] sz)) (va_Qr (S := Unit) (fun _ => True) (fun _ r t => r = sm ∧ pz_B dC dI [(cyI, .int)] (va_A [(h0, .inr (10, [.ref pr, .ref ck, .ref tu, .ref sm, .ref rm]))] sz) [(h0, .inr (10, [.ref pr, .ref ck, .ref tu, .ref sm, .ref rm]))] t) (va_A [(h0, .inr (10, [.ref pr, .ref ck, .ref tu, .ref sm, .ref rm]))] sz)) 0 0 (va_A [(h0, .inr (10, [.ref pr, .ref ck, .ref tu, .ref sm, .ref rm]))] sz) := by
  refine Met.ofW (cc := cX11_machineOf) (maxL := 2) (ret := (some (.object "RegisterMill$Machine"))) (by decide) rfl ?_
  intro p e s m args below meth c s₁ B hml hv
  obtain ⟨rfl, hsz, hP, hK, hD0, hNW⟩ := hv
  have hx := B.exec
  have hb := B.bytes
  have hr := B.returns
  have hts := atoms_spec (ws := wq_X11_machineOf_0) B.pre
  have hown : s.vm.findClass RX11 = some m.cls := findClass_of_methodNamed B.named
  have hlocks := B.notSynchronized
  have hiX11 : ∀ w ∈ wsX110, w ∈ wq_X11_machineOf_0 := by decide +kernel
  subst hsz
  have hD := hD0.self (sz := s.heap.size)
  generalize hAe : va_A [(h0, .inr (10, [.ref pr, .ref ck, .ref tu, .ref sm, .ref rm]))] s.heap.size = A at hD ⊢
  have hA : ∀ q : Nat, s.heap.size ≤ q → A q := fun q h => by rw [← hAe]; exact Or.inr h
  have hS : va_S A s.heap s.heap [] := va_S.rf
  have hl := lv_entry ([.ref h0, .int 0]) (n := 2) (Nat.le_of_ble_eq_true rfl)
  rw [lg_entry_eq]
  generalize (lg_sl ([.ref h0, .int 0]) ++ List.replicate (2 - (lg_sl ([.ref h0, .int 0])).length) Slot.unset).toArray = ls at hl ⊢
  have hl : lv_has ls 2 [(0, .ref h0), (1, .int 0)] := hl
  refine lv_iload_n hx hb dX11_machineOf_0 rfl (lv_at hl 1 rfl) ?_
  refine lv_if_ne (tgt := 11) hx hb dX11_machineOf_1 (by decide) (fun h => absurd h (by decide)) (fun _ => ?_)
  refine lv_aload_n hx hb dX11_machineOf_4 rfl (lv_at hl 0 rfl) ?_
  refine va_get (D := (dC, dI)) (ci := 10) (v := .ref sm) (C := RX11) (T := TX11) (N := 5) hx hb hts hiX11 hown hK hP 0 rfl rfl 3 (by decide) (hts (.fieldLink RX11 35 "RegisterMill" "stackMachine" "LRegisterMill$Machine;") (by decide +kernel)) (fun _ h9 => h9) rfl dX11_machineOf_5 ?_
  refine lv_goto (tgt := 15) hx hb dX11_machineOf_8 (by decide) ?_
  have hP9 := hP.sub (ws' := [(h0, .inr (10, [.ref pr, .ref ck, .ref tu, .ref sm, .ref rm]))]) [0] rfl
  have hD9 := hD.sub (ws' := [(h0, .inr (10, [.ref pr, .ref ck, .ref tu, .ref sm, .ref rm]))]) [0] (by decide) rfl
  exact W.aret (v := .ref sm) hx hb hr (Or.inl ⟨_, rfl⟩) (Or.inr ⟨_, rfl⟩) (fun t ht hW => ⟨⟨(), sm, rfl, trivial, rfl, pz_Bof hP9 hK hD9 ht hW⟩, hS.F ht⟩) hS.2.2 dX11_machineOf_15

def wq_X11_machineOf_1 : List Cond := .code yX11_machineOf cX11_machineOf 2 (some (.object "RegisterMill$Machine")) :: ([.fieldLink RX11 48 "RegisterMill" "registerMachine" "LRegisterMill$Machine;"] ++ wsX110)
set_option maxHeartbeats 4000000 in
set_option maxRecDepth 100000 in
/-- machineOf(1) -/
theorem c_X11_machineOf_1 (l : Launch) (dC : Nat → ClassId) (dI : Nat → Nat → Nat) (cyI : ClassId) (sz : Nat) (h0 : Nat) (pr : Nat) (ck : Nat) (tu : Nat) (sm : Nat) (rm : Nat) : Met l yX11_machineOf wq_X11_machineOf_1 ({ frames := 0, cells := 0, slots := 0, locals := 0 }) (va_Pc [.ref h0, .int 1] (pz_pre dC dI [(cyI, .int)] [(h0, .inr (10, [.ref pr, .ref ck, .ref tu, .ref sm, .ref rm]))] sz)) (va_Qr (S := Unit) (fun _ => True) (fun _ r t => r = rm ∧ pz_B dC dI [(cyI, .int)] (va_A [(h0, .inr (10, [.ref pr, .ref ck, .ref tu, .ref sm, .ref rm]))] sz) [(h0, .inr (10, [.ref pr, .ref ck, .ref tu, .ref sm, .ref rm]))] t) (va_A [(h0, .inr (10, [.ref pr, .ref ck, .ref tu, .ref sm, .ref rm]))] sz)) 0 0 (va_A [(h0, .inr (10, [.ref pr, .ref ck, .ref tu, .ref sm, .ref rm]))] sz) := by
  refine Met.ofW (cc := cX11_machineOf) (maxL := 2) (ret := (some (.object "RegisterMill$Machine"))) (by decide) rfl ?_
  intro p e s m args below meth c s₁ B hml hv
  obtain ⟨rfl, hsz, hP, hK, hD0, hNW⟩ := hv
  have hx := B.exec
  have hb := B.bytes
  have hr := B.returns
  have hts := atoms_spec (ws := wq_X11_machineOf_1) B.pre
  have hown : s.vm.findClass RX11 = some m.cls := findClass_of_methodNamed B.named
  have hlocks := B.notSynchronized
  have hiX11 : ∀ w ∈ wsX110, w ∈ wq_X11_machineOf_1 := by decide +kernel
  subst hsz
  have hD := hD0.self (sz := s.heap.size)
  generalize hAe : va_A [(h0, .inr (10, [.ref pr, .ref ck, .ref tu, .ref sm, .ref rm]))] s.heap.size = A at hD ⊢
  have hA : ∀ q : Nat, s.heap.size ≤ q → A q := fun q h => by rw [← hAe]; exact Or.inr h
  have hS : va_S A s.heap s.heap [] := va_S.rf
  have hl := lv_entry ([.ref h0, .int 1]) (n := 2) (Nat.le_of_ble_eq_true rfl)
  rw [lg_entry_eq]
  generalize (lg_sl ([.ref h0, .int 1]) ++ List.replicate (2 - (lg_sl ([.ref h0, .int 1])).length) Slot.unset).toArray = ls at hl ⊢
  have hl : lv_has ls 2 [(0, .ref h0), (1, .int 1)] := hl
  refine lv_iload_n hx hb dX11_machineOf_0 rfl (lv_at hl 1 rfl) ?_
  refine lv_if_ne (tgt := 11) hx hb dX11_machineOf_1 (by decide) (fun _ => ?_) (fun h => absurd (by decide) h)
  refine lv_aload_n hx hb dX11_machineOf_11 rfl (lv_at hl 0 rfl) ?_
  refine va_get (D := (dC, dI)) (ci := 10) (v := .ref rm) (C := RX11) (T := TX11) (N := 5) hx hb hts hiX11 hown hK hP 0 rfl rfl 4 (by decide) (hts (.fieldLink RX11 48 "RegisterMill" "registerMachine" "LRegisterMill$Machine;") (by decide +kernel)) (fun _ h9 => h9) rfl dX11_machineOf_12 ?_
  have hP9 := hP.sub (ws' := [(h0, .inr (10, [.ref pr, .ref ck, .ref tu, .ref sm, .ref rm]))]) [0] rfl
  have hD9 := hD.sub (ws' := [(h0, .inr (10, [.ref pr, .ref ck, .ref tu, .ref sm, .ref rm]))]) [0] (by decide) rfl
  exact W.aret (v := .ref rm) hx hb hr (Or.inl ⟨_, rfl⟩) (Or.inr ⟨_, rfl⟩) (fun t ht hW => ⟨⟨(), rm, rfl, trivial, rfl, pz_Bof hP9 hK hD9 ht hW⟩, hS.F ht⟩) hS.2.2 dX11_machineOf_15

def wq_X11_beginMachines : List Cond := .code yX11_beginMachines cX11_beginMachines 1 none :: ([.fieldLink RX11 35 "RegisterMill" "stackMachine" "LRegisterMill$Machine;", .code yX8_begin cX8_begin 1 none, .code yX4_begin cX4_begin 1 none, .fieldLink RX4 21 "RegisterMill$Machine" "end" "I", .fieldLink RX4 25 "RegisterMill$Machine" "told" "I", .fieldLink RX4 28 "RegisterMill$Machine" "steps" "I", .fieldLink RX4 31 "RegisterMill$Machine" "calls" "I", .fieldLink RX4 34 "RegisterMill$Machine" "nested" "I", .methodLink RX8 25 yX4_begin, .sameMethod "RegisterMill$Machine" "RegisterMill$Machine" "begin" "()V", .superclass RX8 RX4, .instanceMethod yX4_begin, .initialized RX4, .fieldLink RX8 28 "RegisterMill$StackMachine" "top" "I", .methodLink RX11 168 ⟨"RegisterMill$Machine", "begin", "()V"⟩, .selects RX8 ⟨"RegisterMill$Machine", "begin", "()V"⟩ yX8_begin, .instanceMethod yX8_begin, .initialized RX8, .fieldLink RX11 48 "RegisterMill" "registerMachine" "LRegisterMill$Machine;", .code yX7_begin cX7_begin 1 none, .methodLink RX7 25 yX4_begin, .superclass RX7 RX4, .fieldLink RX7 28 "RegisterMill$RegisterMachine" "answered" "I", .fieldLink RX7 18 "RegisterMill$RegisterMachine" "passed" "[I", .code yJ7_fill_53178 cJ7_fill_53178 4 none, .methodLink RX7 32 yJ7_fill_53178, .static yJ7_fill_53178, .initialized RJ7, .selects RX7 ⟨"RegisterMill$Machine", "begin", "()V"⟩ yX7_begin, .instanceMethod yX7_begin, .initialized RX7] ++ wsX110 ++ wsX80 ++ wsX70)
set_option maxRecDepth 20000 in
theorem gq_X11_beginMachines_X8_begin_168X8 : GoodIn wq_X11_beginMachines (va_wsO RX11 168 RX8 "RegisterMill$Machine" ⟨"RegisterMill$Machine", "begin", "()V"⟩ yX8_begin wq_X8_begin) := goodIn_r _ [15, 10, 12, 16, 17, 18, 2, 3, 4, 5, 6, 7, 8, 9, 10, 11, 12, 13, 14, 37, 38, 39, 40, 41, 42, 43, 44, 45, 46, 47, 48, 49] (by decide +kernel) (by decide +kernel)
set_option maxRecDepth 20000 in
theorem gq_X11_beginMachines_X7_begin_168X7 : GoodIn wq_X11_beginMachines (va_wsO RX11 168 RX7 "RegisterMill$Machine" ⟨"RegisterMill$Machine", "begin", "()V"⟩ yX7_begin wq_X7_begin) := goodIn_r _ [15, 10, 12, 29, 30, 31, 20, 3, 4, 5, 6, 7, 8, 21, 10, 22, 12, 13, 23, 24, 25, 26, 27, 28, 50, 51, 52, 53, 54, 55, 56, 57, 58, 59, 60, 61, 62] (by decide +kernel) (by decide +kernel)
set_option maxHeartbeats 4000000 in
set_option maxRecDepth 100000 in
/-- beginMachines -/
theorem c_X11_beginMachines (l : Launch) (dC : Nat → ClassId) (dI : Nat → Nat → Nat) (cyI : ClassId) (sz : Nat) (h0 : Nat) (pr : Nat) (ck : Nat) (tu : Nat) (sm : Nat) (rm : Nat) (s_memory : Nat) (s_funcs : Nat) (s_nexts : Nat) (s_locals : Nat) (s_stack : Nat) (s_bottoms : Nat) (r_memory : Nat) (r_funcs : Nat) (r_nexts : Nat) (t_code : Nat) (r_registers : Nat) (r_slotCells : Nat) (r_passed : Nat) : Met l yX11_beginMachines wq_X11_beginMachines ({ frames := 2, cells := 0, slots := 0, locals := 43 }) (va_Pc [.ref h0] (pz_pre dC dI [(cyI, .int)] [(h0, .inr (10, [.ref pr, .ref ck, .ref tu, .ref sm, .ref rm])), (sm, .inr (7, [.ref s_memory, .ref s_funcs, .ref s_nexts, .int 0, .int 0, .int 0, .int 0, .int 0, .ref pr, .ref s_locals, .ref s_stack, .ref s_bottoms, .int 0])), (rm, .inr (6, [.ref r_memory, .ref r_funcs, .ref r_nexts, .int 0, .int 0, .int 0, .int 0, .int 0, .ref t_code, .ref r_registers, .ref r_slotCells, .ref r_passed, .int 0])), (r_passed, .inl (cyI, 6, .inl (fun _ => 0)))] sz)) (va_Qv (S := Unit) (fun _ => True) (fun _ t => pz_B dC dI [(cyI, .int)] (va_A [(h0, .inr (10, [.ref pr, .ref ck, .ref tu, .ref sm, .ref rm])), (sm, .inr (7, [.ref s_memory, .ref s_funcs, .ref s_nexts, .int 0, .int 0, .int 0, .int 0, .int 0, .ref pr, .ref s_locals, .ref s_stack, .ref s_bottoms, .int 0])), (rm, .inr (6, [.ref r_memory, .ref r_funcs, .ref r_nexts, .int 0, .int 0, .int 0, .int 0, .int 0, .ref t_code, .ref r_registers, .ref r_slotCells, .ref r_passed, .int 0])), (r_passed, .inl (cyI, 6, .inl (fun _ => 0)))] sz) [(h0, .inr (10, [.ref pr, .ref ck, .ref tu, .ref sm, .ref rm])), (sm, .inr (7, [.ref s_memory, .ref s_funcs, .ref s_nexts, .int 0, .int 0, .int 0, .int 0, .int 0, .ref pr, .ref s_locals, .ref s_stack, .ref s_bottoms, .int 0])), (rm, .inr (6, [.ref r_memory, .ref r_funcs, .ref r_nexts, .int 0, .int 0, .int 0, .int 0, .int 0, .ref t_code, .ref r_registers, .ref r_slotCells, .ref r_passed, .int 0])), (r_passed, .inl (cyI, 6, .inl (fun _ => 0)))] t) (va_A [(h0, .inr (10, [.ref pr, .ref ck, .ref tu, .ref sm, .ref rm])), (sm, .inr (7, [.ref s_memory, .ref s_funcs, .ref s_nexts, .int 0, .int 0, .int 0, .int 0, .int 0, .ref pr, .ref s_locals, .ref s_stack, .ref s_bottoms, .int 0])), (rm, .inr (6, [.ref r_memory, .ref r_funcs, .ref r_nexts, .int 0, .int 0, .int 0, .int 0, .int 0, .ref t_code, .ref r_registers, .ref r_slotCells, .ref r_passed, .int 0])), (r_passed, .inl (cyI, 6, .inl (fun _ => 0)))] sz)) 0 0 (va_A [(h0, .inr (10, [.ref pr, .ref ck, .ref tu, .ref sm, .ref rm])), (sm, .inr (7, [.ref s_memory, .ref s_funcs, .ref s_nexts, .int 0, .int 0, .int 0, .int 0, .int 0, .ref pr, .ref s_locals, .ref s_stack, .ref s_bottoms, .int 0])), (rm, .inr (6, [.ref r_memory, .ref r_funcs, .ref r_nexts, .int 0, .int 0, .int 0, .int 0, .int 0, .ref t_code, .ref r_registers, .ref r_slotCells, .ref r_passed, .int 0])), (r_passed, .inl (cyI, 6, .inl (fun _ => 0)))] sz) := by
  refine Met.ofW (cc := cX11_beginMachines) (maxL := 1) (ret := none) (by decide) rfl ?_
  intro p e s m args below meth c s₁ B hml hv
  obtain ⟨rfl, hsz, hP, hK, hD0, hNW⟩ := hv
  have hx := B.exec
  have hb := B.bytes
  have hr := B.returns
  have hts := atoms_spec (ws := wq_X11_beginMachines) B.pre
  have hown : s.vm.findClass RX11 = some m.cls := findClass_of_methodNamed B.named
  have hlocks := B.notSynchronized
  have hiX11 : ∀ w ∈ wsX110, w ∈ wq_X11_beginMachines := by decide +kernel
  have hiX8 : ∀ w ∈ wsX80, w ∈ wq_X11_beginMachines := by decide +kernel
  have hiX7 : ∀ w ∈ wsX70, w ∈ wq_X11_beginMachines := by decide +kernel
  subst hsz
  have hD := hD0.self (sz := s.heap.size)
  generalize hAe : va_A [(h0, .inr (10, [.ref pr, .ref ck, .ref tu, .ref sm, .ref rm])), (sm, .inr (7, [.ref s_memory, .ref s_funcs, .ref s_nexts, .int 0, .int 0, .int 0, .int 0, .int 0, .ref pr, .ref s_locals, .ref s_stack, .ref s_bottoms, .int 0])), (rm, .inr (6, [.ref r_memory, .ref r_funcs, .ref r_nexts, .int 0, .int 0, .int 0, .int 0, .int 0, .ref t_code, .ref r_registers, .ref r_slotCells, .ref r_passed, .int 0])), (r_passed, .inl (cyI, 6, .inl (fun _ => 0)))] s.heap.size = A at hD ⊢
  have hA : ∀ q : Nat, s.heap.size ≤ q → A q := fun q h => by rw [← hAe]; exact Or.inr h
  have hS : va_S A s.heap s.heap [] := va_S.rf
  have hl := lv_entry ([.ref h0]) (n := 1) (Nat.le_of_ble_eq_true rfl)
  rw [lg_entry_eq]
  generalize (lg_sl ([.ref h0]) ++ List.replicate (1 - (lg_sl ([.ref h0])).length) Slot.unset).toArray = ls at hl ⊢
  have hl : lv_has ls 1 [(0, .ref h0)] := hl
  refine lv_aload_n hx hb dX11_beginMachines_0 rfl (lv_at hl 0 rfl) ?_
  refine va_get (D := (dC, dI)) (ci := 10) (v := .ref sm) (C := RX11) (T := TX11) (N := 5) hx hb hts hiX11 hown hK hP 0 rfl rfl 3 (by decide) (hts (.fieldLink RX11 35 "RegisterMill" "stackMachine" "LRegisterMill$Machine;") (by decide +kernel)) (fun _ h9 => h9) rfl dX11_beginMachines_1 ?_
  have hPc := hP.sub (ws' := [(sm, .inr (7, [.ref s_memory, .ref s_funcs, .ref s_nexts, .int 0, .int 0, .int 0, .int 0, .int 0, .ref pr, .ref s_locals, .ref s_stack, .ref s_bottoms, .int 0]))]) [1] rfl
  have hDc := hD.sub (ws' := [(sm, .inr (7, [.ref s_memory, .ref s_funcs, .ref s_nexts, .int 0, .int 0, .int 0, .int 0, .int 0, .ref pr, .ref s_locals, .ref s_stack, .ref s_bottoms, .int 0]))]) [1] (by decide) rfl
  have hKc := hK.sub (tys' := [(cyI, .int)]) [0] rfl
  have hFc := va_free (wc := [(sm, .inr (7, [.ref s_memory, .ref s_funcs, .ref s_nexts, .int 0, .int 0, .int 0, .int 0, .int 0, .ref pr, .ref s_locals, .ref s_stack, .ref s_bottoms, .int 0]))]) hD hS hA [1] rfl
  refine va_callv (va_runU (As := []) (rest := []) ⟨hx, hb, hml, hown, hts⟩ (c_X8_begin l dC dI cyI s.heap.size sm s_memory s_funcs s_nexts pr s_locals s_stack s_bottoms) (va_cwO 0 hts gq_X11_beginMachines_X8_begin_168X8 rfl rfl rfl (b0 := cX4_begin) (m0 := 1) (r0 := none) (by decide +kernel) (by decide +kernel) ⟨Nat.le_of_ble_eq_true rfl, Nat.le_of_ble_eq_true rfl⟩) ⟨pz_blind, va_recv hKc hPc (ci := 7) (q0 := 0) rfl rfl, pz_to hPc hKc hDc hNW⟩ rfl rfl hl.1 rfl (lv_room (Nat.le_of_ble_eq_true rfl)) dX11_beginMachines_4 (by decide)) hS (fun q _ h => hFc q h) hFc (fun u t H1 locs ht hvm hw hB hz1 hk1 hS => ?_)
  obtain ⟨hP1, hK1, hD1⟩ := hB
  rw [ht] at hP1
  obtain ⟨hP, hD⟩ := va_join (wr := [(h0, .inr (10, [.ref pr, .ref ck, .ref tu, .ref sm, .ref rm])), (rm, .inr (6, [.ref r_memory, .ref r_funcs, .ref r_nexts, .int 0, .int 0, .int 0, .int 0, .int 0, .ref t_code, .ref r_registers, .ref r_slotCells, .ref r_passed, .int 0])), (r_passed, .inl (cyI, 6, .inl (fun _ => 0)))]) (w1 := [(sm, .inr (7, [.ref s_memory, .ref s_funcs, .ref s_nexts, .int 0, .int 0, .int 0, .int 0, .int 0, .ref pr, .ref s_locals, .ref s_stack, .ref s_bottoms, .int 0]))]) hP hD [1] [0, 2, 3] rfl rfl (by decide) (by decide) hk1 hFc hP1 hD1
  generalize H1 = H at hP hS ⊢
  have hP : va_P (dC, dI) vwCl [(h0, .inr (10, [.ref pr, .ref ck, .ref tu, .ref sm, .ref rm])), (rm, .inr (6, [.ref r_memory, .ref r_funcs, .ref r_nexts, .int 0, .int 0, .int 0, .int 0, .int 0, .ref t_code, .ref r_registers, .ref r_slotCells, .ref r_passed, .int 0])), (r_passed, .inl (cyI, 6, .inl (fun _ => 0))), (sm, .inr (7, [.ref s_memory, .ref s_funcs, .ref s_nexts, .int 0, .int 0, .int 0, .int 0, .int 0, .ref pr, .ref s_locals, .ref s_stack, .ref s_bottoms, .int 0]))] H := hP
  have hD : va_D A [(h0, .inr (10, [.ref pr, .ref ck, .ref tu, .ref sm, .ref rm])), (rm, .inr (6, [.ref r_memory, .ref r_funcs, .ref r_nexts, .int 0, .int 0, .int 0, .int 0, .int 0, .ref t_code, .ref r_registers, .ref r_slotCells, .ref r_passed, .int 0])), (r_passed, .inl (cyI, 6, .inl (fun _ => 0))), (sm, .inr (7, [.ref s_memory, .ref s_funcs, .ref s_nexts, .int 0, .int 0, .int 0, .int 0, .int 0, .ref pr, .ref s_locals, .ref s_stack, .ref s_bottoms, .int 0]))] := hD
  refine lv_aload_n hx hb dX11_beginMachines_7 rfl (lv_at hl 0 rfl) ?_
  refine va_get (D := (dC, dI)) (ci := 10) (v := .ref rm) (C := RX11) (T := TX11) (N := 5) hx hb hts hiX11 hown hK hP 0 rfl rfl 4 (by decide) (hts (.fieldLink RX11 48 "RegisterMill" "registerMachine" "LRegisterMill$Machine;") (by decide +kernel)) (fun _ h9 => h9) rfl dX11_beginMachines_8 ?_
  have hPc := hP.sub (ws' := [(rm, .inr (6, [.ref r_memory, .ref r_funcs, .ref r_nexts, .int 0, .int 0, .int 0, .int 0, .int 0, .ref t_code, .ref r_registers, .ref r_slotCells, .ref r_passed, .int 0])), (r_passed, .inl (cyI, 6, .inl (fun _ => 0)))]) [1, 2] rfl
  have hDc := hD.sub (ws' := [(rm, .inr (6, [.ref r_memory, .ref r_funcs, .ref r_nexts, .int 0, .int 0, .int 0, .int 0, .int 0, .ref t_code, .ref r_registers, .ref r_slotCells, .ref r_passed, .int 0])), (r_passed, .inl (cyI, 6, .inl (fun _ => 0)))]) [1, 2] (by decide) rfl
  have hKc := hK.sub (tys' := [(cyI, .int)]) [0] rfl
  have hFc := va_free (wc := [(rm, .inr (6, [.ref r_memory, .ref r_funcs, .ref r_nexts, .int 0, .int 0, .int 0, .int 0, .int 0, .ref t_code, .ref r_registers, .ref r_slotCells, .ref r_passed, .int 0])), (r_passed, .inl (cyI, 6, .inl (fun _ => 0)))]) hD hS hA [1, 2] rfl
  refine va_callv (va_runU (As := []) (rest := []) ⟨hx, hb, hml, hown, hts⟩ (c_X7_begin l dC dI cyI H.size rm r_memory r_funcs r_nexts t_code r_registers r_slotCells r_passed) (va_cwO 0 hts gq_X11_beginMachines_X7_begin_168X7 rfl rfl rfl (b0 := cX4_begin) (m0 := 1) (r0 := none) (by decide +kernel) (by decide +kernel) ⟨Nat.le_of_ble_eq_true rfl, Nat.le_of_ble_eq_true rfl⟩) ⟨pz_blind, va_recv hKc hPc (ci := 6) (q0 := 0) rfl rfl, pz_to hPc hKc hDc hNW⟩ rfl rfl hl.1 rfl (lv_room (Nat.le_of_ble_eq_true rfl)) dX11_beginMachines_11 (by decide)) hS (fun q _ h => hFc q h) hFc (fun u t H1 locs ht hvm hw hB hz1 hk1 hS => ?_)
  obtain ⟨hP1, hK1, hD1⟩ := hB
  rw [ht] at hP1
  obtain ⟨hP, hD⟩ := va_join (wr := [(h0, .inr (10, [.ref pr, .ref ck, .ref tu, .ref sm, .ref rm])), (sm, .inr (7, [.ref s_memory, .ref s_funcs, .ref s_nexts, .int 0, .int 0, .int 0, .int 0, .int 0, .ref pr, .ref s_locals, .ref s_stack, .ref s_bottoms, .int 0]))]) (w1 := [(rm, .inr (6, [.ref r_memory, .ref r_funcs, .ref r_nexts, .int 0, .int 0, .int 0, .int 0, .int 0, .ref t_code, .ref r_registers, .ref r_slotCells, .ref r_passed, .int 0])), (r_passed, .inl (cyI, 6, .inl (fun _ => 0)))]) hP hD [1, 2] [0, 3] rfl rfl (by decide) (by decide) hk1 hFc hP1 hD1
  generalize H1 = H at hP hS ⊢
  have hP : va_P (dC, dI) vwCl [(h0, .inr (10, [.ref pr, .ref ck, .ref tu, .ref sm, .ref rm])), (sm, .inr (7, [.ref s_memory, .ref s_funcs, .ref s_nexts, .int 0, .int 0, .int 0, .int 0, .int 0, .ref pr, .ref s_locals, .ref s_stack, .ref s_bottoms, .int 0])), (rm, .inr (6, [.ref r_memory, .ref r_funcs, .ref r_nexts, .int 0, .int 0, .int 0, .int 0, .int 0, .ref t_code, .ref r_registers, .ref r_slotCells, .ref r_passed, .int 0])), (r_passed, .inl (cyI, 6, .inl (fun _ => 0)))] H := hP
  have hD : va_D A [(h0, .inr (10, [.ref pr, .ref ck, .ref tu, .ref sm, .ref rm])), (sm, .inr (7, [.ref s_memory, .ref s_funcs, .ref s_nexts, .int 0, .int 0, .int 0, .int 0, .int 0, .ref pr, .ref s_locals, .ref s_stack, .ref s_bottoms, .int 0])), (rm, .inr (6, [.ref r_memory, .ref r_funcs, .ref r_nexts, .int 0, .int 0, .int 0, .int 0, .int 0, .ref t_code, .ref r_registers, .ref r_slotCells, .ref r_passed, .int 0])), (r_passed, .inl (cyI, 6, .inl (fun _ => 0)))] := hD
  have hP9 := hP.sub (ws' := [(h0, .inr (10, [.ref pr, .ref ck, .ref tu, .ref sm, .ref rm])), (sm, .inr (7, [.ref s_memory, .ref s_funcs, .ref s_nexts, .int 0, .int 0, .int 0, .int 0, .int 0, .ref pr, .ref s_locals, .ref s_stack, .ref s_bottoms, .int 0])), (rm, .inr (6, [.ref r_memory, .ref r_funcs, .ref r_nexts, .int 0, .int 0, .int 0, .int 0, .int 0, .ref t_code, .ref r_registers, .ref r_slotCells, .ref r_passed, .int 0])), (r_passed, .inl (cyI, 6, .inl (fun _ => 0)))]) [0, 1, 2, 3] rfl
  have hD9 := hD.sub (ws' := [(h0, .inr (10, [.ref pr, .ref ck, .ref tu, .ref sm, .ref rm])), (sm, .inr (7, [.ref s_memory, .ref s_funcs, .ref s_nexts, .int 0, .int 0, .int 0, .int 0, .int 0, .ref pr, .ref s_locals, .ref s_stack, .ref s_bottoms, .int 0])), (rm, .inr (6, [.ref r_memory, .ref r_funcs, .ref r_nexts, .int 0, .int 0, .int 0, .int 0, .int 0, .ref t_code, .ref r_registers, .ref r_slotCells, .ref r_passed, .int 0])), (r_passed, .inl (cyI, 6, .inl (fun _ => 0)))]) [0, 1, 2, 3] (by decide) rfl
  exact W.vret hx hb hr (fun t ht hW => ⟨⟨(), rfl, trivial, pz_Bof hP9 hK hD9 ht hW⟩, hS.F ht⟩) hS.2.2 dX11_beginMachines_14
end
