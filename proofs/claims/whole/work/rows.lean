section
/-- a private method of a class that the tables say can be made, by its rows of tables_1 -/
def lw_okq (q : MethodName × Nat) : Prop := (q.1.cls ≠ "java/lang/invoke/MethodHandle" ∧ q.1.cls ≠ "java/lang/invoke/VarHandle") ∧ Cond.instantiable q.1.cls q.2 ∈ tables_1 ∧ Cond.privateMethod q.1 ∈ tables_1 ∧ Cond.instanceMethod q.1 ∈ tables_1
theorem lw_p0 : lw_okq (⟨"WaitPlaces$Reader", "split", "([II)V"⟩, 4) := ⟨⟨by decide +kernel, by decide +kernel⟩, List.mem_of_getElem? (i := 62) (by decide +kernel), List.mem_of_getElem? (i := 306) (by decide +kernel), List.mem_of_getElem? (i := 307) (by decide +kernel)⟩
theorem lw_p1 : lw_okq (⟨"WaitPlaces$Reader", "addToken", "(II)V"⟩, 4) := ⟨⟨by decide +kernel, by decide +kernel⟩, List.mem_of_getElem? (i := 62) (by decide +kernel), List.mem_of_getElem? (i := 396) (by decide +kernel), List.mem_of_getElem? (i := 397) (by decide +kernel)⟩
theorem lw_p2 : lw_okq (⟨"WaitPlaces$Reader", "token", "()I"⟩, 4) := ⟨⟨by decide +kernel, by decide +kernel⟩, List.mem_of_getElem? (i := 62) (by decide +kernel), List.mem_of_getElem? (i := 404) (by decide +kernel), List.mem_of_getElem? (i := 405) (by decide +kernel)⟩
theorem lw_p3 : lw_okq (⟨"WaitPlaces$Reader", "takeItem", "(LWaitPlaces$Told;)Z"⟩, 4) := ⟨⟨by decide +kernel, by decide +kernel⟩, List.mem_of_getElem? (i := 62) (by decide +kernel), List.mem_of_getElem? (i := 408) (by decide +kernel), List.mem_of_getElem? (i := 409) (by decide +kernel)⟩
theorem lw_p4 : lw_okq (⟨"WaitPlaces$Reader", "takeValue", "(LWaitPlaces$Told;)Z"⟩, 4) := ⟨⟨by decide +kernel, by decide +kernel⟩, List.mem_of_getElem? (i := 62) (by decide +kernel), List.mem_of_getElem? (i := 412) (by decide +kernel), List.mem_of_getElem? (i := 413) (by decide +kernel)⟩
theorem lw_p5 : lw_okq (⟨"WaitPlaces$Reader", "takeNumber", "(II)I"⟩, 4) := ⟨⟨by decide +kernel, by decide +kernel⟩, List.mem_of_getElem? (i := 62) (by decide +kernel), List.mem_of_getElem? (i := 416) (by decide +kernel), List.mem_of_getElem? (i := 417) (by decide +kernel)⟩
theorem lw_p6 : lw_okq (⟨"WaitPlaces$Reader", "takeEnd", "()Z"⟩, 4) := ⟨⟨by decide +kernel, by decide +kernel⟩, List.mem_of_getElem? (i := 62) (by decide +kernel), List.mem_of_getElem? (i := 423) (by decide +kernel), List.mem_of_getElem? (i := 424) (by decide +kernel)⟩
theorem lw_p7 : lw_okq (⟨"WaitPlaces$Reader", "takeThread", "(LWaitPlaces$Told;)Z"⟩, 4) := ⟨⟨by decide +kernel, by decide +kernel⟩, List.mem_of_getElem? (i := 62) (by decide +kernel), List.mem_of_getElem? (i := 427) (by decide +kernel), List.mem_of_getElem? (i := 428) (by decide +kernel)⟩
theorem lw_p8 : lw_okq (⟨"WaitPlaces$Reader", "takeOperation", "(LWaitPlaces$Told;)Z"⟩, 4) := ⟨⟨by decide +kernel, by decide +kernel⟩, List.mem_of_getElem? (i := 62) (by decide +kernel), List.mem_of_getElem? (i := 431) (by decide +kernel), List.mem_of_getElem? (i := 432) (by decide +kernel)⟩
theorem lw_p9 : lw_okq (⟨"WaitPlaces$Reader", "takeRank", "(LWaitPlaces$Told;)Z"⟩, 4) := ⟨⟨by decide +kernel, by decide +kernel⟩, List.mem_of_getElem? (i := 62) (by decide +kernel), List.mem_of_getElem? (i := 444) (by decide +kernel), List.mem_of_getElem? (i := 445) (by decide +kernel)⟩
theorem lw_p10 : lw_okq (⟨"WaitPlaces$Reader", "start", "()I"⟩, 4) := ⟨⟨by decide +kernel, by decide +kernel⟩, List.mem_of_getElem? (i := 62) (by decide +kernel), List.mem_of_getElem? (i := 449) (by decide +kernel), List.mem_of_getElem? (i := 450) (by decide +kernel)⟩
theorem lw_p11 : lw_okq (⟨"WaitPlaces$Scene", "is", "(III)Z"⟩, 11) := ⟨⟨by decide +kernel, by decide +kernel⟩, List.mem_of_getElem? (i := 81) (by decide +kernel), List.mem_of_getElem? (i := 475) (by decide +kernel), List.mem_of_getElem? (i := 476) (by decide +kernel)⟩
theorem lw_p12 : lw_okq (⟨"WaitPlaces", "isTold", "(I)Z"⟩, 10) := ⟨⟨by decide +kernel, by decide +kernel⟩, List.mem_of_getElem? (i := 17) (by decide +kernel), List.mem_of_getElem? (i := 484) (by decide +kernel), List.mem_of_getElem? (i := 485) (by decide +kernel)⟩
theorem lw_p13 : lw_okq (⟨"WaitPlaces$Scene", "lendRanks", "(LWaitPlaces$Told;)V"⟩, 11) := ⟨⟨by decide +kernel, by decide +kernel⟩, List.mem_of_getElem? (i := 81) (by decide +kernel), List.mem_of_getElem? (i := 493) (by decide +kernel), List.mem_of_getElem? (i := 494) (by decide +kernel)⟩
theorem lw_p14 : lw_okq (⟨"WaitPlaces$Told", "isOperation", "(II)Z"⟩, 7) := ⟨⟨by decide +kernel, by decide +kernel⟩, List.mem_of_getElem? (i := 25) (by decide +kernel), List.mem_of_getElem? (i := 527) (by decide +kernel), List.mem_of_getElem? (i := 528) (by decide +kernel)⟩
theorem lw_p15 : lw_okq (⟨"WaitPlaces$Scene", "die", "(LWaitPlaces$Told;I)V"⟩, 11) := ⟨⟨by decide +kernel, by decide +kernel⟩, List.mem_of_getElem? (i := 81) (by decide +kernel), List.mem_of_getElem? (i := 539) (by decide +kernel), List.mem_of_getElem? (i := 540) (by decide +kernel)⟩
def lw_privs_1 : List (MethodName × Nat) := [(⟨"WaitPlaces$Reader", "split", "([II)V"⟩, 4), (⟨"WaitPlaces$Reader", "addToken", "(II)V"⟩, 4), (⟨"WaitPlaces$Reader", "token", "()I"⟩, 4), (⟨"WaitPlaces$Reader", "takeItem", "(LWaitPlaces$Told;)Z"⟩, 4), (⟨"WaitPlaces$Reader", "takeValue", "(LWaitPlaces$Told;)Z"⟩, 4), (⟨"WaitPlaces$Reader", "takeNumber", "(II)I"⟩, 4), (⟨"WaitPlaces$Reader", "takeEnd", "()Z"⟩, 4), (⟨"WaitPlaces$Reader", "takeThread", "(LWaitPlaces$Told;)Z"⟩, 4), (⟨"WaitPlaces$Reader", "takeOperation", "(LWaitPlaces$Told;)Z"⟩, 4), (⟨"WaitPlaces$Reader", "takeRank", "(LWaitPlaces$Told;)Z"⟩, 4), (⟨"WaitPlaces$Reader", "start", "()I"⟩, 4), (⟨"WaitPlaces$Scene", "is", "(III)Z"⟩, 11), (⟨"WaitPlaces", "isTold", "(I)Z"⟩, 10), (⟨"WaitPlaces$Scene", "lendRanks", "(LWaitPlaces$Told;)V"⟩, 11), (⟨"WaitPlaces$Told", "isOperation", "(II)Z"⟩, 7), (⟨"WaitPlaces$Scene", "die", "(LWaitPlaces$Told;I)V"⟩, 11)]
theorem lw_r1 : ∀ q ∈ lw_privs_1, lw_okq q := List.forall_mem_cons.mpr ⟨lw_p0, List.forall_mem_cons.mpr ⟨lw_p1, List.forall_mem_cons.mpr ⟨lw_p2, List.forall_mem_cons.mpr ⟨lw_p3, List.forall_mem_cons.mpr ⟨lw_p4, List.forall_mem_cons.mpr ⟨lw_p5, List.forall_mem_cons.mpr ⟨lw_p6, List.forall_mem_cons.mpr ⟨lw_p7, List.forall_mem_cons.mpr ⟨lw_p8, List.forall_mem_cons.mpr ⟨lw_p9, List.forall_mem_cons.mpr ⟨lw_p10, List.forall_mem_cons.mpr ⟨lw_p11, List.forall_mem_cons.mpr ⟨lw_p12, List.forall_mem_cons.mpr ⟨lw_p13, List.forall_mem_cons.mpr ⟨lw_p14, List.forall_mem_cons.mpr ⟨lw_p15, fun _ h => absurd h List.not_mem_nil⟩⟩⟩⟩⟩⟩⟩⟩⟩⟩⟩⟩⟩⟩⟩⟩
theorem lw_p16 : lw_okq (⟨"WaitPlaces$Scene", "goOn", "(LWaitPlaces$Told;I)V"⟩, 11) := ⟨⟨by decide +kernel, by decide +kernel⟩, List.mem_of_getElem? (i := 81) (by decide +kernel), List.mem_of_getElem? (i := 543) (by decide +kernel), List.mem_of_getElem? (i := 544) (by decide +kernel)⟩
theorem lw_p17 : lw_okq (⟨"WaitPlaces$Scene", "handOn", "(LWaitPlaces$Told;I)V"⟩, 11) := ⟨⟨by decide +kernel, by decide +kernel⟩, List.mem_of_getElem? (i := 81) (by decide +kernel), List.mem_of_getElem? (i := 547) (by decide +kernel), List.mem_of_getElem? (i := 548) (by decide +kernel)⟩
theorem lw_p18 : lw_okq (⟨"WaitPlaces$Scene", "take", "(II)V"⟩, 11) := ⟨⟨by decide +kernel, by decide +kernel⟩, List.mem_of_getElem? (i := 81) (by decide +kernel), List.mem_of_getElem? (i := 551) (by decide +kernel), List.mem_of_getElem? (i := 552) (by decide +kernel)⟩
theorem lw_p19 : lw_okq (⟨"WaitPlaces$Scene", "release", "(LWaitPlaces$Told;I)V"⟩, 11) := ⟨⟨by decide +kernel, by decide +kernel⟩, List.mem_of_getElem? (i := 81) (by decide +kernel), List.mem_of_getElem? (i := 555) (by decide +kernel), List.mem_of_getElem? (i := 556) (by decide +kernel)⟩
theorem lw_p20 : lw_okq (⟨"WaitPlaces$Scene", "change", "(LWaitPlaces$Told;III)V"⟩, 11) := ⟨⟨by decide +kernel, by decide +kernel⟩, List.mem_of_getElem? (i := 81) (by decide +kernel), List.mem_of_getElem? (i := 559) (by decide +kernel), List.mem_of_getElem? (i := 560) (by decide +kernel)⟩
theorem lw_p21 : lw_okq (⟨"WaitPlaces$Scene", "waitAtOnce", "(LWaitPlaces$Told;III)V"⟩, 11) := ⟨⟨by decide +kernel, by decide +kernel⟩, List.mem_of_getElem? (i := 81) (by decide +kernel), List.mem_of_getElem? (i := 563) (by decide +kernel), List.mem_of_getElem? (i := 564) (by decide +kernel)⟩
theorem lw_p22 : lw_okq (⟨"WaitPlaces$Scene", "join", "(III)V"⟩, 11) := ⟨⟨by decide +kernel, by decide +kernel⟩, List.mem_of_getElem? (i := 81) (by decide +kernel), List.mem_of_getElem? (i := 567) (by decide +kernel), List.mem_of_getElem? (i := 568) (by decide +kernel)⟩
theorem lw_p23 : lw_okq (⟨"WaitPlaces$Scene", "waitInTwo", "(LWaitPlaces$Told;III)V"⟩, 11) := ⟨⟨by decide +kernel, by decide +kernel⟩, List.mem_of_getElem? (i := 81) (by decide +kernel), List.mem_of_getElem? (i := 571) (by decide +kernel), List.mem_of_getElem? (i := 572) (by decide +kernel)⟩
theorem lw_p24 : lw_okq (⟨"WaitPlaces$Scene", "wake", "(LWaitPlaces$Told;III)V"⟩, 11) := ⟨⟨by decide +kernel, by decide +kernel⟩, List.mem_of_getElem? (i := 81) (by decide +kernel), List.mem_of_getElem? (i := 575) (by decide +kernel), List.mem_of_getElem? (i := 576) (by decide +kernel)⟩
theorem lw_p25 : lw_okq (⟨"WaitPlaces$Scene", "firstAsleep", "(I)I"⟩, 11) := ⟨⟨by decide +kernel, by decide +kernel⟩, List.mem_of_getElem? (i := 81) (by decide +kernel), List.mem_of_getElem? (i := 579) (by decide +kernel), List.mem_of_getElem? (i := 580) (by decide +kernel)⟩
theorem lw_p26 : lw_okq (⟨"WaitPlaces$Scene", "move", "(LWaitPlaces$Told;III)V"⟩, 11) := ⟨⟨by decide +kernel, by decide +kernel⟩, List.mem_of_getElem? (i := 81) (by decide +kernel), List.mem_of_getElem? (i := 583) (by decide +kernel), List.mem_of_getElem? (i := 584) (by decide +kernel)⟩
theorem lw_p27 : lw_okq (⟨"WaitPlaces$Scene", "lock", "(LWaitPlaces$Told;II)V"⟩, 11) := ⟨⟨by decide +kernel, by decide +kernel⟩, List.mem_of_getElem? (i := 81) (by decide +kernel), List.mem_of_getElem? (i := 587) (by decide +kernel), List.mem_of_getElem? (i := 588) (by decide +kernel)⟩
theorem lw_p28 : lw_okq (⟨"WaitPlaces$Scene", "leadsTo", "(II)Z"⟩, 11) := ⟨⟨by decide +kernel, by decide +kernel⟩, List.mem_of_getElem? (i := 81) (by decide +kernel), List.mem_of_getElem? (i := 591) (by decide +kernel), List.mem_of_getElem? (i := 592) (by decide +kernel)⟩
theorem lw_p29 : lw_okq (⟨"WaitPlaces$Scene", "awaited", "(I)I"⟩, 11) := ⟨⟨by decide +kernel, by decide +kernel⟩, List.mem_of_getElem? (i := 81) (by decide +kernel), List.mem_of_getElem? (i := 595) (by decide +kernel), List.mem_of_getElem? (i := 596) (by decide +kernel)⟩
theorem lw_p30 : lw_okq (⟨"WaitPlaces$Scene", "unlock", "(LWaitPlaces$Told;II)V"⟩, 11) := ⟨⟨by decide +kernel, by decide +kernel⟩, List.mem_of_getElem? (i := 81) (by decide +kernel), List.mem_of_getElem? (i := 599) (by decide +kernel), List.mem_of_getElem? (i := 600) (by decide +kernel)⟩
theorem lw_p31 : lw_okq (⟨"WaitPlaces$Search", "empty", "()V"⟩, 15) := ⟨⟨by decide +kernel, by decide +kernel⟩, List.mem_of_getElem? (i := 193) (by decide +kernel), List.mem_of_getElem? (i := 631) (by decide +kernel), List.mem_of_getElem? (i := 632) (by decide +kernel)⟩
def lw_privs_2 : List (MethodName × Nat) := [(⟨"WaitPlaces$Scene", "goOn", "(LWaitPlaces$Told;I)V"⟩, 11), (⟨"WaitPlaces$Scene", "handOn", "(LWaitPlaces$Told;I)V"⟩, 11), (⟨"WaitPlaces$Scene", "take", "(II)V"⟩, 11), (⟨"WaitPlaces$Scene", "release", "(LWaitPlaces$Told;I)V"⟩, 11), (⟨"WaitPlaces$Scene", "change", "(LWaitPlaces$Told;III)V"⟩, 11), (⟨"WaitPlaces$Scene", "waitAtOnce", "(LWaitPlaces$Told;III)V"⟩, 11), (⟨"WaitPlaces$Scene", "join", "(III)V"⟩, 11), (⟨"WaitPlaces$Scene", "waitInTwo", "(LWaitPlaces$Told;III)V"⟩, 11), (⟨"WaitPlaces$Scene", "wake", "(LWaitPlaces$Told;III)V"⟩, 11), (⟨"WaitPlaces$Scene", "firstAsleep", "(I)I"⟩, 11), (⟨"WaitPlaces$Scene", "move", "(LWaitPlaces$Told;III)V"⟩, 11), (⟨"WaitPlaces$Scene", "lock", "(LWaitPlaces$Told;II)V"⟩, 11), (⟨"WaitPlaces$Scene", "leadsTo", "(II)Z"⟩, 11), (⟨"WaitPlaces$Scene", "awaited", "(I)I"⟩, 11), (⟨"WaitPlaces$Scene", "unlock", "(LWaitPlaces$Told;II)V"⟩, 11), (⟨"WaitPlaces$Search", "empty", "()V"⟩, 15)]
theorem lw_r2 : ∀ q ∈ lw_privs_2, lw_okq q := List.forall_mem_cons.mpr ⟨lw_p16, List.forall_mem_cons.mpr ⟨lw_p17, List.forall_mem_cons.mpr ⟨lw_p18, List.forall_mem_cons.mpr ⟨lw_p19, List.forall_mem_cons.mpr ⟨lw_p20, List.forall_mem_cons.mpr ⟨lw_p21, List.forall_mem_cons.mpr ⟨lw_p22, List.forall_mem_cons.mpr ⟨lw_p23, List.forall_mem_cons.mpr ⟨lw_p24, List.forall_mem_cons.mpr ⟨lw_p25, List.forall_mem_cons.mpr ⟨lw_p26, List.forall_mem_cons.mpr ⟨lw_p27, List.forall_mem_cons.mpr ⟨lw_p28, List.forall_mem_cons.mpr ⟨lw_p29, List.forall_mem_cons.mpr ⟨lw_p30, List.forall_mem_cons.mpr ⟨lw_p31, fun _ h => absurd h List.not_mem_nil⟩⟩⟩⟩⟩⟩⟩⟩⟩⟩⟩⟩⟩⟩⟩⟩
theorem lw_p32 : lw_okq (⟨"WaitPlaces$Search", "add", "(JI)V"⟩, 15) := ⟨⟨by decide +kernel, by decide +kernel⟩, List.mem_of_getElem? (i := 193) (by decide +kernel), List.mem_of_getElem? (i := 636) (by decide +kernel), List.mem_of_getElem? (i := 637) (by decide +kernel)⟩
theorem lw_p33 : lw_okq (⟨"WaitPlaces$Search", "isState", "(I)Z"⟩, 15) := ⟨⟨by decide +kernel, by decide +kernel⟩, List.mem_of_getElem? (i := 193) (by decide +kernel), List.mem_of_getElem? (i := 641) (by decide +kernel), List.mem_of_getElem? (i := 642) (by decide +kernel)⟩
theorem lw_p34 : lw_okq (⟨"WaitPlaces$Search", "append", "(JII)V"⟩, 15) := ⟨⟨by decide +kernel, by decide +kernel⟩, List.mem_of_getElem? (i := 193) (by decide +kernel), List.mem_of_getElem? (i := 645) (by decide +kernel), List.mem_of_getElem? (i := 646) (by decide +kernel)⟩
theorem lw_p35 : lw_okq (⟨"WaitPlaces$Search", "weigh", "(I)V"⟩, 15) := ⟨⟨by decide +kernel, by decide +kernel⟩, List.mem_of_getElem? (i := 193) (by decide +kernel), List.mem_of_getElem? (i := 650) (by decide +kernel), List.mem_of_getElem? (i := 651) (by decide +kernel)⟩
theorem lw_p36 : lw_okq (⟨"WaitPlaces$Search", "weighEnd", "(I)V"⟩, 15) := ⟨⟨by decide +kernel, by decide +kernel⟩, List.mem_of_getElem? (i := 193) (by decide +kernel), List.mem_of_getElem? (i := 659) (by decide +kernel), List.mem_of_getElem? (i := 660) (by decide +kernel)⟩
theorem lw_p37 : lw_okq (⟨"WaitPlaces$Search", "weighStuck", "(I)V"⟩, 15) := ⟨⟨by decide +kernel, by decide +kernel⟩, List.mem_of_getElem? (i := 193) (by decide +kernel), List.mem_of_getElem? (i := 668) (by decide +kernel), List.mem_of_getElem? (i := 669) (by decide +kernel)⟩
theorem lw_p38 : lw_okq (⟨"WaitPlacesModel", "begin", "()V"⟩, 43) := ⟨⟨by decide +kernel, by decide +kernel⟩, List.mem_of_getElem? (i := 734) (by decide +kernel), List.mem_of_getElem? (i := 740) (by decide +kernel), List.mem_of_getElem? (i := 741) (by decide +kernel)⟩
theorem lw_p39 : lw_okq (⟨"WaitPlacesModel", "next", "()V"⟩, 43) := ⟨⟨by decide +kernel, by decide +kernel⟩, List.mem_of_getElem? (i := 734) (by decide +kernel), List.mem_of_getElem? (i := 890) (by decide +kernel), List.mem_of_getElem? (i := 891) (by decide +kernel)⟩
theorem lw_p40 : lw_okq (⟨"WaitPlacesModel", "takesItem", "()Z"⟩, 43) := ⟨⟨by decide +kernel, by decide +kernel⟩, List.mem_of_getElem? (i := 734) (by decide +kernel), List.mem_of_getElem? (i := 896) (by decide +kernel), List.mem_of_getElem? (i := 897) (by decide +kernel)⟩
theorem lw_p41 : lw_okq (⟨"WaitPlacesModel", "takesThread", "()Z"⟩, 43) := ⟨⟨by decide +kernel, by decide +kernel⟩, List.mem_of_getElem? (i := 734) (by decide +kernel), List.mem_of_getElem? (i := 900) (by decide +kernel), List.mem_of_getElem? (i := 901) (by decide +kernel)⟩
theorem lw_p42 : lw_okq (⟨"WaitPlacesModel", "faults", "()Z"⟩, 43) := ⟨⟨by decide +kernel, by decide +kernel⟩, List.mem_of_getElem? (i := 734) (by decide +kernel), List.mem_of_getElem? (i := 904) (by decide +kernel), List.mem_of_getElem? (i := 905) (by decide +kernel)⟩
theorem lw_p43 : lw_okq (⟨"WaitPlacesModel", "takesOp", "(I)Z"⟩, 43) := ⟨⟨by decide +kernel, by decide +kernel⟩, List.mem_of_getElem? (i := 734) (by decide +kernel), List.mem_of_getElem? (i := 911) (by decide +kernel), List.mem_of_getElem? (i := 912) (by decide +kernel)⟩
theorem lw_p44 : lw_okq (⟨"WaitPlacesModel", "takesNumber", "(II)Z"⟩, 43) := ⟨⟨by decide +kernel, by decide +kernel⟩, List.mem_of_getElem? (i := 734) (by decide +kernel), List.mem_of_getElem? (i := 915) (by decide +kernel), List.mem_of_getElem? (i := 916) (by decide +kernel)⟩
theorem lw_p45 : lw_okq (⟨"WaitPlacesModel", "takesEnd", "()Z"⟩, 43) := ⟨⟨by decide +kernel, by decide +kernel⟩, List.mem_of_getElem? (i := 734) (by decide +kernel), List.mem_of_getElem? (i := 919) (by decide +kernel), List.mem_of_getElem? (i := 920) (by decide +kernel)⟩
theorem lw_p46 : lw_okq (⟨"WaitPlacesModel", "isThread", "(I)Z"⟩, 43) := ⟨⟨by decide +kernel, by decide +kernel⟩, List.mem_of_getElem? (i := 734) (by decide +kernel), List.mem_of_getElem? (i := 936) (by decide +kernel), List.mem_of_getElem? (i := 937) (by decide +kernel)⟩
theorem lw_p47 : lw_okq (⟨"WaitPlacesModel", "layRanks", "()V"⟩, 43) := ⟨⟨by decide +kernel, by decide +kernel⟩, List.mem_of_getElem? (i := 734) (by decide +kernel), List.mem_of_getElem? (i := 940) (by decide +kernel), List.mem_of_getElem? (i := 941) (by decide +kernel)⟩
def lw_privs_3 : List (MethodName × Nat) := [(⟨"WaitPlaces$Search", "add", "(JI)V"⟩, 15), (⟨"WaitPlaces$Search", "isState", "(I)Z"⟩, 15), (⟨"WaitPlaces$Search", "append", "(JII)V"⟩, 15), (⟨"WaitPlaces$Search", "weigh", "(I)V"⟩, 15), (⟨"WaitPlaces$Search", "weighEnd", "(I)V"⟩, 15), (⟨"WaitPlaces$Search", "weighStuck", "(I)V"⟩, 15), (⟨"WaitPlacesModel", "begin", "()V"⟩, 43), (⟨"WaitPlacesModel", "next", "()V"⟩, 43), (⟨"WaitPlacesModel", "takesItem", "()Z"⟩, 43), (⟨"WaitPlacesModel", "takesThread", "()Z"⟩, 43), (⟨"WaitPlacesModel", "faults", "()Z"⟩, 43), (⟨"WaitPlacesModel", "takesOp", "(I)Z"⟩, 43), (⟨"WaitPlacesModel", "takesNumber", "(II)Z"⟩, 43), (⟨"WaitPlacesModel", "takesEnd", "()Z"⟩, 43), (⟨"WaitPlacesModel", "isThread", "(I)Z"⟩, 43), (⟨"WaitPlacesModel", "layRanks", "()V"⟩, 43)]
theorem lw_r3 : ∀ q ∈ lw_privs_3, lw_okq q := List.forall_mem_cons.mpr ⟨lw_p32, List.forall_mem_cons.mpr ⟨lw_p33, List.forall_mem_cons.mpr ⟨lw_p34, List.forall_mem_cons.mpr ⟨lw_p35, List.forall_mem_cons.mpr ⟨lw_p36, List.forall_mem_cons.mpr ⟨lw_p37, List.forall_mem_cons.mpr ⟨lw_p38, List.forall_mem_cons.mpr ⟨lw_p39, List.forall_mem_cons.mpr ⟨lw_p40, List.forall_mem_cons.mpr ⟨lw_p41, List.forall_mem_cons.mpr ⟨lw_p42, List.forall_mem_cons.mpr ⟨lw_p43, List.forall_mem_cons.mpr ⟨lw_p44, List.forall_mem_cons.mpr ⟨lw_p45, List.forall_mem_cons.mpr ⟨lw_p46, List.forall_mem_cons.mpr ⟨lw_p47, fun _ h => absurd h List.not_mem_nil⟩⟩⟩⟩⟩⟩⟩⟩⟩⟩⟩⟩⟩⟩⟩⟩
theorem lw_p48 : lw_okq (⟨"WaitPlacesModel", "packed", "()J"⟩, 43) := ⟨⟨by decide +kernel, by decide +kernel⟩, List.mem_of_getElem? (i := 734) (by decide +kernel), List.mem_of_getElem? (i := 953) (by decide +kernel), List.mem_of_getElem? (i := 954) (by decide +kernel)⟩
theorem lw_p49 : lw_okq (⟨"WaitPlacesModel", "act", "(I)V"⟩, 43) := ⟨⟨by decide +kernel, by decide +kernel⟩, List.mem_of_getElem? (i := 734) (by decide +kernel), List.mem_of_getElem? (i := 957) (by decide +kernel), List.mem_of_getElem? (i := 958) (by decide +kernel)⟩
theorem lw_p50 : lw_okq (⟨"WaitPlacesModel", "goOn", "(I)V"⟩, 43) := ⟨⟨by decide +kernel, by decide +kernel⟩, List.mem_of_getElem? (i := 734) (by decide +kernel), List.mem_of_getElem? (i := 961) (by decide +kernel), List.mem_of_getElem? (i := 962) (by decide +kernel)⟩
theorem lw_p51 : lw_okq (⟨"WaitPlacesModel", "comeToRow", "(II)V"⟩, 43) := ⟨⟨by decide +kernel, by decide +kernel⟩, List.mem_of_getElem? (i := 734) (by decide +kernel), List.mem_of_getElem? (i := 965) (by decide +kernel), List.mem_of_getElem? (i := 966) (by decide +kernel)⟩
theorem lw_p52 : lw_okq (⟨"WaitPlacesModel", "wake", "(II)V"⟩, 43) := ⟨⟨by decide +kernel, by decide +kernel⟩, List.mem_of_getElem? (i := 734) (by decide +kernel), List.mem_of_getElem? (i := 969) (by decide +kernel), List.mem_of_getElem? (i := 970) (by decide +kernel)⟩
theorem lw_p53 : lw_okq (⟨"WaitPlacesModel", "wakeFrom", "(I)V"⟩, 43) := ⟨⟨by decide +kernel, by decide +kernel⟩, List.mem_of_getElem? (i := 734) (by decide +kernel), List.mem_of_getElem? (i := 973) (by decide +kernel), List.mem_of_getElem? (i := 974) (by decide +kernel)⟩
theorem lw_p54 : lw_okq (⟨"WaitPlacesModel", "moveOn", "(II)V"⟩, 43) := ⟨⟨by decide +kernel, by decide +kernel⟩, List.mem_of_getElem? (i := 734) (by decide +kernel), List.mem_of_getElem? (i := 977) (by decide +kernel), List.mem_of_getElem? (i := 978) (by decide +kernel)⟩
theorem lw_p55 : lw_okq (⟨"WaitPlacesModel", "lock", "(II)V"⟩, 43) := ⟨⟨by decide +kernel, by decide +kernel⟩, List.mem_of_getElem? (i := 734) (by decide +kernel), List.mem_of_getElem? (i := 981) (by decide +kernel), List.mem_of_getElem? (i := 982) (by decide +kernel)⟩
theorem lw_p56 : lw_okq (⟨"WaitPlacesModel", "leadsTo", "(II)Z"⟩, 43) := ⟨⟨by decide +kernel, by decide +kernel⟩, List.mem_of_getElem? (i := 734) (by decide +kernel), List.mem_of_getElem? (i := 985) (by decide +kernel), List.mem_of_getElem? (i := 986) (by decide +kernel)⟩
theorem lw_p57 : lw_okq (⟨"WaitPlacesModel", "handOn", "(I)Z"⟩, 43) := ⟨⟨by decide +kernel, by decide +kernel⟩, List.mem_of_getElem? (i := 734) (by decide +kernel), List.mem_of_getElem? (i := 989) (by decide +kernel), List.mem_of_getElem? (i := 990) (by decide +kernel)⟩
theorem lw_p58 : lw_okq (⟨"WaitPlacesModel", "die", "(I)V"⟩, 43) := ⟨⟨by decide +kernel, by decide +kernel⟩, List.mem_of_getElem? (i := 734) (by decide +kernel), List.mem_of_getElem? (i := 993) (by decide +kernel), List.mem_of_getElem? (i := 994) (by decide +kernel)⟩
theorem lw_p59 : lw_okq (⟨"WaitPlacesModel", "open", "(J)V"⟩, 43) := ⟨⟨by decide +kernel, by decide +kernel⟩, List.mem_of_getElem? (i := 734) (by decide +kernel), List.mem_of_getElem? (i := 1001) (by decide +kernel), List.mem_of_getElem? (i := 1002) (by decide +kernel)⟩
theorem lw_p60 : lw_okq (⟨"WaitPlacesModel", "counts", "()Z"⟩, 43) := ⟨⟨by decide +kernel, by decide +kernel⟩, List.mem_of_getElem? (i := 734) (by decide +kernel), List.mem_of_getElem? (i := 1010) (by decide +kernel), List.mem_of_getElem? (i := 1011) (by decide +kernel)⟩
theorem lw_p61 : lw_okq (⟨"WaitPlacesModel", "explores", "()Z"⟩, 43) := ⟨⟨by decide +kernel, by decide +kernel⟩, List.mem_of_getElem? (i := 734) (by decide +kernel), List.mem_of_getElem? (i := 1014) (by decide +kernel), List.mem_of_getElem? (i := 1015) (by decide +kernel)⟩
theorem lw_p62 : lw_okq (⟨"WaitPlacesModel", "come", "(JII)V"⟩, 43) := ⟨⟨by decide +kernel, by decide +kernel⟩, List.mem_of_getElem? (i := 734) (by decide +kernel), List.mem_of_getElem? (i := 1018) (by decide +kernel), List.mem_of_getElem? (i := 1019) (by decide +kernel)⟩
theorem lw_p63 : lw_okq (⟨"WaitPlacesModel", "isEnd", "()Z"⟩, 43) := ⟨⟨by decide +kernel, by decide +kernel⟩, List.mem_of_getElem? (i := 734) (by decide +kernel), List.mem_of_getElem? (i := 1024) (by decide +kernel), List.mem_of_getElem? (i := 1025) (by decide +kernel)⟩
def lw_privs_4 : List (MethodName × Nat) := [(⟨"WaitPlacesModel", "packed", "()J"⟩, 43), (⟨"WaitPlacesModel", "act", "(I)V"⟩, 43), (⟨"WaitPlacesModel", "goOn", "(I)V"⟩, 43), (⟨"WaitPlacesModel", "comeToRow", "(II)V"⟩, 43), (⟨"WaitPlacesModel", "wake", "(II)V"⟩, 43), (⟨"WaitPlacesModel", "wakeFrom", "(I)V"⟩, 43), (⟨"WaitPlacesModel", "moveOn", "(II)V"⟩, 43), (⟨"WaitPlacesModel", "lock", "(II)V"⟩, 43), (⟨"WaitPlacesModel", "leadsTo", "(II)Z"⟩, 43), (⟨"WaitPlacesModel", "handOn", "(I)Z"⟩, 43), (⟨"WaitPlacesModel", "die", "(I)V"⟩, 43), (⟨"WaitPlacesModel", "open", "(J)V"⟩, 43), (⟨"WaitPlacesModel", "counts", "()Z"⟩, 43), (⟨"WaitPlacesModel", "explores", "()Z"⟩, 43), (⟨"WaitPlacesModel", "come", "(JII)V"⟩, 43), (⟨"WaitPlacesModel", "isEnd", "()Z"⟩, 43)]
theorem lw_r4 : ∀ q ∈ lw_privs_4, lw_okq q := List.forall_mem_cons.mpr ⟨lw_p48, List.forall_mem_cons.mpr ⟨lw_p49, List.forall_mem_cons.mpr ⟨lw_p50, List.forall_mem_cons.mpr ⟨lw_p51, List.forall_mem_cons.mpr ⟨lw_p52, List.forall_mem_cons.mpr ⟨lw_p53, List.forall_mem_cons.mpr ⟨lw_p54, List.forall_mem_cons.mpr ⟨lw_p55, List.forall_mem_cons.mpr ⟨lw_p56, List.forall_mem_cons.mpr ⟨lw_p57, List.forall_mem_cons.mpr ⟨lw_p58, List.forall_mem_cons.mpr ⟨lw_p59, List.forall_mem_cons.mpr ⟨lw_p60, List.forall_mem_cons.mpr ⟨lw_p61, List.forall_mem_cons.mpr ⟨lw_p62, List.forall_mem_cons.mpr ⟨lw_p63, fun _ h => absurd h List.not_mem_nil⟩⟩⟩⟩⟩⟩⟩⟩⟩⟩⟩⟩⟩⟩⟩⟩
theorem lw_p64 : lw_okq (⟨"WaitPlacesModel", "countEnd", "(I)V"⟩, 43) := ⟨⟨by decide +kernel, by decide +kernel⟩, List.mem_of_getElem? (i := 734) (by decide +kernel), List.mem_of_getElem? (i := 1028) (by decide +kernel), List.mem_of_getElem? (i := 1029) (by decide +kernel)⟩
theorem lw_p65 : lw_okq (⟨"WaitPlacesModel", "isStuck", "()Z"⟩, 43) := ⟨⟨by decide +kernel, by decide +kernel⟩, List.mem_of_getElem? (i := 734) (by decide +kernel), List.mem_of_getElem? (i := 1032) (by decide +kernel), List.mem_of_getElem? (i := 1033) (by decide +kernel)⟩
theorem lw_p66 : lw_okq (⟨"WaitPlacesModel", "isSeenSo", "()Z"⟩, 43) := ⟨⟨by decide +kernel, by decide +kernel⟩, List.mem_of_getElem? (i := 734) (by decide +kernel), List.mem_of_getElem? (i := 1036) (by decide +kernel), List.mem_of_getElem? (i := 1037) (by decide +kernel)⟩
theorem lw_p67 : lw_okq (⟨"WaitPlacesModel", "rowLength", "()I"⟩, 43) := ⟨⟨by decide +kernel, by decide +kernel⟩, List.mem_of_getElem? (i := 734) (by decide +kernel), List.mem_of_getElem? (i := 1076) (by decide +kernel), List.mem_of_getElem? (i := 1077) (by decide +kernel)⟩
def lw_privs_5 : List (MethodName × Nat) := [(⟨"WaitPlacesModel", "countEnd", "(I)V"⟩, 43), (⟨"WaitPlacesModel", "isStuck", "()Z"⟩, 43), (⟨"WaitPlacesModel", "isSeenSo", "()Z"⟩, 43), (⟨"WaitPlacesModel", "rowLength", "()I"⟩, 43)]
theorem lw_r5 : ∀ q ∈ lw_privs_5, lw_okq q := List.forall_mem_cons.mpr ⟨lw_p64, List.forall_mem_cons.mpr ⟨lw_p65, List.forall_mem_cons.mpr ⟨lw_p66, List.forall_mem_cons.mpr ⟨lw_p67, fun _ h => absurd h List.not_mem_nil⟩⟩⟩⟩
def lw_privs : List (MethodName × Nat) := lw_privs_1 ++ (lw_privs_2 ++ (lw_privs_3 ++ (lw_privs_4 ++ (lw_privs_5))))
def lw_tbl : List Cond := k2_sels lw_privs ++ tables_1
theorem lw_privs_ok : ∀ q ∈ lw_privs, lw_okq q := by
  show ∀ q ∈ lw_privs_1 ++ (lw_privs_2 ++ (lw_privs_3 ++ (lw_privs_4 ++ (lw_privs_5)))), lw_okq q
  exact List.forall_mem_append.mpr ⟨lw_r1, List.forall_mem_append.mpr ⟨lw_r2, List.forall_mem_append.mpr ⟨lw_r3, List.forall_mem_append.mpr ⟨lw_r4, lw_r5⟩⟩⟩⟩
end
section
def RX0 : String := "WaitPlaces$Past"
def TX0 : u_T := fun k => match k with
  | 0 => ("WaitPlaces$Past", "scenes", "LWaitPlaces$Shelf;", true)
  | 1 => ("WaitPlaces$Past", "next", "I", false)
  | _ => ("WaitPlaces$Past", "size", "I", false)
def tyX0 : Nat → FieldType := fun k => match k with
  | 0 => .object "WaitPlaces$Shelf"
  | 1 => .int
  | _ => .int
abbrev wsX00 : List Cond := u_ws RX0 TX0 3
theorem nmX0 : ∀ a, a < 3 → ∀ b, b < 3 → a ≠ b → (TX0 a).2.1 ≠ (TX0 b).2.1 := by decide +kernel
theorem tyX0_ok : ∀ k, k < 3 → parseFieldDescriptor (TX0 k).2.2.1 = some (tyX0 k) := by decide +kernel
abbrev cX0_init : ByteArray := prog_2_method_1_code
def yX0_init : MethodName := ⟨RX0, "<init>", "()V"⟩
abbrev cX0_empty : ByteArray := prog_2_method_2_code
def yX0_empty : MethodName := ⟨RX0, "empty", "()V"⟩
abbrev cX0_push : ByteArray := prog_2_method_3_code
def yX0_push : MethodName := ⟨RX0, "push", "(LWaitPlaces$Scene;)V"⟩
abbrev cX0_pop : ByteArray := prog_2_method_4_code
def yX0_pop : MethodName := ⟨RX0, "pop", "(LWaitPlaces$Scene;)V"⟩
def RX1 : String := "WaitPlaces$Reader"
def TX1 : u_T := fun k => match k with
  | 0 => ("WaitPlaces$Reader", "kinds", "[I", true)
  | 1 => ("WaitPlaces$Reader", "starts", "[I", true)
  | 2 => ("WaitPlaces$Reader", "tokens", "I", false)
  | _ => ("WaitPlaces$Reader", "at", "I", false)
def tyX1 : Nat → FieldType := fun k => match k with
  | 0 => .array .int
  | 1 => .array .int
  | 2 => .int
  | _ => .int
abbrev wsX10 : List Cond := u_ws RX1 TX1 4
theorem nmX1 : ∀ a, a < 4 → ∀ b, b < 4 → a ≠ b → (TX1 a).2.1 ≠ (TX1 b).2.1 := by decide +kernel
theorem tyX1_ok : ∀ k, k < 4 → parseFieldDescriptor (TX1 k).2.2.1 = some (tyX1 k) := by decide +kernel
abbrev cX1_init : ByteArray := prog_3_method_1_code
def yX1_init : MethodName := ⟨RX1, "<init>", "()V"⟩
abbrev cX1_read : ByteArray := prog_3_method_2_code
def yX1_read : MethodName := ⟨RX1, "read", "([IILWaitPlaces$Told;)I"⟩
abbrev cX1_split : ByteArray := prog_3_method_3_code
def yX1_split : MethodName := ⟨RX1, "split", "([II)V"⟩
abbrev cX1_kindOf : ByteArray := prog_3_method_4_code
def yX1_kindOf : MethodName := ⟨RX1, "kindOf", "(I)I"⟩
abbrev cX1_addToken : ByteArray := prog_3_method_5_code
def yX1_addToken : MethodName := ⟨RX1, "addToken", "(II)V"⟩
abbrev cX1_token : ByteArray := prog_3_method_6_code
def yX1_token : MethodName := ⟨RX1, "token", "()I"⟩
abbrev cX1_start : ByteArray := prog_3_method_7_code
def yX1_start : MethodName := ⟨RX1, "start", "()I"⟩
abbrev cX1_takeItem : ByteArray := prog_3_method_8_code
def yX1_takeItem : MethodName := ⟨RX1, "takeItem", "(LWaitPlaces$Told;)Z"⟩
abbrev cX1_takeValue : ByteArray := prog_3_method_9_code
def yX1_takeValue : MethodName := ⟨RX1, "takeValue", "(LWaitPlaces$Told;)Z"⟩
abbrev cX1_takeRank : ByteArray := prog_3_method_10_code
def yX1_takeRank : MethodName := ⟨RX1, "takeRank", "(LWaitPlaces$Told;)Z"⟩
abbrev cX1_takeThread : ByteArray := prog_3_method_11_code
def yX1_takeThread : MethodName := ⟨RX1, "takeThread", "(LWaitPlaces$Told;)Z"⟩
abbrev cX1_takeOperation : ByteArray := prog_3_method_12_code
def yX1_takeOperation : MethodName := ⟨RX1, "takeOperation", "(LWaitPlaces$Told;)Z"⟩
abbrev cX1_takeNumber : ByteArray := prog_3_method_13_code
def yX1_takeNumber : MethodName := ⟨RX1, "takeNumber", "(II)I"⟩
abbrev cX1_takeEnd : ByteArray := prog_3_method_14_code
def yX1_takeEnd : MethodName := ⟨RX1, "takeEnd", "()Z"⟩
def RX2 : String := "WaitPlaces$Scene"
def TX2 : u_T := fun k => match k with
  | 0 => ("WaitPlaces$Scene", "value", "[I", true)
  | 1 => ("WaitPlaces$Scene", "owner", "[I", true)
  | 2 => ("WaitPlaces$Scene", "dead", "[I", true)
  | 3 => ("WaitPlaces$Scene", "behind", "[I", true)
  | 4 => ("WaitPlaces$Scene", "how", "[I", true)
  | 5 => ("WaitPlaces$Scene", "where", "[I", true)
  | 6 => ("WaitPlaces$Scene", "between", "[I", true)
  | 7 => ("WaitPlaces$Scene", "queue", "[I", true)
  | 8 => ("WaitPlaces$Scene", "lent", "[I", true)
  | 9 => ("WaitPlaces$Scene", "queued", "I", false)
  | _ => ("WaitPlaces$Scene", "found", "I", false)
def tyX2 : Nat → FieldType := fun k => match k with
  | 0 => .array .int
  | 1 => .array .int
  | 2 => .array .int
  | 3 => .array .int
  | 4 => .array .int
  | 5 => .array .int
  | 6 => .array .int
  | 7 => .array .int
  | 8 => .array .int
  | 9 => .int
  | _ => .int
abbrev wsX20 : List Cond := u_ws RX2 TX2 11
theorem nmX2 : ∀ a, a < 11 → ∀ b, b < 11 → a ≠ b → (TX2 a).2.1 ≠ (TX2 b).2.1 := by decide +kernel
theorem tyX2_ok : ∀ k, k < 11 → parseFieldDescriptor (TX2 k).2.2.1 = some (tyX2 k) := by decide +kernel
abbrev cX2_init : ByteArray := prog_4_method_1_code
def yX2_init : MethodName := ⟨RX2, "<init>", "()V"⟩
abbrev cX2_begin : ByteArray := prog_4_method_2_code
def yX2_begin : MethodName := ⟨RX2, "begin", "(LWaitPlaces$Told;)V"⟩
abbrev cX2_packed : ByteArray := prog_4_method_3_code
def yX2_packed : MethodName := ⟨RX2, "packed", "()J"⟩
abbrev cX2_unpack : ByteArray := prog_4_method_4_code
def yX2_unpack : MethodName := ⟨RX2, "unpack", "(J)V"⟩
abbrev cX2_isEnd : ByteArray := prog_4_method_5_code
def yX2_isEnd : MethodName := ⟨RX2, "isEnd", "()Z"⟩
abbrev cX2_isStuck : ByteArray := prog_4_method_6_code
def yX2_isStuck : MethodName := ⟨RX2, "isStuck", "()Z"⟩
abbrev cX2_howMany : ByteArray := prog_4_method_7_code
def yX2_howMany : MethodName := ⟨RX2, "howMany", "(II)I"⟩
abbrev cX2_lentRank : ByteArray := prog_4_method_8_code
def yX2_lentRank : MethodName := ⟨RX2, "lentRank", "(LWaitPlaces$Told;I)I"⟩
abbrev cX2_lendRanks : ByteArray := prog_4_method_9_code
def yX2_lendRanks : MethodName := ⟨RX2, "lendRanks", "(LWaitPlaces$Told;)V"⟩
abbrev cX2_awaited : ByteArray := prog_4_method_10_code
def yX2_awaited : MethodName := ⟨RX2, "awaited", "(I)I"⟩
abbrev cX2_is : ByteArray := prog_4_method_11_code
def yX2_is : MethodName := ⟨RX2, "is", "(III)Z"⟩
abbrev cX2_perform : ByteArray := prog_4_method_12_code
def yX2_perform : MethodName := ⟨RX2, "perform", "(LWaitPlaces$Told;I)V"⟩
abbrev cX2_change : ByteArray := prog_4_method_13_code
def yX2_change : MethodName := ⟨RX2, "change", "(LWaitPlaces$Told;III)V"⟩
abbrev cX2_waitAtOnce : ByteArray := prog_4_method_14_code
def yX2_waitAtOnce : MethodName := ⟨RX2, "waitAtOnce", "(LWaitPlaces$Told;III)V"⟩
abbrev cX2_waitInTwo : ByteArray := prog_4_method_15_code
def yX2_waitInTwo : MethodName := ⟨RX2, "waitInTwo", "(LWaitPlaces$Told;III)V"⟩
abbrev cX2_wake : ByteArray := prog_4_method_16_code
def yX2_wake : MethodName := ⟨RX2, "wake", "(LWaitPlaces$Told;III)V"⟩
abbrev cX2_move : ByteArray := prog_4_method_17_code
def yX2_move : MethodName := ⟨RX2, "move", "(LWaitPlaces$Told;III)V"⟩
abbrev cX2_lock : ByteArray := prog_4_method_18_code
def yX2_lock : MethodName := ⟨RX2, "lock", "(LWaitPlaces$Told;II)V"⟩
abbrev cX2_leadsTo : ByteArray := prog_4_method_19_code
def yX2_leadsTo : MethodName := ⟨RX2, "leadsTo", "(II)Z"⟩
abbrev cX2_unlock : ByteArray := prog_4_method_20_code
def yX2_unlock : MethodName := ⟨RX2, "unlock", "(LWaitPlaces$Told;II)V"⟩
abbrev cX2_die : ByteArray := prog_4_method_21_code
def yX2_die : MethodName := ⟨RX2, "die", "(LWaitPlaces$Told;I)V"⟩
abbrev cX2_handOn : ByteArray := prog_4_method_22_code
def yX2_handOn : MethodName := ⟨RX2, "handOn", "(LWaitPlaces$Told;I)V"⟩
abbrev cX2_take : ByteArray := prog_4_method_23_code
def yX2_take : MethodName := ⟨RX2, "take", "(II)V"⟩
abbrev cX2_firstAsleep : ByteArray := prog_4_method_24_code
def yX2_firstAsleep : MethodName := ⟨RX2, "firstAsleep", "(I)I"⟩
abbrev cX2_join : ByteArray := prog_4_method_25_code
def yX2_join : MethodName := ⟨RX2, "join", "(III)V"⟩
abbrev cX2_release : ByteArray := prog_4_method_26_code
def yX2_release : MethodName := ⟨RX2, "release", "(LWaitPlaces$Told;I)V"⟩
abbrev cX2_goOn : ByteArray := prog_4_method_27_code
def yX2_goOn : MethodName := ⟨RX2, "goOn", "(LWaitPlaces$Told;I)V"⟩
def RX3 : String := "WaitPlaces$Search"
def TX3 : u_T := fun k => match k with
  | 0 => ("WaitPlaces$Search", "states", "[J", true)
  | 1 => ("WaitPlaces$Search", "came", "[I", true)
  | 2 => ("WaitPlaces$Search", "slots", "[I", true)
  | 3 => ("WaitPlaces$Search", "scene", "LWaitPlaces$Scene;", true)
  | 4 => ("WaitPlaces$Search", "following", "LWaitPlaces$Scene;", true)
  | 5 => ("WaitPlaces$Search", "finals", "[I", true)
  | 6 => ("WaitPlaces$Search", "owners", "[I", true)
  | 7 => ("WaitPlaces$Search", "outdated", "Z", false)
  | 8 => ("WaitPlaces$Search", "full", "Z", false)
  | 9 => ("WaitPlaces$Search", "size", "I", false)
  | 10 => ("WaitPlaces$Search", "ends", "I", false)
  | 11 => ("WaitPlaces$Search", "stuck", "I", false)
  | 12 => ("WaitPlaces$Search", "firstEnd", "I", false)
  | 13 => ("WaitPlaces$Search", "firstStuck", "I", false)
  | _ => ("WaitPlaces$Search", "sleepers", "I", false)
def tyX3 : Nat → FieldType := fun k => match k with
  | 0 => .array .long
  | 1 => .array .int
  | 2 => .array .int
  | 3 => .object "WaitPlaces$Scene"
  | 4 => .object "WaitPlaces$Scene"
  | 5 => .array .int
  | 6 => .array .int
  | 7 => .boolean
  | 8 => .boolean
  | 9 => .int
  | 10 => .int
  | 11 => .int
  | 12 => .int
  | 13 => .int
  | _ => .int
abbrev wsX30 : List Cond := u_ws RX3 TX3 15
theorem nmX3 : ∀ a, a < 15 → ∀ b, b < 15 → a ≠ b → (TX3 a).2.1 ≠ (TX3 b).2.1 := by decide +kernel
theorem tyX3_ok : ∀ k, k < 15 → parseFieldDescriptor (TX3 k).2.2.1 = some (tyX3 k) := by decide +kernel
abbrev cX3_init : ByteArray := prog_5_method_1_code
def yX3_init : MethodName := ⟨RX3, "<init>", "()V"⟩
abbrev cX3_knows : ByteArray := prog_5_method_2_code
def yX3_knows : MethodName := ⟨RX3, "knows", "(LWaitPlaces$Told;LWaitPlaces$Scene;)Z"⟩
abbrev cX3_empty : ByteArray := prog_5_method_3_code
def yX3_empty : MethodName := ⟨RX3, "empty", "()V"⟩
abbrev cX3_add : ByteArray := prog_5_method_4_code
def yX3_add : MethodName := ⟨RX3, "add", "(JI)V"⟩
abbrev cX3_append : ByteArray := prog_5_method_5_code
def yX3_append : MethodName := ⟨RX3, "append", "(JII)V"⟩
abbrev cX3_isState : ByteArray := prog_5_method_6_code
def yX3_isState : MethodName := ⟨RX3, "isState", "(I)Z"⟩
abbrev cX3_weigh : ByteArray := prog_5_method_7_code
def yX3_weigh : MethodName := ⟨RX3, "weigh", "(I)V"⟩
abbrev cX3_weighEnd : ByteArray := prog_5_method_8_code
def yX3_weighEnd : MethodName := ⟨RX3, "weighEnd", "(I)V"⟩
abbrev cX3_weighStuck : ByteArray := prog_5_method_9_code
def yX3_weighStuck : MethodName := ⟨RX3, "weighStuck", "(I)V"⟩
abbrev cX3_stepsTo : ByteArray := prog_5_method_10_code
def yX3_stepsTo : MethodName := ⟨RX3, "stepsTo", "(I)I"⟩
abbrev cX3_stepper : ByteArray := prog_5_method_11_code
def yX3_stepper : MethodName := ⟨RX3, "stepper", "(II)I"⟩
abbrev cX3_endsThatFit : ByteArray := prog_5_method_12_code
def yX3_endsThatFit : MethodName := ⟨RX3, "endsThatFit", "(LWaitPlaces$Sights;Z)I"⟩
def RX4 : String := "WaitPlaces$Shelf"
def TX4 : u_T := fun k => match k with
  | 0 => ("WaitPlaces$Shelf", "bits", "[J", true)
  | 1 => ("WaitPlaces$Shelf", "found", "[I", true)
  | _ => ("WaitPlaces$Shelf", "kept", "[Z", true)
def tyX4 : Nat → FieldType := fun k => match k with
  | 0 => .array .long
  | 1 => .array .int
  | _ => .array .boolean
abbrev wsX40 : List Cond := u_ws RX4 TX4 3
theorem nmX4 : ∀ a, a < 3 → ∀ b, b < 3 → a ≠ b → (TX4 a).2.1 ≠ (TX4 b).2.1 := by decide +kernel
theorem tyX4_ok : ∀ k, k < 3 → parseFieldDescriptor (TX4 k).2.2.1 = some (tyX4 k) := by decide +kernel
abbrev cX4_init : ByteArray := prog_6_method_1_code
def yX4_init : MethodName := ⟨RX4, "<init>", "(I)V"⟩
abbrev cX4_empty : ByteArray := prog_6_method_2_code
def yX4_empty : MethodName := ⟨RX4, "empty", "()V"⟩
abbrev cX4_holds : ByteArray := prog_6_method_3_code
def yX4_holds : MethodName := ⟨RX4, "holds", "(I)Z"⟩
abbrev cX4_put : ByteArray := prog_6_method_4_code
def yX4_put : MethodName := ⟨RX4, "put", "(ILWaitPlaces$Scene;)V"⟩
abbrev cX4_fetch : ByteArray := prog_6_method_5_code
def yX4_fetch : MethodName := ⟨RX4, "fetch", "(ILWaitPlaces$Scene;)V"⟩
def RX5 : String := "WaitPlaces$Sights"
def TX5 : u_T := fun k => match k with
  | 0 => ("WaitPlaces$Sights", "at", "[I", true)
  | 1 => ("WaitPlaces$Sights", "value", "[I", true)
  | _ => ("WaitPlaces$Sights", "size", "I", false)
def tyX5 : Nat → FieldType := fun k => match k with
  | 0 => .array .int
  | 1 => .array .int
  | _ => .int
abbrev wsX50 : List Cond := u_ws RX5 TX5 3
theorem nmX5 : ∀ a, a < 3 → ∀ b, b < 3 → a ≠ b → (TX5 a).2.1 ≠ (TX5 b).2.1 := by decide +kernel
theorem tyX5_ok : ∀ k, k < 3 → parseFieldDescriptor (TX5 k).2.2.1 = some (tyX5 k) := by decide +kernel
abbrev cX5_init : ByteArray := prog_7_method_1_code
def yX5_init : MethodName := ⟨RX5, "<init>", "()V"⟩
abbrev cX5_add : ByteArray := prog_7_method_2_code
def yX5_add : MethodName := ⟨RX5, "add", "(II)V"⟩
abbrev cX5_fit : ByteArray := prog_7_method_3_code
def yX5_fit : MethodName := ⟨RX5, "fit", "(LWaitPlaces$Scene;)Z"⟩
def RX6 : String := "WaitPlaces$Told"
def TX6 : u_T := fun k => match k with
  | 0 => ("WaitPlaces$Told", "value", "[I", true)
  | 1 => ("WaitPlaces$Told", "rank", "[I", true)
  | 2 => ("WaitPlaces$Told", "length", "[I", true)
  | 3 => ("WaitPlaces$Told", "letter", "[I", true)
  | 4 => ("WaitPlaces$Told", "first", "[I", true)
  | 5 => ("WaitPlaces$Told", "second", "[I", true)
  | _ => ("WaitPlaces$Told", "size", "I", false)
def tyX6 : Nat → FieldType := fun k => match k with
  | 0 => .array .int
  | 1 => .array .int
  | 2 => .array .int
  | 3 => .array .int
  | 4 => .array .int
  | 5 => .array .int
  | _ => .int
abbrev wsX60 : List Cond := u_ws RX6 TX6 7
theorem nmX6 : ∀ a, a < 7 → ∀ b, b < 7 → a ≠ b → (TX6 a).2.1 ≠ (TX6 b).2.1 := by decide +kernel
theorem tyX6_ok : ∀ k, k < 7 → parseFieldDescriptor (TX6 k).2.2.1 = some (tyX6 k) := by decide +kernel
abbrev cX6_init : ByteArray := prog_8_method_1_code
def yX6_init : MethodName := ⟨RX6, "<init>", "()V"⟩
abbrev cX6_empty : ByteArray := prog_8_method_2_code
def yX6_empty : MethodName := ⟨RX6, "empty", "()V"⟩
abbrev cX6_addOperation : ByteArray := prog_8_method_3_code
def yX6_addOperation : MethodName := ⟨RX6, "addOperation", "(IIII)V"⟩
abbrev cX6_letterOf : ByteArray := prog_8_method_4_code
def yX6_letterOf : MethodName := ⟨RX6, "letterOf", "(II)I"⟩
abbrev cX6_placeOf : ByteArray := prog_8_method_5_code
def yX6_placeOf : MethodName := ⟨RX6, "placeOf", "(II)I"⟩
abbrev cX6_numberOf : ByteArray := prog_8_method_6_code
def yX6_numberOf : MethodName := ⟨RX6, "numberOf", "(II)I"⟩
abbrev cX6_isOperation : ByteArray := prog_8_method_7_code
def yX6_isOperation : MethodName := ⟨RX6, "isOperation", "(II)Z"⟩
def RX7 : String := "WaitPlaces"
def TX7 : u_T := fun k => match k with
  | 0 => ("WaitPlaces", "text", "[I", true)
  | 1 => ("WaitPlaces", "letters", "I", false)
  | 2 => ("WaitPlaces", "told", "LWaitPlaces$Told;", false)
  | 3 => ("WaitPlaces", "draft", "LWaitPlaces$Told;", false)
  | 4 => ("WaitPlaces", "reader", "LWaitPlaces$Reader;", true)
  | 5 => ("WaitPlaces", "now", "LWaitPlaces$Scene;", true)
  | 6 => ("WaitPlaces", "past", "LWaitPlaces$Past;", true)
  | 7 => ("WaitPlaces", "images", "LWaitPlaces$Shelf;", true)
  | 8 => ("WaitPlaces", "sights", "LWaitPlaces$Sights;", true)
  | _ => ("WaitPlaces", "search", "LWaitPlaces$Search;", true)
def tyX7 : Nat → FieldType := fun k => match k with
  | 0 => .array .int
  | 1 => .int
  | 2 => .object "WaitPlaces$Told"
  | 3 => .object "WaitPlaces$Told"
  | 4 => .object "WaitPlaces$Reader"
  | 5 => .object "WaitPlaces$Scene"
  | 6 => .object "WaitPlaces$Past"
  | 7 => .object "WaitPlaces$Shelf"
  | 8 => .object "WaitPlaces$Sights"
  | _ => .object "WaitPlaces$Search"
abbrev wsX70 : List Cond := u_ws RX7 TX7 10
theorem nmX7 : ∀ a, a < 10 → ∀ b, b < 10 → a ≠ b → (TX7 a).2.1 ≠ (TX7 b).2.1 := by decide +kernel
theorem tyX7_ok : ∀ k, k < 10 → parseFieldDescriptor (TX7 k).2.2.1 = some (tyX7 k) := by decide +kernel
abbrev cX7_init : ByteArray := prog_1_method_1_code
def yX7_init : MethodName := ⟨RX7, "<init>", "()V"⟩
abbrev cX7_type : ByteArray := prog_1_method_2_code
def yX7_type : MethodName := ⟨RX7, "type", "(I)I"⟩
abbrev cX7_clear : ByteArray := prog_1_method_3_code
def yX7_clear : MethodName := ⟨RX7, "clear", "()I"⟩
abbrev cX7_threads : ByteArray := prog_1_method_4_code
def yX7_threads : MethodName := ⟨RX7, "threads", "()I"⟩
abbrev cX7_place : ByteArray := prog_1_method_5_code
def yX7_place : MethodName := ⟨RX7, "place", "(II)I"⟩
abbrev cX7_thread : ByteArray := prog_1_method_6_code
def yX7_thread : MethodName := ⟨RX7, "thread", "(II)I"⟩
abbrev cX7_row : ByteArray := prog_1_method_7_code
def yX7_row : MethodName := ⟨RX7, "row", "(I)I"⟩
abbrev cX7_step : ByteArray := prog_1_method_8_code
def yX7_step : MethodName := ⟨RX7, "step", "(I)I"⟩
abbrev cX7_undo : ByteArray := prog_1_method_9_code
def yX7_undo : MethodName := ⟨RX7, "undo", "()I"⟩
abbrev cX7_all : ByteArray := prog_1_method_10_code
def yX7_all : MethodName := ⟨RX7, "all", "(I)I"⟩
abbrev cX7_worst : ByteArray := prog_1_method_11_code
def yX7_worst : MethodName := ⟨RX7, "worst", "(I)I"⟩
abbrev cX7_can : ByteArray := prog_1_method_12_code
def yX7_can : MethodName := ⟨RX7, "can", "(II)I"⟩
abbrev cX7_slept : ByteArray := prog_1_method_13_code
def yX7_slept : MethodName := ⟨RX7, "slept", "()I"⟩
abbrev cX7_sees : ByteArray := prog_1_method_14_code
def yX7_sees : MethodName := ⟨RX7, "sees", "(II)I"⟩
abbrev cX7_forget : ByteArray := prog_1_method_15_code
def yX7_forget : MethodName := ⟨RX7, "forget", "()I"⟩
abbrev cX7_unseen : ByteArray := prog_1_method_16_code
def yX7_unseen : MethodName := ⟨RX7, "unseen", "(I)I"⟩
abbrev cX7_keep : ByteArray := prog_1_method_17_code
def yX7_keep : MethodName := ⟨RX7, "keep", "(I)I"⟩
abbrev cX7_back : ByteArray := prog_1_method_18_code
def yX7_back : MethodName := ⟨RX7, "back", "(I)I"⟩
abbrev cX7_count : ByteArray := prog_1_method_19_code
def yX7_count : MethodName := ⟨RX7, "count", "(I)I"⟩
abbrev cX7_isTold : ByteArray := prog_1_method_20_code
def yX7_isTold : MethodName := ⟨RX7, "isTold", "(I)Z"⟩
abbrev cX7_isPlace : ByteArray := prog_1_method_21_code
def yX7_isPlace : MethodName := ⟨RX7, "isPlace", "(I)Z"⟩
abbrev cX7_isThread : ByteArray := prog_1_method_22_code
def yX7_isThread : MethodName := ⟨RX7, "isThread", "(I)Z"⟩
def RX8 : String := "WaitPlacesModel"
def TX8 : u_T := fun k => match k with
  | 0 => ("WaitPlacesModel", "firstValues", "[I", true)
  | 1 => ("WaitPlacesModel", "threads", "I", false)
  | 2 => ("WaitPlacesModel", "ranks", "[I", true)
  | 3 => ("WaitPlacesModel", "lengths", "[I", true)
  | 4 => ("WaitPlacesModel", "ops", "[I", true)
  | 5 => ("WaitPlacesModel", "st", "[I", true)
  | 6 => ("WaitPlacesModel", "found", "I", false)
  | 7 => ("WaitPlacesModel", "lent", "[I", true)
  | 8 => ("WaitPlacesModel", "text", "[I", true)
  | 9 => ("WaitPlacesModel", "length", "I", false)
  | 10 => ("WaitPlacesModel", "place", "I", false)
  | 11 => ("WaitPlacesModel", "from", "I", false)
  | 12 => ("WaitPlacesModel", "token", "I", false)
  | 13 => ("WaitPlacesModel", "number", "I", false)
  | 14 => ("WaitPlacesModel", "wrong", "I", false)
  | 15 => ("WaitPlacesModel", "newThreads", "I", false)
  | 16 => ("WaitPlacesModel", "newValues", "[I", true)
  | 17 => ("WaitPlacesModel", "newRanks", "[I", true)
  | 18 => ("WaitPlacesModel", "newLengths", "[I", true)
  | 19 => ("WaitPlacesModel", "newOps", "[I", true)
  | 20 => ("WaitPlacesModel", "past", "[J", true)
  | 21 => ("WaitPlacesModel", "pastFound", "[I", true)
  | 22 => ("WaitPlacesModel", "undoMany", "I", false)
  | 23 => ("WaitPlacesModel", "states", "[J", true)
  | 24 => ("WaitPlacesModel", "before", "[I", true)
  | 25 => ("WaitPlacesModel", "by", "[I", true)
  | 26 => ("WaitPlacesModel", "deep", "[I", true)
  | 27 => ("WaitPlacesModel", "slots", "[I", true)
  | 28 => ("WaitPlacesModel", "many", "I", false)
  | 29 => ("WaitPlacesModel", "ends", "I", false)
  | 30 => ("WaitPlacesModel", "stuck", "I", false)
  | 31 => ("WaitPlacesModel", "leastEnd", "I", false)
  | 32 => ("WaitPlacesModel", "firstStuck", "I", false)
  | 33 => ("WaitPlacesModel", "finals", "[I", true)
  | 34 => ("WaitPlacesModel", "owners", "[I", true)
  | 35 => ("WaitPlacesModel", "sleepers", "I", false)
  | 36 => ("WaitPlacesModel", "fits", "I", false)
  | 37 => ("WaitPlacesModel", "fitsStuck", "I", false)
  | 38 => ("WaitPlacesModel", "seen", "[I", true)
  | 39 => ("WaitPlacesModel", "seenMany", "I", false)
  | 40 => ("WaitPlacesModel", "kept", "[J", true)
  | 41 => ("WaitPlacesModel", "keptFound", "[I", true)
  | _ => ("WaitPlacesModel", "isKept", "[Z", true)
def tyX8 : Nat → FieldType := fun k => match k with
  | 0 => .array .int
  | 1 => .int
  | 2 => .array .int
  | 3 => .array .int
  | 4 => .array .int
  | 5 => .array .int
  | 6 => .int
  | 7 => .array .int
  | 8 => .array .int
  | 9 => .int
  | 10 => .int
  | 11 => .int
  | 12 => .int
  | 13 => .int
  | 14 => .int
  | 15 => .int
  | 16 => .array .int
  | 17 => .array .int
  | 18 => .array .int
  | 19 => .array .int
  | 20 => .array .long
  | 21 => .array .int
  | 22 => .int
  | 23 => .array .long
  | 24 => .array .int
  | 25 => .array .int
  | 26 => .array .int
  | 27 => .array .int
  | 28 => .int
  | 29 => .int
  | 30 => .int
  | 31 => .int
  | 32 => .int
  | 33 => .array .int
  | 34 => .array .int
  | 35 => .int
  | 36 => .int
  | 37 => .int
  | 38 => .array .int
  | 39 => .int
  | 40 => .array .long
  | 41 => .array .int
  | _ => .array .boolean
abbrev wsX80 : List Cond := u_ws RX8 TX8 43
theorem nmX8 : ∀ a, a < 43 → ∀ b, b < 43 → a ≠ b → (TX8 a).2.1 ≠ (TX8 b).2.1 := by decide +kernel
theorem tyX8_ok : ∀ k, k < 43 → parseFieldDescriptor (TX8 k).2.2.1 = some (tyX8 k) := by decide +kernel
abbrev cX8_init : ByteArray := prog_10_method_1_code
def yX8_init : MethodName := ⟨RX8, "<init>", "()V"⟩
abbrev cX8_in : ByteArray := prog_10_method_2_code
def yX8_in : MethodName := ⟨RX8, "in", "(JJJ)Z"⟩
abbrev cX8_isPlace : ByteArray := prog_10_method_3_code
def yX8_isPlace : MethodName := ⟨RX8, "isPlace", "(I)Z"⟩
abbrev cX8_isThread : ByteArray := prog_10_method_4_code
def yX8_isThread : MethodName := ⟨RX8, "isThread", "(I)Z"⟩
abbrev cX8_packed : ByteArray := prog_10_method_5_code
def yX8_packed : MethodName := ⟨RX8, "packed", "()J"⟩
abbrev cX8_open : ByteArray := prog_10_method_6_code
def yX8_open : MethodName := ⟨RX8, "open", "(J)V"⟩
abbrev cX8_begin : ByteArray := prog_10_method_7_code
def yX8_begin : MethodName := ⟨RX8, "begin", "()V"⟩
abbrev cX8_goOn : ByteArray := prog_10_method_8_code
def yX8_goOn : MethodName := ⟨RX8, "goOn", "(I)V"⟩
abbrev cX8_comeToRow : ByteArray := prog_10_method_9_code
def yX8_comeToRow : MethodName := ⟨RX8, "comeToRow", "(II)V"⟩
abbrev cX8_wakeFrom : ByteArray := prog_10_method_10_code
def yX8_wakeFrom : MethodName := ⟨RX8, "wakeFrom", "(I)V"⟩
abbrev cX8_layRanks : ByteArray := prog_10_method_11_code
def yX8_layRanks : MethodName := ⟨RX8, "layRanks", "()V"⟩
abbrev cX8_handOn : ByteArray := prog_10_method_12_code
def yX8_handOn : MethodName := ⟨RX8, "handOn", "(I)Z"⟩
abbrev cX8_wake : ByteArray := prog_10_method_13_code
def yX8_wake : MethodName := ⟨RX8, "wake", "(II)V"⟩
abbrev cX8_moveOn : ByteArray := prog_10_method_14_code
def yX8_moveOn : MethodName := ⟨RX8, "moveOn", "(II)V"⟩
abbrev cX8_leadsTo : ByteArray := prog_10_method_15_code
def yX8_leadsTo : MethodName := ⟨RX8, "leadsTo", "(II)Z"⟩
abbrev cX8_lock : ByteArray := prog_10_method_16_code
def yX8_lock : MethodName := ⟨RX8, "lock", "(II)V"⟩
abbrev cX8_die : ByteArray := prog_10_method_17_code
def yX8_die : MethodName := ⟨RX8, "die", "(I)V"⟩
abbrev cX8_act : ByteArray := prog_10_method_18_code
def yX8_act : MethodName := ⟨RX8, "act", "(I)V"⟩
abbrev cX8_type : ByteArray := prog_10_method_19_code
def yX8_type : MethodName := ⟨RX8, "type", "(I)I"⟩
abbrev cX8_clear : ByteArray := prog_10_method_20_code
def yX8_clear : MethodName := ⟨RX8, "clear", "()I"⟩
abbrev cX8_next : ByteArray := prog_10_method_21_code
def yX8_next : MethodName := ⟨RX8, "next", "()V"⟩
abbrev cX8_faults : ByteArray := prog_10_method_22_code
def yX8_faults : MethodName := ⟨RX8, "faults", "()Z"⟩
abbrev cX8_takesNumber : ByteArray := prog_10_method_23_code
def yX8_takesNumber : MethodName := ⟨RX8, "takesNumber", "(II)Z"⟩
abbrev cX8_takesEnd : ByteArray := prog_10_method_24_code
def yX8_takesEnd : MethodName := ⟨RX8, "takesEnd", "()Z"⟩
abbrev cX8_isOp : ByteArray := prog_10_method_25_code
def yX8_isOp : MethodName := ⟨RX8, "isOp", "(I)Z"⟩
abbrev cX8_takesOp : ByteArray := prog_10_method_26_code
def yX8_takesOp : MethodName := ⟨RX8, "takesOp", "(I)Z"⟩
abbrev cX8_takesThread : ByteArray := prog_10_method_27_code
def yX8_takesThread : MethodName := ⟨RX8, "takesThread", "()Z"⟩
abbrev cX8_takesItem : ByteArray := prog_10_method_28_code
def yX8_takesItem : MethodName := ⟨RX8, "takesItem", "()Z"⟩
abbrev cX8_threads : ByteArray := prog_10_method_29_code
def yX8_threads : MethodName := ⟨RX8, "threads", "()I"⟩
abbrev cX8_place : ByteArray := prog_10_method_30_code
def yX8_place : MethodName := ⟨RX8, "place", "(II)I"⟩
abbrev cX8_thread : ByteArray := prog_10_method_31_code
def yX8_thread : MethodName := ⟨RX8, "thread", "(II)I"⟩
abbrev cX8_row : ByteArray := prog_10_method_32_code
def yX8_row : MethodName := ⟨RX8, "row", "(I)I"⟩
abbrev cX8_step : ByteArray := prog_10_method_33_code
def yX8_step : MethodName := ⟨RX8, "step", "(I)I"⟩
abbrev cX8_undo : ByteArray := prog_10_method_34_code
def yX8_undo : MethodName := ⟨RX8, "undo", "()I"⟩
abbrev cX8_isEnd : ByteArray := prog_10_method_35_code
def yX8_isEnd : MethodName := ⟨RX8, "isEnd", "()Z"⟩
abbrev cX8_isStuck : ByteArray := prog_10_method_36_code
def yX8_isStuck : MethodName := ⟨RX8, "isStuck", "()Z"⟩
abbrev cX8_come : ByteArray := prog_10_method_37_code
def yX8_come : MethodName := ⟨RX8, "come", "(JII)V"⟩
abbrev cX8_explores : ByteArray := prog_10_method_38_code
def yX8_explores : MethodName := ⟨RX8, "explores", "()Z"⟩
abbrev cX8_isSeenSo : ByteArray := prog_10_method_39_code
def yX8_isSeenSo : MethodName := ⟨RX8, "isSeenSo", "()Z"⟩
abbrev cX8_countEnd : ByteArray := prog_10_method_40_code
def yX8_countEnd : MethodName := ⟨RX8, "countEnd", "(I)V"⟩
abbrev cX8_counts : ByteArray := prog_10_method_41_code
def yX8_counts : MethodName := ⟨RX8, "counts", "()Z"⟩
abbrev cX8_all : ByteArray := prog_10_method_42_code
def yX8_all : MethodName := ⟨RX8, "all", "(I)I"⟩
abbrev cX8_worst : ByteArray := prog_10_method_43_code
def yX8_worst : MethodName := ⟨RX8, "worst", "(I)I"⟩
abbrev cX8_can : ByteArray := prog_10_method_44_code
def yX8_can : MethodName := ⟨RX8, "can", "(II)I"⟩
abbrev cX8_slept : ByteArray := prog_10_method_45_code
def yX8_slept : MethodName := ⟨RX8, "slept", "()I"⟩
abbrev cX8_sees : ByteArray := prog_10_method_46_code
def yX8_sees : MethodName := ⟨RX8, "sees", "(II)I"⟩
abbrev cX8_forget : ByteArray := prog_10_method_47_code
def yX8_forget : MethodName := ⟨RX8, "forget", "()I"⟩
abbrev cX8_unseen : ByteArray := prog_10_method_48_code
def yX8_unseen : MethodName := ⟨RX8, "unseen", "(I)I"⟩
abbrev cX8_keep : ByteArray := prog_10_method_49_code
def yX8_keep : MethodName := ⟨RX8, "keep", "(I)I"⟩
abbrev cX8_back : ByteArray := prog_10_method_50_code
def yX8_back : MethodName := ⟨RX8, "back", "(I)I"⟩
abbrev cX8_rowLength : ByteArray := prog_10_method_51_code
def yX8_rowLength : MethodName := ⟨RX8, "rowLength", "()I"⟩
abbrev cX8_count : ByteArray := prog_10_method_52_code
def yX8_count : MethodName := ⟨RX8, "count", "(I)I"⟩
def RJ11 : String := "java/lang/Character"
def TJ11 : u_T := fun k => match k with
  | _ => ("", "", "", false)
def tyJ11 : Nat → FieldType := fun k => match k with
  | _ => .int
abbrev wsJ110 : List Cond := u_ws RJ11 TJ11 0
theorem nmJ11 : ∀ a, a < 0 → ∀ b, b < 0 → a ≠ b → (TJ11 a).2.1 ≠ (TJ11 b).2.1 := by decide +kernel
theorem tyJ11_ok : ∀ k, k < 0 → parseFieldDescriptor (TJ11 k).2.2.1 = some (tyJ11 k) := by decide +kernel
abbrev cJ11_isValidCodePoint_9a6ad : ByteArray := prog_11_method_11_code
def yJ11_isValidCodePoint_9a6ad : MethodName := ⟨RJ11, "isValidCodePoint", "(I)Z"⟩
abbrev cJ11_highSurrogate_5068e : ByteArray := prog_11_method_28_code
def yJ11_highSurrogate_5068e : MethodName := ⟨RJ11, "highSurrogate", "(I)C"⟩
abbrev cJ11_lowSurrogate_5068e : ByteArray := prog_11_method_29_code
def yJ11_lowSurrogate_5068e : MethodName := ⟨RJ11, "lowSurrogate", "(I)C"⟩
def RJ9 : String := "java/lang/Math"
def TJ9 : u_T := fun k => match k with
  | _ => ("", "", "", false)
def tyJ9 : Nat → FieldType := fun k => match k with
  | _ => .int
abbrev wsJ90 : List Cond := u_ws RJ9 TJ9 0
theorem nmJ9 : ∀ a, a < 0 → ∀ b, b < 0 → a ≠ b → (TJ9 a).2.1 ≠ (TJ9 b).2.1 := by decide +kernel
theorem tyJ9_ok : ∀ k, k < 0 → parseFieldDescriptor (TJ9 k).2.2.1 = some (tyJ9 k) := by decide +kernel
abbrev cJ9_max_7cf53 : ByteArray := prog_12_method_65_code
def yJ9_max_7cf53 : MethodName := ⟨RJ9, "max", "(II)I"⟩
abbrev cJ9_min_7cf53 : ByteArray := prog_12_method_69_code
def yJ9_min_7cf53 : MethodName := ⟨RJ9, "min", "(II)I"⟩
def RJ0 : String := "java/lang/String"
def TJ0 : u_T := fun k => match k with
  | _ => ("", "", "", false)
def tyJ0 : Nat → FieldType := fun k => match k with
  | _ => .int
abbrev wsJ00 : List Cond := u_ws RJ0 TJ0 0
theorem nmJ0 : ∀ a, a < 0 → ∀ b, b < 0 → a ≠ b → (TJ0 a).2.1 ≠ (TJ0 b).2.1 := by decide +kernel
theorem tyJ0_ok : ∀ k, k < 0 → parseFieldDescriptor (TJ0 k).2.2.1 = some (tyJ0 k) := by decide +kernel
abbrev cJ0_length_8abf5 : ByteArray := prog_13_method_54_code
def yJ0_length_8abf5 : MethodName := ⟨RJ0, "length", "()I"⟩
abbrev cJ0_indexOf_0f7a4 : ByteArray := prog_13_method_79_code
def yJ0_indexOf_0f7a4 : MethodName := ⟨RJ0, "indexOf", "(I)I"⟩
abbrev cJ0_indexOf_7cf53 : ByteArray := prog_13_method_80_code
def yJ0_indexOf_7cf53 : MethodName := ⟨RJ0, "indexOf", "(II)I"⟩
abbrev cJ0_coder_7d493 : ByteArray := prog_13_method_152_code
def yJ0_coder_7d493 : MethodName := ⟨RJ0, "coder", "()B"⟩
abbrev cJ0_isLatin1_aae02 : ByteArray := prog_13_method_154_code
def yJ0_isLatin1_aae02 : MethodName := ⟨RJ0, "isLatin1", "()Z"⟩
abbrev cJ0_checkBoundsBeginEnd_23922 : ByteArray := prog_13_method_158_code
def yJ0_checkBoundsBeginEnd_23922 : MethodName := ⟨RJ0, "checkBoundsBeginEnd", "(III)V"⟩
def RJ1 : String := "java/lang/StringLatin1"
def TJ1 : u_T := fun k => match k with
  | _ => ("", "", "", false)
def tyJ1 : Nat → FieldType := fun k => match k with
  | _ => .int
abbrev wsJ10 : List Cond := u_ws RJ1 TJ1 0
theorem nmJ1 : ∀ a, a < 0 → ∀ b, b < 0 → a ≠ b → (TJ1 a).2.1 ≠ (TJ1 b).2.1 := by decide +kernel
theorem tyJ1_ok : ∀ k, k < 0 → parseFieldDescriptor (TJ1 k).2.2.1 = some (tyJ1 k) := by decide +kernel
abbrev cJ1_canEncode_9a6ad : ByteArray := prog_14_method_4_code
def yJ1_canEncode_9a6ad : MethodName := ⟨RJ1, "canEncode", "(I)Z"⟩
abbrev cJ1_indexOf_4cfef : ByteArray := prog_14_method_22_code
def yJ1_indexOf_4cfef : MethodName := ⟨RJ1, "indexOf", "([BIII)I"⟩
abbrev cJ1_indexOfChar_4cfef : ByteArray := prog_14_method_23_code
def yJ1_indexOfChar_4cfef : MethodName := ⟨RJ1, "indexOfChar", "([BIII)I"⟩
def RJ2 : String := "java/lang/StringUTF16"
def TJ2 : u_T := fun k => match k with
  | _ => ("", "", "", false)
def tyJ2 : Nat → FieldType := fun k => match k with
  | _ => .int
abbrev wsJ20 : List Cond := u_ws RJ2 TJ2 0
theorem nmJ2 : ∀ a, a < 0 → ∀ b, b < 0 → a ≠ b → (TJ2 a).2.1 ≠ (TJ2 b).2.1 := by decide +kernel
theorem tyJ2_ok : ∀ k, k < 0 → parseFieldDescriptor (TJ2 k).2.2.1 = some (tyJ2 k) := by decide +kernel
abbrev cJ2_getChar_3b067 : ByteArray := prog_15_method_5_code
def yJ2_getChar_3b067 : MethodName := ⟨RJ2, "getChar", "([BI)C"⟩
abbrev cJ2_length_9d52b : ByteArray := prog_15_method_6_code
def yJ2_length_9d52b : MethodName := ⟨RJ2, "length", "([B)I"⟩
abbrev cJ2_indexOf_4cfef : ByteArray := prog_15_method_40_code
def yJ2_indexOf_4cfef : MethodName := ⟨RJ2, "indexOf", "([BIII)I"⟩
abbrev cJ2_indexOfChar_4cfef : ByteArray := prog_15_method_47_code
def yJ2_indexOfChar_4cfef : MethodName := ⟨RJ2, "indexOfChar", "([BIII)I"⟩
abbrev cJ2_indexOfCharUnsafe_4cfef : ByteArray := prog_15_method_48_code
def yJ2_indexOfCharUnsafe_4cfef : MethodName := ⟨RJ2, "indexOfCharUnsafe", "([BIII)I"⟩
abbrev cJ2_indexOfSupplementary_4cfef : ByteArray := prog_15_method_49_code
def yJ2_indexOfSupplementary_4cfef : MethodName := ⟨RJ2, "indexOfSupplementary", "([BIII)I"⟩
abbrev cJ2_checkBoundsBeginEnd_d044e : ByteArray := prog_15_method_93_code
def yJ2_checkBoundsBeginEnd_d044e : MethodName := ⟨RJ2, "checkBoundsBeginEnd", "(II[B)V"⟩
def RJ3 : String := "jdk/internal/util/Preconditions"
def TJ3 : u_T := fun k => match k with
  | _ => ("", "", "", false)
def tyJ3 : Nat → FieldType := fun k => match k with
  | _ => .int
abbrev wsJ30 : List Cond := u_ws RJ3 TJ3 0
theorem nmJ3 : ∀ a, a < 0 → ∀ b, b < 0 → a ≠ b → (TJ3 a).2.1 ≠ (TJ3 b).2.1 := by decide +kernel
theorem tyJ3_ok : ∀ k, k < 0 → parseFieldDescriptor (TJ3 k).2.2.1 = some (tyJ3 k) := by decide +kernel
abbrev cJ3_checkFromToIndex_8c36e : ByteArray := prog_16_method_12_code
def yJ3_checkFromToIndex_8c36e : MethodName := ⟨RJ3, "checkFromToIndex", "(IIILjava/util/function/BiFunction;)I"⟩
def RL : String := "WaitPlacesLaw"
abbrev cL_law : ByteArray := code
def yL_law : MethodName := ⟨RL, "law", "([I)Z"⟩
end
section
/-! THE SMALL MACHINE. Values are pairs (tag, number): 0 int, 1 long, 2 a cell by its place (negative: null), 3 a text constant, 9 nothing.
A world is a function of place and slot; cells lie in the order in which the constructors make them; the cell of place a lies at address base + a. -/
abbrev zV : Type := Nat × Int
abbrev zW : Type := Int → Int → Int
abbrev zR : Type := zV × Nat × zW
abbrev zS : Type := Nat × List zV × List zV × Nat × zW
abbrev zO : Type := zS ⊕ (zV ⊕ (Nat × List zV × List zV))
abbrev vwCl : List vw_C := [(RX0, TX0, 3), (RX1, TX1, 4), (RX2, TX2, 11), (RX3, TX3, 15), (RX4, TX4, 3), (RX5, TX5, 3), (RX6, TX6, 7), (RX7, TX7, 10), (RX8, TX8, 43)]
def zRn (c : Nat) : String := match c with
  | 0 => RX0
  | 1 => RX1
  | 2 => RX2
  | 3 => RX3
  | 4 => RX4
  | 5 => RX5
  | 6 => RX6
  | 7 => RX7
  | 8 => RX8
  | _ => RL
def zTt (c : Nat) : u_T := match c with
  | 0 => TX0
  | 1 => TX1
  | 2 => TX2
  | 3 => TX3
  | 4 => TX4
  | 5 => TX5
  | 6 => TX6
  | 7 => TX7
  | 8 => TX8
  | _ => TX8
def zty (c : Nat) : Nat → FieldType := match c with
  | 0 => tyX0
  | 1 => tyX1
  | 2 => tyX2
  | 3 => tyX3
  | 4 => tyX4
  | 5 => tyX5
  | 6 => tyX6
  | 7 => tyX7
  | 8 => tyX8
  | _ => tyX8
def zNf (c : Nat) : Nat := match c with
  | 0 => 3
  | 1 => 4
  | 2 => 11
  | 3 => 15
  | 4 => 3
  | 5 => 3
  | 6 => 7
  | 7 => 10
  | 8 => 43
  | _ => 0
/-- the cells: kind (a class, 20 int[], 21 long[], 22 boolean[]) and length -/
def zSH : List (Nat × Nat) := [(7, 10), (20, 120), (6, 7), (20, 3), (20, 4), (20, 4), (20, 20), (20, 20), (20, 20), (6, 7), (20, 3), (20, 4), (20, 4), (20, 20), (20, 20), (20, 20), (1, 4), (20, 121), (20, 121), (2, 11), (20, 3), (20, 3), (20, 3), (20, 4), (20, 4), (20, 4), (20, 4), (20, 4), (20, 4), (0, 3), (4, 3), (21, 12), (20, 12), (22, 12), (4, 3), (21, 2), (20, 2), (22, 2), (5, 3), (20, 6), (20, 6), (3, 15), (21, 3000), (20, 3000), (20, 8192), (2, 11), (20, 3), (20, 3), (20, 3), (20, 4), (20, 4), (20, 4), (20, 4), (20, 4), (20, 4), (2, 11), (20, 3), (20, 3), (20, 3), (20, 4), (20, 4), (20, 4), (20, 4), (20, 4), (20, 4), (20, 3), (20, 3), (8, 43), (20, 3), (20, 4), (20, 4), (20, 60), (20, 25), (20, 4), (20, 120), (20, 3), (20, 4), (20, 4), (20, 60), (21, 12), (20, 12), (21, 3001), (20, 3001), (20, 3001), (20, 3001), (20, 8192), (20, 3), (20, 3), (20, 12), (21, 2), (20, 2), (22, 2)]
def zsh (a : Int) : Nat × Nat := if a < 0 then (99, 0) else zSH.getD a.toNat (99, 0)
abbrev zN : Nat := 92
/-- the fields that are laid once and for all: how far off the cell is that they hold -/
def zLKc (c : Nat) : List (Nat × Int) := match c with
  | 0 => [(0, 1)]
  | 1 => [(0, 1), (1, 2)]
  | 2 => [(0, 1), (1, 2), (2, 3), (3, 4), (4, 5), (5, 6), (6, 7), (7, 8), (8, 9)]
  | 3 => [(0, 1), (1, 2), (2, 3), (3, 4), (4, 14), (5, 24), (6, 25)]
  | 4 => [(0, 1), (1, 2), (2, 3)]
  | 5 => [(0, 1), (1, 2)]
  | 6 => [(0, 1), (1, 2), (2, 3), (3, 4), (4, 5), (5, 6)]
  | 7 => [(0, 1), (4, 16), (5, 19), (6, 29), (7, 34), (8, 38), (9, 41)]
  | 8 => [(0, 1), (2, 2), (3, 3), (4, 4), (5, 5), (7, 6), (8, 7), (16, 8), (17, 9), (18, 10), (19, 11), (20, 12), (21, 13), (23, 14), (24, 15), (25, 16), (26, 17), (27, 18), (33, 19), (34, 20), (38, 21), (40, 22), (41, 23), (42, 24)]
  | _ => []
def zlk (c k : Nat) : Option Int := (zLKc c).lookup k
def zLKl : List (Int × Int × Int) := [(0, 0, 1), (0, 4, 16), (0, 5, 19), (0, 6, 29), (0, 7, 34), (0, 8, 38), (0, 9, 41), (2, 0, 3), (2, 1, 4), (2, 2, 5), (2, 3, 6), (2, 4, 7), (2, 5, 8), (9, 0, 10), (9, 1, 11), (9, 2, 12), (9, 3, 13), (9, 4, 14), (9, 5, 15), (16, 0, 17), (16, 1, 18), (19, 0, 20), (19, 1, 21), (19, 2, 22), (19, 3, 23), (19, 4, 24), (19, 5, 25), (19, 6, 26), (19, 7, 27), (19, 8, 28), (29, 0, 30), (30, 0, 31), (30, 1, 32), (30, 2, 33), (34, 0, 35), (34, 1, 36), (34, 2, 37), (38, 0, 39), (38, 1, 40), (41, 0, 42), (41, 1, 43), (41, 2, 44), (41, 3, 45), (41, 4, 55), (41, 5, 65), (41, 6, 66), (45, 0, 46), (45, 1, 47), (45, 2, 48), (45, 3, 49), (45, 4, 50), (45, 5, 51), (45, 6, 52), (45, 7, 53), (45, 8, 54), (55, 0, 56), (55, 1, 57), (55, 2, 58), (55, 3, 59), (55, 4, 60), (55, 5, 61), (55, 6, 62), (55, 7, 63), (55, 8, 64), (67, 0, 68), (67, 2, 69), (67, 3, 70), (67, 4, 71), (67, 5, 72), (67, 7, 73), (67, 8, 74), (67, 16, 75), (67, 17, 76), (67, 18, 77), (67, 19, 78), (67, 20, 79), (67, 21, 80), (67, 23, 81), (67, 24, 82), (67, 25, 83), (67, 26, 84), (67, 27, 85), (67, 33, 86), (67, 34, 87), (67, 38, 88), (67, 40, 89), (67, 41, 90), (67, 42, 91)]
def zLk (w : zW) : Prop := ∀ q ∈ zLKl, w q.1 q.2.1 = q.2.2
/-- the methods: class, name, code, locals, what it returns, whether the cells are all laid -/
def zT1 : List (Nat × MethodName × ByteArray × Nat × Option FieldType × Bool) := [
  (0, yX0_init, cX0_init, 1, none, false),
  (0, yX0_empty, cX0_empty, 1, none, true),
  (0, yX0_push, cX0_push, 2, none, true),
  (0, yX0_pop, cX0_pop, 2, none, true),
  (1, yX1_init, cX1_init, 1, none, false),
  (1, yX1_read, cX1_read, 5, (some .int), true),
  (1, yX1_split, cX1_split, 6, none, true),
  (1, yX1_kindOf, cX1_kindOf, 1, (some .int), true),
  (1, yX1_addToken, cX1_addToken, 3, none, true),
  (1, yX1_token, cX1_token, 1, (some .int), true),
  (1, yX1_start, cX1_start, 1, (some .int), true),
  (1, yX1_takeItem, cX1_takeItem, 2, (some .boolean), true),
  (1, yX1_takeValue, cX1_takeValue, 4, (some .boolean), true),
  (1, yX1_takeRank, cX1_takeRank, 4, (some .boolean), true),
  (1, yX1_takeThread, cX1_takeThread, 3, (some .boolean), true),
  (1, yX1_takeOperation, cX1_takeOperation, 5, (some .boolean), true),
  (1, yX1_takeNumber, cX1_takeNumber, 4, (some .int), true),
  (1, yX1_takeEnd, cX1_takeEnd, 1, (some .boolean), true),
  (2, yX2_init, cX2_init, 1, none, false),
  (2, yX2_begin, cX2_begin, 3, none, true),
  (2, yX2_packed, cX2_packed, 4, (some .long), true),
  (2, yX2_unpack, cX2_unpack, 6, none, true),
  (2, yX2_isEnd, cX2_isEnd, 2, (some .boolean), true),
  (2, yX2_isStuck, cX2_isStuck, 3, (some .boolean), true),
  (2, yX2_howMany, cX2_howMany, 5, (some .int), true),
  (2, yX2_lentRank, cX2_lentRank, 3, (some .int), true),
  (2, yX2_lendRanks, cX2_lendRanks, 5, none, true),
  (2, yX2_awaited, cX2_awaited, 2, (some .int), true),
  (2, yX2_is, cX2_is, 4, (some .boolean), true),
  (2, yX2_perform, cX2_perform, 6, none, true),
  (2, yX2_change, cX2_change, 5, none, true),
  (2, yX2_waitAtOnce, cX2_waitAtOnce, 5, none, true),
  (2, yX2_waitInTwo, cX2_waitInTwo, 5, none, true),
  (2, yX2_wake, cX2_wake, 6, none, true),
  (2, yX2_move, cX2_move, 6, none, true),
  (2, yX2_lock, cX2_lock, 4, none, true),
  (2, yX2_leadsTo, cX2_leadsTo, 5, (some .boolean), true),
  (2, yX2_unlock, cX2_unlock, 4, none, true),
  (2, yX2_die, cX2_die, 4, none, true),
  (2, yX2_handOn, cX2_handOn, 6, none, true)]
def zT2 : List (Nat × MethodName × ByteArray × Nat × Option FieldType × Bool) := [
  (2, yX2_take, cX2_take, 3, none, true),
  (2, yX2_firstAsleep, cX2_firstAsleep, 3, (some .int), true),
  (2, yX2_join, cX2_join, 4, none, true),
  (2, yX2_release, cX2_release, 5, none, true),
  (2, yX2_goOn, cX2_goOn, 3, none, true),
  (3, yX3_init, cX3_init, 1, none, false),
  (3, yX3_knows, cX3_knows, 5, (some .boolean), true),
  (3, yX3_empty, cX3_empty, 2, none, true),
  (3, yX3_add, cX3_add, 8, none, true),
  (3, yX3_append, cX3_append, 5, none, true),
  (3, yX3_isState, cX3_isState, 2, (some .boolean), true),
  (3, yX3_weigh, cX3_weigh, 3, none, true),
  (3, yX3_weighEnd, cX3_weighEnd, 3, none, true),
  (3, yX3_weighStuck, cX3_weighStuck, 3, none, true),
  (3, yX3_stepsTo, cX3_stepsTo, 4, (some .int), true),
  (3, yX3_stepper, cX3_stepper, 6, (some .int), true),
  (3, yX3_endsThatFit, cX3_endsThatFit, 6, (some .int), true),
  (4, yX4_init, cX4_init, 3, none, false),
  (4, yX4_empty, cX4_empty, 2, none, true),
  (4, yX4_holds, cX4_holds, 2, (some .boolean), true),
  (4, yX4_put, cX4_put, 3, none, true),
  (4, yX4_fetch, cX4_fetch, 3, none, true),
  (5, yX5_init, cX5_init, 1, none, false),
  (5, yX5_add, cX5_add, 3, none, true),
  (5, yX5_fit, cX5_fit, 4, (some .boolean), true),
  (6, yX6_init, cX6_init, 1, none, false),
  (6, yX6_empty, cX6_empty, 2, none, true),
  (6, yX6_addOperation, cX6_addOperation, 6, none, true),
  (6, yX6_letterOf, cX6_letterOf, 3, (some .int), true),
  (6, yX6_placeOf, cX6_placeOf, 3, (some .int), true),
  (6, yX6_numberOf, cX6_numberOf, 3, (some .int), true),
  (6, yX6_isOperation, cX6_isOperation, 3, (some .boolean), true),
  (7, yX7_init, cX7_init, 1, none, false),
  (7, yX7_type, cX7_type, 2, (some .int), true),
  (7, yX7_clear, cX7_clear, 2, (some .int), true),
  (7, yX7_threads, cX7_threads, 3, (some .int), true),
  (7, yX7_place, cX7_place, 3, (some .int), true),
  (7, yX7_thread, cX7_thread, 3, (some .int), true),
  (7, yX7_row, cX7_row, 2, (some .int), true),
  (7, yX7_step, cX7_step, 2, (some .int), true)]
def zT3 : List (Nat × MethodName × ByteArray × Nat × Option FieldType × Bool) := [
  (7, yX7_undo, cX7_undo, 1, (some .int), true),
  (7, yX7_all, cX7_all, 2, (some .int), true),
  (7, yX7_worst, cX7_worst, 2, (some .int), true),
  (7, yX7_can, cX7_can, 3, (some .int), true),
  (7, yX7_slept, cX7_slept, 1, (some .int), true),
  (7, yX7_sees, cX7_sees, 3, (some .int), true),
  (7, yX7_forget, cX7_forget, 2, (some .int), true),
  (7, yX7_unseen, cX7_unseen, 2, (some .int), true),
  (7, yX7_keep, cX7_keep, 2, (some .int), true),
  (7, yX7_back, cX7_back, 2, (some .int), true),
  (7, yX7_count, cX7_count, 2, (some .int), true),
  (7, yX7_isTold, cX7_isTold, 2, (some .boolean), true),
  (7, yX7_isPlace, cX7_isPlace, 1, (some .boolean), true),
  (7, yX7_isThread, cX7_isThread, 1, (some .boolean), true),
  (8, yX8_init, cX8_init, 1, none, false),
  (8, yX8_in, cX8_in, 6, (some .boolean), true),
  (8, yX8_isPlace, cX8_isPlace, 1, (some .boolean), true),
  (8, yX8_isThread, cX8_isThread, 2, (some .boolean), true),
  (8, yX8_packed, cX8_packed, 5, (some .long), true),
  (8, yX8_open, cX8_open, 7, none, true),
  (8, yX8_begin, cX8_begin, 2, none, true),
  (8, yX8_goOn, cX8_goOn, 2, none, true),
  (8, yX8_comeToRow, cX8_comeToRow, 4, none, true),
  (8, yX8_wakeFrom, cX8_wakeFrom, 4, none, true),
  (8, yX8_layRanks, cX8_layRanks, 5, none, true),
  (8, yX8_handOn, cX8_handOn, 5, (some .boolean), true),
  (8, yX8_wake, cX8_wake, 5, none, true),
  (8, yX8_moveOn, cX8_moveOn, 4, none, true),
  (8, yX8_leadsTo, cX8_leadsTo, 6, (some .boolean), true),
  (8, yX8_lock, cX8_lock, 3, none, true),
  (8, yX8_die, cX8_die, 4, none, true),
  (8, yX8_act, cX8_act, 6, none, true),
  (8, yX8_type, cX8_type, 2, (some .int), true),
  (8, yX8_clear, cX8_clear, 2, (some .int), true),
  (8, yX8_next, cX8_next, 1, none, true),
  (8, yX8_faults, cX8_faults, 1, (some .boolean), true),
  (8, yX8_takesNumber, cX8_takesNumber, 3, (some .boolean), true),
  (8, yX8_takesEnd, cX8_takesEnd, 1, (some .boolean), true),
  (8, yX8_isOp, cX8_isOp, 1, (some .boolean), true),
  (8, yX8_takesOp, cX8_takesOp, 5, (some .boolean), true)]
def zT4 : List (Nat × MethodName × ByteArray × Nat × Option FieldType × Bool) := [
  (8, yX8_takesThread, cX8_takesThread, 2, (some .boolean), true),
  (8, yX8_takesItem, cX8_takesItem, 3, (some .boolean), true),
  (8, yX8_threads, cX8_threads, 3, (some .int), true),
  (8, yX8_place, cX8_place, 5, (some .int), true),
  (8, yX8_thread, cX8_thread, 4, (some .int), true),
  (8, yX8_row, cX8_row, 2, (some .int), true),
  (8, yX8_step, cX8_step, 3, (some .int), true),
  (8, yX8_undo, cX8_undo, 1, (some .int), true),
  (8, yX8_isEnd, cX8_isEnd, 3, (some .boolean), true),
  (8, yX8_isStuck, cX8_isStuck, 3, (some .boolean), true),
  (8, yX8_come, cX8_come, 8, none, true),
  (8, yX8_explores, cX8_explores, 6, (some .boolean), true),
  (8, yX8_isSeenSo, cX8_isSeenSo, 3, (some .boolean), true),
  (8, yX8_countEnd, cX8_countEnd, 5, none, true),
  (8, yX8_counts, cX8_counts, 5, (some .boolean), true),
  (8, yX8_all, cX8_all, 2, (some .int), true),
  (8, yX8_worst, cX8_worst, 3, (some .int), true),
  (8, yX8_can, cX8_can, 3, (some .int), true),
  (8, yX8_slept, cX8_slept, 1, (some .int), true),
  (8, yX8_sees, cX8_sees, 3, (some .int), true),
  (8, yX8_forget, cX8_forget, 2, (some .int), true),
  (8, yX8_unseen, cX8_unseen, 2, (some .int), true),
  (8, yX8_keep, cX8_keep, 2, (some .int), true),
  (8, yX8_back, cX8_back, 2, (some .int), true),
  (8, yX8_rowLength, cX8_rowLength, 3, (some .int), true),
  (8, yX8_count, cX8_count, 2, (some .int), true)]
def zT : List (Nat × MethodName × ByteArray × Nat × Option FieldType × Bool) := zT1 ++ (zT2 ++ (zT3 ++ (zT4)))
def zI (m : Nat) : Nat × MethodName × ByteArray × Nat × Option FieldType × Bool := zT.getD m (9, yL_law, cL_law, 4, some .boolean, true)
def zcn (m : Nat) : Nat := (zI m).1
def zyn (m : Nat) : MethodName := (zI m).2.1
def zby (m : Nat) : ByteArray := (zI m).2.2.1
def zmx (m : Nat) : Nat := (zI m).2.2.2.1
def zrt (m : Nat) : Option FieldType := (zI m).2.2.2.2.1
def zlm (m : Nat) : Bool := (zI m).2.2.2.2.2
/-- fields by class and pool entry: class and place of the field -/
def zFL (c : Nat) : List (Nat × Nat × Nat) := match c with
  | 0 => [(14, 0, 0), (20, 0, 1), (24, 0, 2)]
  | 1 => [(9, 1, 0), (15, 1, 1), (18, 1, 2), (22, 1, 3), (82, 6, 0), (89, 6, 6), (95, 6, 1)]
  | 2 => [(9, 2, 0), (15, 2, 1), (18, 2, 2), (21, 2, 3), (24, 2, 4), (27, 2, 5), (30, 2, 6), (33, 2, 7), (36, 2, 8), (39, 2, 9), (43, 2, 10), (46, 6, 0), (49, 6, 2), (68, 6, 1)]
  | 3 => [(9, 3, 0), (15, 3, 1), (19, 3, 2), (25, 3, 3), (29, 3, 4), (32, 3, 5), (35, 3, 6), (38, 3, 7), (42, 3, 8), (45, 3, 9), (49, 3, 10), (52, 3, 11), (55, 3, 12), (58, 3, 13), (61, 3, 14), (83, 2, 4), (100, 2, 1), (119, 2, 0)]
  | 4 => [(13, 4, 0), (19, 4, 1), (23, 4, 2), (33, 2, 10)]
  | 5 => [(9, 5, 0), (15, 5, 1), (18, 5, 2), (26, 2, 0)]
  | 6 => [(9, 6, 0), (15, 6, 1), (18, 6, 2), (21, 6, 3), (24, 6, 4), (27, 6, 5), (30, 6, 6)]
  | 7 => [(9, 7, 0), (13, 7, 1), (20, 7, 2), (24, 7, 3), (30, 7, 4), (37, 7, 5), (44, 7, 6), (53, 7, 7), (60, 7, 8), (67, 7, 9), (83, 5, 2), (86, 3, 7), (94, 2, 0), (97, 2, 1), (100, 2, 2), (110, 2, 3), (113, 2, 4), (116, 2, 5), (119, 6, 1), (126, 2, 6), (129, 2, 9), (132, 2, 7), (143, 0, 2), (151, 3, 9), (152, 3, 10), (155, 3, 11), (158, 3, 12), (165, 3, 13), (171, 3, 5), (174, 3, 6), (177, 3, 14), (192, 6, 6), (199, 2, 10)]
  | 8 => [(7, 8, 0), (13, 8, 2), (16, 8, 3), (19, 8, 4), (22, 8, 5), (25, 8, 7), (28, 8, 8), (31, 8, 16), (34, 8, 17), (37, 8, 18), (40, 8, 19), (43, 8, 20), (47, 8, 21), (50, 8, 23), (53, 8, 24), (56, 8, 25), (59, 8, 26), (62, 8, 27), (65, 8, 33), (68, 8, 34), (71, 8, 38), (74, 8, 40), (77, 8, 41), (80, 8, 42), (93, 8, 1), (97, 8, 6), (140, 8, 9), (143, 8, 10), (146, 8, 11), (149, 8, 12), (152, 8, 13), (159, 8, 14), (172, 8, 15), (190, 8, 22), (193, 8, 39), (220, 8, 28), (233, 8, 29), (236, 8, 30), (239, 8, 31), (242, 8, 32), (245, 8, 36), (248, 8, 37), (251, 8, 35)]
  | _ => []
/-- calls by class and pool entry: method, kind (0 virtual, 1 static, 2 special; 10, 11, 12: of a nest mate; 20 Object.<init>, 21 max, 22 min, 23 indexOf), the arguments without a receiver -/
def zML (c : Nat) : List (Nat × Nat × Nat × Nat) := match c with
  | 0 => [(3, 0, 20, 0), (11, 57, 2, 1), (27, 60, 0, 2), (31, 61, 0, 2)]
  | 1 => [(3, 0, 20, 0), (25, 0, 22, 2), (31, 6, 0, 2), (35, 66, 0, 0), (40, 9, 0, 0), (44, 11, 0, 1), (48, 10, 0, 0), (51, 7, 1, 1), (55, 8, 0, 2), (61, 0, 23, 1), (66, 12, 0, 1), (69, 14, 0, 1), (72, 13, 0, 1), (75, 16, 0, 2), (78, 92, 11, 1), (85, 17, 0, 0), (92, 93, 11, 1), (98, 15, 0, 1), (105, 67, 0, 4)]
  | 2 => [(3, 0, 20, 0), (52, 22, 0, 0), (56, 28, 0, 3), (60, 26, 0, 1), (64, 93, 11, 1), (71, 92, 11, 1), (74, 0, 21, 2), (80, 69, 0, 2), (83, 70, 0, 2), (86, 68, 0, 2), (89, 38, 0, 2), (93, 30, 0, 4), (97, 31, 0, 4), (100, 32, 0, 4), (103, 33, 0, 4), (106, 34, 0, 4), (109, 35, 0, 3), (113, 37, 0, 3), (116, 44, 0, 2), (119, 42, 0, 3), (123, 41, 0, 1), (127, 43, 0, 2), (130, 40, 0, 2), (134, 36, 0, 2), (138, 27, 0, 1), (141, 39, 0, 2)]
  | 3 => [(3, 0, 20, 0), (24, 18, 12, 0), (64, 47, 0, 0), (67, 20, 0, 0), (71, 48, 0, 2), (75, 21, 0, 1), (79, 51, 0, 1), (86, 29, 0, 2), (92, 50, 0, 1), (96, 49, 0, 3), (103, 93, 11, 1), (106, 22, 0, 0), (110, 52, 0, 1), (113, 23, 0, 0), (116, 53, 0, 1), (122, 54, 0, 1), (126, 64, 0, 1)]
  | 4 => [(1, 0, 20, 0), (7, 0, 21, 2), (27, 20, 0, 0), (36, 59, 0, 1), (40, 21, 0, 1)]
  | 5 => [(3, 0, 20, 0), (22, 92, 11, 1)]
  | 6 => [(3, 0, 20, 0), (34, 93, 11, 1), (38, 71, 0, 2)]
  | 7 => [(1, 0, 20, 0), (19, 65, 12, 0), (29, 4, 12, 0), (36, 18, 12, 0), (43, 0, 12, 0), (50, 57, 2, 1), (59, 62, 12, 0), (66, 45, 12, 0), (71, 5, 0, 3), (75, 19, 0, 1), (79, 1, 0, 0), (82, 58, 0, 0), (90, 92, 1, 1), (103, 24, 0, 2), (107, 91, 0, 1), (122, 25, 0, 2), (135, 2, 0, 1), (139, 29, 0, 2), (144, 3, 0, 1), (147, 46, 0, 2), (161, 54, 0, 1), (168, 55, 0, 2), (180, 63, 0, 2), (184, 56, 0, 2), (188, 60, 0, 2), (193, 59, 0, 1), (196, 61, 0, 2), (202, 93, 1, 1)]
  | 8 => [(1, 0, 20, 0), (84, 100, 0, 0), (89, 95, 1, 3), (100, 101, 0, 1), (108, 104, 0, 0), (111, 103, 0, 1), (114, 106, 0, 2), (118, 108, 0, 2), (122, 102, 0, 2), (125, 105, 0, 1), (129, 107, 0, 2), (132, 109, 0, 2), (135, 110, 0, 1), (162, 114, 0, 0), (165, 115, 0, 0), (169, 116, 0, 2), (175, 118, 1, 1), (178, 119, 0, 1), (181, 120, 0, 0), (184, 117, 0, 0), (187, 121, 0, 0), (196, 96, 1, 1), (199, 97, 0, 1), (202, 98, 0, 0), (206, 111, 0, 1), (209, 99, 0, 1), (213, 128, 0, 0), (223, 130, 0, 3), (227, 129, 0, 0), (230, 132, 0, 0), (254, 131, 0, 0), (257, 133, 0, 1), (262, 134, 0, 0), (265, 144, 0, 0)]
  | _ => []
def zCL (c : Nat) : List (Nat × Nat) := match c with
  | 0 => [(9, 4)]
  | 1 => []
  | 2 => []
  | 3 => [(22, 2)]
  | 4 => []
  | 5 => []
  | 6 => []
  | 7 => [(17, 6), (27, 1), (34, 2), (41, 0), (48, 4), (57, 5), (64, 3)]
  | 8 => []
  | _ => []
def zKL (c : Nat) : List (Nat × Int) := match c with
  | 0 => []
  | 1 => []
  | 2 => []
  | 3 => [(90, -7046029254386353131)]
  | 4 => []
  | 5 => []
  | 6 => []
  | 7 => []
  | 8 => [(87, 2), (104, 4), (106, 6), (138, 255), (155, 48), (157, 57), (216, 6364136223846793005), (218, 8191), (260, 3)]
  | _ => []
def zSL (c : Nat) : List (Nat × Nat) := match c with
  | 0 => []
  | 1 => [(59, 0), (101, 1), (103, 2)]
  | 2 => []
  | 3 => []
  | 4 => []
  | 5 => []
  | 6 => []
  | 7 => []
  | 8 => []
  | _ => []
def zSX : List (Nat × String) := [(59, "vtrsiwbkqlux;"), (101, "siwbkqlux"), (103, "swbkq")]
def zSB : List (List Int32) := [[118, 116, 114, 115, 105, 119, 98, 107, 113, 108, 117, 120, 59], [115, 105, 119, 98, 107, 113, 108, 117, 120], [115, 119, 98, 107, 113]]
def zSC : List (List Int) := [[118, 116, 114, 115, 105, 119, 98, 107, 113, 108, 117, 120, 59], [115, 105, 119, 98, 107, 113, 108, 117, 120], [115, 119, 98, 107, 113]]
def zSN : List Nat := [13, 9, 5]
end
section
/-! one instruction, and runs -/
def zup (w : zW) (a i x : Int) : zW := fun b j => if b = a ∧ j = i then x else w b j
def w32 (x : Int) : Int := x.bmod 4294967296
def z_and (a b : Int) : Int := (Int32.ofInt a &&& Int32.ofInt b).toInt
def z_or (a b : Int) : Int := (Int32.ofInt a ||| Int32.ofInt b).toInt
def z_shl (a b : Int) : Int := (Int32.ofInt a <<< (Int32.ofInt b &&& 31)).toInt
def z_div (a b : Int) : Int := (Int32.ofInt a / Int32.ofInt b).toInt
def z_rem (a b : Int) : Int := (Int32.ofInt a - Int32.ofInt a / Int32.ofInt b * Int32.ofInt b).toInt
def z_land (a b : Int) : Int := (Int64.ofInt a &&& Int64.ofInt b).toInt
def z_lor (a b : Int) : Int := (Int64.ofInt a ||| Int64.ofInt b).toInt
def z_lmul (a b : Int) : Int := (Int64.ofInt a * Int64.ofInt b).toInt
def z_lsub (a b : Int) : Int := (Int64.ofInt a - Int64.ofInt b).toInt
def z_lshl (a b : Int) : Int := (Int64.ofInt a <<< ((Int32.ofInt b).toInt64 &&& 63)).toInt
def z_lshr (a b : Int) : Int := (Int64.ofInt a >>> ((Int32.ofInt b).toInt64 &&& 63)).toInt
def z_lushr (a b : Int) : Int := ((Int64.ofInt a).toUInt64 >>> ((Int32.ofInt b).toInt64.toUInt64 &&& Int64.toUInt64 63)).toInt64.toInt
def z_l2i (a : Int) : Int := (Int64.ofInt a).toInt32.toInt
def z_i2c (a : Int) : Int := ((Int32.ofInt a).toUInt32 % 65536).toInt32.toInt
def z_cmp (a b : Int) : Int := if b < a then 1 else if a = b then 0 else -1
def z_max (a b : Int) : Int := if a < b then b else a
def z_min (a b : Int) : Int := if b < a then b else a
def zixF (c : Int) : List Int → Int → Int
  | [], _ => -1
  | b :: l, k => if b = c then k else zixF c l (k + 1)
def zix (i : Nat) (c : Int) : Int := zixF c (zSC.getD i []) 0
def zcond (c : Jvm.ClassFile.Cond) (x y : Int) : Bool := match c with
  | .eq => decide (x = y)
  | .ne => decide (x ≠ y)
  | .lt => decide (x < y)
  | .ge => decide (y ≤ x)
  | .gt => decide (y < x)
  | .le => decide (x ≤ y)
def zgo (pc : Nat) (lv st : List zV) (g : Nat) (w : zW) : Option zO := some (.inl (pc, lv, st, g, w))
def zjmp (pc : Nat) (off : Int) (lv st : List zV) (g : Nat) (w : zW) : Option zO := if 0 ≤ (pc : Int) + off then zgo ((pc : Int) + off).toNat lv st g w else none
def zsw (ps : List (Int × Int)) (d x : Int) : Int := match ps with
  | [] => d
  | q :: r => if q.1 = x then q.2 else zsw r d x
def zld (t : Nat) (lv : List zV) (i : Nat) : Option zV := match lv[i]? with
  | some v => if v.1 = t then some v else none
  | none => none
def ztag (lv : List zV) (i : Nat) : Nat := (lv.getD i (9, 0)).1
/-- the store of a value of one word, of a long -/
def zsto (lv : List zV) (i : Nat) (v : zV) : Option (List zV) := if i < lv.length ∧ (i = 0 ∨ ztag lv (i - 1) ≠ 1) then some (lv.set i v) else none
def zstoL (lv : List zV) (i : Nat) (v : zV) : Option (List zV) := if i + 1 < lv.length ∧ (i = 0 ∨ ztag lv (i - 1) ≠ 1) then some ((lv.set i v).set (i + 1) (9, 0)) else none
def ztg (c k : Nat) : Nat := match zty c k with
  | .int => 0
  | .boolean => 0
  | .long => 1
  | _ => 2
def zblank (w : zW) (a : Nat) (f : Int → Int) : zW := fun b j => if b = a then f j else w b j
def zcat (st : List zV) : Nat := (st.map (fun v => if v.1 = 1 then 2 else 1)).sum
def zpush (v : zV) (st : List zV) : List zV := if v.1 = 9 then st else v :: st
def zflat (as : List zV) : List zV := as.flatMap (fun v => if v.1 = 1 then [v, (9, 0)] else [v])
def zloc (m : Nat) (as : List zV) : List zV := zflat as ++ List.replicate (zmx m - (zflat as).length) (9, 0)
def zLkB (w : zW) : Bool := zLKl.all (fun q => decide (w q.1 q.2.1 = q.2.2))
def zmode (m m' g : Nat) (w : zW) : Bool := if zlm m' then (zlm m || (decide (g = zN) && zLkB w)) else !zlm m
def zcall (m m' n : Nat) (recv : Bool) (st : List zV) (g : Nat) (w : zW) : Option zO :=
  if zmode m m' g w = true ∧ n ≤ st.length then
    match recv, st.drop n with
    | false, rest => if zcat rest ≤ 8 ∧ (zflat (st.take n).reverse).length ≤ zmx m' then some (.inr (.inr (m', (st.take n).reverse, rest))) else none
    | true, (2, a) :: rest => if 0 ≤ a ∧ a < g ∧ (zsh a).1 = zcn m' ∧ zcat rest ≤ 8 ∧ (zflat ((2, a) :: (st.take n).reverse)).length ≤ zmx m' then some (.inr (.inr (m', (2, a) :: (st.take n).reverse, rest))) else none
    | true, _ => none
  else none
def zinvoke (d m k : Nat) (pc : Nat) (lv st : List zV) (g : Nat) (w : zW) (op : Nat) : Option zO := match (zML (zcn m)).lookup k with
  | none => none
  | some (m', kd, n) =>
    if kd = 20 then
      (if op = 2 ∧ 1 ≤ d then match st with
        | (2, a) :: rest => if 0 ≤ a ∧ a < g ∧ zcat rest ≤ 8 then zgo (pc + 3) lv rest g w else none
        | _ => none
      else none)
    else if kd = 21 then
      (if op = 1 ∧ 1 ≤ d then match st with
        | (0, y) :: (0, x) :: rest => if zcat rest ≤ 8 then zgo (pc + 3) lv ((0, z_max x y) :: rest) g w else none
        | _ => none
      else none)
    else if kd = 22 then
      (if op = 1 ∧ 1 ≤ d then match st with
        | (0, y) :: (0, x) :: rest => if zcat rest ≤ 8 then zgo (pc + 3) lv ((0, z_min x y) :: rest) g w else none
        | _ => none
      else none)
    else if kd = 23 then
      (if op = 0 ∧ 5 ≤ d then match st with
        | (0, x) :: (3, i) :: rest => if 0 ≤ i ∧ i < 3 ∧ zcat rest ≤ 8 then zgo (pc + 3) lv ((0, zix i.toNat x) :: rest) g w else none
        | _ => none
      else none)
    else if kd % 10 = op then zcall m m' n (decide (op ≠ 1)) st g w
    else none
def zget (m k : Nat) (a : Int) (g : Nat) (w : zW) : Option zV := match (zFL (zcn m)).lookup k with
  | none => none
  | some (c, f) => if 0 ≤ a ∧ a < g ∧ (zsh a).1 = c ∧ f < zNf c then
      (match zlm m, zlk c f with
      | true, some o => some (2, a + o)
      | _, _ => some (ztg c f, w a f))
    else none
def zput (m k : Nat) (a : Int) (v : zV) (g : Nat) (w : zW) : Option zW := match (zFL (zcn m)).lookup k with
  | none => none
  | some (c, f) => if 0 ≤ a ∧ a < g ∧ (zsh a).1 = c ∧ f < zNf c ∧ ztg c f = v.1 ∧ (zty c f = .boolean → v.2 = 0 ∨ v.2 = 1) ∧ (zlm m = true → zlk c f = none) ∧ ((zTt c f).2.2.2 = true → zlm m = false ∧ c = zcn m ∧ (zyn m).name = "<init>")
      then some (zup w a f v.2) else none
def zald (kd : Nat) (a i : Int) (g : Nat) (w : zW) : Option Int := if 0 ≤ a ∧ a < g ∧ (zsh a).1 = kd ∧ 0 ≤ i ∧ i < (zsh a).2 then some (w a i) else none
def zast (kd : Nat) (a i x : Int) (g : Nat) (w : zW) : Option zW := if 0 ≤ a ∧ a < g ∧ (zsh a).1 = kd ∧ 0 ≤ i ∧ i < (zsh a).2 then some (zup w a i x) else none
def znk (t : Jvm.ClassFile.ArrayType) : Nat := match t with
  | .int => 20
  | .long => 21
  | .boolean => 22
  | _ => 98
def zex (d m pc n : Nat) (lv st : List zV) (g : Nat) (w : zW) (i : Jvm.ClassFile.Instr) : Option zO := match i with
  | .iconst v => if n = 1 ∧ -1 ≤ v ∧ v ≤ 5 then zgo (pc + 1) lv ((0, v) :: st) g w else none
  | .bipush v => if n = 2 ∧ -128 ≤ v ∧ v ≤ 127 then zgo (pc + 2) lv ((0, v) :: st) g w else none
  | .sipush v => if n = 3 ∧ -32768 ≤ v ∧ v ≤ 32767 then zgo (pc + 3) lv ((0, v) :: st) g w else none
  | .lconst v => if n = 1 then zgo (pc + 1) lv ((1, ((v : Nat) : Int)) :: st) g w else none
  | .ldc2_w k => if n = 3 then (match (zKL (zcn m)).lookup k with | some v => zgo (pc + 3) lv ((1, v) :: st) g w | none => none) else none
  | .ldc k => if n = 2 then (match (zSL (zcn m)).lookup k with | some j => zgo (pc + 2) lv ((3, (j : Int)) :: st) g w | none => none) else none
  | .iload_n k => if n = 1 then (match zld 0 lv k with | some v => zgo (pc + 1) lv (v :: st) g w | none => none) else none
  | .iload k => if n = 2 then (match zld 0 lv k with | some v => zgo (pc + 2) lv (v :: st) g w | none => none) else none
  | .lload_n k => if n = 1 then (match zld 1 lv k with | some v => zgo (pc + 1) lv (v :: st) g w | none => none) else none
  | .lload k => if n = 2 then (match zld 1 lv k with | some v => zgo (pc + 2) lv (v :: st) g w | none => none) else none
  | .aload_n k => if n = 1 then (match zld 2 lv k with | some v => if 0 ≤ v.2 then zgo (pc + 1) lv (v :: st) g w else none | none => none) else none
  | .aload k => if n = 2 then (match zld 2 lv k with | some v => if 0 ≤ v.2 then zgo (pc + 2) lv (v :: st) g w else none | none => none) else none
  | .istore_n k => if n = 1 then (match st with | (0, x) :: st => (match zsto lv k (0, x) with | some lv => zgo (pc + 1) lv st g w | none => none) | _ => none) else none
  | .istore k => if n = 2 then (match st with | (0, x) :: st => (match zsto lv k (0, x) with | some lv => zgo (pc + 2) lv st g w | none => none) | _ => none) else none
  | .lstore_n k => if n = 1 then (match st with | (1, x) :: st => (match zstoL lv k (1, x) with | some lv => zgo (pc + 1) lv st g w | none => none) | _ => none) else none
  | .lstore k => if n = 2 then (match st with | (1, x) :: st => (match zstoL lv k (1, x) with | some lv => zgo (pc + 2) lv st g w | none => none) | _ => none) else none
  | .astore_n k => if n = 1 then (match st with | (2, x) :: st => if 0 ≤ x then (match zsto lv k (2, x) with | some lv => zgo (pc + 1) lv st g w | none => none) else none | _ => none) else none
  | .astore k => if n = 2 then (match st with | (2, x) :: st => if 0 ≤ x then (match zsto lv k (2, x) with | some lv => zgo (pc + 2) lv st g w | none => none) else none | _ => none) else none
  | .iinc k v => if n = 3 then (match zld 0 lv k with | some x => (match zsto lv k (0, w32 (x.2 + v)) with | some lv => zgo (pc + 3) lv st g w | none => none) | none => none) else none
  | .iadd => if n = 1 then (match st with | (0, y) :: (0, x) :: st => zgo (pc + 1) lv ((0, w32 (x + y)) :: st) g w | _ => none) else none
  | .isub => if n = 1 then (match st with | (0, y) :: (0, x) :: st => zgo (pc + 1) lv ((0, w32 (x - y)) :: st) g w | _ => none) else none
  | .imul => if n = 1 then (match st with | (0, y) :: (0, x) :: st => zgo (pc + 1) lv ((0, w32 (x * y)) :: st) g w | _ => none) else none
  | .iand => if n = 1 then (match st with | (0, y) :: (0, x) :: st => zgo (pc + 1) lv ((0, z_and x y) :: st) g w | _ => none) else none
  | .ior => if n = 1 then (match st with | (0, y) :: (0, x) :: st => zgo (pc + 1) lv ((0, z_or x y) :: st) g w | _ => none) else none
  | .ishl => if n = 1 then (match st with | (0, y) :: (0, x) :: st => zgo (pc + 1) lv ((0, z_shl x y) :: st) g w | _ => none) else none
  | .idiv => if n = 1 then (match st with | (0, y) :: (0, x) :: st => if y = 0 then none else zgo (pc + 1) lv ((0, z_div x y) :: st) g w | _ => none) else none
  | .irem => if n = 1 then (match st with | (0, y) :: (0, x) :: st => if y = 0 then none else zgo (pc + 1) lv ((0, z_rem x y) :: st) g w | _ => none) else none
  | .land => if n = 1 then (match st with | (1, y) :: (1, x) :: st => zgo (pc + 1) lv ((1, z_land x y) :: st) g w | _ => none) else none
  | .lor => if n = 1 then (match st with | (1, y) :: (1, x) :: st => zgo (pc + 1) lv ((1, z_lor x y) :: st) g w | _ => none) else none
  | .lmul => if n = 1 then (match st with | (1, y) :: (1, x) :: st => zgo (pc + 1) lv ((1, z_lmul x y) :: st) g w | _ => none) else none
  | .lsub => if n = 1 then (match st with | (1, y) :: (1, x) :: st => zgo (pc + 1) lv ((1, z_lsub x y) :: st) g w | _ => none) else none
  | .lshl => if n = 1 then (match st with | (0, y) :: (1, x) :: st => zgo (pc + 1) lv ((1, z_lshl x y) :: st) g w | _ => none) else none
  | .lshr => if n = 1 then (match st with | (0, y) :: (1, x) :: st => zgo (pc + 1) lv ((1, z_lshr x y) :: st) g w | _ => none) else none
  | .lushr => if n = 1 then (match st with | (0, y) :: (1, x) :: st => zgo (pc + 1) lv ((1, z_lushr x y) :: st) g w | _ => none) else none
  | .lcmp => if n = 1 then (match st with | (1, y) :: (1, x) :: st => zgo (pc + 1) lv ((0, z_cmp x y) :: st) g w | _ => none) else none
  | .i2l => if n = 1 then (match st with | (0, x) :: st => zgo (pc + 1) lv ((1, x) :: st) g w | _ => none) else none
  | .l2i => if n = 1 then (match st with | (1, x) :: st => zgo (pc + 1) lv ((0, z_l2i x) :: st) g w | _ => none) else none
  | .i2c => if n = 1 then (match st with | (0, x) :: st => zgo (pc + 1) lv ((0, z_i2c x) :: st) g w | _ => none) else none
  | .dup => if n = 1 then (match st with | v :: st => if v.1 = 1 then none else zgo (pc + 1) lv (v :: v :: st) g w | _ => none) else none
  | .dup2 => if n = 1 then (match st with | v :: u :: st => if v.1 = 1 ∨ u.1 = 1 then none else zgo (pc + 1) lv (v :: u :: v :: u :: st) g w | _ => none) else none
  | .pop => if n = 1 then (match st with | v :: st => if v.1 = 1 then none else zgo (pc + 1) lv st g w | _ => none) else none
  | .ifCond c off => if n = 3 ∧ 0 ≤ (pc : Int) + off then (match st with | (0, x) :: st => if zcond c x 0 = true then zgo ((pc : Int) + off).toNat lv st g w else zgo (pc + 3) lv st g w | _ => none) else none
  | .if_icmp c off => if n = 3 ∧ 0 ≤ (pc : Int) + off then (match st with | (0, y) :: (0, x) :: st => if zcond c x y = true then zgo ((pc : Int) + off).toNat lv st g w else zgo (pc + 3) lv st g w | _ => none) else none
  | .goto off => if n = 3 then zjmp pc off lv st g w else none
  | .tableswitch df lo hi offs => (match st with | (0, x) :: st => if x < lo ∨ hi < x then zjmp pc df lv st g w else (match offs[(x - lo).toNat]? with | some off => zjmp pc off lv st g w | none => none) | _ => none)
  | .lookupswitch df ps => (match st with | (0, x) :: st => if (ps.toList.zip (ps.toList.drop 1)).all (fun (a, next) => a.1 < next.1) = true then zjmp pc (zsw ps.toList df x) lv st g w else none | _ => none)
  | .getfield k => if n = 3 then (match st with | (2, a) :: st => (match zget m k a g w with | some v => zgo (pc + 3) lv (v :: st) g w | none => none) | _ => none) else none
  | .putfield k => if n = 3 then (match st with | v :: (2, a) :: st => (match zput m k a v g w with | some w => zgo (pc + 3) lv st g w | none => none) | _ => none) else none
  | .iaload => if n = 1 then (match st with | (0, i) :: (2, a) :: st => (match zald 20 a i g w with | some v => zgo (pc + 1) lv ((0, v) :: st) g w | none => none) | _ => none) else none
  | .laload => if n = 1 then (match st with | (0, i) :: (2, a) :: st => (match zald 21 a i g w with | some v => zgo (pc + 1) lv ((1, v) :: st) g w | none => none) | _ => none) else none
  | .baload => if n = 1 then (match st with | (0, i) :: (2, a) :: st => (match zald 22 a i g w with | some v => zgo (pc + 1) lv ((0, v) :: st) g w | none => none) | _ => none) else none
  | .iastore => if n = 1 then (match st with | (0, x) :: (0, i) :: (2, a) :: st => (match zast 20 a i x g w with | some w => zgo (pc + 1) lv st g w | none => none) | _ => none) else none
  | .lastore => if n = 1 then (match st with | (1, x) :: (0, i) :: (2, a) :: st => (match zast 21 a i x g w with | some w => zgo (pc + 1) lv st g w | none => none) | _ => none) else none
  | .bastore => if n = 1 then (match st with | (0, x) :: (0, i) :: (2, a) :: st => if x = 0 ∨ x = 1 then (match zast 22 a i x g w with | some w => zgo (pc + 1) lv st g w | none => none) else none | _ => none) else none
  | .arraylength => if n = 1 then (match st with | (2, a) :: st => if 0 ≤ a ∧ a < g ∧ 20 ≤ (zsh a).1 ∧ (zsh a).1 ≤ 22 then zgo (pc + 1) lv ((0, ((zsh a).2 : Int)) :: st) g w else none | _ => none) else none
  | .new k => if n = 3 then (match (zCL (zcn m)).lookup k with | some c => if zlm m = false ∧ c < 9 ∧ zsh g = (c, zNf c) then zgo (pc + 3) lv ((2, (g : Int)) :: st) (g + 1) (zblank w g (fun j => if ztg c j.toNat = 2 then -1 else 0)) else none | none => none) else none
  | .newarray t => if n = 2 then (match st with | (0, x) :: st => if zlm m = false ∧ 0 ≤ x ∧ zsh g = (znk t, x.toNat) then zgo (pc + 2) lv ((2, (g : Int)) :: st) (g + 1) (zblank w g (fun _ => 0)) else none | _ => none) else none
  | .invokevirtual k => if n = 3 then zinvoke d m k pc lv st g w 0 else none
  | .invokestatic k => if n = 3 then zinvoke d m k pc lv st g w 1 else none
  | .invokespecial k => if n = 3 then zinvoke d m k pc lv st g w 2 else none
  | .ireturn => if n = 1 then (match st with | [(0, x)] => if zrt m = some .int ∨ (zrt m = some .boolean ∧ (x = 0 ∨ x = 1)) then some (.inr (.inl (0, x))) else none | _ => none) else none
  | .lreturn => if n = 1 then (match st with | [(1, x)] => if zrt m = some .long then some (.inr (.inl (1, x))) else none | _ => none) else none
  | .return_ => if n = 1 then (match st with | [] => if zrt m = none then some (.inr (.inl (9, 0))) else none | _ => none) else none
  | _ => none
def zst (d m : Nat) (S : zS) : Option zO := match decode (zby m) S.1 with
  | .ok (i, n) => zex d m S.1 n S.2.1 S.2.2.1 S.2.2.2.1 S.2.2.2.2 i
  | .error _ => none
def zrun : Nat → Nat → Nat → zS → Option zR
  | 0, _, _, _ => none
  | n + 1, d, m, S => match zst d m S with
    | none => none
    | some (.inl S') => zrun n d m S'
    | some (.inr (.inl v)) => some (v, S.2.2.2.1, S.2.2.2.2)
    | some (.inr (.inr (m', as, rest))) => match d with
      | 0 => none
      | d' + 1 => match zrun n d' m' (0, zloc m' as, [], S.2.2.2.1, S.2.2.2.2) with
        | none => none
        | some r => zrun n (d' + 1) m (S.1 + 3, S.2.1, zpush r.1 rest, r.2.1, r.2.2)
end
section
/-! what a state of the small machine says of the machine -/
def zcv (b : Nat) (sa : Nat → Nat) (v : zV) : Value := match v.1 with
  | 0 => .int (Int32.ofInt v.2)
  | 1 => .long (Int64.ofInt v.2)
  | 2 => if v.2 < 0 then .null else .ref (b + v.2.toNat)
  | _ => .ref (sa v.2.toNat)
def zin (v : zV) : Prop := match v.1 with
  | 0 => -2147483648 ≤ v.2 ∧ v.2 < 2147483648
  | 1 => -9223372036854775808 ≤ v.2 ∧ v.2 < 9223372036854775808
  | _ => True
def zkt (kd j : Nat) : Nat := if kd = 20 ∨ kd = 22 then 0 else if kd = 21 then 1 else ztg kd j
def zE (ids : Nat → ClassId) (b : Nat) (sa : Nat → Nat) (sh : Nat × Nat) (f : Int → Int) : va_E :=
  if sh.1 = 20 then .inl (ids 0, sh.2, .inl (fun j => Int32.ofInt (f j)))
  else if sh.1 = 21 then .inl (ids 1, sh.2, .inr (.inl (fun j => Int64.ofInt (f j))))
  else if sh.1 = 22 then .inl (ids 2, sh.2, .inl (fun j => Int32.ofInt (f j)))
  else .inr (sh.1, (List.range sh.2).map (fun j => zcv b sa (ztg sh.1 j, f j)))
def zws (ids : Nat → ClassId) (b : Nat) (sa : Nat → Nat) (g : Nat) (w : zW) : va_W := (List.range g).map (fun a => (b + a, zE ids b sa (zsh a) (w a)))
def zok (g : Nat) (w : zW) : Prop := ∀ a : Nat, a < g → ∀ j : Nat, j < (zsh a).2 → zin (zkt (zsh a).1 j, w a j)
def zsum (g : Nat) : Nat := ((List.range g).map (fun a : Nat => (zsh a).2)).sum
abbrev zTY (ids : Nat → ClassId) : List (ClassId × FieldType) := [(ids 0, .int), (ids 1, .long), (ids 2, .boolean)]
def zTB : List Jvm.Cond := lw_tbl.filter goodWord
def zisN (c : Jvm.Cond) : Bool := match c with
  | .methodLinkNest .. => true
  | _ => false
def zNW : List Jvm.Cond := lw_tbl.filter zisN
def zKK (D : va_G) (ids : Nat → ClassId) (b : Nat) (sa adV : Nat → Nat) (U : State) (H : Heap) : Prop :=
  va_K D vwCl (zTY ids) U ∧ (∀ x ∈ zNW, va_Nw x U) ∧ (∀ i, i < 3 → vk_R RX1 ((zSX.getD i (0, "")).1) ((zSX.getD i (0, "")).2) (sa i) U) ∧ vk_S 3 zSN zSB sa adV (fun q => b ≤ q) U H ∧ va_Z "java/lang/String" "COMPACT_STRINGS" "Z" (.int 1) (fun q => b ≤ q) U H
def zRep (D : va_G) (ids : Nat → ClassId) (b : Nat) (sa : Nat → Nat) (s : State) (lk : Bool) (H : Heap) (locs : List Loc) (g : Nat) (w : zW) : Prop :=
  va_P D vwCl (zws ids b sa g w) H ∧ H.size = b + g ∧ s.heap.size ≤ H.size ∧ b ≤ s.heap.size ∧ (∀ q : Nat, q < b → H[q]? = s.heap[q]?) ∧ (∀ x ∈ locs, b ≤ x.base) ∧ zok g w ∧ (lk = true → g = zN ∧ zLk w)
def zLV (b : Nat) (sa : Nat → Nat) (ls : Array Slot) (nL : Nat) (lv : List zV) : Prop :=
  ls.size = nL ∧ lv_wf ls ∧ lv.length = nL ∧ ∀ (i : Nat) (v : zV), lv[i]? = some v → v.1 < 4 → ls[i]? = some (.val (zcv b sa v)) ∧ zin v
def zST (st : List zV) : Prop := ∀ v ∈ st, v.1 < 4 ∧ zin v
def zCx (p : Program) (R : Room) (s : State) (mth : MethodId) (args : Array Value) (meth : Method) (c : Code) (D : va_G) (ids : Nat → ClassId) (b : Nat) (sa adV : Nat → Nat) (n0 nE d m : Nat) : Prop :=
  p.tables.exec = Jvm.exec ∧ c.code = zby m ∧ meth.sig.returnType = zrt m ∧ meth.locks = false ∧ c.maxLocals = zmx m ∧ s.vm.findClass (zRn (zcn m)) = some mth.cls ∧ meth.name = (zyn m).name ∧ (∀ x ∈ zTB, x.before args s = true) ∧ zKK D ids b sa adV s s.heap ∧ d ≤ R.frames ∧ 40 * d ≤ R.locals ∧ R.cells = nE - n0 ∧ R.slots = zsum nE - zsum n0
def zWW (p : Program) (l : Launch) (e : Env) (R : Room) (s : State) (mth : MethodId) (args : Array Value) (below : List Frame) (meth : Method) (c : Code) (D : va_G) (ids : Nat → ClassId) (b : Nat) (sa : Nat → Nat) (n0 m : Nat) (Q : State → Prop) (pc : Nat) (lv st : List zV) (g : Nat) (w : zW) : Prop :=
  ∀ (H : Heap) (locs : List Loc) (ls : Array Slot), zRep D ids b sa s (zlm m) H locs g w → zLV b sa ls (zmx m) lv → zST st → n0 ≤ g → W p l e R s mth args below meth c H locs (g - n0) (zsum g - zsum n0) Q (F0 mth pc ls (st.map (zcv b sa)))
theorem zin_i (x : Int32) : zin (0, x.toInt) := ⟨x.le_toInt, x.toInt_lt⟩
theorem zin_l (x : Int64) : zin (1, x.toInt) := ⟨x.le_toInt, x.toInt_lt⟩
theorem zin_w (x : Int) : zin (0, w32 x) := by
  have h1 := Int.le_bmod (x := x) (m := 4294967296) (by decide)
  have h2 := Int.bmod_lt (x := x) (m := 4294967296) (by decide)
  exact ⟨by unfold w32; omega, by unfold w32; omega⟩
theorem w32_of (x : Int) : Int32.ofInt (w32 x) = Int32.ofInt x := by
  apply Int32.toInt_inj.mp
  rw [Int32.toInt_ofInt, Int32.toInt_ofInt]
  exact Int.bmod_bmod
theorem zo_i (x : Int32) : Int32.ofInt x.toInt = x := Int32.ofInt_toInt x
theorem zo_l (x : Int64) : Int64.ofInt x.toInt = x := Int64.ofInt_toInt x
theorem zi_to {x : Int} (h : zin (0, x)) : (Int32.ofInt x).toInt = x := Int32.toInt_ofInt_of_le h.1 h.2
theorem zl_to {x : Int} (h : zin (1, x)) : (Int64.ofInt x).toInt = x := Int64.toInt_ofInt_of_le h.1 h.2
theorem zi_eq {x y : Int} (hx : zin (0, x)) (hy : zin (0, y)) : Int32.ofInt x = Int32.ofInt y ↔ x = y := by
  rw [← Int32.toInt_inj, zi_to hx, zi_to hy]
theorem zi_lt {x y : Int} (hx : zin (0, x)) (hy : zin (0, y)) : Int32.ofInt x < Int32.ofInt y ↔ x < y := by
  rw [Int32.lt_iff_toInt_lt, zi_to hx, zi_to hy]
theorem zi_le {x y : Int} (hx : zin (0, x)) (hy : zin (0, y)) : Int32.ofInt x ≤ Int32.ofInt y ↔ x ≤ y := by
  rw [Int32.le_iff_toInt_le, zi_to hx, zi_to hy]
theorem zl_eq {x y : Int} (hx : zin (1, x)) (hy : zin (1, y)) : Int64.ofInt x = Int64.ofInt y ↔ x = y := by
  rw [← Int64.toInt_inj, zl_to hx, zl_to hy]
theorem zl_lt {x y : Int} (hx : zin (1, x)) (hy : zin (1, y)) : Int64.ofInt x < Int64.ofInt y ↔ x < y := by
  rw [Int64.lt_iff_toInt_lt, zl_to hx, zl_to hy]
theorem zST.tail {v : zV} {st : List zV} (h : zST (v :: st)) : zST st := fun x hx => h x (List.mem_cons_of_mem _ hx)
theorem zST.head {v : zV} {st : List zV} (h : zST (v :: st)) : zin v := (h v List.mem_cons_self).2
theorem zST.tag {v : zV} {st : List zV} (h : zST (v :: st)) : v.1 < 4 := (h v List.mem_cons_self).1
theorem zST.cons {v : zV} {st : List zV} (h1 : v.1 < 4) (h2 : zin v) (h : zST st) : zST (v :: st) := fun x hx => by
  rcases List.mem_cons.mp hx with rfl | hx
  · exact ⟨h1, h2⟩
  · exact h x hx
theorem t4 {t : Nat} {x : Int} (h : t < 4 := by decide) : ((t, x) : zV).1 < 4 := h
theorem zin_small {t : Nat} {x : Int} (h1 : -2147483648 ≤ x) (h2 : x < 2147483648) : zin (t, x) := by
  unfold zin
  split
  · exact ⟨h1, h2⟩
  · exact ⟨by have : (-9223372036854775808 : Int) ≤ -2147483648 := by decide
              exact Int.le_trans this h1, by have : (2147483648 : Int) ≤ 9223372036854775808 := by decide
                                             exact Int.lt_of_lt_of_le h2 this⟩
  · trivial
section Z1
variable {p : Program} {l : Launch} {e : Env} {R : Room} {s : State} {mth : MethodId} {args : Array Value} {below : List Frame} {meth : Method} {c : Code} {D : va_G} {ids : Nat → ClassId} {b : Nat} {sa adV : Nat → Nat} {n0 nE d m : Nat} {Q : State → Prop} {pc : Nat} {lv st : List zV} {g : Nat} {w : zW}
/-- an instruction that works on the stack alone -/
theorem z_pure {pc' : Nat} {st' : List zV} (row : ∀ (H : Heap) (locs : List Loc) (ls : Array Slot) (cells slots : Nat), zLV b sa ls (zmx m) lv → zST st → W p l e R s mth args below meth c H locs cells slots Q (F0 mth pc' ls (st'.map (zcv b sa))) → W p l e R s mth args below meth c H locs cells slots Q (F0 mth pc ls (st.map (zcv b sa))))
    (hst : zST st → (∀ (i : Nat) (v : zV), lv[i]? = some v → v.1 < 4 → zin v) → zST st') (k : zWW p l e R s mth args below meth c D ids b sa n0 m Q pc' lv st' g w) : zWW p l e R s mth args below meth c D ids b sa n0 m Q pc lv st g w :=
  fun H locs ls hR hL hS hg => row H locs ls _ _ hL hS (k H locs ls hR hL (hst hS (fun i v h1 h2 => (hL.2.2.2 i v h1 h2).2)) hg)
theorem z_iconst (C : zCx p R s mth args meth c D ids b sa adV n0 nE d m) {v : Int} (hv : -1 ≤ v ∧ v ≤ 5) (hd : decode (zby m) pc = .ok (.iconst v, 1)) (k : zWW p l e R s mth args below meth c D ids b sa n0 m Q (pc + 1) lv ((0, v) :: st) g w) : zWW p l e R s mth args below meth c D ids b sa n0 m Q pc lv st g w :=
  z_pure (fun H locs ls cells slots hL hS k => lv_iconst (v := Int32.ofInt v) C.1 C.2.1 hd rfl k) (fun h _ => h.cons t4 (zin_small (by omega) (by omega))) k
theorem z_bipush (C : zCx p R s mth args meth c D ids b sa adV n0 nE d m) {v : Int} (hv : -128 ≤ v ∧ v ≤ 127) (hd : decode (zby m) pc = .ok (.bipush v, 2)) (k : zWW p l e R s mth args below meth c D ids b sa n0 m Q (pc + 2) lv ((0, v) :: st) g w) : zWW p l e R s mth args below meth c D ids b sa n0 m Q pc lv st g w :=
  z_pure (fun H locs ls cells slots hL hS k => lv_bipush (v := Int32.ofInt v) C.1 C.2.1 hd (by
    apply Int32.toInt_inj.mp
    rw [zi_to (zin_small (by omega) (by omega)), Int8.toInt_toInt32, Int8.toInt_ofInt_of_le (by omega) (by omega)]) k) (fun h _ => h.cons t4 (zin_small (by omega) (by omega))) k
theorem z_sipush (C : zCx p R s mth args meth c D ids b sa adV n0 nE d m) {v : Int} (hv : -32768 ≤ v ∧ v ≤ 32767) (hd : decode (zby m) pc = .ok (.sipush v, 3)) (k : zWW p l e R s mth args below meth c D ids b sa n0 m Q (pc + 3) lv ((0, v) :: st) g w) : zWW p l e R s mth args below meth c D ids b sa n0 m Q pc lv st g w :=
  z_pure (fun H locs ls cells slots hL hS k => lv_sipush (v := Int32.ofInt v) C.1 C.2.1 hd (by
    apply Int32.toInt_inj.mp
    rw [zi_to (zin_small (by omega) (by omega)), Int16.toInt_toInt32, Int16.toInt_ofInt_of_le (by omega) (by omega)]) k) (fun h _ => h.cons t4 (zin_small (by omega) (by omega))) k
theorem z_lconst (C : zCx p R s mth args meth c D ids b sa adV n0 nE d m) {v : Fin 2} (hd : decode (zby m) pc = .ok (.lconst v, 1)) (k : zWW p l e R s mth args below meth c D ids b sa n0 m Q (pc + 1) lv ((1, ((v : Nat) : Int)) :: st) g w) : zWW p l e R s mth args below meth c D ids b sa n0 m Q pc lv st g w :=
  z_pure (fun H locs ls cells slots hL hS k => lv_lconst (v := Int64.ofInt ((v : Nat) : Int)) C.1 C.2.1 hd Int64.ofInt_eq_ofNat.symm k) (fun h _ => h.cons t4 (zin_small (by omega) (by have := v.isLt; omega))) k
theorem z_iadd (C : zCx p R s mth args meth c D ids b sa adV n0 nE d m) {x y : Int} (hd : decode (zby m) pc = .ok (.iadd, 1)) (k : zWW p l e R s mth args below meth c D ids b sa n0 m Q (pc + 1) lv ((0, w32 (x + y)) :: st) g w) : zWW p l e R s mth args below meth c D ids b sa n0 m Q pc lv ((0, y) :: (0, x) :: st) g w :=
  z_pure (fun H locs ls cells slots hL hS k => lv_iadd (x := Int32.ofInt x) (y := Int32.ofInt y) C.1 C.2.1 hd (by rw [← Int32.ofInt_add, ← w32_of]; exact k)) (fun h _ => h.tail.tail.cons t4 (zin_w _)) k
theorem z_isub (C : zCx p R s mth args meth c D ids b sa adV n0 nE d m) {x y : Int} (hd : decode (zby m) pc = .ok (.isub, 1)) (k : zWW p l e R s mth args below meth c D ids b sa n0 m Q (pc + 1) lv ((0, w32 (x - y)) :: st) g w) : zWW p l e R s mth args below meth c D ids b sa n0 m Q pc lv ((0, y) :: (0, x) :: st) g w :=
  z_pure (fun H locs ls cells slots hL hS k => lv_isub (x := Int32.ofInt x) (y := Int32.ofInt y) C.1 C.2.1 hd (by rw [← Int32.ofInt_sub, ← w32_of]; exact k)) (fun h _ => h.tail.tail.cons t4 (zin_w _)) k
theorem z_imul (C : zCx p R s mth args meth c D ids b sa adV n0 nE d m) {x y : Int} (hd : decode (zby m) pc = .ok (.imul, 1)) (k : zWW p l e R s mth args below meth c D ids b sa n0 m Q (pc + 1) lv ((0, w32 (x * y)) :: st) g w) : zWW p l e R s mth args below meth c D ids b sa n0 m Q pc lv ((0, y) :: (0, x) :: st) g w :=
  z_pure (fun H locs ls cells slots hL hS k => lv_imul (x := Int32.ofInt x) (y := Int32.ofInt y) C.1 C.2.1 hd (by rw [← Int32.ofInt_mul, ← w32_of]; exact k)) (fun h _ => h.tail.tail.cons t4 (zin_w _)) k
theorem z_iand (C : zCx p R s mth args meth c D ids b sa adV n0 nE d m) {x y : Int} (hd : decode (zby m) pc = .ok (.iand, 1)) (k : zWW p l e R s mth args below meth c D ids b sa n0 m Q (pc + 1) lv ((0, z_and x y) :: st) g w) : zWW p l e R s mth args below meth c D ids b sa n0 m Q pc lv ((0, y) :: (0, x) :: st) g w :=
  z_pure (fun H locs ls cells slots hL hS k => lv_iand (x := Int32.ofInt x) (y := Int32.ofInt y) C.1 C.2.1 hd (by rw [← zo_i (Int32.ofInt x &&& Int32.ofInt y)]; exact k)) (fun h _ => h.tail.tail.cons t4 (zin_i _)) k
theorem z_ior (C : zCx p R s mth args meth c D ids b sa adV n0 nE d m) {x y : Int} (hd : decode (zby m) pc = .ok (.ior, 1)) (k : zWW p l e R s mth args below meth c D ids b sa n0 m Q (pc + 1) lv ((0, z_or x y) :: st) g w) : zWW p l e R s mth args below meth c D ids b sa n0 m Q pc lv ((0, y) :: (0, x) :: st) g w :=
  z_pure (fun H locs ls cells slots hL hS k => lv_ior (x := Int32.ofInt x) (y := Int32.ofInt y) C.1 C.2.1 hd (by rw [← zo_i (Int32.ofInt x ||| Int32.ofInt y)]; exact k)) (fun h _ => h.tail.tail.cons t4 (zin_i _)) k
theorem z_ishl (C : zCx p R s mth args meth c D ids b sa adV n0 nE d m) {x y : Int} (hd : decode (zby m) pc = .ok (.ishl, 1)) (k : zWW p l e R s mth args below meth c D ids b sa n0 m Q (pc + 1) lv ((0, z_shl x y) :: st) g w) : zWW p l e R s mth args below meth c D ids b sa n0 m Q pc lv ((0, y) :: (0, x) :: st) g w :=
  z_pure (fun H locs ls cells slots hL hS k => lv_ishl (x := Int32.ofInt x) (y := Int32.ofInt y) C.1 C.2.1 hd (by rw [← zo_i (Int32.ofInt x <<< (Int32.ofInt y &&& 31))]; exact k)) (fun h _ => h.tail.tail.cons t4 (zin_i _)) k
theorem z_idiv (C : zCx p R s mth args meth c D ids b sa adV n0 nE d m) {x y : Int} (hy : y ≠ 0) (hd : decode (zby m) pc = .ok (.idiv, 1)) (k : zWW p l e R s mth args below meth c D ids b sa n0 m Q (pc + 1) lv ((0, z_div x y) :: st) g w) : zWW p l e R s mth args below meth c D ids b sa n0 m Q pc lv ((0, y) :: (0, x) :: st) g w :=
  z_pure (fun H locs ls cells slots hL hS k => lv_idiv (x := Int32.ofInt x) (y := Int32.ofInt y) C.1 C.2.1 hd (fun h => hy ((zi_eq hS.head (y := 0) ⟨by decide, by decide⟩).mp (h.trans (by decide)))) (by rw [← zo_i (Int32.ofInt x / Int32.ofInt y)]; exact k)) (fun h _ => h.tail.tail.cons t4 (zin_i _)) k
theorem z_irem (C : zCx p R s mth args meth c D ids b sa adV n0 nE d m) {x y : Int} (hy : y ≠ 0) (hd : decode (zby m) pc = .ok (.irem, 1)) (k : zWW p l e R s mth args below meth c D ids b sa n0 m Q (pc + 1) lv ((0, z_rem x y) :: st) g w) : zWW p l e R s mth args below meth c D ids b sa n0 m Q pc lv ((0, y) :: (0, x) :: st) g w :=
  z_pure (fun H locs ls cells slots hL hS k => lv_irem (x := Int32.ofInt x) (y := Int32.ofInt y) C.1 C.2.1 hd (fun h => hy ((zi_eq hS.head (y := 0) ⟨by decide, by decide⟩).mp (h.trans (by decide)))) (by rw [← zo_i (Int32.ofInt x - Int32.ofInt x / Int32.ofInt y * Int32.ofInt y)]; exact k)) (fun h _ => h.tail.tail.cons t4 (zin_i _)) k
theorem z_rland (C : zCx p R s mth args meth c D ids b sa adV n0 nE d m) {x y : Int} (hd : decode (zby m) pc = .ok (.land, 1)) (k : zWW p l e R s mth args below meth c D ids b sa n0 m Q (pc + 1) lv ((1, z_land x y) :: st) g w) : zWW p l e R s mth args below meth c D ids b sa n0 m Q pc lv ((1, y) :: (1, x) :: st) g w :=
  z_pure (fun H locs ls cells slots hL hS k => lv_land (x := Int64.ofInt x) (y := Int64.ofInt y) C.1 C.2.1 hd (by rw [← zo_l (Int64.ofInt x &&& Int64.ofInt y)]; exact k)) (fun h _ => h.tail.tail.cons t4 (zin_l _)) k
theorem z_rlor (C : zCx p R s mth args meth c D ids b sa adV n0 nE d m) {x y : Int} (hd : decode (zby m) pc = .ok (.lor, 1)) (k : zWW p l e R s mth args below meth c D ids b sa n0 m Q (pc + 1) lv ((1, z_lor x y) :: st) g w) : zWW p l e R s mth args below meth c D ids b sa n0 m Q pc lv ((1, y) :: (1, x) :: st) g w :=
  z_pure (fun H locs ls cells slots hL hS k => lv_lor (x := Int64.ofInt x) (y := Int64.ofInt y) C.1 C.2.1 hd (by rw [← zo_l (Int64.ofInt x ||| Int64.ofInt y)]; exact k)) (fun h _ => h.tail.tail.cons t4 (zin_l _)) k
theorem z_rlmul (C : zCx p R s mth args meth c D ids b sa adV n0 nE d m) {x y : Int} (hd : decode (zby m) pc = .ok (.lmul, 1)) (k : zWW p l e R s mth args below meth c D ids b sa n0 m Q (pc + 1) lv ((1, z_lmul x y) :: st) g w) : zWW p l e R s mth args below meth c D ids b sa n0 m Q pc lv ((1, y) :: (1, x) :: st) g w :=
  z_pure (fun H locs ls cells slots hL hS k => lv_lmul (x := Int64.ofInt x) (y := Int64.ofInt y) C.1 C.2.1 hd (by rw [← zo_l (Int64.ofInt x * Int64.ofInt y)]; exact k)) (fun h _ => h.tail.tail.cons t4 (zin_l _)) k
theorem z_rlsub (C : zCx p R s mth args meth c D ids b sa adV n0 nE d m) {x y : Int} (hd : decode (zby m) pc = .ok (.lsub, 1)) (k : zWW p l e R s mth args below meth c D ids b sa n0 m Q (pc + 1) lv ((1, z_lsub x y) :: st) g w) : zWW p l e R s mth args below meth c D ids b sa n0 m Q pc lv ((1, y) :: (1, x) :: st) g w :=
  z_pure (fun H locs ls cells slots hL hS k => lv_lsub (x := Int64.ofInt x) (y := Int64.ofInt y) C.1 C.2.1 hd (by rw [← zo_l (Int64.ofInt x - Int64.ofInt y)]; exact k)) (fun h _ => h.tail.tail.cons t4 (zin_l _)) k
theorem z_rlshl (C : zCx p R s mth args meth c D ids b sa adV n0 nE d m) {x y : Int} (hd : decode (zby m) pc = .ok (.lshl, 1)) (k : zWW p l e R s mth args below meth c D ids b sa n0 m Q (pc + 1) lv ((1, z_lshl x y) :: st) g w) : zWW p l e R s mth args below meth c D ids b sa n0 m Q pc lv ((0, y) :: (1, x) :: st) g w :=
  z_pure (fun H locs ls cells slots hL hS k => lv_lshl (x := Int64.ofInt x) (y := Int32.ofInt y) C.1 C.2.1 hd (zo_l _).symm k) (fun h _ => h.tail.tail.cons t4 (zin_l _)) k
theorem z_rlshr (C : zCx p R s mth args meth c D ids b sa adV n0 nE d m) {x y : Int} (hd : decode (zby m) pc = .ok (.lshr, 1)) (k : zWW p l e R s mth args below meth c D ids b sa n0 m Q (pc + 1) lv ((1, z_lshr x y) :: st) g w) : zWW p l e R s mth args below meth c D ids b sa n0 m Q pc lv ((0, y) :: (1, x) :: st) g w :=
  z_pure (fun H locs ls cells slots hL hS k => lv_lshr (x := Int64.ofInt x) (y := Int32.ofInt y) C.1 C.2.1 hd (zo_l _).symm k) (fun h _ => h.tail.tail.cons t4 (zin_l _)) k
theorem z_rlushr (C : zCx p R s mth args meth c D ids b sa adV n0 nE d m) {x y : Int} (hd : decode (zby m) pc = .ok (.lushr, 1)) (k : zWW p l e R s mth args below meth c D ids b sa n0 m Q (pc + 1) lv ((1, z_lushr x y) :: st) g w) : zWW p l e R s mth args below meth c D ids b sa n0 m Q pc lv ((0, y) :: (1, x) :: st) g w :=
  z_pure (fun H locs ls cells slots hL hS k => lv_lushr (x := Int64.ofInt x) (y := Int32.ofInt y) C.1 C.2.1 hd (zo_l _).symm k) (fun h _ => h.tail.tail.cons t4 (zin_l _)) k
theorem z_rlcmp (C : zCx p R s mth args meth c D ids b sa adV n0 nE d m) {x y : Int} (hd : decode (zby m) pc = .ok (.lcmp, 1)) (k : zWW p l e R s mth args below meth c D ids b sa n0 m Q (pc + 1) lv ((0, z_cmp x y) :: st) g w) : zWW p l e R s mth args below meth c D ids b sa n0 m Q pc lv ((1, y) :: (1, x) :: st) g w :=
  z_pure (fun H locs ls cells slots hL hS k => W.lcmp (x := Int64.ofInt x) (y := Int64.ofInt y) C.1 C.2.1 hd (by
    have e : lg_cmp (Int64.ofInt x) (Int64.ofInt y) = Int32.ofInt (z_cmp x y) := by
      unfold lg_cmp z_cmp
      simp only [zl_lt hS.head hS.tail.head, zl_eq hS.tail.head hS.head, zl_lt hS.tail.head hS.head]
      split
      · rfl
      · split <;> first | rfl | (split <;> first | rfl | omega)
    rw [e]; exact k)) (fun h _ => h.tail.tail.cons t4 (zin_small (by unfold z_cmp; split <;> (try split) <;> omega) (by unfold z_cmp; split <;> (try split) <;> omega))) k
theorem z_i2l (C : zCx p R s mth args meth c D ids b sa adV n0 nE d m) {x : Int} (hd : decode (zby m) pc = .ok (.i2l, 1)) (k : zWW p l e R s mth args below meth c D ids b sa n0 m Q (pc + 1) lv ((1, x) :: st) g w) : zWW p l e R s mth args below meth c D ids b sa n0 m Q pc lv ((0, x) :: st) g w :=
  z_pure (fun H locs ls cells slots hL hS k => lv_i2l (x := Int32.ofInt x) (v := Int64.ofInt x) C.1 C.2.1 hd (by
    apply Int64.toInt_inj.mp
    have h := hS.head
    have h1 := h.1
    have h2 := h.2
    rw [Int32.toInt_toInt64, zi_to h, zl_to (zin_small h1 h2)]) k) (fun h _ => h.tail.cons t4 (zin_small h.head.1 h.head.2)) k
theorem z_rl2i (C : zCx p R s mth args meth c D ids b sa adV n0 nE d m) {x : Int} (hd : decode (zby m) pc = .ok (.l2i, 1)) (k : zWW p l e R s mth args below meth c D ids b sa n0 m Q (pc + 1) lv ((0, z_l2i x) :: st) g w) : zWW p l e R s mth args below meth c D ids b sa n0 m Q pc lv ((1, x) :: st) g w :=
  z_pure (fun H locs ls cells slots hL hS k => lv_l2i (x := Int64.ofInt x) C.1 C.2.1 hd (zo_i _).symm k) (fun h _ => h.tail.cons t4 (zin_i _)) k
theorem z_ri2c (C : zCx p R s mth args meth c D ids b sa adV n0 nE d m) {x : Int} (hd : decode (zby m) pc = .ok (.i2c, 1)) (k : zWW p l e R s mth args below meth c D ids b sa n0 m Q (pc + 1) lv ((0, z_i2c x) :: st) g w) : zWW p l e R s mth args below meth c D ids b sa n0 m Q pc lv ((0, x) :: st) g w :=
  z_pure (fun H locs ls cells slots hL hS k => lv_i2c (x := Int32.ofInt x) C.1 C.2.1 hd (zo_i _).symm k) (fun h _ => h.tail.cons t4 (zin_i _)) k
end Z1
end
section
theorem z_look {α : Type} {k : Nat} {v : α} : ∀ {l : List (Nat × α)}, l.lookup k = some v → (k, v) ∈ l
  | [], h => by simp at h
  | (a, x) :: l, h => by
    rw [List.lookup_cons] at h
    by_cases e : k = a
    · subst e
      simp at h
      rw [h]
      exact List.mem_cons_self
    · have e2 : (k == a) = false := by simpa using e
      rw [e2] at h
      exact List.mem_cons_of_mem _ (z_look h)
theorem zld_spec {t : Nat} {lv : List zV} {i : Nat} {v : zV} (h : zld t lv i = some v) : lv[i]? = some v ∧ v.1 = t := by
  unfold zld at h
  split at h
  next u hu =>
    by_cases e : u.1 = t
    · rw [if_pos e] at h
      cases h
      exact ⟨hu, e⟩
    · rw [if_neg e] at h
      cases h
  next => cases h
theorem zcv_ref {b : Nat} {sa : Nat → Nat} {x : Int} (h : 0 ≤ x) : zcv b sa (2, x) = .ref (b + x.toNat) := by
  show (if x < 0 then _ else _) = _
  rw [if_neg (by omega)]
theorem zcv_cat {b : Nat} {sa : Nat → Nat} {v : zV} (h : v.1 ≠ 1) : (zcv b sa v).category = 1 := by
  obtain ⟨t, x⟩ := v
  unfold zcv
  split
  · rfl
  · exact absurd (by assumption) h
  · split <;> rfl
  · rfl
theorem zcv_cat1 {b : Nat} {sa : Nat → Nat} {v : zV} (h : v.1 = 1) : (zcv b sa v).category = 2 := by
  obtain ⟨t, x⟩ := v
  cases h
  rfl
theorem zcat_sum {b : Nat} {sa : Nat → Nat} (st : List zV) : ((st.map (zcv b sa)).map fun v => v.category).sum = zcat st := by
  unfold zcat
  rw [List.map_map]
  congr 1
  apply List.map_congr_left
  intro v _
  show (zcv b sa v).category = if v.1 = 1 then 2 else 1
  by_cases h : v.1 = 1
  · rw [if_pos h, zcv_cat1 h]
  · rw [if_neg h, zcv_cat h]
def zA (b : Nat) (sa : Nat → Nat) (lv : List zV) : List (Nat × Value) := (List.range lv.length).filterMap (fun j => (lv[j]?).bind (fun v => if v.1 < 4 then some (j, zcv b sa v) else none))
theorem zA_mem {b : Nat} {sa : Nat → Nat} {lv : List zV} {q : Nat × Value} : q ∈ zA b sa lv ↔ ∃ v, lv[q.1]? = some v ∧ v.1 < 4 ∧ q.2 = zcv b sa v := by
  unfold zA
  rw [List.mem_filterMap]
  constructor
  · rintro ⟨j, hj, h⟩
    cases hv : lv[j]? with
    | none => rw [hv] at h; cases h
    | some v =>
      rw [hv] at h
      simp only [Option.bind_some] at h
      by_cases h4 : v.1 < 4
      · rw [if_pos h4] at h
        cases h
        exact ⟨v, hv, h4, rfl⟩
      · rw [if_neg h4] at h
        cases h
  · rintro ⟨v, hv, h4, e⟩
    refine ⟨q.1, List.mem_range.mpr (List.getElem?_eq_some_iff.mp hv).1, ?_⟩
    rw [hv]
    simp only [Option.bind_some]
    rw [if_pos h4, ← e]
theorem zLV.has {b : Nat} {sa : Nat → Nat} {ls : Array Slot} {nL : Nat} {lv : List zV} (h : zLV b sa ls nL lv) : lv_has ls nL (zA b sa lv) := by
  refine ⟨h.1, h.2.1, fun q hq => ?_⟩
  obtain ⟨v, h1, h2, h3⟩ := zA_mem.mp hq
  rw [h3]
  exact (h.2.2.2 q.1 v h1 h2).1
theorem zLV.sto {b : Nat} {sa : Nat → Nat} {ls ls' : Array Slot} {nL : Nat} {lv lv' : List zV} {i : Nat} {v : zV} (h : zLV b sa ls nL lv) (hs : zsto lv i v = some lv') (hv : zin v)
    (h' : lv_has ls' nL ((i, zcv b sa v) :: (zA b sa lv).filter (fun q => !(q.1 == i) && !(q.1 + 1 == i && q.2.category == 2)))) : zLV b sa ls' nL lv' := by
  unfold zsto at hs
  split at hs
  next hc =>
    cases hs
    refine ⟨h'.1, h'.2.1, by rw [List.length_set]; exact h.2.2.1, fun j u hj h4 => ?_⟩
    by_cases e : j = i
    · subst e
      rw [List.getElem?_set_self hc.1] at hj
      cases hj
      exact ⟨h'.2.2 (j, zcv b sa v) List.mem_cons_self, hv⟩
    · rw [List.getElem?_set_ne (Ne.symm e)] at hj
      refine ⟨h'.2.2 (j, zcv b sa u) (List.mem_cons_of_mem _ (List.mem_filter.mpr ⟨zA_mem.mpr ⟨u, hj, h4, rfl⟩, ?_⟩)), (h.2.2.2 j u hj h4).2⟩
      have e1 : (j == i) = false := by simpa using e
      rw [show ((j, zcv b sa u) : Nat × Value).1 = j from rfl, show ((j, zcv b sa u) : Nat × Value).2 = zcv b sa u from rfl, e1]
      by_cases e2 : j + 1 = i
      · have hu : u.1 ≠ 1 := by
          rcases hc.2 with h0 | h0
          · omega
          · intro hu
            apply h0
            unfold ztag
            rw [show i - 1 = j by omega, List.getD_eq_getElem?_getD, hj]
            exact hu
        rw [zcv_cat hu]
        simp
      · have e3 : (j + 1 == i) = false := by simpa using e2
        rw [e3]
        rfl
  next => cases hs
theorem zLV.stoL {b : Nat} {sa : Nat → Nat} {ls ls' : Array Slot} {nL : Nat} {lv lv' : List zV} {i : Nat} {v : zV} (h : zLV b sa ls nL lv) (hs : zstoL lv i v = some lv') (hv : zin v)
    (h' : lv_has ls' nL ((i, zcv b sa v) :: (zA b sa lv).filter (fun q => !(q.1 == i) && (!(q.1 == i + 1) && !(q.1 + 1 == i && q.2.category == 2))))) : zLV b sa ls' nL lv' := by
  unfold zstoL at hs
  split at hs
  next hc =>
    cases hs
    refine ⟨h'.1, h'.2.1, by rw [List.length_set, List.length_set]; exact h.2.2.1, fun j u hj h4 => ?_⟩
    by_cases e0 : j = i + 1
    · subst e0
      rw [List.getElem?_set_self (by rw [List.length_set]; exact hc.1)] at hj
      cases hj
      exact absurd h4 (by decide)
    · rw [List.getElem?_set_ne (Ne.symm e0)] at hj
      by_cases e : j = i
      · subst e
        rw [List.getElem?_set_self (by omega)] at hj
        cases hj
        exact ⟨h'.2.2 (j, zcv b sa v) List.mem_cons_self, hv⟩
      · rw [List.getElem?_set_ne (Ne.symm e)] at hj
        refine ⟨h'.2.2 (j, zcv b sa u) (List.mem_cons_of_mem _ (List.mem_filter.mpr ⟨zA_mem.mpr ⟨u, hj, h4, rfl⟩, ?_⟩)), (h.2.2.2 j u hj h4).2⟩
        have e1 : (j == i) = false := by simpa using e
        have e4 : (j == i + 1) = false := by simpa using e0
        rw [show ((j, zcv b sa u) : Nat × Value).1 = j from rfl, show ((j, zcv b sa u) : Nat × Value).2 = zcv b sa u from rfl, e1, e4]
        by_cases e2 : j + 1 = i
        · have hu : u.1 ≠ 1 := by
            rcases hc.2 with h0 | h0
            · omega
            · intro hu
              apply h0
              unfold ztag
              rw [show i - 1 = j by omega, List.getD_eq_getElem?_getD, hj]
              exact hu
          rw [zcv_cat hu]
          simp
        · have e3 : (j + 1 == i) = false := by simpa using e2
          rw [e3]
          rfl
  next => cases hs
theorem zsto_lt {lv lv' : List zV} {i : Nat} {v : zV} (hs : zsto lv i v = some lv') : i < lv.length := by
  unfold zsto at hs
  split at hs
  next hc => exact hc.1
  next => cases hs
theorem zstoL_lt {lv lv' : List zV} {i : Nat} {v : zV} (hs : zstoL lv i v = some lv') : i + 1 < lv.length := by
  unfold zstoL at hs
  split at hs
  next hc => exact hc.1
  next => cases hs
section Z2
variable {p : Program} {l : Launch} {e : Env} {R : Room} {s : State} {mth : MethodId} {args : Array Value} {below : List Frame} {meth : Method} {c : Code} {D : va_G} {ids : Nat → ClassId} {b : Nat} {sa adV : Nat → Nat} {n0 nE d m : Nat} {Q : State → Prop} {pc : Nat} {lv st : List zV} {g : Nat} {w : zW}
theorem z_iload_n (C : zCx p R s mth args meth c D ids b sa adV n0 nE d m) {k : Fin 4} {v : zV} (hl : zld 0 lv k = some v) (hd : decode (zby m) pc = .ok (.iload_n k, 1)) (kk : zWW p l e R s mth args below meth c D ids b sa n0 m Q (pc + 1) lv (v :: st) g w) : zWW p l e R s mth args below meth c D ids b sa n0 m Q pc lv st g w := by
  obtain ⟨t, x⟩ := v
  obtain ⟨h1, h2⟩ := zld_spec hl
  cases h2
  exact z_pure (fun H locs ls cells slots hL hS k => lv_iload_n C.1 C.2.1 hd rfl (hL.2.2.2 _ _ h1 t4).1 k) (fun h hv => h.cons t4 (hv _ _ h1 t4)) kk
theorem z_iload (C : zCx p R s mth args meth c D ids b sa adV n0 nE d m) {k : Nat} {v : zV} (hl : zld 0 lv k = some v) (hd : decode (zby m) pc = .ok (.iload k, 2)) (kk : zWW p l e R s mth args below meth c D ids b sa n0 m Q (pc + 2) lv (v :: st) g w) : zWW p l e R s mth args below meth c D ids b sa n0 m Q pc lv st g w := by
  obtain ⟨t, x⟩ := v
  obtain ⟨h1, h2⟩ := zld_spec hl
  cases h2
  exact z_pure (fun H locs ls cells slots hL hS k => lv_iload C.1 C.2.1 hd (hL.2.2.2 _ _ h1 t4).1 k) (fun h hv => h.cons t4 (hv _ _ h1 t4)) kk
theorem z_lload_n (C : zCx p R s mth args meth c D ids b sa adV n0 nE d m) {k : Fin 4} {v : zV} (hl : zld 1 lv k = some v) (hd : decode (zby m) pc = .ok (.lload_n k, 1)) (kk : zWW p l e R s mth args below meth c D ids b sa n0 m Q (pc + 1) lv (v :: st) g w) : zWW p l e R s mth args below meth c D ids b sa n0 m Q pc lv st g w := by
  obtain ⟨t, x⟩ := v
  obtain ⟨h1, h2⟩ := zld_spec hl
  cases h2
  exact z_pure (fun H locs ls cells slots hL hS k => lv_lload_n C.1 C.2.1 hd rfl (hL.2.2.2 _ _ h1 t4).1 k) (fun h hv => h.cons t4 (hv _ _ h1 t4)) kk
theorem z_lload (C : zCx p R s mth args meth c D ids b sa adV n0 nE d m) {k : Nat} {v : zV} (hl : zld 1 lv k = some v) (hd : decode (zby m) pc = .ok (.lload k, 2)) (kk : zWW p l e R s mth args below meth c D ids b sa n0 m Q (pc + 2) lv (v :: st) g w) : zWW p l e R s mth args below meth c D ids b sa n0 m Q pc lv st g w := by
  obtain ⟨t, x⟩ := v
  obtain ⟨h1, h2⟩ := zld_spec hl
  cases h2
  exact z_pure (fun H locs ls cells slots hL hS k => lv_lload C.1 C.2.1 hd (hL.2.2.2 _ _ h1 t4).1 k) (fun h hv => h.cons t4 (hv _ _ h1 t4)) kk
theorem z_aload_n (C : zCx p R s mth args meth c D ids b sa adV n0 nE d m) {k : Fin 4} {v : zV} (hl : zld 2 lv k = some v) (h0 : 0 ≤ v.2) (hd : decode (zby m) pc = .ok (.aload_n k, 1)) (kk : zWW p l e R s mth args below meth c D ids b sa n0 m Q (pc + 1) lv (v :: st) g w) : zWW p l e R s mth args below meth c D ids b sa n0 m Q pc lv st g w := by
  obtain ⟨t, x⟩ := v
  obtain ⟨h1, h2⟩ := zld_spec hl
  cases h2
  refine z_pure (fun H locs ls cells slots hL hS k => ?_) (fun h hv => h.cons t4 (hv _ _ h1 t4)) kk
  have h3 := (hL.2.2.2 _ _ h1 t4).1
  rw [List.map_cons] at k
  rw [zcv_ref h0] at h3 k
  exact lv_aload_n C.1 C.2.1 hd rfl h3 k
theorem z_aload (C : zCx p R s mth args meth c D ids b sa adV n0 nE d m) {k : Nat} {v : zV} (hl : zld 2 lv k = some v) (h0 : 0 ≤ v.2) (hd : decode (zby m) pc = .ok (.aload k, 2)) (kk : zWW p l e R s mth args below meth c D ids b sa n0 m Q (pc + 2) lv (v :: st) g w) : zWW p l e R s mth args below meth c D ids b sa n0 m Q pc lv st g w := by
  obtain ⟨t, x⟩ := v
  obtain ⟨h1, h2⟩ := zld_spec hl
  cases h2
  refine z_pure (fun H locs ls cells slots hL hS k => ?_) (fun h hv => h.cons t4 (hv _ _ h1 t4)) kk
  have h3 := (hL.2.2.2 _ _ h1 t4).1
  rw [List.map_cons] at k
  rw [zcv_ref h0] at h3 k
  exact lv_aload C.1 C.2.1 hd h3 k
theorem z_istore_n (C : zCx p R s mth args meth c D ids b sa adV n0 nE d m) {k : Fin 4} {x : Int} {lv' : List zV} (hs : zsto lv k (0, x) = some lv') (hd : decode (zby m) pc = .ok (.istore_n k, 1)) (kk : zWW p l e R s mth args below meth c D ids b sa n0 m Q (pc + 1) lv' st g w) : zWW p l e R s mth args below meth c D ids b sa n0 m Q pc lv ((0, x) :: st) g w :=
  fun H locs ls hR hL hS hg => lv_istore_n (x := Int32.ofInt x) C.1 C.2.1 hd rfl hL.has (by rw [← hL.2.2.1]; exact zsto_lt hs) rfl (fun ls' h' => kk H locs ls' hR (hL.sto hs hS.head h') hS.tail hg)
theorem z_istore (C : zCx p R s mth args meth c D ids b sa adV n0 nE d m) {k : Nat} {x : Int} {lv' : List zV} (hs : zsto lv k (0, x) = some lv') (hd : decode (zby m) pc = .ok (.istore k, 2)) (kk : zWW p l e R s mth args below meth c D ids b sa n0 m Q (pc + 2) lv' st g w) : zWW p l e R s mth args below meth c D ids b sa n0 m Q pc lv ((0, x) :: st) g w :=
  fun H locs ls hR hL hS hg => lv_istore (x := Int32.ofInt x) C.1 C.2.1 hd hL.has (by rw [← hL.2.2.1]; exact zsto_lt hs) rfl (fun ls' h' => kk H locs ls' hR (hL.sto hs hS.head h') hS.tail hg)
theorem z_lstore_n (C : zCx p R s mth args meth c D ids b sa adV n0 nE d m) {k : Fin 4} {x : Int} {lv' : List zV} (hs : zstoL lv k (1, x) = some lv') (hd : decode (zby m) pc = .ok (.lstore_n k, 1)) (kk : zWW p l e R s mth args below meth c D ids b sa n0 m Q (pc + 1) lv' st g w) : zWW p l e R s mth args below meth c D ids b sa n0 m Q pc lv ((1, x) :: st) g w :=
  fun H locs ls hR hL hS hg => lv_lstore_n (x := Int64.ofInt x) C.1 C.2.1 hd rfl hL.has (by rw [← hL.2.2.1]; exact zstoL_lt hs) rfl (fun ls' h' => kk H locs ls' hR (hL.stoL hs hS.head h') hS.tail hg)
theorem z_lstore (C : zCx p R s mth args meth c D ids b sa adV n0 nE d m) {k : Nat} {x : Int} {lv' : List zV} (hs : zstoL lv k (1, x) = some lv') (hd : decode (zby m) pc = .ok (.lstore k, 2)) (kk : zWW p l e R s mth args below meth c D ids b sa n0 m Q (pc + 2) lv' st g w) : zWW p l e R s mth args below meth c D ids b sa n0 m Q pc lv ((1, x) :: st) g w :=
  fun H locs ls hR hL hS hg => lv_lstore (x := Int64.ofInt x) C.1 C.2.1 hd hL.has (by rw [← hL.2.2.1]; exact zstoL_lt hs) rfl (fun ls' h' => kk H locs ls' hR (hL.stoL hs hS.head h') hS.tail hg)
theorem z_astore_n (C : zCx p R s mth args meth c D ids b sa adV n0 nE d m) {k : Fin 4} {x : Int} {lv' : List zV} (h0 : 0 ≤ x) (hs : zsto lv k (2, x) = some lv') (hd : decode (zby m) pc = .ok (.astore_n k, 1)) (kk : zWW p l e R s mth args below meth c D ids b sa n0 m Q (pc + 1) lv' st g w) : zWW p l e R s mth args below meth c D ids b sa n0 m Q pc lv ((2, x) :: st) g w := by
  intro H locs ls hR hL hS hg
  rw [List.map_cons, zcv_ref h0]
  exact lv_astore_n C.1 C.2.1 hd rfl hL.has (by rw [← hL.2.2.1]; exact zsto_lt hs) rfl (fun ls' h' => kk H locs ls' hR (hL.sto hs hS.head (by rw [zcv_ref h0]; exact h')) hS.tail hg)
theorem z_astore (C : zCx p R s mth args meth c D ids b sa adV n0 nE d m) {k : Nat} {x : Int} {lv' : List zV} (h0 : 0 ≤ x) (hs : zsto lv k (2, x) = some lv') (hd : decode (zby m) pc = .ok (.astore k, 2)) (kk : zWW p l e R s mth args below meth c D ids b sa n0 m Q (pc + 2) lv' st g w) : zWW p l e R s mth args below meth c D ids b sa n0 m Q pc lv ((2, x) :: st) g w := by
  intro H locs ls hR hL hS hg
  rw [List.map_cons, zcv_ref h0]
  exact lv_astore C.1 C.2.1 hd hL.has (by rw [← hL.2.2.1]; exact zsto_lt hs) rfl (fun ls' h' => kk H locs ls' hR (hL.sto hs hS.head (by rw [zcv_ref h0]; exact h')) hS.tail hg)
theorem z_iinc (C : zCx p R s mth args meth c D ids b sa adV n0 nE d m) {k : Nat} {n : Int} {x : zV} {lv' : List zV} (hl : zld 0 lv k = some x) (hs : zsto lv k (0, w32 (x.2 + n)) = some lv') (hd : decode (zby m) pc = .ok (.iinc k n, 3)) (kk : zWW p l e R s mth args below meth c D ids b sa n0 m Q (pc + 3) lv' st g w) : zWW p l e R s mth args below meth c D ids b sa n0 m Q pc lv st g w := by
  obtain ⟨t, x⟩ := x
  obtain ⟨h1, h2⟩ := zld_spec hl
  cases h2
  intro H locs ls hR hL hS hg
  obtain ⟨j, hj⟩ := List.getElem?_of_mem (zA_mem (q := (k, zcv b sa (0, x))).mpr ⟨_, h1, t4, rfl⟩)
  exact lv_iinc (x := Int32.ofInt x) (v := Int32.ofInt (w32 (x + n))) C.1 C.2.1 hd hL.has (k := j) hj (by rw [w32_of, Int32.ofInt_add]) (by rw [← hL.2.2.1]; exact zsto_lt hs) rfl (fun ls' h' => kk H locs ls' hR (hL.sto hs (zin_w _) h') hS hg)
theorem z_dup (C : zCx p R s mth args meth c D ids b sa adV n0 nE d m) {v : zV} (hv : v.1 ≠ 1) (hd : decode (zby m) pc = .ok (.dup, 1)) (kk : zWW p l e R s mth args below meth c D ids b sa n0 m Q (pc + 1) lv (v :: v :: st) g w) : zWW p l e R s mth args below meth c D ids b sa n0 m Q pc lv (v :: st) g w :=
  z_pure (fun H locs ls cells slots hL hS k => lv_dup C.1 C.2.1 hd (zcv_cat hv) k) (fun h _ => h.cons h.tag h.head) kk
theorem z_dup2 (C : zCx p R s mth args meth c D ids b sa adV n0 nE d m) {v u : zV} (hv : v.1 ≠ 1) (hu : u.1 ≠ 1) (hd : decode (zby m) pc = .ok (.dup2, 1)) (kk : zWW p l e R s mth args below meth c D ids b sa n0 m Q (pc + 1) lv (v :: u :: v :: u :: st) g w) : zWW p l e R s mth args below meth c D ids b sa n0 m Q pc lv (v :: u :: st) g w :=
  z_pure (fun H locs ls cells slots hL hS k => lv_dup2_11 C.1 C.2.1 hd (zcv_cat hv) (zcv_cat hu) k) (fun h _ => (h.cons h.tail.tag h.tail.head).cons h.tag h.head) kk
theorem z_pop (C : zCx p R s mth args meth c D ids b sa adV n0 nE d m) {v : zV} (hv : v.1 ≠ 1) (hd : decode (zby m) pc = .ok (.pop, 1)) (kk : zWW p l e R s mth args below meth c D ids b sa n0 m Q (pc + 1) lv st g w) : zWW p l e R s mth args below meth c D ids b sa n0 m Q pc lv (v :: st) g w :=
  z_pure (fun H locs ls cells slots hL hS k => lv_pop C.1 C.2.1 hd (zcv_cat hv) k) (fun h _ => h.tail) kk
theorem zjmp_spec {pc pc' : Nat} {off : Int} {lv st lv' st' : List zV} {g g' : Nat} {w w' : zW} (h : zjmp pc off lv st g w = some (.inl (pc', lv', st', g', w'))) : (pc : Int) + off = (pc' : Int) ∧ lv' = lv ∧ st' = st ∧ g' = g ∧ w' = w := by
  unfold zjmp zgo at h
  split at h
  next h0 =>
    cases h
    exact ⟨(Int.toNat_of_nonneg h0).symm, rfl, rfl, rfl, rfl⟩
  next => cases h
theorem z_goto (C : zCx p R s mth args meth c D ids b sa adV n0 nE d m) {off : Int} {tgt : Nat} (ht : (pc : Int) + off = (tgt : Int)) (hd : decode (zby m) pc = .ok (.goto off, 3)) (kk : zWW p l e R s mth args below meth c D ids b sa n0 m Q tgt lv st g w) : zWW p l e R s mth args below meth c D ids b sa n0 m Q pc lv st g w :=
  z_pure (fun H locs ls cells slots hL hS k => lv_goto C.1 C.2.1 hd ht k) (fun h _ => h) kk
theorem z_in0 : zin (0, 0) := ⟨by decide, by decide⟩
theorem z_icmp (C : zCx p R s mth args meth c D ids b sa adV n0 nE d m) {cd : Jvm.ClassFile.Cond} {off : Int} {tgt : Nat} {x y : Int} (ht : (pc : Int) + off = (tgt : Int)) (hd : decode (zby m) pc = .ok (.if_icmp cd off, 3))
    (kt : zcond cd x y = true → zWW p l e R s mth args below meth c D ids b sa n0 m Q tgt lv st g w) (kf : ¬ zcond cd x y = true → zWW p l e R s mth args below meth c D ids b sa n0 m Q (pc + 3) lv st g w) : zWW p l e R s mth args below meth c D ids b sa n0 m Q pc lv ((0, y) :: (0, x) :: st) g w := by
  intro H locs ls hR hL hS hg
  have hy := hS.head
  have hx := hS.tail.head
  have kt' := fun h => kt h H locs ls hR hL hS.tail.tail hg
  have kf' := fun h => kf h H locs ls hR hL hS.tail.tail hg
  cases cd <;> simp only [zcond, decide_eq_true_eq] at kt' kf'
  · exact lv_icmp_eq (x := Int32.ofInt x) (y := Int32.ofInt y) C.1 C.2.1 hd ht (fun h => kt' ((zi_eq hx hy).mp h)) (fun h => kf' (fun e => h ((zi_eq hx hy).mpr e)))
  · exact lv_icmp_ne (x := Int32.ofInt x) (y := Int32.ofInt y) C.1 C.2.1 hd ht (fun h => kt' (fun e => h ((zi_eq hx hy).mpr e))) (fun h => kf' (fun e => e ((zi_eq hx hy).mp h)))
  · exact lv_icmp_lt (x := Int32.ofInt x) (y := Int32.ofInt y) C.1 C.2.1 hd ht (fun h => kt' ((zi_lt hx hy).mp h)) (fun h => kf' (fun e => h ((zi_lt hx hy).mpr e)))
  · exact lv_icmp_ge (x := Int32.ofInt x) (y := Int32.ofInt y) C.1 C.2.1 hd ht (fun h => kt' ((zi_le hy hx).mp h)) (fun h => kf' (fun e => h ((zi_le hy hx).mpr e)))
  · exact lv_icmp_gt (x := Int32.ofInt x) (y := Int32.ofInt y) C.1 C.2.1 hd ht (fun h => kt' ((zi_lt hy hx).mp h)) (fun h => kf' (fun e => h ((zi_lt hy hx).mpr e)))
  · exact lv_icmp_le (x := Int32.ofInt x) (y := Int32.ofInt y) C.1 C.2.1 hd ht (fun h => kt' ((zi_le hx hy).mp h)) (fun h => kf' (fun e => h ((zi_le hx hy).mpr e)))
theorem z_ifc (C : zCx p R s mth args meth c D ids b sa adV n0 nE d m) {cd : Jvm.ClassFile.Cond} {off : Int} {tgt : Nat} {x : Int} (ht : (pc : Int) + off = (tgt : Int)) (hd : decode (zby m) pc = .ok (.ifCond cd off, 3))
    (kt : zcond cd x 0 = true → zWW p l e R s mth args below meth c D ids b sa n0 m Q tgt lv st g w) (kf : ¬ zcond cd x 0 = true → zWW p l e R s mth args below meth c D ids b sa n0 m Q (pc + 3) lv st g w) : zWW p l e R s mth args below meth c D ids b sa n0 m Q pc lv ((0, x) :: st) g w := by
  intro H locs ls hR hL hS hg
  have hx := hS.head
  have hy := z_in0
  have kt' := fun h => kt h H locs ls hR hL hS.tail hg
  have kf' := fun h => kf h H locs ls hR hL hS.tail hg
  have e0 : (0 : Int32) = Int32.ofInt 0 := rfl
  cases cd <;> simp only [zcond, decide_eq_true_eq] at kt' kf'
  · exact lv_if_eq (x := Int32.ofInt x) C.1 C.2.1 hd ht (fun h => kt' ((zi_eq hx hy).mp h)) (fun h => kf' (fun e => h ((zi_eq hx hy).mpr e)))
  · exact lv_if_ne (x := Int32.ofInt x) C.1 C.2.1 hd ht (fun h => kt' (fun e => h ((zi_eq hx hy).mpr e))) (fun h => kf' (fun e => e ((zi_eq hx hy).mp h)))
  · exact lv_if_lt (x := Int32.ofInt x) C.1 C.2.1 hd ht (fun h => kt' ((zi_lt hx hy).mp h)) (fun h => kf' (fun e => h ((zi_lt hx hy).mpr e)))
  · exact lv_if_ge (x := Int32.ofInt x) C.1 C.2.1 hd ht (fun h => kt' ((zi_le hy hx).mp h)) (fun h => kf' (fun e => h ((zi_le hy hx).mpr e)))
  · exact lv_if_gt (x := Int32.ofInt x) C.1 C.2.1 hd ht (fun h => kt' ((zi_lt hy hx).mp h)) (fun h => kf' (fun e => h ((zi_lt hy hx).mpr e)))
  · exact lv_if_le (x := Int32.ofInt x) C.1 C.2.1 hd ht (fun h => kt' ((zi_le hx hy).mp h)) (fun h => kf' (fun e => h ((zi_le hx hy).mpr e)))
theorem z_tabO (C : zCx p R s mth args meth c D ids b sa adV n0 nE d m) {df lo hi : Int} {offs : Array Int} {len tgt : Nat} {x : Int} (h : x < lo ∨ hi < x) (ht : (pc : Int) + df = (tgt : Int)) (hd : decode (zby m) pc = .ok (.tableswitch df lo hi offs, len))
    (kk : zWW p l e R s mth args below meth c D ids b sa n0 m Q tgt lv st g w) : zWW p l e R s mth args below meth c D ids b sa n0 m Q pc lv ((0, x) :: st) g w :=
  z_pure (fun H locs ls cells slots hL hS k => lv_tableOut (x := Int32.ofInt x) C.1 C.2.1 hd (by rw [zi_to hS.head]; exact h) ht k) (fun h _ => h.tail) kk
theorem z_tabI (C : zCx p R s mth args meth c D ids b sa adV n0 nE d m) {df lo hi : Int} {offs : Array Int} {len tgt : Nat} {x off : Int} (h : ¬ (x < lo ∨ hi < x)) (ho : offs[(x - lo).toNat]? = some off) (ht : (pc : Int) + off = (tgt : Int)) (hd : decode (zby m) pc = .ok (.tableswitch df lo hi offs, len))
    (kk : zWW p l e R s mth args below meth c D ids b sa n0 m Q tgt lv st g w) : zWW p l e R s mth args below meth c D ids b sa n0 m Q pc lv ((0, x) :: st) g w :=
  z_pure (fun H locs ls cells slots hL hS k => lv_tableIn (x := Int32.ofInt x) C.1 C.2.1 hd (by rw [zi_to hS.head]; omega) (by rw [zi_to hS.head]; omega) (by rw [zi_to hS.head]; exact ho) ht k) (fun h _ => h.tail) kk
theorem zsw_eq : ∀ (ps : List (Int × Int)) (d x : Int), Op.lookupswitch.offset ps d x = zsw ps d x
  | [], d, x => rfl
  | (a, o) :: r, d, x => by
    rw [Op.lookupswitch.offset_cons, zsw, zsw_eq r d x]
theorem z_lsw (C : zCx p R s mth args meth c D ids b sa adV n0 nE d m) {df : Int} {ps : Array (Int × Int)} {len tgt : Nat} {x : Int} (hp : (ps.toList.zip (ps.toList.drop 1)).all (fun (a, next) => a.1 < next.1) = true) (ht : (pc : Int) + zsw ps.toList df x = (tgt : Int)) (hd : decode (zby m) pc = .ok (.lookupswitch df ps, len))
    (kk : zWW p l e R s mth args below meth c D ids b sa n0 m Q tgt lv st g w) : zWW p l e R s mth args below meth c D ids b sa n0 m Q pc lv ((0, x) :: st) g w :=
  z_pure (fun H locs ls cells slots hL hS k => lv_lookup (x := Int32.ofInt x) C.1 C.2.1 hd hp (by rw [zi_to hS.head, zsw_eq]) ht k) (fun h _ => h.tail) kk
end Z2
end
section
theorem zmemTB {x : Jvm.Cond} (h : x ∈ lw_tbl) (hg : goodWord x = true) : x ∈ zTB := List.mem_filter.mpr ⟨h, hg⟩
theorem zt1 {x : Jvm.Cond} (i : Nat) (h : tables_1_1[i]? = some x) (hg : goodWord x = true) : x ∈ zTB := zmemTB (List.mem_append_right _ (List.mem_append_left _ (List.mem_of_getElem? h))) hg
theorem zt2 {x : Jvm.Cond} (i : Nat) (h : tables_1_2[i]? = some x) (hg : goodWord x = true) : x ∈ zTB := zmemTB (List.mem_append_right _ (List.mem_append_right _ (List.mem_append_left _ (List.mem_of_getElem? h)))) hg
theorem zt3 {x : Jvm.Cond} (i : Nat) (h : tables_1_3[i]? = some x) (hg : goodWord x = true) : x ∈ zTB := zmemTB (List.mem_append_right _ (List.mem_append_right _ (List.mem_append_right _ (List.mem_append_left _ (List.mem_of_getElem? h))))) hg
theorem zt4 {x : Jvm.Cond} (i : Nat) (h : tables_1_4[i]? = some x) (hg : goodWord x = true) : x ∈ zTB := zmemTB (List.mem_append_right _ (List.mem_append_right _ (List.mem_append_right _ (List.mem_append_right _ (List.mem_append_left _ (List.mem_of_getElem? h)))))) hg
theorem zt5 {x : Jvm.Cond} (i : Nat) (h : tables_1_5[i]? = some x) (hg : goodWord x = true) : x ∈ zTB := zmemTB (List.mem_append_right _ (List.mem_append_right _ (List.mem_append_right _ (List.mem_append_right _ (List.mem_append_right _ (List.mem_of_getElem? h)))))) hg
theorem zts {y : MethodName} (i : Nat) (h : lw_privs[i]?.map (·.1) = some y) : Jvm.Cond.selects y.cls y y ∈ zTB := by
  refine zmemTB (List.mem_append_left _ ?_) rfl
  cases hq : lw_privs[i]? with
  | none => rw [hq] at h; cases h
  | some q =>
    rw [hq] at h
    cases h
    exact List.mem_map.mpr ⟨q, List.mem_of_getElem? hq, rfl⟩
theorem zn1 {x : Jvm.Cond} (i : Nat) (h : tables_1_1[i]? = some x) (hg : zisN x = true) : x ∈ zNW := List.mem_filter.mpr ⟨List.mem_append_right _ (List.mem_append_left _ (List.mem_of_getElem? h)), hg⟩
theorem zn2 {x : Jvm.Cond} (i : Nat) (h : tables_1_2[i]? = some x) (hg : zisN x = true) : x ∈ zNW := List.mem_filter.mpr ⟨List.mem_append_right _ (List.mem_append_right _ (List.mem_append_left _ (List.mem_of_getElem? h))), hg⟩
theorem zn3 {x : Jvm.Cond} (i : Nat) (h : tables_1_3[i]? = some x) (hg : zisN x = true) : x ∈ zNW := List.mem_filter.mpr ⟨List.mem_append_right _ (List.mem_append_right _ (List.mem_append_right _ (List.mem_append_left _ (List.mem_of_getElem? h)))), hg⟩
theorem zn4 {x : Jvm.Cond} (i : Nat) (h : tables_1_4[i]? = some x) (hg : zisN x = true) : x ∈ zNW := List.mem_filter.mpr ⟨List.mem_append_right _ (List.mem_append_right _ (List.mem_append_right _ (List.mem_append_right _ (List.mem_append_left _ (List.mem_of_getElem? h))))), hg⟩
theorem zn5 {x : Jvm.Cond} (i : Nat) (h : tables_1_5[i]? = some x) (hg : zisN x = true) : x ∈ zNW := List.mem_filter.mpr ⟨List.mem_append_right _ (List.mem_append_right _ (List.mem_append_right _ (List.mem_append_right _ (List.mem_append_right _ ((List.mem_of_getElem? h)))))), hg⟩
def zflok (c : Nat) (q : Nat × Nat × Nat) : Prop := Jvm.Cond.fieldLink (zRn c) q.1 (zTt q.2.1 q.2.2).1 (zTt q.2.1 q.2.2).2.1 (zTt q.2.1 q.2.2).2.2.1 ∈ zTB ∧ q.2.1 < 9
theorem zfl_0 : ∀ q ∈ zFL 0, zflok 0 q := (List.forall_mem_cons.mpr ⟨⟨zt1 162 rfl rfl, by decide⟩, (List.forall_mem_cons.mpr ⟨⟨zt1 163 rfl rfl, by decide⟩, (List.forall_mem_cons.mpr ⟨⟨zt1 164 rfl rfl, by decide⟩, (fun _ h => absurd h List.not_mem_nil)⟩)⟩)⟩)
theorem zfl_1 : ∀ q ∈ zFL 1, zflok 1 q := (List.forall_mem_cons.mpr ⟨⟨zt1 67 rfl rfl, by decide⟩, (List.forall_mem_cons.mpr ⟨⟨zt1 68 rfl rfl, by decide⟩, (List.forall_mem_cons.mpr ⟨⟨zt1 69 rfl rfl, by decide⟩, (List.forall_mem_cons.mpr ⟨⟨zt1 70 rfl rfl, by decide⟩, (List.forall_mem_cons.mpr ⟨⟨zt1 32 rfl rfl, by decide⟩, (List.forall_mem_cons.mpr ⟨⟨zt1 43 rfl rfl, by decide⟩, (List.forall_mem_cons.mpr ⟨⟨zt1 36 rfl rfl, by decide⟩, (fun _ h => absurd h List.not_mem_nil)⟩)⟩)⟩)⟩)⟩)⟩)⟩)
theorem zfl_2 : ∀ q ∈ zFL 2, zflok 2 q := (List.forall_mem_cons.mpr ⟨⟨zt1 86 rfl rfl, by decide⟩, (List.forall_mem_cons.mpr ⟨⟨zt1 90 rfl rfl, by decide⟩, (List.forall_mem_cons.mpr ⟨⟨zt1 93 rfl rfl, by decide⟩, (List.forall_mem_cons.mpr ⟨⟨zt1 95 rfl rfl, by decide⟩, (List.forall_mem_cons.mpr ⟨⟨zt1 97 rfl rfl, by decide⟩, (List.forall_mem_cons.mpr ⟨⟨zt1 100 rfl rfl, by decide⟩, (List.forall_mem_cons.mpr ⟨⟨zt1 102 rfl rfl, by decide⟩, (List.forall_mem_cons.mpr ⟨⟨zt1 104 rfl rfl, by decide⟩, (List.forall_mem_cons.mpr ⟨⟨zt1 106 rfl rfl, by decide⟩, (List.forall_mem_cons.mpr ⟨⟨zt1 107 rfl rfl, by decide⟩, (List.forall_mem_cons.mpr ⟨⟨zt1 109 rfl rfl, by decide⟩, (List.forall_mem_cons.mpr ⟨⟨zt1 31 rfl rfl, by decide⟩, (List.forall_mem_cons.mpr ⟨⟨zt1 38 rfl rfl, by decide⟩, (List.forall_mem_cons.mpr ⟨⟨zt1 35 rfl rfl, by decide⟩, (fun _ h => absurd h List.not_mem_nil)⟩)⟩)⟩)⟩)⟩)⟩)⟩)⟩)⟩)⟩)⟩)⟩)⟩)⟩)
theorem zfl_3 : ∀ q ∈ zFL 3, zflok 3 q := (List.forall_mem_cons.mpr ⟨⟨zt1 200 rfl rfl, by decide⟩, (List.forall_mem_cons.mpr ⟨⟨zt1 201 rfl rfl, by decide⟩, (List.forall_mem_cons.mpr ⟨⟨zt1 202 rfl rfl, by decide⟩, (List.forall_mem_cons.mpr ⟨⟨zt1 203 rfl rfl, by decide⟩, (List.forall_mem_cons.mpr ⟨⟨zt1 204 rfl rfl, by decide⟩, (List.forall_mem_cons.mpr ⟨⟨zt1 205 rfl rfl, by decide⟩, (List.forall_mem_cons.mpr ⟨⟨zt1 207 rfl rfl, by decide⟩, (List.forall_mem_cons.mpr ⟨⟨zt1 209 rfl rfl, by decide⟩, (List.forall_mem_cons.mpr ⟨⟨zt1 211 rfl rfl, by decide⟩, (List.forall_mem_cons.mpr ⟨⟨zt1 212 rfl rfl, by decide⟩, (List.forall_mem_cons.mpr ⟨⟨zt1 214 rfl rfl, by decide⟩, (List.forall_mem_cons.mpr ⟨⟨zt1 216 rfl rfl, by decide⟩, (List.forall_mem_cons.mpr ⟨⟨zt1 218 rfl rfl, by decide⟩, (List.forall_mem_cons.mpr ⟨⟨zt1 220 rfl rfl, by decide⟩, (List.forall_mem_cons.mpr ⟨⟨zt1 222 rfl rfl, by decide⟩, (List.forall_mem_cons.mpr ⟨⟨zt1 98 rfl rfl, by decide⟩, (List.forall_mem_cons.mpr ⟨⟨zt1 92 rfl rfl, by decide⟩, (List.forall_mem_cons.mpr ⟨⟨zt1 89 rfl rfl, by decide⟩, (fun _ h => absurd h List.not_mem_nil)⟩)⟩)⟩)⟩)⟩)⟩)⟩)⟩)⟩)⟩)⟩)⟩)⟩)⟩)⟩)⟩)⟩)⟩)
theorem zfl_4 : ∀ q ∈ zFL 4, zflok 4 q := (List.forall_mem_cons.mpr ⟨⟨zt1 150 rfl rfl, by decide⟩, (List.forall_mem_cons.mpr ⟨⟨zt1 151 rfl rfl, by decide⟩, (List.forall_mem_cons.mpr ⟨⟨zt1 152 rfl rfl, by decide⟩, (List.forall_mem_cons.mpr ⟨⟨zt1 110 rfl rfl, by decide⟩, (fun _ h => absurd h List.not_mem_nil)⟩)⟩)⟩)⟩)
theorem zfl_5 : ∀ q ∈ zFL 5, zflok 5 q := (List.forall_mem_cons.mpr ⟨⟨zt1 181 rfl rfl, by decide⟩, (List.forall_mem_cons.mpr ⟨⟨zt1 182 rfl rfl, by decide⟩, (List.forall_mem_cons.mpr ⟨⟨zt1 183 rfl rfl, by decide⟩, (List.forall_mem_cons.mpr ⟨⟨zt1 87 rfl rfl, by decide⟩, (fun _ h => absurd h List.not_mem_nil)⟩)⟩)⟩)⟩)
theorem zfl_6 : ∀ q ∈ zFL 6, zflok 6 q := (List.forall_mem_cons.mpr ⟨⟨zt1 30 rfl rfl, by decide⟩, (List.forall_mem_cons.mpr ⟨⟨zt1 33 rfl rfl, by decide⟩, (List.forall_mem_cons.mpr ⟨⟨zt1 37 rfl rfl, by decide⟩, (List.forall_mem_cons.mpr ⟨⟨zt1 39 rfl rfl, by decide⟩, (List.forall_mem_cons.mpr ⟨⟨zt1 40 rfl rfl, by decide⟩, (List.forall_mem_cons.mpr ⟨⟨zt1 41 rfl rfl, by decide⟩, (List.forall_mem_cons.mpr ⟨⟨zt1 42 rfl rfl, by decide⟩, (fun _ h => absurd h List.not_mem_nil)⟩)⟩)⟩)⟩)⟩)⟩)⟩)
theorem zfl_7 : ∀ q ∈ zFL 7, zflok 7 q := (List.forall_mem_cons.mpr ⟨⟨zt2 15 rfl rfl, by decide⟩, (List.forall_mem_cons.mpr ⟨⟨zt2 16 rfl rfl, by decide⟩, (List.forall_mem_cons.mpr ⟨⟨zt2 17 rfl rfl, by decide⟩, (List.forall_mem_cons.mpr ⟨⟨zt2 18 rfl rfl, by decide⟩, (List.forall_mem_cons.mpr ⟨⟨zt2 19 rfl rfl, by decide⟩, (List.forall_mem_cons.mpr ⟨⟨zt2 20 rfl rfl, by decide⟩, (List.forall_mem_cons.mpr ⟨⟨zt2 21 rfl rfl, by decide⟩, (List.forall_mem_cons.mpr ⟨⟨zt2 22 rfl rfl, by decide⟩, (List.forall_mem_cons.mpr ⟨⟨zt2 23 rfl rfl, by decide⟩, (List.forall_mem_cons.mpr ⟨⟨zt2 24 rfl rfl, by decide⟩, (List.forall_mem_cons.mpr ⟨⟨zt1 184 rfl rfl, by decide⟩, (List.forall_mem_cons.mpr ⟨⟨zt1 210 rfl rfl, by decide⟩, (List.forall_mem_cons.mpr ⟨⟨zt1 88 rfl rfl, by decide⟩, (List.forall_mem_cons.mpr ⟨⟨zt1 91 rfl rfl, by decide⟩, (List.forall_mem_cons.mpr ⟨⟨zt1 94 rfl rfl, by decide⟩, (List.forall_mem_cons.mpr ⟨⟨zt1 96 rfl rfl, by decide⟩, (List.forall_mem_cons.mpr ⟨⟨zt1 99 rfl rfl, by decide⟩, (List.forall_mem_cons.mpr ⟨⟨zt1 101 rfl rfl, by decide⟩, (List.forall_mem_cons.mpr ⟨⟨zt1 34 rfl rfl, by decide⟩, (List.forall_mem_cons.mpr ⟨⟨zt1 103 rfl rfl, by decide⟩, (List.forall_mem_cons.mpr ⟨⟨zt1 108 rfl rfl, by decide⟩, (List.forall_mem_cons.mpr ⟨⟨zt1 105 rfl rfl, by decide⟩, (List.forall_mem_cons.mpr ⟨⟨zt1 165 rfl rfl, by decide⟩, (List.forall_mem_cons.mpr ⟨⟨zt1 213 rfl rfl, by decide⟩, (List.forall_mem_cons.mpr ⟨⟨zt1 215 rfl rfl, by decide⟩, (List.forall_mem_cons.mpr ⟨⟨zt1 217 rfl rfl, by decide⟩, (List.forall_mem_cons.mpr ⟨⟨zt1 219 rfl rfl, by decide⟩, (List.forall_mem_cons.mpr ⟨⟨zt1 221 rfl rfl, by decide⟩, (List.forall_mem_cons.mpr ⟨⟨zt1 206 rfl rfl, by decide⟩, (List.forall_mem_cons.mpr ⟨⟨zt1 208 rfl rfl, by decide⟩, (List.forall_mem_cons.mpr ⟨⟨zt1 223 rfl rfl, by decide⟩, (List.forall_mem_cons.mpr ⟨⟨zt1 44 rfl rfl, by decide⟩, (List.forall_mem_cons.mpr ⟨⟨zt1 111 rfl rfl, by decide⟩, (fun _ h => absurd h List.not_mem_nil)⟩)⟩)⟩)⟩)⟩)⟩)⟩)⟩)⟩)⟩)⟩)⟩)⟩)⟩)⟩)⟩)⟩)⟩)⟩)⟩)⟩)⟩)⟩)⟩)⟩)⟩)⟩)⟩)⟩)⟩)⟩)⟩)⟩)
theorem zfl_8 : ∀ q ∈ zFL 8, zflok 8 q := (List.forall_mem_cons.mpr ⟨⟨zt4 23 rfl rfl, by decide⟩, (List.forall_mem_cons.mpr ⟨⟨zt4 25 rfl rfl, by decide⟩, (List.forall_mem_cons.mpr ⟨⟨zt4 26 rfl rfl, by decide⟩, (List.forall_mem_cons.mpr ⟨⟨zt4 27 rfl rfl, by decide⟩, (List.forall_mem_cons.mpr ⟨⟨zt4 28 rfl rfl, by decide⟩, (List.forall_mem_cons.mpr ⟨⟨zt4 30 rfl rfl, by decide⟩, (List.forall_mem_cons.mpr ⟨⟨zt4 31 rfl rfl, by decide⟩, (List.forall_mem_cons.mpr ⟨⟨zt4 39 rfl rfl, by decide⟩, (List.forall_mem_cons.mpr ⟨⟨zt4 40 rfl rfl, by decide⟩, (List.forall_mem_cons.mpr ⟨⟨zt4 41 rfl rfl, by decide⟩, (List.forall_mem_cons.mpr ⟨⟨zt4 42 rfl rfl, by decide⟩, (List.forall_mem_cons.mpr ⟨⟨zt4 43 rfl rfl, by decide⟩, (List.forall_mem_cons.mpr ⟨⟨zt4 44 rfl rfl, by decide⟩, (List.forall_mem_cons.mpr ⟨⟨zt4 46 rfl rfl, by decide⟩, (List.forall_mem_cons.mpr ⟨⟨zt4 47 rfl rfl, by decide⟩, (List.forall_mem_cons.mpr ⟨⟨zt4 48 rfl rfl, by decide⟩, (List.forall_mem_cons.mpr ⟨⟨zt4 49 rfl rfl, by decide⟩, (List.forall_mem_cons.mpr ⟨⟨zt4 50 rfl rfl, by decide⟩, (List.forall_mem_cons.mpr ⟨⟨zt4 56 rfl rfl, by decide⟩, (List.forall_mem_cons.mpr ⟨⟨zt4 57 rfl rfl, by decide⟩, (List.forall_mem_cons.mpr ⟨⟨zt4 61 rfl rfl, by decide⟩, (List.forall_mem_cons.mpr ⟨⟨zt4 63 rfl rfl, by decide⟩, (List.forall_mem_cons.mpr ⟨⟨zt4 64 rfl rfl, by decide⟩, (List.forall_mem_cons.mpr ⟨⟨zt4 65 rfl rfl, by decide⟩, (List.forall_mem_cons.mpr ⟨⟨zt4 24 rfl rfl, by decide⟩, (List.forall_mem_cons.mpr ⟨⟨zt4 29 rfl rfl, by decide⟩, (List.forall_mem_cons.mpr ⟨⟨zt4 32 rfl rfl, by decide⟩, (List.forall_mem_cons.mpr ⟨⟨zt4 33 rfl rfl, by decide⟩, (List.forall_mem_cons.mpr ⟨⟨zt4 34 rfl rfl, by decide⟩, (List.forall_mem_cons.mpr ⟨⟨zt4 35 rfl rfl, by decide⟩, (List.forall_mem_cons.mpr ⟨⟨zt4 36 rfl rfl, by decide⟩, (List.forall_mem_cons.mpr ⟨⟨zt4 37 rfl rfl, by decide⟩, (List.forall_mem_cons.mpr ⟨⟨zt4 38 rfl rfl, by decide⟩, (List.forall_mem_cons.mpr ⟨⟨zt4 45 rfl rfl, by decide⟩, (List.forall_mem_cons.mpr ⟨⟨zt4 62 rfl rfl, by decide⟩, (List.forall_mem_cons.mpr ⟨⟨zt4 51 rfl rfl, by decide⟩, (List.forall_mem_cons.mpr ⟨⟨zt4 52 rfl rfl, by decide⟩, (List.forall_mem_cons.mpr ⟨⟨zt4 53 rfl rfl, by decide⟩, (List.forall_mem_cons.mpr ⟨⟨zt4 54 rfl rfl, by decide⟩, (List.forall_mem_cons.mpr ⟨⟨zt4 55 rfl rfl, by decide⟩, (List.forall_mem_cons.mpr ⟨⟨zt4 59 rfl rfl, by decide⟩, (List.forall_mem_cons.mpr ⟨⟨zt4 60 rfl rfl, by decide⟩, (List.forall_mem_cons.mpr ⟨⟨zt4 58 rfl rfl, by decide⟩, (fun _ h => absurd h List.not_mem_nil)⟩)⟩)⟩)⟩)⟩)⟩)⟩)⟩)⟩)⟩)⟩)⟩)⟩)⟩)⟩)⟩)⟩)⟩)⟩)⟩)⟩)⟩)⟩)⟩)⟩)⟩)⟩)⟩)⟩)⟩)⟩)⟩)⟩)⟩)⟩)⟩)⟩)⟩)⟩)⟩)⟩)⟩)⟩)
theorem zfl_ok (c : Nat) (hc : c < 9) : ∀ q ∈ zFL c, zflok c q := match c, hc with
  | 0, _ => zfl_0
  | 1, _ => zfl_1
  | 2, _ => zfl_2
  | 3, _ => zfl_3
  | 4, _ => zfl_4
  | 5, _ => zfl_5
  | 6, _ => zfl_6
  | 7, _ => zfl_7
  | 8, _ => zfl_8
  | c + 9, hc => absurd hc (by omega)
def zklok (c : Nat) (q : Nat × Int) : Prop := Jvm.Cond.constantLong (zRn c) q.1 (Int64.ofInt q.2) ∈ zTB ∧ zin (1, q.2)
theorem zkl_0 : ∀ q ∈ zKL 0, zklok 0 q := (fun _ h => absurd h List.not_mem_nil)
theorem zkl_1 : ∀ q ∈ zKL 1, zklok 1 q := (fun _ h => absurd h List.not_mem_nil)
theorem zkl_2 : ∀ q ∈ zKL 2, zklok 2 q := (fun _ h => absurd h List.not_mem_nil)
theorem zkl_3 : ∀ q ∈ zKL 3, zklok 3 q := (List.forall_mem_cons.mpr ⟨⟨zt3 159 rfl rfl, by constructor <;> decide⟩, (fun _ h => absurd h List.not_mem_nil)⟩)
theorem zkl_4 : ∀ q ∈ zKL 4, zklok 4 q := (fun _ h => absurd h List.not_mem_nil)
theorem zkl_5 : ∀ q ∈ zKL 5, zklok 5 q := (fun _ h => absurd h List.not_mem_nil)
theorem zkl_6 : ∀ q ∈ zKL 6, zklok 6 q := (fun _ h => absurd h List.not_mem_nil)
theorem zkl_7 : ∀ q ∈ zKL 7, zklok 7 q := (fun _ h => absurd h List.not_mem_nil)
theorem zkl_8 : ∀ q ∈ zKL 8, zklok 8 q := (List.forall_mem_cons.mpr ⟨⟨zt4 209 rfl rfl, by constructor <;> decide⟩, (List.forall_mem_cons.mpr ⟨⟨zt4 210 rfl rfl, by constructor <;> decide⟩, (List.forall_mem_cons.mpr ⟨⟨zt4 223 rfl rfl, by constructor <;> decide⟩, (List.forall_mem_cons.mpr ⟨⟨zt4 157 rfl rfl, by constructor <;> decide⟩, (List.forall_mem_cons.mpr ⟨⟨zt4 173 rfl rfl, by constructor <;> decide⟩, (List.forall_mem_cons.mpr ⟨⟨zt4 174 rfl rfl, by constructor <;> decide⟩, (List.forall_mem_cons.mpr ⟨⟨zt5 61 rfl rfl, by constructor <;> decide⟩, (List.forall_mem_cons.mpr ⟨⟨zt5 62 rfl rfl, by constructor <;> decide⟩, (List.forall_mem_cons.mpr ⟨⟨zt5 48 rfl rfl, by constructor <;> decide⟩, (fun _ h => absurd h List.not_mem_nil)⟩)⟩)⟩)⟩)⟩)⟩)⟩)⟩)⟩)
theorem zkl_ok (c : Nat) (hc : c < 9) : ∀ q ∈ zKL c, zklok c q := match c, hc with
  | 0, _ => zkl_0
  | 1, _ => zkl_1
  | 2, _ => zkl_2
  | 3, _ => zkl_3
  | 4, _ => zkl_4
  | 5, _ => zkl_5
  | 6, _ => zkl_6
  | 7, _ => zkl_7
  | 8, _ => zkl_8
  | c + 9, hc => absurd hc (by omega)
def zclok (c : Nat) (q : Nat × Nat) : Prop := Jvm.Cond.classLink (zRn c) q.1 (zRn q.2) ∈ zTB ∧ Jvm.Cond.instantiable (zRn q.2) (zNf q.2) ∈ zTB ∧ Jvm.Cond.initialized (zRn q.2) ∈ zTB
theorem zcl_0 : ∀ q ∈ zCL 0, zclok 0 q := (List.forall_mem_cons.mpr ⟨⟨zt1 141 rfl rfl, (zt1 142 rfl rfl), (zt1 6 rfl rfl)⟩, (fun _ h => absurd h List.not_mem_nil)⟩)
theorem zcl_1 : ∀ q ∈ zCL 1, zclok 1 q := (fun _ h => absurd h List.not_mem_nil)
theorem zcl_2 : ∀ q ∈ zCL 2, zclok 2 q := (fun _ h => absurd h List.not_mem_nil)
theorem zcl_3 : ∀ q ∈ zCL 3, zclok 3 q := (List.forall_mem_cons.mpr ⟨⟨zt1 198 rfl rfl, (zt1 81 rfl rfl), (zt1 4 rfl rfl)⟩, (fun _ h => absurd h List.not_mem_nil)⟩)
theorem zcl_4 : ∀ q ∈ zCL 4, zclok 4 q := (fun _ h => absurd h List.not_mem_nil)
theorem zcl_5 : ∀ q ∈ zCL 5, zclok 5 q := (fun _ h => absurd h List.not_mem_nil)
theorem zcl_6 : ∀ q ∈ zCL 6, zclok 6 q := (fun _ h => absurd h List.not_mem_nil)
theorem zcl_7 : ∀ q ∈ zCL 7, zclok 7 q := (List.forall_mem_cons.mpr ⟨⟨zt1 24 rfl rfl, (zt1 25 rfl rfl), (zt1 2 rfl rfl)⟩, (List.forall_mem_cons.mpr ⟨⟨zt1 61 rfl rfl, (zt1 62 rfl rfl), (zt1 3 rfl rfl)⟩, (List.forall_mem_cons.mpr ⟨⟨zt1 80 rfl rfl, (zt1 81 rfl rfl), (zt1 4 rfl rfl)⟩, (List.forall_mem_cons.mpr ⟨⟨zt1 135 rfl rfl, (zt1 136 rfl rfl), (zt1 5 rfl rfl)⟩, (List.forall_mem_cons.mpr ⟨⟨zt1 173 rfl rfl, (zt1 142 rfl rfl), (zt1 6 rfl rfl)⟩, (List.forall_mem_cons.mpr ⟨⟨zt1 175 rfl rfl, (zt1 176 rfl rfl), (zt1 8 rfl rfl)⟩, (List.forall_mem_cons.mpr ⟨⟨zt1 192 rfl rfl, (zt1 193 rfl rfl), (zt1 9 rfl rfl)⟩, (fun _ h => absurd h List.not_mem_nil)⟩)⟩)⟩)⟩)⟩)⟩)⟩)
theorem zcl_8 : ∀ q ∈ zCL 8, zclok 8 q := (fun _ h => absurd h List.not_mem_nil)
theorem zcl_ok (c : Nat) (hc : c < 9) : ∀ q ∈ zCL c, zclok c q := match c, hc with
  | 0, _ => zcl_0
  | 1, _ => zcl_1
  | 2, _ => zcl_2
  | 3, _ => zcl_3
  | 4, _ => zcl_4
  | 5, _ => zcl_5
  | 6, _ => zcl_6
  | 7, _ => zcl_7
  | 8, _ => zcl_8
  | c + 9, hc => absurd hc (by omega)
theorem zuw_0 : ∀ x ∈ u_ws (zRn 0) (zTt 0) (zNf 0), x ∈ zTB := (List.forall_mem_cons.mpr ⟨zt1 166 rfl rfl, (List.forall_mem_cons.mpr ⟨zt1 168 rfl rfl, (List.forall_mem_cons.mpr ⟨zt1 170 rfl rfl, (fun _ h => absurd h List.not_mem_nil)⟩)⟩)⟩)
theorem zuw_1 : ∀ x ∈ u_ws (zRn 1) (zTt 1) (zNf 1), x ∈ zTB := (List.forall_mem_cons.mpr ⟨zt1 71 rfl rfl, (List.forall_mem_cons.mpr ⟨zt1 73 rfl rfl, (List.forall_mem_cons.mpr ⟨zt1 75 rfl rfl, (List.forall_mem_cons.mpr ⟨zt1 77 rfl rfl, (fun _ h => absurd h List.not_mem_nil)⟩)⟩)⟩)⟩)
theorem zuw_2 : ∀ x ∈ u_ws (zRn 2) (zTt 2) (zNf 2), x ∈ zTB := (List.forall_mem_cons.mpr ⟨zt1 112 rfl rfl, (List.forall_mem_cons.mpr ⟨zt1 114 rfl rfl, (List.forall_mem_cons.mpr ⟨zt1 116 rfl rfl, (List.forall_mem_cons.mpr ⟨zt1 118 rfl rfl, (List.forall_mem_cons.mpr ⟨zt1 120 rfl rfl, (List.forall_mem_cons.mpr ⟨zt1 122 rfl rfl, (List.forall_mem_cons.mpr ⟨zt1 124 rfl rfl, (List.forall_mem_cons.mpr ⟨zt1 126 rfl rfl, (List.forall_mem_cons.mpr ⟨zt1 128 rfl rfl, (List.forall_mem_cons.mpr ⟨zt1 130 rfl rfl, (List.forall_mem_cons.mpr ⟨zt1 132 rfl rfl, (fun _ h => absurd h List.not_mem_nil)⟩)⟩)⟩)⟩)⟩)⟩)⟩)⟩)⟩)⟩)⟩)
theorem zuw_3 : ∀ x ∈ u_ws (zRn 3) (zTt 3) (zNf 3), x ∈ zTB := (List.forall_mem_cons.mpr ⟨zt1 224 rfl rfl, (List.forall_mem_cons.mpr ⟨zt1 226 rfl rfl, (List.forall_mem_cons.mpr ⟨zt1 228 rfl rfl, (List.forall_mem_cons.mpr ⟨zt1 230 rfl rfl, (List.forall_mem_cons.mpr ⟨zt1 232 rfl rfl, (List.forall_mem_cons.mpr ⟨zt1 234 rfl rfl, (List.forall_mem_cons.mpr ⟨zt1 236 rfl rfl, (List.forall_mem_cons.mpr ⟨zt1 238 rfl rfl, (List.forall_mem_cons.mpr ⟨zt2 0 rfl rfl, (List.forall_mem_cons.mpr ⟨zt2 2 rfl rfl, (List.forall_mem_cons.mpr ⟨zt2 4 rfl rfl, (List.forall_mem_cons.mpr ⟨zt2 6 rfl rfl, (List.forall_mem_cons.mpr ⟨zt2 8 rfl rfl, (List.forall_mem_cons.mpr ⟨zt2 10 rfl rfl, (List.forall_mem_cons.mpr ⟨zt2 12 rfl rfl, (fun _ h => absurd h List.not_mem_nil)⟩)⟩)⟩)⟩)⟩)⟩)⟩)⟩)⟩)⟩)⟩)⟩)⟩)⟩)⟩)
theorem zuw_4 : ∀ x ∈ u_ws (zRn 4) (zTt 4) (zNf 4), x ∈ zTB := (List.forall_mem_cons.mpr ⟨zt1 153 rfl rfl, (List.forall_mem_cons.mpr ⟨zt1 155 rfl rfl, (List.forall_mem_cons.mpr ⟨zt1 157 rfl rfl, (fun _ h => absurd h List.not_mem_nil)⟩)⟩)⟩)
theorem zuw_5 : ∀ x ∈ u_ws (zRn 5) (zTt 5) (zNf 5), x ∈ zTB := (List.forall_mem_cons.mpr ⟨zt1 185 rfl rfl, (List.forall_mem_cons.mpr ⟨zt1 187 rfl rfl, (List.forall_mem_cons.mpr ⟨zt1 189 rfl rfl, (fun _ h => absurd h List.not_mem_nil)⟩)⟩)⟩)
theorem zuw_6 : ∀ x ∈ u_ws (zRn 6) (zTt 6) (zNf 6), x ∈ zTB := (List.forall_mem_cons.mpr ⟨zt1 45 rfl rfl, (List.forall_mem_cons.mpr ⟨zt1 47 rfl rfl, (List.forall_mem_cons.mpr ⟨zt1 49 rfl rfl, (List.forall_mem_cons.mpr ⟨zt1 51 rfl rfl, (List.forall_mem_cons.mpr ⟨zt1 53 rfl rfl, (List.forall_mem_cons.mpr ⟨zt1 55 rfl rfl, (List.forall_mem_cons.mpr ⟨zt1 57 rfl rfl, (fun _ h => absurd h List.not_mem_nil)⟩)⟩)⟩)⟩)⟩)⟩)⟩)
theorem zuw_7 : ∀ x ∈ u_ws (zRn 7) (zTt 7) (zNf 7), x ∈ zTB := (List.forall_mem_cons.mpr ⟨zt2 25 rfl rfl, (List.forall_mem_cons.mpr ⟨zt2 27 rfl rfl, (List.forall_mem_cons.mpr ⟨zt2 29 rfl rfl, (List.forall_mem_cons.mpr ⟨zt2 31 rfl rfl, (List.forall_mem_cons.mpr ⟨zt2 33 rfl rfl, (List.forall_mem_cons.mpr ⟨zt2 35 rfl rfl, (List.forall_mem_cons.mpr ⟨zt2 37 rfl rfl, (List.forall_mem_cons.mpr ⟨zt2 39 rfl rfl, (List.forall_mem_cons.mpr ⟨zt2 41 rfl rfl, (List.forall_mem_cons.mpr ⟨zt2 43 rfl rfl, (fun _ h => absurd h List.not_mem_nil)⟩)⟩)⟩)⟩)⟩)⟩)⟩)⟩)⟩)⟩)
theorem zuw_8 : ∀ x ∈ u_ws (zRn 8) (zTt 8) (zNf 8), x ∈ zTB := (List.forall_mem_cons.mpr ⟨zt4 66 rfl rfl, (List.forall_mem_cons.mpr ⟨zt4 68 rfl rfl, (List.forall_mem_cons.mpr ⟨zt4 70 rfl rfl, (List.forall_mem_cons.mpr ⟨zt4 72 rfl rfl, (List.forall_mem_cons.mpr ⟨zt4 74 rfl rfl, (List.forall_mem_cons.mpr ⟨zt4 76 rfl rfl, (List.forall_mem_cons.mpr ⟨zt4 78 rfl rfl, (List.forall_mem_cons.mpr ⟨zt4 80 rfl rfl, (List.forall_mem_cons.mpr ⟨zt4 82 rfl rfl, (List.forall_mem_cons.mpr ⟨zt4 84 rfl rfl, (List.forall_mem_cons.mpr ⟨zt4 86 rfl rfl, (List.forall_mem_cons.mpr ⟨zt4 88 rfl rfl, (List.forall_mem_cons.mpr ⟨zt4 90 rfl rfl, (List.forall_mem_cons.mpr ⟨zt4 92 rfl rfl, (List.forall_mem_cons.mpr ⟨zt4 94 rfl rfl, (List.forall_mem_cons.mpr ⟨zt4 96 rfl rfl, (List.forall_mem_cons.mpr ⟨zt4 98 rfl rfl, (List.forall_mem_cons.mpr ⟨zt4 100 rfl rfl, (List.forall_mem_cons.mpr ⟨zt4 102 rfl rfl, (List.forall_mem_cons.mpr ⟨zt4 104 rfl rfl, (List.forall_mem_cons.mpr ⟨zt4 106 rfl rfl, (List.forall_mem_cons.mpr ⟨zt4 108 rfl rfl, (List.forall_mem_cons.mpr ⟨zt4 110 rfl rfl, (List.forall_mem_cons.mpr ⟨zt4 112 rfl rfl, (List.forall_mem_cons.mpr ⟨zt4 114 rfl rfl, (List.forall_mem_cons.mpr ⟨zt4 116 rfl rfl, (List.forall_mem_cons.mpr ⟨zt4 118 rfl rfl, (List.forall_mem_cons.mpr ⟨zt4 120 rfl rfl, (List.forall_mem_cons.mpr ⟨zt4 122 rfl rfl, (List.forall_mem_cons.mpr ⟨zt4 124 rfl rfl, (List.forall_mem_cons.mpr ⟨zt4 126 rfl rfl, (List.forall_mem_cons.mpr ⟨zt4 128 rfl rfl, (List.forall_mem_cons.mpr ⟨zt4 130 rfl rfl, (List.forall_mem_cons.mpr ⟨zt4 132 rfl rfl, (List.forall_mem_cons.mpr ⟨zt4 134 rfl rfl, (List.forall_mem_cons.mpr ⟨zt4 136 rfl rfl, (List.forall_mem_cons.mpr ⟨zt4 138 rfl rfl, (List.forall_mem_cons.mpr ⟨zt4 140 rfl rfl, (List.forall_mem_cons.mpr ⟨zt4 142 rfl rfl, (List.forall_mem_cons.mpr ⟨zt4 144 rfl rfl, (List.forall_mem_cons.mpr ⟨zt4 146 rfl rfl, (List.forall_mem_cons.mpr ⟨zt4 148 rfl rfl, (List.forall_mem_cons.mpr ⟨zt4 150 rfl rfl, (fun _ h => absurd h List.not_mem_nil)⟩)⟩)⟩)⟩)⟩)⟩)⟩)⟩)⟩)⟩)⟩)⟩)⟩)⟩)⟩)⟩)⟩)⟩)⟩)⟩)⟩)⟩)⟩)⟩)⟩)⟩)⟩)⟩)⟩)⟩)⟩)⟩)⟩)⟩)⟩)⟩)⟩)⟩)⟩)⟩)⟩)⟩)⟩)
theorem zuw_ok (c : Nat) (hc : c < 9) : ∀ x ∈ u_ws (zRn c) (zTt c) (zNf c), x ∈ zTB := match c, hc with
  | 0, _ => zuw_0
  | 1, _ => zuw_1
  | 2, _ => zuw_2
  | 3, _ => zuw_3
  | 4, _ => zuw_4
  | 5, _ => zuw_5
  | 6, _ => zuw_6
  | 7, _ => zuw_7
  | 8, _ => zuw_8
  | c + 9, hc => absurd hc (by omega)
theorem zcl_at (c : Nat) (hc : c < 9) : vwCl[c]? = some (zRn c, zTt c, zNf c) := match c, hc with
  | 0, _ => rfl
  | 1, _ => rfl
  | 2, _ => rfl
  | 3, _ => rfl
  | 4, _ => rfl
  | 5, _ => rfl
  | 6, _ => rfl
  | 7, _ => rfl
  | 8, _ => rfl
  | c + 9, hc => absurd hc (by omega)
theorem zty_ok (c : Nat) (hc : c < 9) : ∀ k, k < zNf c → parseFieldDescriptor (zTt c k).2.2.1 = some (zty c k) := match c, hc with
  | 0, _ => tyX0_ok
  | 1, _ => tyX1_ok
  | 2, _ => tyX2_ok
  | 3, _ => tyX3_ok
  | 4, _ => tyX4_ok
  | 5, _ => tyX5_ok
  | 6, _ => tyX6_ok
  | 7, _ => tyX7_ok
  | 8, _ => tyX8_ok
  | c + 9, hc => absurd hc (by omega)
theorem znm_ok (c : Nat) (hc : c < 9) : ∀ a, a < zNf c → ∀ b, b < zNf c → a ≠ b → (zTt c a).2.1 ≠ (zTt c b).2.1 := match c, hc with
  | 0, _ => nmX0
  | 1, _ => nmX1
  | 2, _ => nmX2
  | 3, _ => nmX3
  | 4, _ => nmX4
  | 5, _ => nmX5
  | 6, _ => nmX6
  | 7, _ => nmX7
  | 8, _ => nmX8
  | c + 9, hc => absurd hc (by omega)
def zmok (m : Nat) : Prop := Jvm.Cond.code (zyn m) (zby m) (zmx m) (zrt m) ∈ zTB ∧ Jvm.Cond.initialized (zyn m).cls ∈ zTB ∧ ((zyn m).cls ≠ "java/lang/invoke/MethodHandle" ∧ (zyn m).cls ≠ "java/lang/invoke/VarHandle") ∧ plainName (zyn m).cls = true ∧ (zyn m).cls = zRn (zcn m) ∧ zmx m ≤ 20 ∧ zcn m < 9
theorem zmo_0 : zmok 0 := ⟨zt1 139 rfl rfl, (zt1 5 rfl rfl), ⟨by decide +kernel, by decide +kernel⟩, by decide +kernel, rfl, by decide, by decide⟩
theorem zmo_1 : zmok 1 := ⟨zt2 219 rfl rfl, (zt1 5 rfl rfl), ⟨by decide +kernel, by decide +kernel⟩, by decide +kernel, rfl, by decide, by decide⟩
theorem zmo_2 : zmok 2 := ⟨zt3 29 rfl rfl, (zt1 5 rfl rfl), ⟨by decide +kernel, by decide +kernel⟩, by decide +kernel, rfl, by decide, by decide⟩
theorem zmo_3 : zmok 3 := ⟨zt3 129 rfl rfl, (zt1 5 rfl rfl), ⟨by decide +kernel, by decide +kernel⟩, by decide +kernel, rfl, by decide, by decide⟩
theorem zmo_4 : zmok 4 := ⟨zt1 65 rfl rfl, (zt1 3 rfl rfl), ⟨by decide +kernel, by decide +kernel⟩, by decide +kernel, rfl, by decide, by decide⟩
theorem zmo_5 : zmok 5 := ⟨zt2 61 rfl rfl, (zt1 3 rfl rfl), ⟨by decide +kernel, by decide +kernel⟩, by decide +kernel, rfl, by decide, by decide⟩
theorem zmo_6 : zmok 6 := ⟨zt2 68 rfl rfl, (zt1 3 rfl rfl), ⟨by decide +kernel, by decide +kernel⟩, by decide +kernel, rfl, by decide, by decide⟩
theorem zmo_7 : zmok 7 := ⟨zt2 71 rfl rfl, (zt1 3 rfl rfl), ⟨by decide +kernel, by decide +kernel⟩, by decide +kernel, rfl, by decide, by decide⟩
theorem zmo_8 : zmok 8 := ⟨zt2 158 rfl rfl, (zt1 3 rfl rfl), ⟨by decide +kernel, by decide +kernel⟩, by decide +kernel, rfl, by decide, by decide⟩
theorem zmo_9 : zmok 9 := ⟨zt2 166 rfl rfl, (zt1 3 rfl rfl), ⟨by decide +kernel, by decide +kernel⟩, by decide +kernel, rfl, by decide, by decide⟩
theorem zmo_10 : zmok 10 := ⟨zt2 211 rfl rfl, (zt1 3 rfl rfl), ⟨by decide +kernel, by decide +kernel⟩, by decide +kernel, rfl, by decide, by decide⟩
theorem zmo_11 : zmok 11 := ⟨zt2 170 rfl rfl, (zt1 3 rfl rfl), ⟨by decide +kernel, by decide +kernel⟩, by decide +kernel, rfl, by decide, by decide⟩
theorem zmo_12 : zmok 12 := ⟨zt2 174 rfl rfl, (zt1 3 rfl rfl), ⟨by decide +kernel, by decide +kernel⟩, by decide +kernel, rfl, by decide, by decide⟩
theorem zmo_13 : zmok 13 := ⟨zt2 206 rfl rfl, (zt1 3 rfl rfl), ⟨by decide +kernel, by decide +kernel⟩, by decide +kernel, rfl, by decide, by decide⟩
theorem zmo_14 : zmok 14 := ⟨zt2 189 rfl rfl, (zt1 3 rfl rfl), ⟨by decide +kernel, by decide +kernel⟩, by decide +kernel, rfl, by decide, by decide⟩
theorem zmo_15 : zmok 15 := ⟨zt2 193 rfl rfl, (zt1 3 rfl rfl), ⟨by decide +kernel, by decide +kernel⟩, by decide +kernel, rfl, by decide, by decide⟩
theorem zmo_16 : zmok 16 := ⟨zt2 178 rfl rfl, (zt1 3 rfl rfl), ⟨by decide +kernel, by decide +kernel⟩, by decide +kernel, rfl, by decide, by decide⟩
theorem zmo_17 : zmok 17 := ⟨zt2 185 rfl rfl, (zt1 3 rfl rfl), ⟨by decide +kernel, by decide +kernel⟩, by decide +kernel, rfl, by decide, by decide⟩
theorem zmo_18 : zmok 18 := ⟨zt1 84 rfl rfl, (zt1 4 rfl rfl), ⟨by decide +kernel, by decide +kernel⟩, by decide +kernel, rfl, by decide, by decide⟩
theorem zmo_19 : zmok 19 := ⟨zt2 215 rfl rfl, (zt1 4 rfl rfl), ⟨by decide +kernel, by decide +kernel⟩, by decide +kernel, rfl, by decide, by decide⟩
theorem zmo_20 : zmok 20 := ⟨zt3 37 rfl rfl, (zt1 4 rfl rfl), ⟨by decide +kernel, by decide +kernel⟩, by decide +kernel, rfl, by decide, by decide⟩
theorem zmo_21 : zmok 21 := ⟨zt3 141 rfl rfl, (zt1 4 rfl rfl), ⟨by decide +kernel, by decide +kernel⟩, by decide +kernel, rfl, by decide, by decide⟩
theorem zmo_22 : zmok 22 := ⟨zt3 177 rfl rfl, (zt1 4 rfl rfl), ⟨by decide +kernel, by decide +kernel⟩, by decide +kernel, rfl, by decide, by decide⟩
theorem zmo_23 : zmok 23 := ⟨zt3 185 rfl rfl, (zt1 4 rfl rfl), ⟨by decide +kernel, by decide +kernel⟩, by decide +kernel, rfl, by decide, by decide⟩
theorem zmo_24 : zmok 24 := ⟨zt2 233 rfl rfl, (zt1 4 rfl rfl), ⟨by decide +kernel, by decide +kernel⟩, by decide +kernel, rfl, by decide, by decide⟩
theorem zmo_25 : zmok 25 := ⟨zt3 11 rfl rfl, (zt1 4 rfl rfl), ⟨by decide +kernel, by decide +kernel⟩, by decide +kernel, rfl, by decide, by decide⟩
theorem zmo_26 : zmok 26 := ⟨zt3 15 rfl rfl, (zt1 4 rfl rfl), ⟨by decide +kernel, by decide +kernel⟩, by decide +kernel, rfl, by decide, by decide⟩
theorem zmo_27 : zmok 27 := ⟨zt3 117 rfl rfl, (zt1 4 rfl rfl), ⟨by decide +kernel, by decide +kernel⟩, by decide +kernel, rfl, by decide, by decide⟩
theorem zmo_28 : zmok 28 := ⟨zt2 237 rfl rfl, (zt1 4 rfl rfl), ⟨by decide +kernel, by decide +kernel⟩, by decide +kernel, rfl, by decide, by decide⟩
theorem zmo_29 : zmok 29 := ⟨zt3 41 rfl rfl, (zt1 4 rfl rfl), ⟨by decide +kernel, by decide +kernel⟩, by decide +kernel, rfl, by decide, by decide⟩
theorem zmo_30 : zmok 30 := ⟨zt3 81 rfl rfl, (zt1 4 rfl rfl), ⟨by decide +kernel, by decide +kernel⟩, by decide +kernel, rfl, by decide, by decide⟩
theorem zmo_31 : zmok 31 := ⟨zt3 85 rfl rfl, (zt1 4 rfl rfl), ⟨by decide +kernel, by decide +kernel⟩, by decide +kernel, rfl, by decide, by decide⟩
theorem zmo_32 : zmok 32 := ⟨zt3 93 rfl rfl, (zt1 4 rfl rfl), ⟨by decide +kernel, by decide +kernel⟩, by decide +kernel, rfl, by decide, by decide⟩
theorem zmo_33 : zmok 33 := ⟨zt3 97 rfl rfl, (zt1 4 rfl rfl), ⟨by decide +kernel, by decide +kernel⟩, by decide +kernel, rfl, by decide, by decide⟩
theorem zmo_34 : zmok 34 := ⟨zt3 105 rfl rfl, (zt1 4 rfl rfl), ⟨by decide +kernel, by decide +kernel⟩, by decide +kernel, rfl, by decide, by decide⟩
theorem zmo_35 : zmok 35 := ⟨zt3 109 rfl rfl, (zt1 4 rfl rfl), ⟨by decide +kernel, by decide +kernel⟩, by decide +kernel, rfl, by decide, by decide⟩
theorem zmo_36 : zmok 36 := ⟨zt3 113 rfl rfl, (zt1 4 rfl rfl), ⟨by decide +kernel, by decide +kernel⟩, by decide +kernel, rfl, by decide, by decide⟩
theorem zmo_37 : zmok 37 := ⟨zt3 121 rfl rfl, (zt1 4 rfl rfl), ⟨by decide +kernel, by decide +kernel⟩, by decide +kernel, rfl, by decide, by decide⟩
theorem zmo_38 : zmok 38 := ⟨zt3 61 rfl rfl, (zt1 4 rfl rfl), ⟨by decide +kernel, by decide +kernel⟩, by decide +kernel, rfl, by decide, by decide⟩
theorem zmo_39 : zmok 39 := ⟨zt3 69 rfl rfl, (zt1 4 rfl rfl), ⟨by decide +kernel, by decide +kernel⟩, by decide +kernel, rfl, by decide, by decide⟩
theorem zmo_40 : zmok 40 := ⟨zt3 73 rfl rfl, (zt1 4 rfl rfl), ⟨by decide +kernel, by decide +kernel⟩, by decide +kernel, rfl, by decide, by decide⟩
theorem zmo_41 : zmok 41 := ⟨zt3 101 rfl rfl, (zt1 4 rfl rfl), ⟨by decide +kernel, by decide +kernel⟩, by decide +kernel, rfl, by decide, by decide⟩
theorem zmo_42 : zmok 42 := ⟨zt3 89 rfl rfl, (zt1 4 rfl rfl), ⟨by decide +kernel, by decide +kernel⟩, by decide +kernel, rfl, by decide, by decide⟩
theorem zmo_43 : zmok 43 := ⟨zt3 77 rfl rfl, (zt1 4 rfl rfl), ⟨by decide +kernel, by decide +kernel⟩, by decide +kernel, rfl, by decide, by decide⟩
theorem zmo_44 : zmok 44 := ⟨zt3 65 rfl rfl, (zt1 4 rfl rfl), ⟨by decide +kernel, by decide +kernel⟩, by decide +kernel, rfl, by decide, by decide⟩
theorem zmo_45 : zmok 45 := ⟨zt1 196 rfl rfl, (zt1 9 rfl rfl), ⟨by decide +kernel, by decide +kernel⟩, by decide +kernel, rfl, by decide, by decide⟩
theorem zmo_46 : zmok 46 := ⟨zt3 149 rfl rfl, (zt1 9 rfl rfl), ⟨by decide +kernel, by decide +kernel⟩, by decide +kernel, rfl, by decide, by decide⟩
theorem zmo_47 : zmok 47 := ⟨zt3 153 rfl rfl, (zt1 9 rfl rfl), ⟨by decide +kernel, by decide +kernel⟩, by decide +kernel, rfl, by decide, by decide⟩
theorem zmo_48 : zmok 48 := ⟨zt3 158 rfl rfl, (zt1 9 rfl rfl), ⟨by decide +kernel, by decide +kernel⟩, by decide +kernel, rfl, by decide, by decide⟩
theorem zmo_49 : zmok 49 := ⟨zt3 167 rfl rfl, (zt1 9 rfl rfl), ⟨by decide +kernel, by decide +kernel⟩, by decide +kernel, rfl, by decide, by decide⟩
theorem zmo_50 : zmok 50 := ⟨zt3 163 rfl rfl, (zt1 9 rfl rfl), ⟨by decide +kernel, by decide +kernel⟩, by decide +kernel, rfl, by decide, by decide⟩
theorem zmo_51 : zmok 51 := ⟨zt3 172 rfl rfl, (zt1 9 rfl rfl), ⟨by decide +kernel, by decide +kernel⟩, by decide +kernel, rfl, by decide, by decide⟩
theorem zmo_52 : zmok 52 := ⟨zt3 181 rfl rfl, (zt1 9 rfl rfl), ⟨by decide +kernel, by decide +kernel⟩, by decide +kernel, rfl, by decide, by decide⟩
theorem zmo_53 : zmok 53 := ⟨zt3 190 rfl rfl, (zt1 9 rfl rfl), ⟨by decide +kernel, by decide +kernel⟩, by decide +kernel, rfl, by decide, by decide⟩
theorem zmo_54 : zmok 54 := ⟨zt3 195 rfl rfl, (zt1 9 rfl rfl), ⟨by decide +kernel, by decide +kernel⟩, by decide +kernel, rfl, by decide, by decide⟩
theorem zmo_55 : zmok 55 := ⟨zt3 203 rfl rfl, (zt1 9 rfl rfl), ⟨by decide +kernel, by decide +kernel⟩, by decide +kernel, rfl, by decide, by decide⟩
theorem zmo_56 : zmok 56 := ⟨zt3 232 rfl rfl, (zt1 9 rfl rfl), ⟨by decide +kernel, by decide +kernel⟩, by decide +kernel, rfl, by decide, by decide⟩
theorem zmo_57 : zmok 57 := ⟨zt1 145 rfl rfl, (zt1 6 rfl rfl), ⟨by decide +kernel, by decide +kernel⟩, by decide +kernel, rfl, by decide, by decide⟩
theorem zmo_58 : zmok 58 := ⟨zt2 223 rfl rfl, (zt1 6 rfl rfl), ⟨by decide +kernel, by decide +kernel⟩, by decide +kernel, rfl, by decide, by decide⟩
theorem zmo_59 : zmok 59 := ⟨zt3 137 rfl rfl, (zt1 6 rfl rfl), ⟨by decide +kernel, by decide +kernel⟩, by decide +kernel, rfl, by decide, by decide⟩
theorem zmo_60 : zmok 60 := ⟨zt3 33 rfl rfl, (zt1 6 rfl rfl), ⟨by decide +kernel, by decide +kernel⟩, by decide +kernel, rfl, by decide, by decide⟩
theorem zmo_61 : zmok 61 := ⟨zt3 133 rfl rfl, (zt1 6 rfl rfl), ⟨by decide +kernel, by decide +kernel⟩, by decide +kernel, rfl, by decide, by decide⟩
theorem zmo_62 : zmok 62 := ⟨zt1 179 rfl rfl, (zt1 8 rfl rfl), ⟨by decide +kernel, by decide +kernel⟩, by decide +kernel, rfl, by decide, by decide⟩
theorem zmo_63 : zmok 63 := ⟨zt3 220 rfl rfl, (zt1 8 rfl rfl), ⟨by decide +kernel, by decide +kernel⟩, by decide +kernel, rfl, by decide, by decide⟩
theorem zmo_64 : zmok 64 := ⟨zt3 236 rfl rfl, (zt1 8 rfl rfl), ⟨by decide +kernel, by decide +kernel⟩, by decide +kernel, rfl, by decide, by decide⟩
theorem zmo_65 : zmok 65 := ⟨zt1 28 rfl rfl, (zt1 2 rfl rfl), ⟨by decide +kernel, by decide +kernel⟩, by decide +kernel, rfl, by decide, by decide⟩
theorem zmo_66 : zmok 66 := ⟨zt2 162 rfl rfl, (zt1 2 rfl rfl), ⟨by decide +kernel, by decide +kernel⟩, by decide +kernel, rfl, by decide, by decide⟩
theorem zmo_67 : zmok 67 := ⟨zt2 199 rfl rfl, (zt1 2 rfl rfl), ⟨by decide +kernel, by decide +kernel⟩, by decide +kernel, rfl, by decide, by decide⟩
theorem zmo_68 : zmok 68 := ⟨zt3 57 rfl rfl, (zt1 2 rfl rfl), ⟨by decide +kernel, by decide +kernel⟩, by decide +kernel, rfl, by decide, by decide⟩
theorem zmo_69 : zmok 69 := ⟨zt3 45 rfl rfl, (zt1 2 rfl rfl), ⟨by decide +kernel, by decide +kernel⟩, by decide +kernel, rfl, by decide, by decide⟩
theorem zmo_70 : zmok 70 := ⟨zt3 53 rfl rfl, (zt1 2 rfl rfl), ⟨by decide +kernel, by decide +kernel⟩, by decide +kernel, rfl, by decide, by decide⟩
theorem zmo_71 : zmok 71 := ⟨zt3 49 rfl rfl, (zt1 2 rfl rfl), ⟨by decide +kernel, by decide +kernel⟩, by decide +kernel, rfl, by decide, by decide⟩
theorem zmo_72 : zmok 72 := ⟨zt1 20 rfl rfl, (zt1 1 rfl rfl), ⟨by decide +kernel, by decide +kernel⟩, by decide +kernel, rfl, by decide, by decide⟩
theorem zmo_73 : zmok 73 := ⟨zt2 49 rfl rfl, (zt1 1 rfl rfl), ⟨by decide +kernel, by decide +kernel⟩, by decide +kernel, rfl, by decide, by decide⟩
theorem zmo_74 : zmok 74 := ⟨zt2 53 rfl rfl, (zt1 1 rfl rfl), ⟨by decide +kernel, by decide +kernel⟩, by decide +kernel, rfl, by decide, by decide⟩
theorem zmo_75 : zmok 75 := ⟨zt2 57 rfl rfl, (zt1 1 rfl rfl), ⟨by decide +kernel, by decide +kernel⟩, by decide +kernel, rfl, by decide, by decide⟩
theorem zmo_76 : zmok 76 := ⟨zt2 228 rfl rfl, (zt1 1 rfl rfl), ⟨by decide +kernel, by decide +kernel⟩, by decide +kernel, rfl, by decide, by decide⟩
theorem zmo_77 : zmok 77 := ⟨zt3 2 rfl rfl, (zt1 1 rfl rfl), ⟨by decide +kernel, by decide +kernel⟩, by decide +kernel, rfl, by decide, by decide⟩
theorem zmo_78 : zmok 78 := ⟨zt3 21 rfl rfl, (zt1 1 rfl rfl), ⟨by decide +kernel, by decide +kernel⟩, by decide +kernel, rfl, by decide, by decide⟩
theorem zmo_79 : zmok 79 := ⟨zt3 25 rfl rfl, (zt1 1 rfl rfl), ⟨by decide +kernel, by decide +kernel⟩, by decide +kernel, rfl, by decide, by decide⟩
theorem zmo_80 : zmok 80 := ⟨zt3 125 rfl rfl, (zt1 1 rfl rfl), ⟨by decide +kernel, by decide +kernel⟩, by decide +kernel, rfl, by decide, by decide⟩
theorem zmo_81 : zmok 81 := ⟨zt3 145 rfl rfl, (zt1 1 rfl rfl), ⟨by decide +kernel, by decide +kernel⟩, by decide +kernel, rfl, by decide, by decide⟩
theorem zmo_82 : zmok 82 := ⟨zt3 199 rfl rfl, (zt1 1 rfl rfl), ⟨by decide +kernel, by decide +kernel⟩, by decide +kernel, rfl, by decide, by decide⟩
theorem zmo_83 : zmok 83 := ⟨zt3 208 rfl rfl, (zt1 1 rfl rfl), ⟨by decide +kernel, by decide +kernel⟩, by decide +kernel, rfl, by decide, by decide⟩
theorem zmo_84 : zmok 84 := ⟨zt3 212 rfl rfl, (zt1 1 rfl rfl), ⟨by decide +kernel, by decide +kernel⟩, by decide +kernel, rfl, by decide, by decide⟩
theorem zmo_85 : zmok 85 := ⟨zt3 216 rfl rfl, (zt1 1 rfl rfl), ⟨by decide +kernel, by decide +kernel⟩, by decide +kernel, rfl, by decide, by decide⟩
theorem zmo_86 : zmok 86 := ⟨zt3 224 rfl rfl, (zt1 1 rfl rfl), ⟨by decide +kernel, by decide +kernel⟩, by decide +kernel, rfl, by decide, by decide⟩
theorem zmo_87 : zmok 87 := ⟨zt3 228 rfl rfl, (zt1 1 rfl rfl), ⟨by decide +kernel, by decide +kernel⟩, by decide +kernel, rfl, by decide, by decide⟩
theorem zmo_88 : zmok 88 := ⟨zt4 1 rfl rfl, (zt1 1 rfl rfl), ⟨by decide +kernel, by decide +kernel⟩, by decide +kernel, rfl, by decide, by decide⟩
theorem zmo_89 : zmok 89 := ⟨zt4 6 rfl rfl, (zt1 1 rfl rfl), ⟨by decide +kernel, by decide +kernel⟩, by decide +kernel, rfl, by decide, by decide⟩
theorem zmo_90 : zmok 90 := ⟨zt4 12 rfl rfl, (zt1 1 rfl rfl), ⟨by decide +kernel, by decide +kernel⟩, by decide +kernel, rfl, by decide, by decide⟩
theorem zmo_91 : zmok 91 := ⟨zt3 6 rfl rfl, (zt1 1 rfl rfl), ⟨by decide +kernel, by decide +kernel⟩, by decide +kernel, rfl, by decide, by decide⟩
theorem zmo_92 : zmok 92 := ⟨zt2 181 rfl rfl, (zt1 1 rfl rfl), ⟨by decide +kernel, by decide +kernel⟩, by decide +kernel, rfl, by decide, by decide⟩
theorem zmo_93 : zmok 93 := ⟨zt2 202 rfl rfl, (zt1 1 rfl rfl), ⟨by decide +kernel, by decide +kernel⟩, by decide +kernel, rfl, by decide, by decide⟩
theorem zmo_94 : zmok 94 := ⟨zt4 17 rfl rfl, (zt1 10 rfl rfl), ⟨by decide +kernel, by decide +kernel⟩, by decide +kernel, rfl, by decide, by decide⟩
theorem zmo_95 : zmok 95 := ⟨zt4 160 rfl rfl, (zt1 10 rfl rfl), ⟨by decide +kernel, by decide +kernel⟩, by decide +kernel, rfl, by decide, by decide⟩
theorem zmo_96 : zmok 96 := ⟨zt4 208 rfl rfl, (zt1 10 rfl rfl), ⟨by decide +kernel, by decide +kernel⟩, by decide +kernel, rfl, by decide, by decide⟩
theorem zmo_97 : zmok 97 := ⟨zt4 218 rfl rfl, (zt1 10 rfl rfl), ⟨by decide +kernel, by decide +kernel⟩, by decide +kernel, rfl, by decide, by decide⟩
theorem zmo_98 : zmok 98 := ⟨zt4 235 rfl rfl, (zt1 10 rfl rfl), ⟨by decide +kernel, by decide +kernel⟩, by decide +kernel, rfl, by decide, by decide⟩
theorem zmo_99 : zmok 99 := ⟨zt5 43 rfl rfl, (zt1 10 rfl rfl), ⟨by decide +kernel, by decide +kernel⟩, by decide +kernel, rfl, by decide, by decide⟩
theorem zmo_100 : zmok 100 := ⟨zt4 22 rfl rfl, (zt1 10 rfl rfl), ⟨by decide +kernel, by decide +kernel⟩, by decide +kernel, rfl, by decide, by decide⟩
theorem zmo_101 : zmok 101 := ⟨zt5 3 rfl rfl, (zt1 10 rfl rfl), ⟨by decide +kernel, by decide +kernel⟩, by decide +kernel, rfl, by decide, by decide⟩
theorem zmo_102 : zmok 102 := ⟨zt5 7 rfl rfl, (zt1 10 rfl rfl), ⟨by decide +kernel, by decide +kernel⟩, by decide +kernel, rfl, by decide, by decide⟩
theorem zmo_103 : zmok 103 := ⟨zt5 15 rfl rfl, (zt1 10 rfl rfl), ⟨by decide +kernel, by decide +kernel⟩, by decide +kernel, rfl, by decide, by decide⟩
theorem zmo_104 : zmok 104 := ⟨zt4 222 rfl rfl, (zt1 10 rfl rfl), ⟨by decide +kernel, by decide +kernel⟩, by decide +kernel, rfl, by decide, by decide⟩
theorem zmo_105 : zmok 105 := ⟨zt5 31 rfl rfl, (zt1 10 rfl rfl), ⟨by decide +kernel, by decide +kernel⟩, by decide +kernel, rfl, by decide, by decide⟩
theorem zmo_106 : zmok 106 := ⟨zt5 11 rfl rfl, (zt1 10 rfl rfl), ⟨by decide +kernel, by decide +kernel⟩, by decide +kernel, rfl, by decide, by decide⟩
theorem zmo_107 : zmok 107 := ⟨zt5 19 rfl rfl, (zt1 10 rfl rfl), ⟨by decide +kernel, by decide +kernel⟩, by decide +kernel, rfl, by decide, by decide⟩
theorem zmo_108 : zmok 108 := ⟨zt5 27 rfl rfl, (zt1 10 rfl rfl), ⟨by decide +kernel, by decide +kernel⟩, by decide +kernel, rfl, by decide, by decide⟩
theorem zmo_109 : zmok 109 := ⟨zt5 23 rfl rfl, (zt1 10 rfl rfl), ⟨by decide +kernel, by decide +kernel⟩, by decide +kernel, rfl, by decide, by decide⟩
theorem zmo_110 : zmok 110 := ⟨zt5 35 rfl rfl, (zt1 10 rfl rfl), ⟨by decide +kernel, by decide +kernel⟩, by decide +kernel, rfl, by decide, by decide⟩
theorem zmo_111 : zmok 111 := ⟨zt4 239 rfl rfl, (zt1 10 rfl rfl), ⟨by decide +kernel, by decide +kernel⟩, by decide +kernel, rfl, by decide, by decide⟩
theorem zmo_112 : zmok 112 := ⟨zt4 156 rfl rfl, (zt1 10 rfl rfl), ⟨by decide +kernel, by decide +kernel⟩, by decide +kernel, rfl, by decide, by decide⟩
theorem zmo_113 : zmok 113 := ⟨zt4 164 rfl rfl, (zt1 10 rfl rfl), ⟨by decide +kernel, by decide +kernel⟩, by decide +kernel, rfl, by decide, by decide⟩
theorem zmo_114 : zmok 114 := ⟨zt4 172 rfl rfl, (zt1 10 rfl rfl), ⟨by decide +kernel, by decide +kernel⟩, by decide +kernel, rfl, by decide, by decide⟩
theorem zmo_115 : zmok 115 := ⟨zt4 186 rfl rfl, (zt1 10 rfl rfl), ⟨by decide +kernel, by decide +kernel⟩, by decide +kernel, rfl, by decide, by decide⟩
theorem zmo_116 : zmok 116 := ⟨zt4 197 rfl rfl, (zt1 10 rfl rfl), ⟨by decide +kernel, by decide +kernel⟩, by decide +kernel, rfl, by decide, by decide⟩
theorem zmo_117 : zmok 117 := ⟨zt4 201 rfl rfl, (zt1 10 rfl rfl), ⟨by decide +kernel, by decide +kernel⟩, by decide +kernel, rfl, by decide, by decide⟩
theorem zmo_118 : zmok 118 := ⟨zt4 189 rfl rfl, (zt1 10 rfl rfl), ⟨by decide +kernel, by decide +kernel⟩, by decide +kernel, rfl, by decide, by decide⟩
theorem zmo_119 : zmok 119 := ⟨zt4 193 rfl rfl, (zt1 10 rfl rfl), ⟨by decide +kernel, by decide +kernel⟩, by decide +kernel, rfl, by decide, by decide⟩
theorem zmo_120 : zmok 120 := ⟨zt4 182 rfl rfl, (zt1 10 rfl rfl), ⟨by decide +kernel, by decide +kernel⟩, by decide +kernel, rfl, by decide, by decide⟩
theorem zmo_121 : zmok 121 := ⟨zt4 178 rfl rfl, (zt1 10 rfl rfl), ⟨by decide +kernel, by decide +kernel⟩, by decide +kernel, rfl, by decide, by decide⟩
theorem zmo_122 : zmok 122 := ⟨zt4 168 rfl rfl, (zt1 10 rfl rfl), ⟨by decide +kernel, by decide +kernel⟩, by decide +kernel, rfl, by decide, by decide⟩
theorem zmo_123 : zmok 123 := ⟨zt4 205 rfl rfl, (zt1 10 rfl rfl), ⟨by decide +kernel, by decide +kernel⟩, by decide +kernel, rfl, by decide, by decide⟩
theorem zmo_124 : zmok 124 := ⟨zt4 214 rfl rfl, (zt1 10 rfl rfl), ⟨by decide +kernel, by decide +kernel⟩, by decide +kernel, rfl, by decide, by decide⟩
theorem zmo_125 : zmok 125 := ⟨zt4 227 rfl rfl, (zt1 10 rfl rfl), ⟨by decide +kernel, by decide +kernel⟩, by decide +kernel, rfl, by decide, by decide⟩
theorem zmo_126 : zmok 126 := ⟨zt4 231 rfl rfl, (zt1 10 rfl rfl), ⟨by decide +kernel, by decide +kernel⟩, by decide +kernel, rfl, by decide, by decide⟩
theorem zmo_127 : zmok 127 := ⟨zt5 39 rfl rfl, (zt1 10 rfl rfl), ⟨by decide +kernel, by decide +kernel⟩, by decide +kernel, rfl, by decide, by decide⟩
theorem zmo_128 : zmok 128 := ⟨zt5 66 rfl rfl, (zt1 10 rfl rfl), ⟨by decide +kernel, by decide +kernel⟩, by decide +kernel, rfl, by decide, by decide⟩
theorem zmo_129 : zmok 129 := ⟨zt5 74 rfl rfl, (zt1 10 rfl rfl), ⟨by decide +kernel, by decide +kernel⟩, by decide +kernel, rfl, by decide, by decide⟩
theorem zmo_130 : zmok 130 := ⟨zt5 60 rfl rfl, (zt1 10 rfl rfl), ⟨by decide +kernel, by decide +kernel⟩, by decide +kernel, rfl, by decide, by decide⟩
theorem zmo_131 : zmok 131 := ⟨zt5 56 rfl rfl, (zt1 10 rfl rfl), ⟨by decide +kernel, by decide +kernel⟩, by decide +kernel, rfl, by decide, by decide⟩
theorem zmo_132 : zmok 132 := ⟨zt5 78 rfl rfl, (zt1 10 rfl rfl), ⟨by decide +kernel, by decide +kernel⟩, by decide +kernel, rfl, by decide, by decide⟩
theorem zmo_133 : zmok 133 := ⟨zt5 70 rfl rfl, (zt1 10 rfl rfl), ⟨by decide +kernel, by decide +kernel⟩, by decide +kernel, rfl, by decide, by decide⟩
theorem zmo_134 : zmok 134 := ⟨zt5 52 rfl rfl, (zt1 10 rfl rfl), ⟨by decide +kernel, by decide +kernel⟩, by decide +kernel, rfl, by decide, by decide⟩
theorem zmo_135 : zmok 135 := ⟨zt5 47 rfl rfl, (zt1 10 rfl rfl), ⟨by decide +kernel, by decide +kernel⟩, by decide +kernel, rfl, by decide, by decide⟩
theorem zmo_136 : zmok 136 := ⟨zt5 82 rfl rfl, (zt1 10 rfl rfl), ⟨by decide +kernel, by decide +kernel⟩, by decide +kernel, rfl, by decide, by decide⟩
theorem zmo_137 : zmok 137 := ⟨zt5 86 rfl rfl, (zt1 10 rfl rfl), ⟨by decide +kernel, by decide +kernel⟩, by decide +kernel, rfl, by decide, by decide⟩
theorem zmo_138 : zmok 138 := ⟨zt5 90 rfl rfl, (zt1 10 rfl rfl), ⟨by decide +kernel, by decide +kernel⟩, by decide +kernel, rfl, by decide, by decide⟩
theorem zmo_139 : zmok 139 := ⟨zt5 94 rfl rfl, (zt1 10 rfl rfl), ⟨by decide +kernel, by decide +kernel⟩, by decide +kernel, rfl, by decide, by decide⟩
theorem zmo_140 : zmok 140 := ⟨zt5 98 rfl rfl, (zt1 10 rfl rfl), ⟨by decide +kernel, by decide +kernel⟩, by decide +kernel, rfl, by decide, by decide⟩
theorem zmo_141 : zmok 141 := ⟨zt5 102 rfl rfl, (zt1 10 rfl rfl), ⟨by decide +kernel, by decide +kernel⟩, by decide +kernel, rfl, by decide, by decide⟩
theorem zmo_142 : zmok 142 := ⟨zt5 106 rfl rfl, (zt1 10 rfl rfl), ⟨by decide +kernel, by decide +kernel⟩, by decide +kernel, rfl, by decide, by decide⟩
theorem zmo_143 : zmok 143 := ⟨zt5 110 rfl rfl, (zt1 10 rfl rfl), ⟨by decide +kernel, by decide +kernel⟩, by decide +kernel, rfl, by decide, by decide⟩
theorem zmo_144 : zmok 144 := ⟨zt5 118 rfl rfl, (zt1 10 rfl rfl), ⟨by decide +kernel, by decide +kernel⟩, by decide +kernel, rfl, by decide, by decide⟩
theorem zmo_145 : zmok 145 := ⟨zt5 114 rfl rfl, (zt1 10 rfl rfl), ⟨by decide +kernel, by decide +kernel⟩, by decide +kernel, rfl, by decide, by decide⟩
def zcok (c : Nat) (q : Nat × Nat × Nat × Nat) : Prop := match q.2.2.1 with
  | 0 => zmok q.2.1 ∧ Jvm.Cond.methodLink (zRn c) q.1 (zyn q.2.1) ∈ zTB ∧ Jvm.Cond.instanceMethod (zyn q.2.1) ∈ zTB ∧ Jvm.Cond.selects (zyn q.2.1).cls (zyn q.2.1) (zyn q.2.1) ∈ zTB ∧ (parseMethodDescriptor (zyn q.2.1).desc).map (fun d => d.parameters.length) = some q.2.2.2
  | 1 => zmok q.2.1 ∧ Jvm.Cond.methodLink (zRn c) q.1 (zyn q.2.1) ∈ zTB ∧ Jvm.Cond.static (zyn q.2.1) ∈ zTB ∧ (parseMethodDescriptor (zyn q.2.1).desc).map (fun d => d.parameters.length) = some q.2.2.2
  | 2 => zmok q.2.1 ∧ Jvm.Cond.methodLink (zRn c) q.1 (zyn q.2.1) ∈ zTB ∧ Jvm.Cond.instanceMethod (zyn q.2.1) ∈ zTB ∧ (zyn q.2.1).name = "<init>" ∧ zrt q.2.1 = none ∧ (parseMethodDescriptor (zyn q.2.1).desc).map (fun d => d.parameters.length) = some q.2.2.2
  | 11 => zmok q.2.1 ∧ Jvm.Cond.methodLinkNest (zRn c) q.1 (zyn q.2.1) RX7 ∈ zNW ∧ Jvm.Cond.static (zyn q.2.1) ∈ zTB ∧ (parseMethodDescriptor (zyn q.2.1).desc).map (fun d => d.parameters.length) = some q.2.2.2
  | 12 => zmok q.2.1 ∧ Jvm.Cond.methodLinkNest (zRn c) q.1 (zyn q.2.1) RX7 ∈ zNW ∧ Jvm.Cond.instanceMethod (zyn q.2.1) ∈ zTB ∧ (zyn q.2.1).name = "<init>" ∧ zrt q.2.1 = none ∧ (parseMethodDescriptor (zyn q.2.1).desc).map (fun d => d.parameters.length) = some q.2.2.2
  | 20 => Jvm.Cond.methodLink (zRn c) q.1 objectInit ∈ zTB ∧ Jvm.Cond.instanceMethod objectInit ∈ zTB ∧ Jvm.Cond.code objectInit ⟨#[0xb1]⟩ 1 none ∈ zTB
  | 21 => Jvm.Cond.methodLink (zRn c) q.1 Lib.Math.max.name ∈ zTB ∧ Jvm.Cond.static Lib.Math.max.name ∈ zTB ∧ Jvm.Cond.initialized "java/lang/Math" ∈ zTB ∧ Jvm.Cond.code Lib.Math.max.name Lib.Math.max.code 2 (some .int) ∈ zTB
  | 22 => Jvm.Cond.methodLink (zRn c) q.1 Lib.Math.min.name ∈ zTB ∧ Jvm.Cond.static Lib.Math.min.name ∈ zTB ∧ Jvm.Cond.initialized "java/lang/Math" ∈ zTB ∧ Jvm.Cond.code Lib.Math.min.name Lib.Math.min.code 2 (some .int) ∈ zTB
  | 23 => Jvm.Cond.methodLink (zRn c) q.1 yJ0_indexOf_0f7a4 ∈ zTB
  | _ => False
theorem zml_0 : ∀ q ∈ zML 0, zcok 0 q := (List.forall_mem_cons.mpr ⟨⟨(zt1 140 rfl rfl), (zt1 22 rfl rfl), (zt1 23 rfl rfl)⟩, (List.forall_mem_cons.mpr ⟨⟨zmo_57, (zt1 143 rfl rfl), (zt1 144 rfl rfl), by decide +kernel, rfl, by decide +kernel⟩, (List.forall_mem_cons.mpr ⟨⟨zmo_60, (zt3 30 rfl rfl), (zt3 31 rfl rfl), (zt3 32 rfl rfl), by decide +kernel⟩, (List.forall_mem_cons.mpr ⟨⟨zmo_61, (zt3 130 rfl rfl), (zt3 131 rfl rfl), (zt3 132 rfl rfl), by decide +kernel⟩, (fun _ h => absurd h List.not_mem_nil)⟩)⟩)⟩)⟩)
theorem zml_1 : ∀ q ∈ zML 1, zcok 1 q := (List.forall_mem_cons.mpr ⟨⟨(zt1 66 rfl rfl), (zt1 22 rfl rfl), (zt1 23 rfl rfl)⟩, (List.forall_mem_cons.mpr ⟨⟨(zt2 62 rfl rfl), (zt2 63 rfl rfl), (zt1 7 rfl rfl), (zt2 64 rfl rfl)⟩, (List.forall_mem_cons.mpr ⟨⟨zmo_6, (zt2 65 rfl rfl), (zt2 67 rfl rfl), (zts 0 rfl), by decide +kernel⟩, (List.forall_mem_cons.mpr ⟨⟨zmo_66, (zt2 159 rfl rfl), (zt2 160 rfl rfl), (zt2 161 rfl rfl), by decide +kernel⟩, (List.forall_mem_cons.mpr ⟨⟨zmo_9, (zt2 163 rfl rfl), (zt2 165 rfl rfl), (zts 2 rfl), by decide +kernel⟩, (List.forall_mem_cons.mpr ⟨⟨zmo_11, (zt2 167 rfl rfl), (zt2 169 rfl rfl), (zts 3 rfl), by decide +kernel⟩, (List.forall_mem_cons.mpr ⟨⟨zmo_10, (zt2 208 rfl rfl), (zt2 210 rfl rfl), (zts 10 rfl), by decide +kernel⟩, (List.forall_mem_cons.mpr ⟨⟨zmo_7, (zt2 69 rfl rfl), (zt2 70 rfl rfl), by decide +kernel⟩, (List.forall_mem_cons.mpr ⟨⟨zmo_8, (zt2 155 rfl rfl), (zt2 157 rfl rfl), (zts 1 rfl), by decide +kernel⟩, (List.forall_mem_cons.mpr ⟨(zt2 73 rfl rfl), (List.forall_mem_cons.mpr ⟨⟨zmo_12, (zt2 171 rfl rfl), (zt2 173 rfl rfl), (zts 4 rfl), by decide +kernel⟩, (List.forall_mem_cons.mpr ⟨⟨zmo_14, (zt2 186 rfl rfl), (zt2 188 rfl rfl), (zts 7 rfl), by decide +kernel⟩, (List.forall_mem_cons.mpr ⟨⟨zmo_13, (zt2 203 rfl rfl), (zt2 205 rfl rfl), (zts 9 rfl), by decide +kernel⟩, (List.forall_mem_cons.mpr ⟨⟨zmo_16, (zt2 175 rfl rfl), (zt2 177 rfl rfl), (zts 5 rfl), by decide +kernel⟩, (List.forall_mem_cons.mpr ⟨⟨zmo_92, (zn2 179 rfl rfl), (zt2 180 rfl rfl), by decide +kernel⟩, (List.forall_mem_cons.mpr ⟨⟨zmo_17, (zt2 182 rfl rfl), (zt2 184 rfl rfl), (zts 6 rfl), by decide +kernel⟩, (List.forall_mem_cons.mpr ⟨⟨zmo_93, (zn2 207 rfl rfl), (zt2 201 rfl rfl), by decide +kernel⟩, (List.forall_mem_cons.mpr ⟨⟨zmo_15, (zt2 190 rfl rfl), (zt2 192 rfl rfl), (zts 8 rfl), by decide +kernel⟩, (List.forall_mem_cons.mpr ⟨⟨zmo_67, (zt2 196 rfl rfl), (zt2 197 rfl rfl), (zt2 198 rfl rfl), by decide +kernel⟩, (fun _ h => absurd h List.not_mem_nil)⟩)⟩)⟩)⟩)⟩)⟩)⟩)⟩)⟩)⟩)⟩)⟩)⟩)⟩)⟩)⟩)⟩)⟩)⟩)
theorem zml_2 : ∀ q ∈ zML 2, zcok 2 q := (List.forall_mem_cons.mpr ⟨⟨(zt1 85 rfl rfl), (zt1 22 rfl rfl), (zt1 23 rfl rfl)⟩, (List.forall_mem_cons.mpr ⟨⟨zmo_22, (zt3 186 rfl rfl), (zt3 175 rfl rfl), (zt3 176 rfl rfl), by decide +kernel⟩, (List.forall_mem_cons.mpr ⟨⟨zmo_28, (zt2 234 rfl rfl), (zt2 236 rfl rfl), (zts 11 rfl), by decide +kernel⟩, (List.forall_mem_cons.mpr ⟨⟨zmo_26, (zt3 12 rfl rfl), (zt3 14 rfl rfl), (zts 13 rfl), by decide +kernel⟩, (List.forall_mem_cons.mpr ⟨⟨zmo_93, (zn2 238 rfl rfl), (zt2 201 rfl rfl), by decide +kernel⟩, (List.forall_mem_cons.mpr ⟨⟨zmo_92, (zn3 16 rfl rfl), (zt2 180 rfl rfl), by decide +kernel⟩, (List.forall_mem_cons.mpr ⟨⟨(zt3 17 rfl rfl), (zt1 148 rfl rfl), (zt1 7 rfl rfl), (zt1 149 rfl rfl)⟩, (List.forall_mem_cons.mpr ⟨⟨zmo_69, (zt3 42 rfl rfl), (zt3 43 rfl rfl), (zt3 44 rfl rfl), by decide +kernel⟩, (List.forall_mem_cons.mpr ⟨⟨zmo_70, (zt3 50 rfl rfl), (zt3 51 rfl rfl), (zt3 52 rfl rfl), by decide +kernel⟩, (List.forall_mem_cons.mpr ⟨⟨zmo_68, (zt3 54 rfl rfl), (zt3 55 rfl rfl), (zt3 56 rfl rfl), by decide +kernel⟩, (List.forall_mem_cons.mpr ⟨⟨zmo_38, (zt3 58 rfl rfl), (zt3 60 rfl rfl), (zts 15 rfl), by decide +kernel⟩, (List.forall_mem_cons.mpr ⟨⟨zmo_30, (zt3 78 rfl rfl), (zt3 80 rfl rfl), (zts 20 rfl), by decide +kernel⟩, (List.forall_mem_cons.mpr ⟨⟨zmo_31, (zt3 82 rfl rfl), (zt3 84 rfl rfl), (zts 21 rfl), by decide +kernel⟩, (List.forall_mem_cons.mpr ⟨⟨zmo_32, (zt3 90 rfl rfl), (zt3 92 rfl rfl), (zts 23 rfl), by decide +kernel⟩, (List.forall_mem_cons.mpr ⟨⟨zmo_33, (zt3 94 rfl rfl), (zt3 96 rfl rfl), (zts 24 rfl), by decide +kernel⟩, (List.forall_mem_cons.mpr ⟨⟨zmo_34, (zt3 102 rfl rfl), (zt3 104 rfl rfl), (zts 26 rfl), by decide +kernel⟩, (List.forall_mem_cons.mpr ⟨⟨zmo_35, (zt3 106 rfl rfl), (zt3 108 rfl rfl), (zts 27 rfl), by decide +kernel⟩, (List.forall_mem_cons.mpr ⟨⟨zmo_37, (zt3 118 rfl rfl), (zt3 120 rfl rfl), (zts 30 rfl), by decide +kernel⟩, (List.forall_mem_cons.mpr ⟨⟨zmo_44, (zt3 62 rfl rfl), (zt3 64 rfl rfl), (zts 16 rfl), by decide +kernel⟩, (List.forall_mem_cons.mpr ⟨⟨zmo_42, (zt3 86 rfl rfl), (zt3 88 rfl rfl), (zts 22 rfl), by decide +kernel⟩, (List.forall_mem_cons.mpr ⟨⟨zmo_41, (zt3 98 rfl rfl), (zt3 100 rfl rfl), (zts 25 rfl), by decide +kernel⟩, (List.forall_mem_cons.mpr ⟨⟨zmo_43, (zt3 74 rfl rfl), (zt3 76 rfl rfl), (zts 19 rfl), by decide +kernel⟩, (List.forall_mem_cons.mpr ⟨⟨zmo_40, (zt3 70 rfl rfl), (zt3 72 rfl rfl), (zts 18 rfl), by decide +kernel⟩, (List.forall_mem_cons.mpr ⟨⟨zmo_36, (zt3 110 rfl rfl), (zt3 112 rfl rfl), (zts 28 rfl), by decide +kernel⟩, (List.forall_mem_cons.mpr ⟨⟨zmo_27, (zt3 114 rfl rfl), (zt3 116 rfl rfl), (zts 29 rfl), by decide +kernel⟩, (List.forall_mem_cons.mpr ⟨⟨zmo_39, (zt3 66 rfl rfl), (zt3 68 rfl rfl), (zts 17 rfl), by decide +kernel⟩, (fun _ h => absurd h List.not_mem_nil)⟩)⟩)⟩)⟩)⟩)⟩)⟩)⟩)⟩)⟩)⟩)⟩)⟩)⟩)⟩)⟩)⟩)⟩)⟩)⟩)⟩)⟩)⟩)⟩)⟩)⟩)
theorem zml_3 : ∀ q ∈ zML 3, zcok 3 q := (List.forall_mem_cons.mpr ⟨⟨(zt1 197 rfl rfl), (zt1 22 rfl rfl), (zt1 23 rfl rfl)⟩, (List.forall_mem_cons.mpr ⟨⟨zmo_18, (zn1 199 rfl rfl), (zt1 83 rfl rfl), by decide +kernel, rfl, by decide +kernel⟩, (List.forall_mem_cons.mpr ⟨⟨zmo_47, (zt3 150 rfl rfl), (zt3 152 rfl rfl), (zts 31 rfl), by decide +kernel⟩, (List.forall_mem_cons.mpr ⟨⟨zmo_20, (zt3 154 rfl rfl), (zt3 35 rfl rfl), (zt3 36 rfl rfl), by decide +kernel⟩, (List.forall_mem_cons.mpr ⟨⟨zmo_48, (zt3 155 rfl rfl), (zt3 157 rfl rfl), (zts 32 rfl), by decide +kernel⟩, (List.forall_mem_cons.mpr ⟨⟨zmo_21, (zt3 168 rfl rfl), (zt3 139 rfl rfl), (zt3 140 rfl rfl), by decide +kernel⟩, (List.forall_mem_cons.mpr ⟨⟨zmo_51, (zt3 169 rfl rfl), (zt3 171 rfl rfl), (zts 35 rfl), by decide +kernel⟩, (List.forall_mem_cons.mpr ⟨⟨zmo_29, (zt3 191 rfl rfl), (zt3 39 rfl rfl), (zt3 40 rfl rfl), by decide +kernel⟩, (List.forall_mem_cons.mpr ⟨⟨zmo_50, (zt3 160 rfl rfl), (zt3 162 rfl rfl), (zts 33 rfl), by decide +kernel⟩, (List.forall_mem_cons.mpr ⟨⟨zmo_49, (zt3 164 rfl rfl), (zt3 166 rfl rfl), (zts 34 rfl), by decide +kernel⟩, (List.forall_mem_cons.mpr ⟨⟨zmo_93, (zn3 173 rfl rfl), (zt2 201 rfl rfl), by decide +kernel⟩, (List.forall_mem_cons.mpr ⟨⟨zmo_22, (zt3 174 rfl rfl), (zt3 175 rfl rfl), (zt3 176 rfl rfl), by decide +kernel⟩, (List.forall_mem_cons.mpr ⟨⟨zmo_52, (zt3 178 rfl rfl), (zt3 180 rfl rfl), (zts 36 rfl), by decide +kernel⟩, (List.forall_mem_cons.mpr ⟨⟨zmo_23, (zt3 182 rfl rfl), (zt3 183 rfl rfl), (zt3 184 rfl rfl), by decide +kernel⟩, (List.forall_mem_cons.mpr ⟨⟨zmo_53, (zt3 187 rfl rfl), (zt3 189 rfl rfl), (zts 37 rfl), by decide +kernel⟩, (List.forall_mem_cons.mpr ⟨⟨zmo_54, (zt3 204 rfl rfl), (zt3 193 rfl rfl), (zt3 194 rfl rfl), by decide +kernel⟩, (List.forall_mem_cons.mpr ⟨⟨zmo_64, (zt3 233 rfl rfl), (zt3 234 rfl rfl), (zt3 235 rfl rfl), by decide +kernel⟩, (fun _ h => absurd h List.not_mem_nil)⟩)⟩)⟩)⟩)⟩)⟩)⟩)⟩)⟩)⟩)⟩)⟩)⟩)⟩)⟩)⟩)⟩)
theorem zml_4 : ∀ q ∈ zML 4, zcok 4 q := (List.forall_mem_cons.mpr ⟨⟨(zt1 146 rfl rfl), (zt1 22 rfl rfl), (zt1 23 rfl rfl)⟩, (List.forall_mem_cons.mpr ⟨⟨(zt1 147 rfl rfl), (zt1 148 rfl rfl), (zt1 7 rfl rfl), (zt1 149 rfl rfl)⟩, (List.forall_mem_cons.mpr ⟨⟨zmo_20, (zt3 34 rfl rfl), (zt3 35 rfl rfl), (zt3 36 rfl rfl), by decide +kernel⟩, (List.forall_mem_cons.mpr ⟨⟨zmo_59, (zt3 134 rfl rfl), (zt3 135 rfl rfl), (zt3 136 rfl rfl), by decide +kernel⟩, (List.forall_mem_cons.mpr ⟨⟨zmo_21, (zt3 138 rfl rfl), (zt3 139 rfl rfl), (zt3 140 rfl rfl), by decide +kernel⟩, (fun _ h => absurd h List.not_mem_nil)⟩)⟩)⟩)⟩)⟩)
theorem zml_5 : ∀ q ∈ zML 5, zcok 5 q := (List.forall_mem_cons.mpr ⟨⟨(zt1 180 rfl rfl), (zt1 22 rfl rfl), (zt1 23 rfl rfl)⟩, (List.forall_mem_cons.mpr ⟨⟨zmo_92, (zn3 237 rfl rfl), (zt2 180 rfl rfl), by decide +kernel⟩, (fun _ h => absurd h List.not_mem_nil)⟩)⟩)
theorem zml_6 : ∀ q ∈ zML 6, zcok 6 q := (List.forall_mem_cons.mpr ⟨⟨(zt1 29 rfl rfl), (zt1 22 rfl rfl), (zt1 23 rfl rfl)⟩, (List.forall_mem_cons.mpr ⟨⟨zmo_93, (zn2 200 rfl rfl), (zt2 201 rfl rfl), by decide +kernel⟩, (List.forall_mem_cons.mpr ⟨⟨zmo_71, (zt3 46 rfl rfl), (zt3 48 rfl rfl), (zts 14 rfl), by decide +kernel⟩, (fun _ h => absurd h List.not_mem_nil)⟩)⟩)⟩)
theorem zml_7 : ∀ q ∈ zML 7, zcok 7 q := (List.forall_mem_cons.mpr ⟨⟨(zt1 21 rfl rfl), (zt1 22 rfl rfl), (zt1 23 rfl rfl)⟩, (List.forall_mem_cons.mpr ⟨⟨zmo_65, (zn1 26 rfl rfl), (zt1 27 rfl rfl), by decide +kernel, rfl, by decide +kernel⟩, (List.forall_mem_cons.mpr ⟨⟨zmo_4, (zn1 63 rfl rfl), (zt1 64 rfl rfl), by decide +kernel, rfl, by decide +kernel⟩, (List.forall_mem_cons.mpr ⟨⟨zmo_18, (zn1 82 rfl rfl), (zt1 83 rfl rfl), by decide +kernel, rfl, by decide +kernel⟩, (List.forall_mem_cons.mpr ⟨⟨zmo_0, (zn1 137 rfl rfl), (zt1 138 rfl rfl), by decide +kernel, rfl, by decide +kernel⟩, (List.forall_mem_cons.mpr ⟨⟨zmo_57, (zt1 174 rfl rfl), (zt1 144 rfl rfl), by decide +kernel, rfl, by decide +kernel⟩, (List.forall_mem_cons.mpr ⟨⟨zmo_62, (zn1 177 rfl rfl), (zt1 178 rfl rfl), by decide +kernel, rfl, by decide +kernel⟩, (List.forall_mem_cons.mpr ⟨⟨zmo_45, (zn1 194 rfl rfl), (zt1 195 rfl rfl), by decide +kernel, rfl, by decide +kernel⟩, (List.forall_mem_cons.mpr ⟨⟨zmo_5, (zt2 58 rfl rfl), (zt2 59 rfl rfl), (zt2 60 rfl rfl), by decide +kernel⟩, (List.forall_mem_cons.mpr ⟨⟨zmo_19, (zt2 212 rfl rfl), (zt2 213 rfl rfl), (zt2 214 rfl rfl), by decide +kernel⟩, (List.forall_mem_cons.mpr ⟨⟨zmo_1, (zt2 216 rfl rfl), (zt2 217 rfl rfl), (zt2 218 rfl rfl), by decide +kernel⟩, (List.forall_mem_cons.mpr ⟨⟨zmo_58, (zt2 220 rfl rfl), (zt2 221 rfl rfl), (zt2 222 rfl rfl), by decide +kernel⟩, (List.forall_mem_cons.mpr ⟨⟨zmo_92, (zt2 229 rfl rfl), (zt2 180 rfl rfl), by decide +kernel⟩, (List.forall_mem_cons.mpr ⟨⟨zmo_24, (zt2 230 rfl rfl), (zt2 231 rfl rfl), (zt2 232 rfl rfl), by decide +kernel⟩, (List.forall_mem_cons.mpr ⟨⟨zmo_91, (zt3 3 rfl rfl), (zt3 5 rfl rfl), (zts 12 rfl), by decide +kernel⟩, (List.forall_mem_cons.mpr ⟨⟨zmo_25, (zt3 8 rfl rfl), (zt3 9 rfl rfl), (zt3 10 rfl rfl), by decide +kernel⟩, (List.forall_mem_cons.mpr ⟨⟨zmo_2, (zt3 26 rfl rfl), (zt3 27 rfl rfl), (zt3 28 rfl rfl), by decide +kernel⟩, (List.forall_mem_cons.mpr ⟨⟨zmo_29, (zt3 38 rfl rfl), (zt3 39 rfl rfl), (zt3 40 rfl rfl), by decide +kernel⟩, (List.forall_mem_cons.mpr ⟨⟨zmo_3, (zt3 126 rfl rfl), (zt3 127 rfl rfl), (zt3 128 rfl rfl), by decide +kernel⟩, (List.forall_mem_cons.mpr ⟨⟨zmo_46, (zt3 146 rfl rfl), (zt3 147 rfl rfl), (zt3 148 rfl rfl), by decide +kernel⟩, (List.forall_mem_cons.mpr ⟨⟨zmo_54, (zt3 192 rfl rfl), (zt3 193 rfl rfl), (zt3 194 rfl rfl), by decide +kernel⟩, (List.forall_mem_cons.mpr ⟨⟨zmo_55, (zt3 200 rfl rfl), (zt3 201 rfl rfl), (zt3 202 rfl rfl), by decide +kernel⟩, (List.forall_mem_cons.mpr ⟨⟨zmo_63, (zt3 217 rfl rfl), (zt3 218 rfl rfl), (zt3 219 rfl rfl), by decide +kernel⟩, (List.forall_mem_cons.mpr ⟨⟨zmo_56, (zt3 229 rfl rfl), (zt3 230 rfl rfl), (zt3 231 rfl rfl), by decide +kernel⟩, (List.forall_mem_cons.mpr ⟨⟨zmo_60, (zt4 2 rfl rfl), (zt3 31 rfl rfl), (zt3 32 rfl rfl), by decide +kernel⟩, (List.forall_mem_cons.mpr ⟨⟨zmo_59, (zt4 7 rfl rfl), (zt3 135 rfl rfl), (zt3 136 rfl rfl), by decide +kernel⟩, (List.forall_mem_cons.mpr ⟨⟨zmo_61, (zt4 8 rfl rfl), (zt3 131 rfl rfl), (zt3 132 rfl rfl), by decide +kernel⟩, (List.forall_mem_cons.mpr ⟨⟨zmo_93, (zt3 7 rfl rfl), (zt2 201 rfl rfl), by decide +kernel⟩, (fun _ h => absurd h List.not_mem_nil)⟩)⟩)⟩)⟩)⟩)⟩)⟩)⟩)⟩)⟩)⟩)⟩)⟩)⟩)⟩)⟩)⟩)⟩)⟩)⟩)⟩)⟩)⟩)⟩)⟩)⟩)⟩)⟩)
theorem zml_8 : ∀ q ∈ zML 8, zcok 8 q := (List.forall_mem_cons.mpr ⟨⟨(zt4 18 rfl rfl), (zt1 22 rfl rfl), (zt1 23 rfl rfl)⟩, (List.forall_mem_cons.mpr ⟨⟨zmo_100, (zt4 19 rfl rfl), (zt4 21 rfl rfl), (zts 38 rfl), by decide +kernel⟩, (List.forall_mem_cons.mpr ⟨⟨zmo_95, (zt4 158 rfl rfl), (zt4 159 rfl rfl), by decide +kernel⟩, (List.forall_mem_cons.mpr ⟨⟨zmo_101, (zt5 0 rfl rfl), (zt5 2 rfl rfl), (zts 50 rfl), by decide +kernel⟩, (List.forall_mem_cons.mpr ⟨⟨zmo_104, (zt4 219 rfl rfl), (zt4 221 rfl rfl), (zts 47 rfl), by decide +kernel⟩, (List.forall_mem_cons.mpr ⟨⟨zmo_103, (zt5 12 rfl rfl), (zt5 14 rfl rfl), (zts 53 rfl), by decide +kernel⟩, (List.forall_mem_cons.mpr ⟨⟨zmo_106, (zt5 8 rfl rfl), (zt5 10 rfl rfl), (zts 52 rfl), by decide +kernel⟩, (List.forall_mem_cons.mpr ⟨⟨zmo_108, (zt5 24 rfl rfl), (zt5 26 rfl rfl), (zts 56 rfl), by decide +kernel⟩, (List.forall_mem_cons.mpr ⟨⟨zmo_102, (zt5 4 rfl rfl), (zt5 6 rfl rfl), (zts 51 rfl), by decide +kernel⟩, (List.forall_mem_cons.mpr ⟨⟨zmo_105, (zt5 28 rfl rfl), (zt5 30 rfl rfl), (zts 57 rfl), by decide +kernel⟩, (List.forall_mem_cons.mpr ⟨⟨zmo_107, (zt5 16 rfl rfl), (zt5 18 rfl rfl), (zts 54 rfl), by decide +kernel⟩, (List.forall_mem_cons.mpr ⟨⟨zmo_109, (zt5 20 rfl rfl), (zt5 22 rfl rfl), (zts 55 rfl), by decide +kernel⟩, (List.forall_mem_cons.mpr ⟨⟨zmo_110, (zt5 32 rfl rfl), (zt5 34 rfl rfl), (zts 58 rfl), by decide +kernel⟩, (List.forall_mem_cons.mpr ⟨⟨zmo_114, (zt4 169 rfl rfl), (zt4 171 rfl rfl), (zts 39 rfl), by decide +kernel⟩, (List.forall_mem_cons.mpr ⟨⟨zmo_115, (zt4 183 rfl rfl), (zt4 185 rfl rfl), (zts 42 rfl), by decide +kernel⟩, (List.forall_mem_cons.mpr ⟨⟨zmo_116, (zt4 194 rfl rfl), (zt4 196 rfl rfl), (zts 44 rfl), by decide +kernel⟩, (List.forall_mem_cons.mpr ⟨⟨zmo_118, (zt4 187 rfl rfl), (zt4 188 rfl rfl), by decide +kernel⟩, (List.forall_mem_cons.mpr ⟨⟨zmo_119, (zt4 190 rfl rfl), (zt4 192 rfl rfl), (zts 43 rfl), by decide +kernel⟩, (List.forall_mem_cons.mpr ⟨⟨zmo_120, (zt4 179 rfl rfl), (zt4 181 rfl rfl), (zts 41 rfl), by decide +kernel⟩, (List.forall_mem_cons.mpr ⟨⟨zmo_117, (zt4 198 rfl rfl), (zt4 200 rfl rfl), (zts 45 rfl), by decide +kernel⟩, (List.forall_mem_cons.mpr ⟨⟨zmo_121, (zt4 175 rfl rfl), (zt4 177 rfl rfl), (zts 40 rfl), by decide +kernel⟩, (List.forall_mem_cons.mpr ⟨⟨zmo_96, (zt4 206 rfl rfl), (zt4 207 rfl rfl), by decide +kernel⟩, (List.forall_mem_cons.mpr ⟨⟨zmo_97, (zt4 215 rfl rfl), (zt4 217 rfl rfl), (zts 46 rfl), by decide +kernel⟩, (List.forall_mem_cons.mpr ⟨⟨zmo_98, (zt4 232 rfl rfl), (zt4 234 rfl rfl), (zts 48 rfl), by decide +kernel⟩, (List.forall_mem_cons.mpr ⟨⟨zmo_111, (zt4 236 rfl rfl), (zt4 238 rfl rfl), (zts 49 rfl), by decide +kernel⟩, (List.forall_mem_cons.mpr ⟨⟨zmo_99, (zt5 40 rfl rfl), (zt5 42 rfl rfl), (zts 59 rfl), by decide +kernel⟩, (List.forall_mem_cons.mpr ⟨⟨zmo_128, (zt5 63 rfl rfl), (zt5 65 rfl rfl), (zts 63 rfl), by decide +kernel⟩, (List.forall_mem_cons.mpr ⟨⟨zmo_130, (zt5 57 rfl rfl), (zt5 59 rfl rfl), (zts 62 rfl), by decide +kernel⟩, (List.forall_mem_cons.mpr ⟨⟨zmo_129, (zt5 71 rfl rfl), (zt5 73 rfl rfl), (zts 65 rfl), by decide +kernel⟩, (List.forall_mem_cons.mpr ⟨⟨zmo_132, (zt5 75 rfl rfl), (zt5 77 rfl rfl), (zts 66 rfl), by decide +kernel⟩, (List.forall_mem_cons.mpr ⟨⟨zmo_131, (zt5 53 rfl rfl), (zt5 55 rfl rfl), (zts 61 rfl), by decide +kernel⟩, (List.forall_mem_cons.mpr ⟨⟨zmo_133, (zt5 67 rfl rfl), (zt5 69 rfl rfl), (zts 64 rfl), by decide +kernel⟩, (List.forall_mem_cons.mpr ⟨⟨zmo_134, (zt5 49 rfl rfl), (zt5 51 rfl rfl), (zts 60 rfl), by decide +kernel⟩, (List.forall_mem_cons.mpr ⟨⟨zmo_144, (zt5 115 rfl rfl), (zt5 117 rfl rfl), (zts 67 rfl), by decide +kernel⟩, (fun _ h => absurd h List.not_mem_nil)⟩)⟩)⟩)⟩)⟩)⟩)⟩)⟩)⟩)⟩)⟩)⟩)⟩)⟩)⟩)⟩)⟩)⟩)⟩)⟩)⟩)⟩)⟩)⟩)⟩)⟩)⟩)⟩)⟩)⟩)⟩)⟩)⟩)⟩)
theorem zml_ok (c : Nat) (hc : c < 9) : ∀ q ∈ zML c, zcok c q := match c, hc with
  | 0, _ => zml_0
  | 1, _ => zml_1
  | 2, _ => zml_2
  | 3, _ => zml_3
  | 4, _ => zml_4
  | 5, _ => zml_5
  | 6, _ => zml_6
  | 7, _ => zml_7
  | 8, _ => zml_8
  | c + 9, hc => absurd hc (by omega)
theorem zsh_obj : ∀ a, a < zN → (zsh (a : Nat)).1 < 9 → (zsh (a : Nat)).2 = zNf (zsh (a : Nat)).1 := by decide +kernel
theorem zsh_lk : ∀ a, a < zN → ∀ q ∈ zLKc (zsh (a : Nat)).1, ((a : Int), (q.1 : Int), (a : Int) + q.2) ∈ zLKl := by decide +kernel
theorem zlk_tag : ∀ c, c < 9 → ∀ q ∈ zLKc c, ztg c q.1 = 2 := by decide +kernel
def zgty (t : FieldType) : Bool := match t with
  | .int => true
  | .boolean => true
  | .object _ => true
  | .array _ => true
  | _ => false
theorem zty_good : ∀ c, c < 9 → ∀ k, k < zNf c → zgty (zty c k) = true := by decide +kernel
theorem zsh_len : ∀ a, a < zN → (zsh (a : Nat)).2 < 10000 := by decide +kernel
theorem zsh_big {a : Nat} (h : zN ≤ a) : zsh (a : Int) = (99, 0) := by
  unfold zsh
  rw [if_neg (by omega)]
  show zSH.getD (a : Int).toNat (99, 0) = (99, 0)
  rw [Int.toNat_natCast, List.getD_eq_getElem?_getD, List.getElem?_eq_none (show zSH.length ≤ a from h)]
  rfl
end
section
section Z3
variable {p : Program} {l : Launch} {e : Env} {R : Room} {s : State} {mth : MethodId} {args : Array Value} {below : List Frame} {meth : Method} {c : Code} {D : va_G} {ids : Nat → ClassId} {b : Nat} {sa adV : Nat → Nat} {n0 nE d m : Nat} {Q : State → Prop} {pc : Nat} {lv st : List zV} {g : Nat} {w : zW}
variable {H : Heap} {locs : List Loc}
theorem zws_at {g : Nat} {w : zW} {a : Nat} (h : a < g) : (zws ids b sa g w)[a]? = some (b + a, zE ids b sa (zsh a) (w a)) := by
  unfold zws
  rw [List.getElem?_map, List.getElem?_range h]
  rfl
theorem zP_iff {g : Nat} {w : zW} : va_P D vwCl (zws ids b sa g w) H ↔ ∀ a : Nat, a < g → va_at D vwCl (b + a, zE ids b sa (zsh a) (w a)) H := by
  constructor
  · intro h a ha
    exact h a _ (zws_at ha)
  · intro h k q hq
    have hk : k < g := by
      have := (List.getElem?_eq_some_iff.mp hq).1
      simpa [zws] using this
    rw [zws_at hk] at hq
    cases hq
    exact h k hk
theorem zE_obj {sh : Nat × Nat} {f : Int → Int} (h : sh.1 < 9) : zE ids b sa sh f = .inr (sh.1, (List.range sh.2).map (fun j : Nat => zcv b sa (ztg sh.1 j, f j))) := by
  unfold zE
  rw [if_neg (by omega), if_neg (by omega), if_neg (by omega)]
theorem zE_20 {n : Nat} {f : Int → Int} : zE ids b sa (20, n) f = .inl (ids 0, n, .inl (fun j => Int32.ofInt (f j))) := rfl
theorem zE_21 {n : Nat} {f : Int → Int} : zE ids b sa (21, n) f = .inl (ids 1, n, .inr (.inl (fun j => Int64.ofInt (f j)))) := rfl
theorem zE_22 {n : Nat} {f : Int → Int} : zE ids b sa (22, n) f = .inl (ids 2, n, .inl (fun j => Int32.ofInt (f j))) := rfl
theorem zE_congr {sh : Nat × Nat} {f f' : Int → Int} (h : ∀ j : Nat, f j = f' j) : zE ids b sa sh f = zE ids b sa sh f' := by
  unfold zE
  simp only [h]
theorem zup_ne {w : zW} {a i x a' : Int} (h : a' ≠ a) : zup w a i x a' = w a' := by
  funext j
  unfold zup
  rw [if_neg (fun e => h e.1)]
theorem zup_at {w : zW} {a i x : Int} : zup w a i x a i = x := by
  unfold zup
  rw [if_pos ⟨rfl, rfl⟩]
theorem zup_at_ne {w : zW} {a i x j : Int} (h : j ≠ i) : zup w a i x a j = w a j := by
  unfold zup
  rw [if_neg (fun e => h e.2)]
theorem zok.up {g : Nat} {w : zW} {a i x : Int} (h : zok g w) (hx : ∀ (a' j : Nat), (a' : Int) = a → (j : Int) = i → a' < g → j < (zsh a).2 → zin (zkt (zsh a).1 j, x)) : zok g (zup w a i x) := by
  intro a' ha' j hj
  by_cases e : (a' : Int) = a
  · by_cases e2 : (j : Int) = i
    · rw [e, e2, zup_at]
      rw [e] at hj
      exact hx a' j e e2 ha' hj
    · rw [e, zup_at_ne e2, ← e]
      exact h a' ha' j hj
  · rw [zup_ne e]
    exact h a' ha' j hj
/-- a cell of the world is written -/
theorem zRep.put {lk : Bool} {a i x : Int} {k : Nat} {H1 : Heap} (hR : zRep D ids b sa s lk H locs g w) (h0 : 0 ≤ a) (hg : a < g) (hat : va_at D vwCl (b + a.toNat, zE ids b sa (zsh a) (zup w a i x a)) H1) (z : H1.size = H.size) (oq : ∀ q : Nat, q ≠ b + a.toNat → H1[q]? = H[q]?)
    (hok : zok g (zup w a i x)) (hlk : lk = true → zLk (zup w a i x)) : zRep D ids b sa s lk H1 (locs ++ [⟨b + a.toNat, k⟩]) g (zup w a i x) := by
  obtain ⟨hP, h1, h2, h3, h4, h5, h6, h7⟩ := hR
  refine ⟨zP_iff.mpr fun a' ha' => ?_, by rw [z]; exact h1, by rw [z]; exact h2, h3, fun q hq => ?_, fun q hq => ?_, hok, fun e => ⟨(h7 e).1, hlk e⟩⟩
  · by_cases e : (a' : Int) = a
    · subst e
      exact hat
    · rw [zup_ne e]
      exact (zP_iff.mp hP a' ha').kept (oq (b + a') (by omega))
  · rw [oq q (by omega)]
    exact h4 q hq
  · rcases List.mem_append.mp hq with h | h
    · exact h5 q h
    · rw [List.mem_singleton.mp h]
      show b ≤ b + a.toNat
      omega
theorem zidx {i : Int} {n : Nat} (h0 : 0 ≤ i) (h1 : i < n) (hn : n < 10000) : vp_in (Int32.ofInt i) n ∧ (Int32.ofInt i).toNatClampNeg = i.toNat := by
  have e : (Int32.ofInt i).toNatClampNeg = i.toNat := Int32.toNatClampNeg_ofInt_of_le (by omega) (by omega)
  refine ⟨?_, e⟩
  unfold vp_in
  rw [e]
  rintro (h | h)
  · rw [Int32.lt_iff_toInt_lt, zi_to (zin_small (by omega) (by omega))] at h
    rw [Int32.toInt_zero] at h
    omega
  · omega
theorem zsh_n {a : Int} {g : Nat} (h0 : 0 ≤ a) (hg : (zsh a).1 ≠ 99) : a < zN := by
  by_cases h : a < (zN : Int)
  · exact h
  · exfalso
    apply hg
    have : a = ((a.toNat : Nat) : Int) := (Int.toNat_of_nonneg h0).symm
    rw [this, zsh_big (by omega)]
theorem zsh_lt {a : Int} (h0 : 0 ≤ a) (hg : (zsh a).1 ≠ 99) : (zsh a).2 < 10000 := by
  have h := zsh_n (g := 0) h0 hg
  have := zsh_len a.toNat (by omega)
  rwa [Int.toNat_of_nonneg h0] at this
theorem zPat {a : Int} (hR : zRep D ids b sa s (zlm m) H locs g w) (h0 : 0 ≤ a) (hg : a < g) : (zws ids b sa g w)[a.toNat]? = some (b + a.toNat, zE ids b sa (zsh a) (w a)) := by
  rw [zws_at (by omega), Int.toNat_of_nonneg h0]
theorem zok_at {a i : Int} (h : zok g w) (h0 : 0 ≤ a) (hg : a < g) (hi : 0 ≤ i) (hn : i < (zsh a).2) : zin (zkt (zsh a).1 i.toNat, w a i) := by
  have h1 := h a.toNat (by omega) i.toNat (by rw [Int.toNat_of_nonneg h0]; omega)
  rwa [Int.toNat_of_nonneg h0, Int.toNat_of_nonneg hi] at h1
theorem zshE {a : Int} {k : Nat} (h : (zsh a).1 = k) : zsh a = (k, (zsh a).2) := by rw [← h]
theorem z_iaload (C : zCx p R s mth args meth c D ids b sa adV n0 nE d m) {a i v : Int} (h : zald 20 a i g w = some v) (hd : decode (zby m) pc = .ok (.iaload, 1)) (kk : zWW p l e R s mth args below meth c D ids b sa n0 m Q (pc + 1) lv ((0, v) :: st) g w) : zWW p l e R s mth args below meth c D ids b sa n0 m Q pc lv ((0, i) :: (2, a) :: st) g w := by
  unfold zald at h
  split at h
  next hc =>
    cases h
    obtain ⟨h0, hg, hk, hi0, hi1⟩ := hc
    intro H locs ls hR hL hS hn
    obtain ⟨hin, hcl⟩ := zidx hi0 hi1 (zsh_lt h0 (by rw [hk]; decide))
    have he := zPat hR h0 hg
    rw [zshE hk, zE_20] at he
    have hz := zok_at hR.2.2.2.2.2.2.1 h0 hg hi0 hi1
    rw [hk] at hz
    rw [List.map_cons, List.map_cons, zcv_ref h0]
    refine va_iald (i := Int32.ofInt i) C.1 C.2.1 C.2.2.2.2.2.2.2.2.1.1 hR.1 a.toNat 0 he rfl hin hd ?_
    rw [hcl, Int.toNat_of_nonneg hi0]
    exact kk H locs ls hR hL (hS.tail.tail.cons t4 hz) hn
  next => cases h
theorem z_laload (C : zCx p R s mth args meth c D ids b sa adV n0 nE d m) {a i v : Int} (h : zald 21 a i g w = some v) (hd : decode (zby m) pc = .ok (.laload, 1)) (kk : zWW p l e R s mth args below meth c D ids b sa n0 m Q (pc + 1) lv ((1, v) :: st) g w) : zWW p l e R s mth args below meth c D ids b sa n0 m Q pc lv ((0, i) :: (2, a) :: st) g w := by
  unfold zald at h
  split at h
  next hc =>
    cases h
    obtain ⟨h0, hg, hk, hi0, hi1⟩ := hc
    intro H locs ls hR hL hS hn
    obtain ⟨hin, hcl⟩ := zidx hi0 hi1 (zsh_lt h0 (by rw [hk]; decide))
    have he := zPat hR h0 hg
    rw [zshE hk, zE_21] at he
    have hz := zok_at hR.2.2.2.2.2.2.1 h0 hg hi0 hi1
    rw [hk] at hz
    rw [List.map_cons, List.map_cons, zcv_ref h0]
    refine va_lald (i := Int32.ofInt i) C.1 C.2.1 C.2.2.2.2.2.2.2.2.1.1 hR.1 a.toNat 1 he rfl hin hd ?_
    rw [hcl, Int.toNat_of_nonneg hi0]
    exact kk H locs ls hR hL (hS.tail.tail.cons t4 hz) hn
  next => cases h
theorem z_baload (C : zCx p R s mth args meth c D ids b sa adV n0 nE d m) {a i v : Int} (h : zald 22 a i g w = some v) (hd : decode (zby m) pc = .ok (.baload, 1)) (kk : zWW p l e R s mth args below meth c D ids b sa n0 m Q (pc + 1) lv ((0, v) :: st) g w) : zWW p l e R s mth args below meth c D ids b sa n0 m Q pc lv ((0, i) :: (2, a) :: st) g w := by
  unfold zald at h
  split at h
  next hc =>
    cases h
    obtain ⟨h0, hg, hk, hi0, hi1⟩ := hc
    intro H locs ls hR hL hS hn
    obtain ⟨hin, hcl⟩ := zidx hi0 hi1 (zsh_lt h0 (by rw [hk]; decide))
    have he := zPat hR h0 hg
    rw [zshE hk, zE_22] at he
    have hz := zok_at hR.2.2.2.2.2.2.1 h0 hg hi0 hi1
    rw [hk] at hz
    rw [List.map_cons, List.map_cons, zcv_ref h0]
    refine va_zald (i := Int32.ofInt i) C.1 C.2.1 C.2.2.2.2.2.2.2.2.1.1 hR.1 a.toNat 2 he rfl hin hd ?_
    rw [hcl, Int.toNat_of_nonneg hi0]
    exact kk H locs ls hR hL (hS.tail.tail.cons t4 hz) hn
  next => cases h
theorem z_alen (C : zCx p R s mth args meth c D ids b sa adV n0 nE d m) {a : Int} (h : 0 ≤ a ∧ a < g ∧ 20 ≤ (zsh a).1 ∧ (zsh a).1 ≤ 22) (hd : decode (zby m) pc = .ok (.arraylength, 1)) (kk : zWW p l e R s mth args below meth c D ids b sa n0 m Q (pc + 1) lv ((0, ((zsh a).2 : Int)) :: st) g w) : zWW p l e R s mth args below meth c D ids b sa n0 m Q pc lv ((2, a) :: st) g w := by
  obtain ⟨h0, hg, hk1, hk2⟩ := h
  intro H locs ls hR hL hS hn
  have he := zPat hR h0 hg
  have hl := zsh_lt h0 (by omega)
  have k := kk H locs ls hR hL (hS.tail.cons t4 (zin_small (by omega) (by omega))) hn
  have ev : Int32.ofNat (zsh a).2 = Int32.ofInt ((zsh a).2 : Int) := Int32.ofInt_eq_ofNat.symm
  rw [List.map_cons, zcv_ref h0]
  rcases (show (zsh a).1 = 20 ∨ (zsh a).1 = 21 ∨ (zsh a).1 = 22 by omega) with e | e | e
  · rw [zshE e, zE_20] at he
    exact va_alen C.1 C.2.1 C.2.2.2.2.2.2.2.2.1.1 hR.1 a.toNat 0 he rfl ev hd k
  · rw [zshE e, zE_21] at he
    exact va_alen C.1 C.2.1 C.2.2.2.2.2.2.2.2.1.1 hR.1 a.toNat 1 he rfl ev hd k
  · rw [zshE e, zE_22] at he
    exact va_alen C.1 C.2.1 C.2.2.2.2.2.2.2.2.1.1 hR.1 a.toNat 2 he rfl ev hd k
theorem zupI {a i x : Int} (hi0 : 0 ≤ i) : (fun j : Nat => Int32.ofInt (zup w a i x a j)) = upd (fun j : Nat => Int32.ofInt (w a j)) i.toNat (Int32.ofInt x) := by
  funext j
  unfold upd
  by_cases e : j = i.toNat
  · rw [if_pos e, show (j : Int) = i by omega, zup_at]
  · rw [if_neg e, zup_at_ne (by omega)]
theorem zupL {a i x : Int} (hi0 : 0 ≤ i) : (fun j : Nat => Int64.ofInt (zup w a i x a j)) = vp_updL (fun j : Nat => Int64.ofInt (w a j)) i.toNat (Int64.ofInt x) := by
  funext j
  unfold vp_updL
  by_cases e : j = i.toNat
  · rw [if_pos e, show (j : Int) = i by omega, zup_at]
  · rw [if_neg e, zup_at_ne (by omega)]
theorem zLKl_obj : ∀ q ∈ zLKl, (zsh q.1).1 < 9 := by decide +kernel
theorem zLk.arr {a i x : Int} (h : zLk w) (hk : 9 ≤ (zsh a).1) : zLk (zup w a i x) := by
  intro q hq
  have := zLKl_obj q hq
  rw [zup_ne (fun e => by rw [e] at this; omega)]
  exact h q hq
theorem updV_int (f : Nat → Int32) (k : Nat) (x : Int32) : updV (fun j => Value.int (f j)) k (.int x) = fun j => .int (upd f k x j) := by
  funext j
  unfold updV upd
  split <;> rfl
theorem updV_long (f : Nat → Int64) (k : Nat) (x : Int64) : updV (fun j => Value.long (f j)) k (.long x) = fun j => .long (vp_updL f k x j) := by
  funext j
  unfold updV vp_updL
  split <;> rfl
theorem z_iastore (C : zCx p R s mth args meth c D ids b sa adV n0 nE d m) {a i x : Int} {w' : zW} (h : zast 20 a i x g w = some w') (hd : decode (zby m) pc = .ok (.iastore, 1)) (kk : zWW p l e R s mth args below meth c D ids b sa n0 m Q (pc + 1) lv st g w') : zWW p l e R s mth args below meth c D ids b sa n0 m Q pc lv ((0, x) :: (0, i) :: (2, a) :: st) g w := by
  unfold zast at h
  split at h
  next hc =>
    cases h
    obtain ⟨h0, hg, hk, hi0, hi1⟩ := hc
    intro H locs ls hR hL hS hn
    obtain ⟨hin, hcl⟩ := zidx hi0 hi1 (zsh_lt h0 (by rw [hk]; decide))
    have he := hR.1 _ _ (zPat hR h0 hg)
    rw [zshE hk, zE_20] at he
    rw [List.map_cons, List.map_cons, List.map_cons, zcv_ref h0]
    refine W.iast (x := Int32.ofInt x) (j := Int32.ofInt i) C.1 C.2.1 he ((C.2.2.2.2.2.2.2.2.1.1.2 0 _ rfl).1 (zsh a).2 (fun j : Nat => .int (Int32.ofInt (w a j)))) (fun q => by cases q) (by show ¬ (_ < 0 ∨ (arrV _ _ _).slots.size ≤ _); rw [arrV_size]; exact hin) rfl rfl hd fun H1 e z oq => ?_
    refine kk H1 _ ls (hR.put h0 hg ?_ z oq (hR.2.2.2.2.2.2.1.up fun a' j e1 e2 _ _ => by rw [hk]; exact hS.head) (fun e => ((hR.2.2.2.2.2.2.2 e).2).arr (by omega))) hL hS.tail.tail.tail hn
    rw [zshE hk, zE_20, zupI hi0]
    show H1[_]? = some (vp_cell _ _)
    rw [e, hcl, vp_cell_i, vp_cell_i, arrV_store, updV_int]
  next => cases h
theorem z_lastore (C : zCx p R s mth args meth c D ids b sa adV n0 nE d m) {a i x : Int} {w' : zW} (h : zast 21 a i x g w = some w') (hd : decode (zby m) pc = .ok (.lastore, 1)) (kk : zWW p l e R s mth args below meth c D ids b sa n0 m Q (pc + 1) lv st g w') : zWW p l e R s mth args below meth c D ids b sa n0 m Q pc lv ((1, x) :: (0, i) :: (2, a) :: st) g w := by
  unfold zast at h
  split at h
  next hc =>
    cases h
    obtain ⟨h0, hg, hk, hi0, hi1⟩ := hc
    intro H locs ls hR hL hS hn
    obtain ⟨hin, hcl⟩ := zidx hi0 hi1 (zsh_lt h0 (by rw [hk]; decide))
    have he := hR.1 _ _ (zPat hR h0 hg)
    rw [zshE hk, zE_21] at he
    rw [List.map_cons, List.map_cons, List.map_cons, zcv_ref h0]
    refine W.last (x := Int64.ofInt x) (j := Int32.ofInt i) C.1 C.2.1 he ((C.2.2.2.2.2.2.2.2.1.1.2 1 _ rfl).1 (zsh a).2 (fun j : Nat => .long (Int64.ofInt (w a j)))) (fun q => by cases q) (by show ¬ (_ < 0 ∨ (arrV _ _ _).slots.size ≤ _); rw [arrV_size]; exact hin) rfl rfl hd fun H1 e z oq => ?_
    refine kk H1 _ ls (hR.put h0 hg ?_ z oq (hR.2.2.2.2.2.2.1.up fun a' j e1 e2 _ _ => by rw [hk]; exact hS.head) (fun e => ((hR.2.2.2.2.2.2.2 e).2).arr (by omega))) hL hS.tail.tail.tail hn
    rw [zshE hk, zE_21, zupL hi0]
    show H1[_]? = some (vp_cell _ _)
    rw [e, hcl, vp_cell_l, vp_cell_l, arrV_store, updV_long]
  next => cases h
theorem znar_bool {x : Int} (hx : x = 0 ∨ x = 1) : narrow .boolean (.int (Int32.ofInt x)) = .int (Int32.ofInt x) ∧ fits .boolean (.int (Int32.ofInt x)) = true := by
  rcases hx with rfl | rfl <;> exact ⟨by decide, by decide⟩
theorem z_bastore (C : zCx p R s mth args meth c D ids b sa adV n0 nE d m) {a i x : Int} {w' : zW} (hx : x = 0 ∨ x = 1) (h : zast 22 a i x g w = some w') (hd : decode (zby m) pc = .ok (.bastore, 1)) (kk : zWW p l e R s mth args below meth c D ids b sa n0 m Q (pc + 1) lv st g w') : zWW p l e R s mth args below meth c D ids b sa n0 m Q pc lv ((0, x) :: (0, i) :: (2, a) :: st) g w := by
  unfold zast at h
  split at h
  next hc =>
    cases h
    obtain ⟨h0, hg, hk, hi0, hi1⟩ := hc
    intro H locs ls hR hL hS hn
    obtain ⟨hin, hcl⟩ := zidx hi0 hi1 (zsh_lt h0 (by rw [hk]; decide))
    have he := hR.1 _ _ (zPat hR h0 hg)
    rw [zshE hk, zE_22] at he
    rw [List.map_cons, List.map_cons, List.map_cons, zcv_ref h0]
    refine W.zast (x := Int32.ofInt x) (j := Int32.ofInt i) C.1 C.2.1 he ((C.2.2.2.2.2.2.2.2.1.1.2 2 _ rfl).1 (zsh a).2 (fun j : Nat => .int (Int32.ofInt (w a j)))) (fun q => by cases q) (by show ¬ (_ < 0 ∨ (arrV _ _ _).slots.size ≤ _); rw [arrV_size]; exact hin) rfl rfl hd fun H1 e z oq => ?_
    refine kk H1 _ ls (hR.put h0 hg ?_ z oq (hR.2.2.2.2.2.2.1.up fun a' j e1 e2 _ _ => by rw [hk]; exact hS.head) (fun e => ((hR.2.2.2.2.2.2.2 e).2).arr (by omega))) hL hS.tail.tail.tail hn
    rw [zshE hk, zE_22, zupI hi0]
    show H1[_]? = some (vp_cell _ _)
    rw [e, hcl, (znar_bool hx).1, vp_cell_i, vp_cell_i, arrV_store, updV_int]
  next => cases h
end Z3
end
section
section Z4
variable {p : Program} {l : Launch} {e : Env} {R : Room} {s : State} {mth : MethodId} {args : Array Value} {below : List Frame} {meth : Method} {c : Code} {D : va_G} {ids : Nat → ClassId} {b : Nat} {sa adV : Nat → Nat} {n0 nE d m : Nat} {Q : State → Prop} {pc : Nat} {lv st : List zV} {g : Nat} {w : zW}
variable {H : Heap} {locs : List Loc}
theorem zS_of (hR : zRep D ids b sa s (zlm m) H locs g w) : va_S (fun q => b ≤ q) s.heap H locs := ⟨hR.2.2.1, fun q _ h => hR.2.2.2.2.1 q (Nat.not_le.mp h), hR.2.2.2.2.2.1⟩
theorem zcn_lt (h : (zsh (0 : Int)).1 = 0 ∨ True) {k : Nat} {q : Nat × Nat} (hl : (zFL (zcn m)).lookup k = some q) : zcn m < 9 := by
  by_cases hc : zcn m < 9
  · exact hc
  · exfalso
    have : zFL (zcn m) = [] := by
      unfold zFL
      split <;> first | omega | rfl
    rw [this] at hl
    cases hl
theorem zobj {a : Int} {f : Nat} {cc : Nat} (h0 : 0 ≤ a) (hk : (zsh a).1 = cc) (hc : cc < 9) : (zsh a).2 = zNf cc := by
  have h := zsh_n (g := 0) h0 (by omega)
  have := zsh_obj a.toNat (by omega)
  rw [Int.toNat_of_nonneg h0, hk] at this
  exact this hc
theorem zfs_at {a : Int} {f n cc : Nat} (hf : f < n) : ((List.range n).map (fun j : Nat => zcv b sa (ztg cc j, w a j)))[f]? = some (zcv b sa (ztg cc f, w a f)) := by
  rw [List.getElem?_map, List.getElem?_range hf]
  rfl
theorem zkt_obj {cc j : Nat} (h : cc < 9) : zkt cc j = ztg cc j := by
  unfold zkt
  rw [if_neg (by omega), if_neg (by omega)]
theorem ztg4 (cc j : Nat) : ztg cc j < 4 := by
  unfold ztg
  split <;> decide
theorem z_getf (C : zCx p R s mth args meth c D ids b sa adV n0 nE d m) {a : Int} {k : Nat} {v : zV} (h : zget m k a g w = some v) (hd : decode (zby m) pc = .ok (.getfield k, 3)) (kk : zWW p l e R s mth args below meth c D ids b sa n0 m Q (pc + 3) lv (v :: st) g w) : zWW p l e R s mth args below meth c D ids b sa n0 m Q pc lv ((2, a) :: st) g w := by
  unfold zget at h
  split at h
  next => cases h
  next cc f hl =>
    split at h
    next hc =>
      obtain ⟨h0, hg, hk, hf⟩ := hc
      intro H locs ls hR hL hS hn
      have hcm := zcn_lt (Or.inr trivial) hl
      obtain ⟨hw, hc9'⟩ := zfl_ok (zcn m) hcm _ (z_look hl)
      have hc9 : cc < 9 := hc9'
      have hn2 := zobj (f := f) h0 hk hc9
      have he := zPat hR h0 hg
      rw [zE_obj (by omega), hk, hn2] at he
      have hz := zok_at hR.2.2.2.2.2.2.1 h0 hg (i := f) (by omega) (by omega)
      rw [hk, Int.toNat_natCast, zkt_obj hc9] at hz
      have hv : v = (ztg cc f, w a f) := by
        split at h
        next o hlm hlo =>
          cases h
          have h2 := hR.2.2.2.2.2.2.2 hlm
          have hN := zsh_n (g := 0) h0 (by rw [hk]; omega)
          have hm := z_look hlo
          have h3 := zsh_lk a.toNat (by omega) (f, o) (by rw [Int.toNat_of_nonneg h0, hk]; exact hm)
          have h4 := h2.2 _ h3
          rw [Int.toNat_of_nonneg h0] at h4
          rw [zlk_tag cc hc9 (f, o) hm, h4]
        next => cases h; rfl
      subst hv
      rw [List.map_cons, zcv_ref h0]
      exact va_get C.1 C.2.1 (own := zRn (zcn m)) (ref := (zTt cc f).1) (C := zRn cc) (T := zTt cc) (N := zNf cc) (ci := cc) (index := k) C.2.2.2.2.2.2.2.1 (zuw_ok cc hc9) C.2.2.2.2.2.1 C.2.2.2.2.2.2.2.2.1.1 hR.1 a.toNat he (zcl_at cc hc9) f hf (C.2.2.2.2.2.2.2.1 _ hw) (fun _ h9 => h9) (zfs_at hf) hd
        (kk H locs ls hR hL (hS.tail.cons (ztg4 cc f) hz) hn)
    next => cases h
theorem zfit {cc f : Nat} {v : zV} (hc : cc < 9) (hf : f < zNf cc) (ht : ztg cc f = v.1) (hb : zty cc f = .boolean → v.2 = 0 ∨ v.2 = 1) : narrow (zty cc f) (zcv b sa v) = zcv b sa v ∧ fits (zty cc f) (zcv b sa v) = true := by
  have hg := zty_good cc hc f hf
  obtain ⟨t, x⟩ := v
  unfold ztg at ht
  cases hty : zty cc f with
  | int =>
    rw [hty] at ht
    cases ht
    exact ⟨rfl, rfl⟩
  | boolean =>
    rw [hty] at ht
    cases ht
    exact znar_bool (hb hty)
  | object nm =>
    rw [hty] at ht
    cases ht
    by_cases h0 : x < 0
    · have : zcv b sa (2, x) = .null := if_pos h0
      rw [this]
      exact ⟨rfl, rfl⟩
    · rw [zcv_ref (by omega)]
      exact ⟨rfl, rfl⟩
  | array t =>
    rw [hty] at ht
    cases ht
    by_cases h0 : x < 0
    · have : zcv b sa (2, x) = .null := if_pos h0
      rw [this]
      exact ⟨rfl, rfl⟩
    · rw [zcv_ref (by omega)]
      exact ⟨rfl, rfl⟩
  | _ => rw [hty] at hg; cases hg
theorem zvV {a x : Int} {f cc n : Nat} (hf : f < n) (j : Nat) (hj : j < n) : updV (vp_V ((List.range n).map (fun j : Nat => zcv b sa (ztg cc j, w a j)))) f (zcv b sa (ztg cc f, x)) j = vp_V ((List.range n).map (fun j : Nat => zcv b sa (ztg cc j, zup w a f x a j))) j := by
  unfold updV vp_V
  rw [List.getD_eq_getElem?_getD, List.getD_eq_getElem?_getD, List.getElem?_map, List.getElem?_map, List.getElem?_range hj]
  by_cases e : j = f
  · rw [if_pos e, e]
    show _ = zcv b sa (ztg cc f, zup w a f x a f)
    rw [zup_at]
  · rw [if_neg e]
    show zcv b sa (ztg cc j, w a j) = zcv b sa (ztg cc j, zup w a f x a j)
    rw [zup_at_ne (by omega)]
theorem zLKl_lk : ∀ q ∈ zLKl, ∃ f o, zlk (zsh q.1).1 f = some o ∧ q.2.1 = (f : Int) := by
  have h : ∀ q ∈ zLKl, ((zlk (zsh q.1).1 q.2.1.toNat).isSome && decide (0 ≤ q.2.1)) = true := by decide +kernel
  intro q hq
  have h1 := h q hq
  simp only [Bool.and_eq_true, decide_eq_true_eq] at h1
  obtain ⟨o, ho⟩ := Option.isSome_iff_exists.mp h1.1
  exact ⟨q.2.1.toNat, o, ho, (Int.toNat_of_nonneg h1.2).symm⟩
theorem zLk.fld {a x : Int} {f cc : Nat} (h : zLk w) (hk : (zsh a).1 = cc) (hl : zlk cc f = none) : zLk (zup w a f x) := by
  intro q hq
  by_cases e : q.1 = a
  · obtain ⟨f', o, h1, h2⟩ := zLKl_lk q hq
    rw [e, zup_at_ne, ← e]
    · exact h q hq
    · intro e2
      rw [h2] at e2
      rw [e, hk, show f' = f by omega, hl] at h1
      cases h1
  · rw [zup_ne e]
    exact h q hq
theorem z_putf (C : zCx p R s mth args meth c D ids b sa adV n0 nE d m) {a : Int} {k : Nat} {v : zV} {w' : zW} (h : zput m k a v g w = some w') (hd : decode (zby m) pc = .ok (.putfield k, 3)) (kk : zWW p l e R s mth args below meth c D ids b sa n0 m Q (pc + 3) lv st g w') : zWW p l e R s mth args below meth c D ids b sa n0 m Q pc lv (v :: (2, a) :: st) g w := by
  unfold zput at h
  split at h
  next => cases h
  next cc f hl =>
    split at h
    next hc =>
      obtain ⟨h0, hg, hk, hf, ht, hbo, hlm, hfi⟩ := hc
      cases h
      intro H locs ls hR hL hS hn
      have hcm := zcn_lt (Or.inr trivial) hl
      obtain ⟨hw, hc9'⟩ := zfl_ok (zcn m) hcm _ (z_look hl)
      have hc9 : cc < 9 := hc9'
      have hn2 := zobj (f := f) h0 hk hc9
      have he := hR.1 _ _ (zPat hR h0 hg)
      rw [zE_obj (by omega), hk, hn2] at he
      obtain ⟨hnar, hfit⟩ := zfit (b := b) (sa := sa) hc9 hf ht hbo
      have hts := C.2.2.2.2.2.2.2.1
      have hown := C.2.2.2.2.2.1
      have hK := C.2.2.2.2.2.2.2.2.1.1
      have hcl := zcl_at cc hc9
      have hin := zuw_ok cc hc9
      have hd0 := zty_ok cc hc9 f hf
      have hap := va_apart (own := zRn (zcn m)) (C := zRn cc) (T := zTt cc) (N := zNf cc) (ci := cc) hts hin (zty cc) (zty_ok cc hc9) (znm_ok cc hc9) hK hcl
      obtain ⟨r, h1, cell, q1, q2, q3, q4⟩ := he
      have hr : r = (zRn cc, zTt cc, zNf cc) := Option.some.inj (h1.symm.trans hcl)
      subst hr
      obtain ⟨hS9, hfc, kC, hkC, hkind⟩ := hK.1 cc _ hcl
      obtain ⟨cf, kf, fi, fd, hi, hsl⟩ := hS9 f hf
      have hlay := hts _ (hin _ (u_in_lay hf))
      have hst := (u_facts hfc hkC (u_lays hts hin hf) hi).1
      have ev : v = (ztg cc f, v.2) := by rw [ht]
      have next : ∀ H' : Heap, H'[b + a.toNat]? = some (cell.setSlot fd.slot (zcv b sa v)) → H'.size = H.size → (∀ q : Nat, q ≠ b + a.toNat → H'[q]? = H[q]?) → W p l e R s mth args below meth c H' (locs ++ [⟨b + a.toNat, fd.slot⟩]) (g - n0) (zsum g - zsum n0) Q (F0 mth (pc + 3) ls (st.map (zcv b sa))) := by
        intro H' e1 e2 e3
        refine kk H' _ ls (hR.put h0 hg ?_ e2 e3 (hR.2.2.2.2.2.2.1.up fun a' j e1 e2 _ hj => ?_) (fun e => ((hR.2.2.2.2.2.2.2 e).2).fld hk (hlm e))) hL hS.tail.tail hn
        · rw [zE_obj (by omega), hk, hn2]
          refine ⟨_, hcl, t_OB.to (V := updV (vp_V ((List.range (zNf cc)).map (fun j : Nat => zcv b sa (ztg cc j, w a j)))) f (zcv b sa v)) ⟨_, e1, q2, q3, ?_⟩ (fun j hj => ?_)⟩
          · rw [hsl]
            exact t_set q4 hap hf _
          · rw [ev]
            exact zvV hf j hj
        · have ej : j = f := by omega
          rw [hk, ej, zkt_obj hc9, ht]
          exact hS.head
      rw [List.map_cons, List.map_cons, zcv_ref h0]
      by_cases hfin : (zTt cc f).2.2.2 = true
      · unfold u_lay at hlay
        rw [if_pos hfin] at hlay
        obtain ⟨hl0, hcm2, hnm⟩ := hfi hfin
        have hcf : mth.cls = cf := by
          obtain ⟨_, _, c', _, _, _, -, -, hf', -, -, -, hown2, -⟩ := Cond.laysFinal_spec hlay
          have e1 : c' = cf := by have := hi.symm.trans hf'; simp at this; exact this.1.symm
          have hdecl : (zTt cc f).1 = zRn (zcn m) := by
            have : ∀ cc, cc < 9 → ∀ f, f < zNf cc → (zTt cc f).1 = zRn cc := by decide +kernel
            rw [this cc hc9 f hf, hcm2]
          rw [hdecl] at hown2
          rw [← e1]; exact Option.some.inj (hown.symm.trans hown2)
        have h6 := u_fits (v := zcv b sa v) hfc hkC hkind (Or.inr hlay) hi hd0 hnar hfit
        exact W.putFinK C.1 C.2.1 hown (hts _ hw) hi hst hcf (by rw [C.2.2.2.2.2.2.1]; exact hnm) (by rw [q2]; exact h6) q1 q3 (by rw [hsl]; exact k2_hasslot (q4 f hf)) rfl rfl hd (fun H' e1 e2 e3 => next H' e1 e2 e3)
      · unfold u_lay at hlay
        rw [if_neg hfin] at hlay
        have h6 := u_store (v := zcv b sa v) hfc hkC hkind hlay hi hd0 hnar hfit
        exact W.putK C.1 C.2.1 (f := fd) ⟨hown, hts _ hw, ⟨_, _, _, hi⟩, hst⟩ (by rw [q2]; exact h6) q1 q3 (by rw [hsl]; exact k2_hasslot (q4 f hf)) rfl rfl hd (fun H' e1 e2 e3 => next H' e1 e2 e3)
    next => cases h
end Z4
end
section
theorem zsum_succ (g : Nat) : zsum (g + 1) = zsum g + (zsh (g : Int)).2 := by
  unfold zsum
  rw [List.range_succ, List.map_append, List.sum_append]
  simp
theorem zsum_le {a b : Nat} (h : a ≤ b) : zsum a ≤ zsum b := by
  induction h with
  | refl => exact Nat.le_refl _
  | step _ ih => rw [Nat.succ_eq_add_one, zsum_succ]; omega
def zrv (b : Nat) (sa : Nat → Nat) (v : zV) : Option Value := if v.1 = 9 then none else some (zcv b sa v)
def zQc (D : va_G) (ids : Nat → ClassId) (b : Nat) (sa : Nat → Nat) (lk : Bool) (r : zR) : Array Value → State → Outcome → State → Prop := fun _ st oc t =>
  oc = .returned (zrv b sa r.1) ∧ va_P D vwCl (zws ids b sa r.2.1 r.2.2) t.heap ∧ t.heap.size = b + r.2.1 ∧ st.heap.size ≤ t.heap.size ∧ (∀ q : Nat, q < b → t.heap[q]? = st.heap[q]?) ∧ zok r.2.1 r.2.2 ∧ (lk = true → r.2.1 = zN ∧ zLk r.2.2) ∧ (r.1.1 = 9 ∨ (r.1.1 < 4 ∧ zin r.1))
section Z5
variable {p : Program} {l : Launch} {e : Env} {R : Room} {s : State} {mth : MethodId} {args : Array Value} {below : List Frame} {meth : Method} {c : Code} {D : va_G} {ids : Nat → ClassId} {b : Nat} {sa adV : Nat → Nat} {n0 nE d m : Nat} {Q : State → Prop} {pc : Nat} {lv st : List zV} {g : Nat} {w : zW}
variable {H : Heap} {locs : List Loc}
theorem z_newo (C : zCx p R s mth args meth c D ids b sa adV n0 nE d m) {k c' : Nat} (hl : (zCL (zcn m)).lookup k = some c') (hc : zlm m = false ∧ c' < 9 ∧ zsh g = (c', zNf c')) (hge : g + 1 ≤ nE) (hd : decode (zby m) pc = .ok (.new k, 3))
    (kk : zWW p l e R s mth args below meth c D ids b sa n0 m Q (pc + 3) lv ((2, (g : Int)) :: st) (g + 1) (zblank w g (fun j => if ztg c' j.toNat = 2 then -1 else 0))) : zWW p l e R s mth args below meth c D ids b sa n0 m Q pc lv st g w := by
  obtain ⟨hlm, hc9, hsh⟩ := hc
  intro H locs ls hR hL hS hn
  have hcm : zcn m < 9 := by
    by_cases hc : zcn m < 9
    · exact hc
    · exfalso
      have : zCL (zcn m) = [] := by
        unfold zCL
        split <;> first | omega | rfl
      rw [this] at hl
      cases hl
  obtain ⟨w1, w2, w3⟩ := zcl_ok (zcn m) hcm _ (z_look hl)
  have hts := C.2.2.2.2.2.2.2.1
  have hK := C.2.2.2.2.2.2.2.2.1.1
  have hKn := hK.1 c' _ (zcl_at c' hc9)
  have hs1 := zsum_succ g
  rw [hsh] at hs1
  have hs2 := zsum_le hn
  have hs3 := zsum_le hge
  have hs1' : zsum (g + 1) = zsum g + zNf c' := hs1
  have hRc := C.2.2.2.2.2.2.2.2.2.2.2.1
  have hRs := C.2.2.2.2.2.2.2.2.2.2.2.2
  refine W.newcK (n := zNf c') C.1 C.2.1 C.2.2.2.2.2.1 (hts _ w1) (hts _ w2) (hts _ w3) rfl hd (by rw [hRc]; omega) (by rw [hRs]; omega) hKn.2.1 hR.2.1 fun H1 kC hkC e1 z1 o1 => ?_
  have e2 : g - n0 + 1 = (g + 1) - n0 := by omega
  have e3 : zsum g - zsum n0 + zNf c' = zsum (g + 1) - zsum n0 := by omega
  rw [e2, e3]
  have hlt : ∀ a : Nat, a < g → H1[b + a]? = H[b + a]? := fun a ha => o1 (b + a) (by omega)
  have k := kk H1 locs ls ⟨zP_iff.mpr fun a' ha' => ?_, by rw [z1]; omega, by rw [z1]; have := hR.2.2.1; have := hR.2.1; omega, hR.2.2.2.1, fun q hq => (o1 q (by omega)).trans (hR.2.2.2.2.1 q hq), hR.2.2.2.2.2.1, ?_, fun e => by rw [hlm] at e; cases e⟩ hL (hS.cons t4 trivial) (by omega)
  · rw [List.map_cons, zcv_ref (by omega), Int.toNat_natCast] at k
    exact k
  · by_cases e : a' = g
    · subst e
      have eb : (zblank w a' (fun j => if ztg c' j.toNat = 2 then -1 else 0)) a' = fun j : Int => if ztg c' j.toNat = 2 then -1 else 0 := by
        funext j
        unfold zblank
        rw [if_pos rfl]
      rw [eb, hsh, zE_obj hc9]
      refine ⟨_, zcl_at c' hc9, (u_born (zty c') hts (zuw_ok c' hc9) hKn hkC e1 (zty_ok c' hc9)).to fun j hj => ?_⟩
      have hj' : j < zNf c' := hj
      unfold vp_V
      rw [List.getD_eq_getElem?_getD, List.getElem?_map, List.getElem?_range hj']
      show defaultValue (zty c' j) = zcv b sa (ztg c' j, if ztg c' ((j : Nat) : Int).toNat = 2 then -1 else 0)
      have hg := zty_good c' hc9 j hj'
      rw [Int.toNat_natCast]
      unfold ztg
      cases hty : zty c' j with
      | int => rfl
      | boolean => rfl
      | object nm => rfl
      | array t => rfl
      | _ => rw [hty] at hg; cases hg
    · have eb : (zblank w g (fun j => if ztg c' j.toNat = 2 then -1 else 0)) a' = w a' := by
        funext j
        unfold zblank
        rw [if_neg (by omega)]
      rw [eb]
      exact (zP_iff.mp hR.1 a' (by omega)).kept (hlt a' (by omega))
  · intro a' ha' j hj
    unfold zblank
    by_cases e : a' = g
    · rw [if_pos (by omega)]
      dsimp only
      split <;> exact zin_small (by decide) (by decide)
    · rw [if_neg (by omega)]
      exact hR.2.2.2.2.2.2.1 a' (by omega) j hj
theorem z_newarr (C : zCx p R s mth args meth c D ids b sa adV n0 nE d m) {t : Jvm.ClassFile.ArrayType} {x : Int} {kd : Nat} (hkd : kd = znk t) (hc : zlm m = false ∧ 0 ≤ x ∧ zsh g = (kd, x.toNat)) (hge : g + 1 ≤ nE) (hd : decode (zby m) pc = .ok (.newarray t, 2))
    (kk : zWW p l e R s mth args below meth c D ids b sa n0 m Q (pc + 2) lv ((2, (g : Int)) :: st) (g + 1) (zblank w g (fun _ => 0))) : zWW p l e R s mth args below meth c D ids b sa n0 m Q pc lv ((0, x) :: st) g w := by
  obtain ⟨hlm, h0, hsh⟩ := hc
  intro H locs ls hR hL hS hn
  have hgN : g < zN := by
    by_cases h : g < zN
    · exact h
    · exfalso
      rw [zsh_big (by omega)] at hsh
      have : kd = 99 := (Prod.mk.inj hsh).1.symm
      rw [this] at hkd
      cases t <;> cases hkd
  have hx := zsh_len g hgN
  rw [hsh] at hx
  have hx' : x.toNat < 10000 := hx
  have hts := C.2.2.2.2.2.2.2.1
  have hK := C.2.2.2.2.2.2.2.2.1.1
  have hs1 := zsum_succ g
  rw [hsh] at hs1
  have hs2 := zsum_le hn
  have hs3 := zsum_le hge
  have hs1' : zsum (g + 1) = zsum g + x.toNat := hs1
  have hRc := C.2.2.2.2.2.2.2.2.2.2.2.1
  have hRs := C.2.2.2.2.2.2.2.2.2.2.2.2
  have hxn : (Int32.ofInt x).toNatClampNeg = x.toNat := Int32.toNatClampNeg_ofInt_of_le (by omega) (by omega)
  have hx0 : ¬ Int32.ofInt x < 0 := by
    rw [Int32.lt_iff_toInt_lt, zi_to (zin_small (by omega) (by omega)), Int32.toInt_zero]
    omega
  have hlt : ∀ (H1 : Heap), (∀ q : Nat, q < b + g → H1[q]? = H[q]?) → ∀ a : Nat, a < g → H1[b + a]? = H[b + a]? := fun H1 o1 a ha => o1 (b + a) (by omega)
  have eg : (zblank w g (fun _ => 0)) g = fun _ : Int => (0 : Int) := by
    funext j
    unfold zblank
    rw [if_pos rfl]
  have fin : ∀ H1 : Heap, H1.size = b + g + 1 → (∀ q : Nat, q < b + g → H1[q]? = H[q]?) → va_at D vwCl (b + g, zE ids b sa (kd, x.toNat) (fun _ => 0)) H1 → W p l e R s mth args below meth c H1 locs (g - n0 + 1) (zsum g - zsum n0 + x.toNat) Q (F0 mth (pc + 2) ls (.ref (b + g) :: st.map (zcv b sa))) := by
    intro H1 z1 o1 hat
    have e2 : g - n0 + 1 = (g + 1) - n0 := by omega
    have e3 : zsum g - zsum n0 + x.toNat = zsum (g + 1) - zsum n0 := by omega
    rw [e2, e3]
    have k := kk H1 locs ls ⟨zP_iff.mpr fun a' ha' => ?_, by rw [z1]; omega, by rw [z1]; have := hR.2.2.1; have := hR.2.1; omega, hR.2.2.2.1, fun q hq => (o1 q (by omega)).trans (hR.2.2.2.2.1 q hq), hR.2.2.2.2.2.1, ?_, fun e => by rw [hlm] at e; cases e⟩ hL (hS.tail.cons t4 trivial) (by omega)
    · rw [List.map_cons, zcv_ref (by omega), Int.toNat_natCast] at k
      exact k
    · by_cases e : a' = g
      · rw [e, eg, hsh]
        exact hat
      · have eb : (zblank w g (fun _ => 0)) a' = w a' := by
          funext j
          unfold zblank
          rw [if_neg (by omega)]
        rw [eb]
        exact (zP_iff.mp hR.1 a' (by omega)).kept (hlt H1 o1 a' (by omega))
    · intro a' ha' j hj
      unfold zblank
      by_cases e : a' = g
      · rw [if_pos (by omega)]
        dsimp only
        exact zin_small (by decide) (by decide)
      · rw [if_neg (by omega)]
        exact hR.2.2.2.2.2.2.1 a' (by omega) j hj
  rw [List.map_cons]
  have hcell : g - n0 + 1 ≤ R.cells := by rw [hRc]; omega
  have hslot : zsum g - zsum n0 + x.toNat ≤ R.slots := by rw [hRs]; omega
  cases t with
  | int =>
    refine va_newaK (atype := .int) (n := Int32.ofInt x) (N := x.toNat) C.1 C.2.1 (hts _ (zt1 60 rfl rfl)) rfl hd rfl hx0 hxn (by show x.toNat * 4 ≤ _; omega) hcell hslot hR.2.1 fun H1 cA e1 z1 o1 hA hNm => fin H1 z1 o1 ?_
    have hid : s.vm.findClass ("[" ++ (FieldType.int).toString) = some (ids 0) := (hK.2 0 _ rfl).2
    cases hNm.symm.trans hid
    subst hkd
    exact e1
  | long =>
    refine va_newaK (atype := .long) (n := Int32.ofInt x) (N := x.toNat) C.1 C.2.1 (hts _ (zt1 160 rfl rfl)) rfl hd rfl hx0 hxn (by show x.toNat * 8 ≤ _; omega) hcell hslot hR.2.1 fun H1 cA e1 z1 o1 hA hNm => fin H1 z1 o1 ?_
    have hid : s.vm.findClass ("[" ++ (FieldType.long).toString) = some (ids 1) := (hK.2 1 _ rfl).2
    cases hNm.symm.trans hid
    subst hkd
    exact e1
  | boolean =>
    refine va_newaK (atype := .boolean) (n := Int32.ofInt x) (N := x.toNat) C.1 C.2.1 (hts _ (zt1 161 rfl rfl)) rfl hd rfl hx0 hxn (by show x.toNat * 1 ≤ _; omega) hcell hslot hR.2.1 fun H1 cA e1 z1 o1 hA hNm => fin H1 z1 o1 ?_
    have hid : s.vm.findClass ("[" ++ (FieldType.boolean).toString) = some (ids 2) := (hK.2 2 _ rfl).2
    cases hNm.symm.trans hid
    subst hkd
    exact e1
  | _ =>
    exfalso
    have h98 : kd = 98 := hkd
    rw [h98] at hsh
    have : ∀ a, a < zN → (zsh (a : Nat)).1 ≠ 98 := by decide +kernel
    exact this g hgN (by rw [hsh])
theorem z_ldc2 (C : zCx p R s mth args meth c D ids b sa adV n0 nE d m) {k : Nat} {v : Int} (hl : (zKL (zcn m)).lookup k = some v) (hd : decode (zby m) pc = .ok (.ldc2_w k, 3)) (kk : zWW p l e R s mth args below meth c D ids b sa n0 m Q (pc + 3) lv ((1, v) :: st) g w) : zWW p l e R s mth args below meth c D ids b sa n0 m Q pc lv st g w := by
  have hcm : zcn m < 9 := by
    by_cases hc : zcn m < 9
    · exact hc
    · exfalso
      have : zKL (zcn m) = [] := by
        unfold zKL
        split <;> first | omega | rfl
      rw [this] at hl
      cases hl
  obtain ⟨w1, w2⟩ := zkl_ok (zcn m) hcm _ (z_look hl)
  exact z_pure (fun H locs ls cells slots hL hS k => lv_ldc2 (v := Int64.ofInt v) C.1 C.2.1 C.2.2.2.2.2.1 (C.2.2.2.2.2.2.2.1 _ w1) hd k) (fun h _ => h.cons t4 w2) kk
theorem zSL_ok : ∀ c, c < 10 → ∀ q ∈ zSL c, c = 1 ∧ q.2 < 3 ∧ (zSX.getD q.2 (0, "")).1 = q.1 := by decide +kernel
theorem z_ldc (C : zCx p R s mth args meth c D ids b sa adV n0 nE d m) {k j : Nat} (hl : (zSL (zcn m)).lookup k = some j) (hd : decode (zby m) pc = .ok (.ldc k, 2)) (kk : zWW p l e R s mth args below meth c D ids b sa n0 m Q (pc + 2) lv ((3, (j : Int)) :: st) g w) : zWW p l e R s mth args below meth c D ids b sa n0 m Q pc lv st g w := by
  have hcm : zcn m < 10 := by
    by_cases hc : zcn m < 10
    · exact hc
    · exfalso
      have : zSL (zcn m) = [] := by
        unfold zSL
        split <;> first | omega | rfl
      rw [this] at hl
      cases hl
  obtain ⟨w1, w2, w3⟩ := zSL_ok (zcn m) hcm _ (z_look hl)
  have w2' : j < 3 := w2
  have hZ := C.2.2.2.2.2.2.2.2.1.2.2.1 j w2'
  have hown := C.2.2.2.2.2.1
  rw [w1] at hown
  rw [w3] at hZ
  exact z_pure (fun H locs ls cells slots hL hS kx => va_ldcS (q := sa j) C.1 C.2.1 hown hZ hd (by
    have e : zcv b sa (3, (j : Int)) = .ref (sa j) := by
      show Value.ref (sa (j : Int).toNat) = _
      rw [Int.toNat_natCast]
    rw [List.map_cons, e] at kx
    exact kx)) (fun h _ => h.cons t4 (show zin (3, (j : Int)) from trivial)) kk
theorem zrest {ls : Array Slot} (hz : zcat st ≤ 8) : 2 * (F0 mth pc ls (st.map (zcv b sa))).monitorRoom + ((st.map (zcv b sa)).map fun v => v.category).sum ≤ 8 := by
  rw [zcat_sum]
  show 2 * 0 + _ ≤ 8
  omega
theorem z_obj (C : zCx p R s mth args meth c D ids b sa adV n0 nE d m) {k : Nat} {q : Nat × Nat × Nat} {a : Int} (hl : (zML (zcn m)).lookup k = some q) (hq : q.2.1 = 20) (h1 : 1 ≤ d) (ha : 0 ≤ a ∧ a < g ∧ zcat st ≤ 8) (hd : decode (zby m) pc = .ok (.invokespecial k, 3)) (kk : zWW p l e R s mth args below meth c D ids b sa n0 m Q (pc + 3) lv st g w) : zWW p l e R s mth args below meth c D ids b sa n0 m Q pc lv ((2, a) :: st) g w := by
  have hcm : zcn m < 9 := by
    by_cases hc : zcn m < 9
    · exact hc
    · exfalso
      have : zML (zcn m) = [] := by
        unfold zML
        split <;> first | omega | rfl
      rw [this] at hl
      cases hl
  obtain ⟨m', kd, n⟩ := q
  cases hq
  obtain ⟨w1, w2, w3⟩ := zml_ok (zcn m) hcm _ (z_look hl)
  have hts := C.2.2.2.2.2.2.2.1
  have hfr := C.2.2.2.2.2.2.2.2.2.1
  have hlo := C.2.2.2.2.2.2.2.2.2.2.1
  intro H locs ls hR hL hS hn
  have hz := zcat_sum (b := b) (sa := sa) st
  rw [List.map_cons, zcv_ref ha.1]
  refine W.objInit C.1 C.2.1 C.2.2.2.2.2.1 (hts _ w1) (hts _ w2) (hts _ w3) rfl (by rw [C.2.2.2.2.1]; exact hL.1) rfl hd (by omega) (by show 2 * 0 + _ + 12 ≤ _; rw [hz]; omega) ?_
  exact kk H locs ls hR hL hS.tail hn
theorem z_rmax (C : zCx p R s mth args meth c D ids b sa adV n0 nE d m) {k : Nat} {q : Nat × Nat × Nat} {x y : Int} (hl : (zML (zcn m)).lookup k = some q) (hq : q.2.1 = 21) (h1 : 1 ≤ d) (hge : g ≤ nE) (ha : zcat st ≤ 8) (hd : decode (zby m) pc = .ok (.invokestatic k, 3)) (kk : zWW p l e R s mth args below meth c D ids b sa n0 m Q (pc + 3) lv ((0, z_max x y) :: st) g w) : zWW p l e R s mth args below meth c D ids b sa n0 m Q pc lv ((0, y) :: (0, x) :: st) g w := by
  have hcm : zcn m < 9 := by
    by_cases hc : zcn m < 9
    · exact hc
    · exfalso
      have : zML (zcn m) = [] := by
        unfold zML
        split <;> first | omega | rfl
      rw [this] at hl
      cases hl
  obtain ⟨m', kd, n⟩ := q
  cases hq
  obtain ⟨w1, w2, w3, w4⟩ := zml_ok (zcn m) hcm _ (z_look hl)
  have hts := C.2.2.2.2.2.2.2.1
  have hfr := C.2.2.2.2.2.2.2.2.2.1
  have hlo := C.2.2.2.2.2.2.2.2.2.2.1
  intro H locs ls hR hL hS hn
  have hz := zcat_sum (b := b) (sa := sa) st
  have hs2 := zsum_le hge
  rw [List.map_cons, List.map_cons]
  refine va_mmax (x := Int32.ofInt x) (y := Int32.ofInt y) C.1 C.2.1 (by rw [C.2.2.2.2.1]; exact hL.1.symm) C.2.2.2.2.2.1 (hts _ w1) (hts _ w2) (hts _ w3) (hts _ w4) (by omega) (by rw [hz]; omega) (by rw [C.2.2.2.2.2.2.2.2.2.2.2.1]; omega) (by rw [C.2.2.2.2.2.2.2.2.2.2.2.2]; omega) hd ?_
  have e : (if Int32.ofInt x < Int32.ofInt y then Int32.ofInt y else Int32.ofInt x) = Int32.ofInt (z_max x y) := by
    unfold z_max
    by_cases h : x < y
    · rw [if_pos h, if_pos ((zi_lt hS.tail.head hS.head).mpr h)]
    · rw [if_neg h, if_neg (fun e => h ((zi_lt hS.tail.head hS.head).mp e))]
  rw [e]
  refine kk H locs ls hR hL (hS.tail.tail.cons t4 ?_) hn
  unfold z_max
  split
  · exact hS.head
  · exact hS.tail.head
theorem z_rmin (C : zCx p R s mth args meth c D ids b sa adV n0 nE d m) {k : Nat} {q : Nat × Nat × Nat} {x y : Int} (hl : (zML (zcn m)).lookup k = some q) (hq : q.2.1 = 22) (h1 : 1 ≤ d) (hge : g ≤ nE) (ha : zcat st ≤ 8) (hd : decode (zby m) pc = .ok (.invokestatic k, 3)) (kk : zWW p l e R s mth args below meth c D ids b sa n0 m Q (pc + 3) lv ((0, z_min x y) :: st) g w) : zWW p l e R s mth args below meth c D ids b sa n0 m Q pc lv ((0, y) :: (0, x) :: st) g w := by
  have hcm : zcn m < 9 := by
    by_cases hc : zcn m < 9
    · exact hc
    · exfalso
      have : zML (zcn m) = [] := by
        unfold zML
        split <;> first | omega | rfl
      rw [this] at hl
      cases hl
  obtain ⟨m', kd, n⟩ := q
  cases hq
  obtain ⟨w1, w2, w3, w4⟩ := zml_ok (zcn m) hcm _ (z_look hl)
  have hts := C.2.2.2.2.2.2.2.1
  have hfr := C.2.2.2.2.2.2.2.2.2.1
  have hlo := C.2.2.2.2.2.2.2.2.2.2.1
  intro H locs ls hR hL hS hn
  have hz := zcat_sum (b := b) (sa := sa) st
  have hs2 := zsum_le hge
  rw [List.map_cons, List.map_cons]
  refine va_mmin (x := Int32.ofInt x) (y := Int32.ofInt y) C.1 C.2.1 (by rw [C.2.2.2.2.1]; exact hL.1.symm) C.2.2.2.2.2.1 (hts _ w1) (hts _ w2) (hts _ w3) (hts _ w4) (by omega) (by rw [hz]; omega) (by rw [C.2.2.2.2.2.2.2.2.2.2.2.1]; omega) (by rw [C.2.2.2.2.2.2.2.2.2.2.2.2]; omega) hd ?_
  have e : (if Int32.ofInt y < Int32.ofInt x then Int32.ofInt y else Int32.ofInt x) = Int32.ofInt (z_min x y) := by
    unfold z_min
    by_cases h : y < x
    · rw [if_pos h, if_pos ((zi_lt hS.head hS.tail.head).mpr h)]
    · rw [if_neg h, if_neg (fun e => h ((zi_lt hS.head hS.tail.head).mp e))]
  rw [e]
  refine kk H locs ls hR hL (hS.tail.tail.cons t4 ?_) hn
  unfold z_min
  split
  · exact hS.head
  · exact hS.tail.head
theorem zend {locs : List Loc} {v : zV} (hR : zRep D ids b sa s (zlm m) H locs g w) (hv : v.1 = 9 ∨ (v.1 < 4 ∧ zin v)) {t : State} (ht : t.heap = H) : zQc D ids b sa (zlm m) (v, g, w) args s (.returned (zrv b sa v)) t :=
  ⟨rfl, by rw [ht]; exact hR.1, by rw [ht]; exact hR.2.1, by rw [ht]; exact hR.2.2.1, fun q hq => by rw [ht]; exact hR.2.2.2.2.1 q hq, hR.2.2.2.2.2.2.1, hR.2.2.2.2.2.2.2, hv⟩
theorem z_iret (C : zCx p R s mth args meth c D ids b sa adV n0 nE d m) {x : Int} (hr : zrt m = some .int ∨ (zrt m = some .boolean ∧ (x = 0 ∨ x = 1))) (hd : decode (zby m) pc = .ok (.ireturn, 1)) : zWW p l e R s mth args below meth c D ids b sa n0 m (MQ below (zQc D ids b sa (zlm m) ((0, x), g, w)) args s (g - n0) (zsum g - zsum n0) (fun q => b ≤ q)) pc lv [(0, x)] g w := by
  intro H locs ls hR hL hS hn
  have hlk := C.2.2.2.1
  rcases hr with hr | ⟨hr, hx⟩
  · exact W.iret (v := Int32.ofInt x) C.1 C.2.1 (by rw [C.2.2.1]; exact hr) (fun t ht _ => zend hR (Or.inr ⟨t4, hS.head⟩) ht) hR.2.2.2.2.2.1 hd hlk
  · exact W.zret (v := Int32.ofInt x) (ty := .boolean) C.1 C.2.1 (by rw [C.2.2.1]; exact hr) (znar_bool hx).1 (fun t ht _ => zend hR (Or.inr ⟨t4, hS.head⟩) ht) hR.2.2.2.2.2.1 hd hlk
theorem z_lret (C : zCx p R s mth args meth c D ids b sa adV n0 nE d m) {x : Int} (hr : zrt m = some .long) (hd : decode (zby m) pc = .ok (.lreturn, 1)) : zWW p l e R s mth args below meth c D ids b sa n0 m (MQ below (zQc D ids b sa (zlm m) ((1, x), g, w)) args s (g - n0) (zsum g - zsum n0) (fun q => b ≤ q)) pc lv [(1, x)] g w := by
  intro H locs ls hR hL hS hn
  have hlk := C.2.2.2.1
  exact W.lret (v := Int64.ofInt x) C.1 C.2.1 (by rw [C.2.2.1]; exact hr) (fun t ht _ => zend hR (Or.inr ⟨t4, hS.head⟩) ht) hR.2.2.2.2.2.1 hd hlk
theorem z_vret (C : zCx p R s mth args meth c D ids b sa adV n0 nE d m) (hr : zrt m = none) (hd : decode (zby m) pc = .ok (.return_, 1)) : zWW p l e R s mth args below meth c D ids b sa n0 m (MQ below (zQc D ids b sa (zlm m) ((9, 0), g, w)) args s (g - n0) (zsum g - zsum n0) (fun q => b ≤ q)) pc lv [] g w := by
  intro H locs ls hR hL hS hn
  have hlk := C.2.2.2.1
  exact W.vret C.1 C.2.1 (by rw [C.2.2.1]; exact hr) (fun t ht _ => zend hR (Or.inl rfl) ht) hR.2.2.2.2.2.1 hd hlk
end Z5
end
section
def zwd (m : Nat) : List Jvm.Cond := Jvm.Cond.code (zyn m) (zby m) (zmx m) (zrt m) :: zTB
def zrm (d mc ms : Nat) : Room := { frames := d, cells := mc, slots := ms, locals := 40 * d }
def zPc (D : va_G) (ids : Nat → ClassId) (b : Nat) (sa adV : Nat → Nat) (lk : Bool) (as : List zV) (g : Nat) (w : zW) : Array Value → State → Prop := fun v U =>
  v = (as.map (zcv b sa)).toArray ∧ va_P D vwCl (zws ids b sa g w) U.heap ∧ U.heap.size = b + g ∧ zok g w ∧ (lk = true → g = zN ∧ zLk w) ∧ zKK D ids b sa adV U U.heap ∧ zST as
def zMt (d m : Nat) (as : List zV) (g : Nat) (w : zW) (r : zR) : Prop := ∀ (l : Launch) (D : va_G) (ids : Nat → ClassId) (b : Nat) (sa adV : Nat → Nat),
  Met l (zyn m) (zwd m) (zrm d (r.2.1 - g) (zsum r.2.1 - zsum g)) (zPc D ids b sa adV (zlm m) as g w) (zQc D ids b sa (zlm m) r) (r.2.1 - g) (zsum r.2.1 - zsum g) (fun q => b ≤ q)
theorem zKK.call {D : va_G} {ids : Nat → ClassId} {b : Nat} {sa adV : Nat → Nat} {s U : State} {H : Heap} (h : zKK D ids b sa adV s s.heap) (hq : ∀ q : Nat, q < b → H[q]? = s.heap[q]?) (hW : s.WarmedH U.vm) : zKK D ids b sa adV U H := by
  obtain ⟨h1, h2, h3, h4, h5⟩ := h
  have hq' : ∀ a : Nat, a < s.heap.size → ¬ (fun q => b ≤ q) a → H[a]? = s.heap[a]? := fun a _ h => hq a (Nat.not_le.mp h)
  refine ⟨h1.moved hW.alike, fun x hx => ?_, fun i hi => (h3 i hi).warm hW, (h4.moved hW.alike).kept hq', (h5.moved hW.alike).kept hq'⟩
  have hn := (List.mem_filter.mp hx).2
  have h9 := h2 x hx
  cases x <;> first | (exact va_Nw.warmM hW h9) | (exfalso; revert hn; simp [zisN])
theorem zKK.blind {D : va_G} {ids : Nat → ClassId} {b : Nat} {sa adV : Nat → Nat} {U : State} {g : JFrame} {mk : MethodId} {a : Array Value} (h : zKK D ids b sa adV U U.heap) : zKK D ids b sa adV (U.calling g mk a) (U.calling g mk a).heap := by
  obtain ⟨h1, h2, h3, h4, h5⟩ := h
  refine ⟨va_K.moved (u := U) (U := U.calling g mk a) (Vm.Alike.refl U.vm) h1, fun x hx => ?_, fun i hi => vk_R.same (u := U) rfl (h3 i hi), vk_S.moved (u := U) (U := U.calling g mk a) (Vm.Alike.refl U.vm) h4, va_Z.moved (u := U) (U := U.calling g mk a) (Vm.Alike.refl U.vm) h5⟩
  have hn := (List.mem_filter.mp hx).2
  have h9 := h2 x hx
  cases x <;> first | (exact va_Nw.same (u := U) rfl rfl h9) | (exfalso; revert hn; simp [zisN])
theorem zPc_blind {D : va_G} {ids : Nat → ClassId} {b : Nat} {sa adV : Nat → Nat} {lk : Bool} {as : List zV} {g : Nat} {w : zW} : FrameBlind (zPc D ids b sa adV lk as g w) :=
  fun _ _ _ _ q => ⟨q.1, q.2.1, q.2.2.1, q.2.2.2.1, q.2.2.2.2.1, q.2.2.2.2.2.1.blind, q.2.2.2.2.2.2⟩
theorem zpush_map {b : Nat} {sa : Nat → Nat} (v : zV) (st : List zV) : (zpush v st).map (zcv b sa) = (zrv b sa v).toList ++ st.map (zcv b sa) := by
  unfold zpush zrv
  split <;> rfl
theorem zpush_ST {v : zV} {st : List zV} (hv : v.1 = 9 ∨ (v.1 < 4 ∧ zin v)) (h : zST st) : zST (zpush v st) := by
  unfold zpush
  split
  · exact h
  · next h9 =>
    rcases hv with hv | hv
    · exact absurd hv h9
    · exact h.cons hv.1 hv.2
section Z6
variable {p : Program} {l : Launch} {e : Env} {R : Room} {s : State} {mth : MethodId} {args : Array Value} {below : List Frame} {meth : Method} {c : Code} {D : va_G} {ids : Nat → ClassId} {b : Nat} {sa adV : Nat → Nat} {n0 nE d m : Nat} {Q : State → Prop} {pc : Nat} {lv st : List zV} {g : Nat} {w : zW}
theorem zwd_ok (C : zCx p R s mth args meth c D ids b sa adV n0 nE d m) {m' : Nat} (hm : zmok m') : ∀ x ∈ zwd m', ∀ (a' : Array Value) (U : State), s.WarmedH U.vm → x.before a' U = true := by
  intro x hx a' U hW
  have hx' : x ∈ zTB := by
    rcases List.mem_cons.mp hx with rfl | h
    · exact hm.1
    · exact h
  exact word_at hW (good_of_word (List.mem_filter.mp hx').2) (C.2.2.2.2.2.2.2.1 x hx')
/-- behind a call -/
theorem z_after {m' : Nat} {as rest : List zV} {r : zR} {a : Array Value} (C : zCx p R s mth args meth c D ids b sa adV n0 nE d m) (hmode : zmode m m' g w = true) (hge : g ≤ r.2.1) (kk : zWW p l e R s mth args below meth c D ids b sa n0 m Q (pc + 3) lv (zpush r.1 rest) r.2.1 r.2.2) {H : Heap} {locs : List Loc} {ls : Array Slot} (hR : zRep D ids b sa s (zlm m) H locs g w) (hL : zLV b sa ls (zmx m) lv) (hS : zST rest) (hn : n0 ≤ g)
    {T : State} (hrun : ∃ (v : Option Value) (st₀ t T' : State) (L : List Loc), st₀.heap = H ∧ Stand p l e R s mth args below meth c T' (locs ++ L) (g - n0 + (r.2.1 - g)) (zsum g - zsum n0 + (zsum r.2.1 - zsum g)) ∧ (∀ q ∈ L, b ≤ q.base) ∧ T'.heap = t.heap ∧ T'.vm = t.vm ∧ zQc D ids b sa (zlm m') r a st₀ (.returned v) t ∧
      Goes p e below T (F0 mth pc ls (st.map (zcv b sa))) T' { (F0 mth pc ls (st.map (zcv b sa))) with pc := pc + 3, stack := v.toList ++ rest.map (zcv b sa) }) : ∃ t, Steps p.tables e below (T.setTop (F0 mth pc ls (st.map (zcv b sa)))) t ∧ Q t := by
  obtain ⟨v, st₀, t, T', L, h0, X', hLf, e1, e2, ⟨hv, hP, hsz, hle, hold, hok, hlk, hvv⟩, hst⟩ := hrun
  cases hv
  have hs1 := zsum_le hn
  have hs2 := zsum_le hge
  rw [show g - n0 + (r.2.1 - g) = r.2.1 - n0 by omega, show zsum g - zsum n0 + (zsum r.2.1 - zsum g) = zsum r.2.1 - zsum n0 by omega] at X'
  rw [h0] at hle hold
  obtain ⟨t2, a1, b1⟩ := kk T'.heap (locs ++ L) ls ⟨by rw [e1]; exact hP, by rw [e1]; exact hsz, by rw [e1]; exact Nat.le_trans hR.2.2.1 hle, hR.2.2.2.1, fun q hq => by rw [e1, hold q hq]; exact hR.2.2.2.2.1 q hq, fun q hq => by
    rcases List.mem_append.mp hq with h | h
    · exact hR.2.2.2.2.2.1 q h
    · exact hLf q h, hok, fun e => hlk (by
      unfold zmode at hmode
      by_cases h9 : zlm m' = true
      · exact h9
      · rw [if_neg h9, e] at hmode
        cases hmode)⟩ hL (zpush_ST hvv hS) (by omega) T' rfl X'
  rw [zpush_map] at a1
  exact ⟨t2, hst t2 a1, b1⟩
theorem zLkB_ok {w : zW} (h : zLkB w = true) : zLk w := by
  intro q hq
  have := List.all_eq_true.mp h q hq
  simpa using this
theorem zPre {m' : Nat} {as : List zV} (C : zCx p R s mth args meth c D ids b sa adV n0 nE d m) (hmode : zmode m m' g w = true) {H : Heap} {locs : List Loc} (hR : zRep D ids b sa s (zlm m) H locs g w) (has : zST as) : ∀ U : State, U.heap = H → s.WarmedH U.vm → zPc D ids b sa adV (zlm m') as g w (as.map (zcv b sa)).toArray U := by
  intro U hU hW
  refine ⟨rfl, by rw [hU]; exact hR.1, by rw [hU]; exact hR.2.1, hR.2.2.2.2.2.2.1, fun e => ?_, by rw [hU]; exact C.2.2.2.2.2.2.2.2.1.call hR.2.2.2.2.1 hW, has⟩
  unfold zmode at hmode
  rw [if_pos e] at hmode
  simp only [Bool.or_eq_true, Bool.and_eq_true, decide_eq_true_eq] at hmode
  rcases hmode with h | ⟨h1, h2⟩
  · exact hR.2.2.2.2.2.2.2 h
  · exact ⟨h1, zLkB_ok h2⟩
theorem zlen {y : MethodName} {n : Nat} (h : (parseMethodDescriptor y.desc).map (fun d => d.parameters.length) = some n) : ∀ sig, parseMethodDescriptor y.desc = some sig → n = sig.parameters.length := by
  intro sig hs
  rw [hs] at h
  exact (Option.some.inj h).symm
theorem zrecv {a : Int} {cc : Nat} (C : zCx p R s mth args meth c D ids b sa adV n0 nE d m) {H : Heap} {locs : List Loc} (hR : zRep D ids b sa s (zlm m) H locs g w) (h0 : 0 ≤ a) (hg : a < g) (hk : (zsh a).1 = cc) (hc : cc < 9) : ∃ cell : Cell, H[b + a.toNat]? = some cell ∧ cell.vm.isStatics = false ∧ s.vm.findClass (zRn cc) = some cell.cls := by
  have he := zPat hR h0 hg
  rw [zE_obj (by omega), hk] at he
  exact va_recv (q := (zRn cc, zTt cc, zNf cc)) C.2.2.2.2.2.2.2.2.1.1 hR.1 (zcl_at cc hc) he
theorem z_call0 (C : zCx p R s mth args meth c D ids b sa adV n0 nE d m) {k m' n d' : Nat} {a : Int} {As rest : List zV} {r : zR} (hl : (zML (zcn m)).lookup k = some (m', 0, n)) (hmode : zmode m m' g w = true) (hAs : As.length = n) (hst : st = As.reverse ++ (2, a) :: rest) (h0 : 0 ≤ a) (hag : a < g) (hk : (zsh a).1 = zcn m') (hz : zcat rest ≤ 8)
    (hdd : d = d' + 1) (hge : g ≤ r.2.1) (hle : r.2.1 ≤ nE) (hM : zMt d' m' ((2, a) :: As) g w r) (hd : decode (zby m) pc = .ok (.invokevirtual k, 3)) (kk : zWW p l e R s mth args below meth c D ids b sa n0 m Q (pc + 3) lv (zpush r.1 rest) r.2.1 r.2.2) : zWW p l e R s mth args below meth c D ids b sa n0 m Q pc lv st g w := by
  have hcm : zcn m < 9 := by
    by_cases hc : zcn m < 9
    · exact hc
    · exfalso
      have : zML (zcn m) = [] := by
        unfold zML
        split <;> first | omega | rfl
      rw [this] at hl
      cases hl
  obtain ⟨hmo, w1, w2, w3, w4⟩ := zml_ok (zcn m) hcm _ (z_look hl)
  have hmo : zmok m' := hmo
  obtain ⟨o1, o2, o3, o4, o5, o6, o7⟩ := id hmo
  have hts := C.2.2.2.2.2.2.2.1
  have hfr := C.2.2.2.2.2.2.2.2.2.1
  have hlo := C.2.2.2.2.2.2.2.2.2.2.1
  intro H locs ls hR hL hS hn T hT X
  have hSa : zST ((2, a) :: As) := fun v hv => hS v (by
    rw [hst]
    rcases List.mem_cons.mp hv with rfl | h
    · simp
    · simp [h])
  have hSr : zST rest := fun v hv => hS v (by rw [hst]; simp [hv])
  have hs1 := zsum_le hn
  have hs2 := zsum_le hge
  have hs3 := zsum_le hle
  refine z_after (r := r) (m' := m') (as := As) (a := (Value.ref (b + a.toNat) :: As.map (zcv b sa)).toArray) C hmode hge kk hR hL hSr hn ?_
  have := va_runV (H := H) (locs := locs) (cells := g - n0) (slots := zsum g - zsum n0) (C := zRn (zcn m')) (As := As.map (zcv b sa)) (rest := rest.map (zcv b sa)) (b := b + a.toNat) (g := F0 mth pc ls (st.map (zcv b sa))) (n := n) (ret := zrt m') (bytes := zby m') (maxL := zmx m') (index := k) ⟨C.1, C.2.1, C.2.2.2.2.1, C.2.2.2.2.2.1, hts⟩ (hM l D ids b sa adV)
    ⟨⟨rfl, rfl, by show d' + 1 ≤ _; omega, by show 8 + (zmx m' + 11) + 40 * d' ≤ _; omega, zwd_ok C hmo, List.mem_cons_self, hts _ o1, hts _ o2, o3, zlen w4, hts _ w1⟩, hts _ w2, by rw [← o5]; exact hts _ w3⟩
    ⟨zPc_blind, zrecv C hR h0 hag hk o7, fun U hU hW => by
      have := zPre C hmode hR hSa U hU hW
      rw [List.map_cons, zcv_ref h0] at this
      exact this⟩ rfl (by rw [List.length_map]; exact hAs) hL.1 (by rw [hst]; simp [zcv_ref h0]) (by rw [zcat_sum]; show 2 * 0 + _ ≤ 8; omega) hd ⟨by rw [C.2.2.2.2.2.2.2.2.2.2.2.1]; omega, by rw [C.2.2.2.2.2.2.2.2.2.2.2.2]; omega⟩ T hT X
  exact this
theorem z_call1 (C : zCx p R s mth args meth c D ids b sa adV n0 nE d m) {k m' n d' : Nat} {As rest : List zV} {r : zR} (hl : (zML (zcn m)).lookup k = some (m', 1, n)) (hmode : zmode m m' g w = true) (hAs : As.length = n) (hst : st = As.reverse ++ rest) (hz : zcat rest ≤ 8)
    (hdd : d = d' + 1) (hge : g ≤ r.2.1) (hle : r.2.1 ≤ nE) (hM : zMt d' m' As g w r) (hd : decode (zby m) pc = .ok (.invokestatic k, 3)) (kk : zWW p l e R s mth args below meth c D ids b sa n0 m Q (pc + 3) lv (zpush r.1 rest) r.2.1 r.2.2) : zWW p l e R s mth args below meth c D ids b sa n0 m Q pc lv st g w := by
  have hcm : zcn m < 9 := by
    by_cases hc : zcn m < 9
    · exact hc
    · exfalso
      have : zML (zcn m) = [] := by
        unfold zML
        split <;> first | omega | rfl
      rw [this] at hl
      cases hl
  obtain ⟨hmo, w1, w2, w4⟩ := zml_ok (zcn m) hcm _ (z_look hl)
  have hmo : zmok m' := hmo
  obtain ⟨o1, o2, o3, o4, o5, o6, o7⟩ := id hmo
  have hts := C.2.2.2.2.2.2.2.1
  have hfr := C.2.2.2.2.2.2.2.2.2.1
  have hlo := C.2.2.2.2.2.2.2.2.2.2.1
  intro H locs ls hR hL hS hn T hT X
  have hSa : zST As := fun v hv => hS v (by rw [hst]; simp [hv])
  have hSr : zST rest := fun v hv => hS v (by rw [hst]; simp [hv])
  have hs1 := zsum_le hn
  have hs2 := zsum_le hge
  have hs3 := zsum_le hle
  refine z_after (r := r) (m' := m') (as := As) (a := (As.map (zcv b sa)).toArray) C hmode hge kk hR hL hSr hn ?_
  have := va_runS (H := H) (locs := locs) (cells := g - n0) (slots := zsum g - zsum n0) (As := As.map (zcv b sa)) (rest := rest.map (zcv b sa)) (g := F0 mth pc ls (st.map (zcv b sa))) (n := n) (ret := zrt m') (bytes := zby m') (maxL := zmx m') (index := k) ⟨C.1, C.2.1, C.2.2.2.2.1, C.2.2.2.2.2.1, hts⟩ (hM l D ids b sa adV)
    ⟨⟨rfl, rfl, by show d' + 1 ≤ _; omega, by show 8 + (zmx m' + 11) + 40 * d' ≤ _; omega, zwd_ok C hmo, List.mem_cons_self, hts _ o1, hts _ o2, o3, zlen w4, hts _ w1⟩, hts _ w2⟩
    ⟨zPc_blind, fun U hU hW => zPre C hmode hR hSa U hU hW⟩ rfl (by rw [List.length_map]; exact hAs) hL.1 (by rw [hst]; simp) (by rw [zcat_sum]; show 2 * 0 + _ ≤ 8; omega) hd ⟨by rw [C.2.2.2.2.2.2.2.2.2.2.2.1]; omega, by rw [C.2.2.2.2.2.2.2.2.2.2.2.2]; omega⟩ T hT X
  exact this
theorem z_call11 (C : zCx p R s mth args meth c D ids b sa adV n0 nE d m) {k m' n d' : Nat} {As rest : List zV} {r : zR} (hl : (zML (zcn m)).lookup k = some (m', 11, n)) (hmode : zmode m m' g w = true) (hAs : As.length = n) (hst : st = As.reverse ++ rest) (hz : zcat rest ≤ 8)
    (hdd : d = d' + 1) (hge : g ≤ r.2.1) (hle : r.2.1 ≤ nE) (hM : zMt d' m' As g w r) (hd : decode (zby m) pc = .ok (.invokestatic k, 3)) (kk : zWW p l e R s mth args below meth c D ids b sa n0 m Q (pc + 3) lv (zpush r.1 rest) r.2.1 r.2.2) : zWW p l e R s mth args below meth c D ids b sa n0 m Q pc lv st g w := by
  have hcm : zcn m < 9 := by
    by_cases hc : zcn m < 9
    · exact hc
    · exfalso
      have : zML (zcn m) = [] := by
        unfold zML
        split <;> first | omega | rfl
      rw [this] at hl
      cases hl
  obtain ⟨hmo, w1, w2, w4⟩ := zml_ok (zcn m) hcm _ (z_look hl)
  have hmo : zmok m' := hmo
  obtain ⟨o1, o2, o3, o4, o5, o6, o7⟩ := id hmo
  have hts := C.2.2.2.2.2.2.2.1
  have hfr := C.2.2.2.2.2.2.2.2.2.1
  have hlo := C.2.2.2.2.2.2.2.2.2.2.1
  intro H locs ls hR hL hS hn T hT X
  have hSa : zST As := fun v hv => hS v (by rw [hst]; simp [hv])
  have hSr : zST rest := fun v hv => hS v (by rw [hst]; simp [hv])
  have hs1 := zsum_le hn
  have hs2 := zsum_le hge
  have hs3 := zsum_le hle
  refine z_after (r := r) (m' := m') (as := As) (a := (As.map (zcv b sa)).toArray) C hmode hge kk hR hL hSr hn ?_
  have := va_runSN (H := H) (locs := locs) (cells := g - n0) (slots := zsum g - zsum n0) (As := As.map (zcv b sa)) (rest := rest.map (zcv b sa)) (g := F0 mth pc ls (st.map (zcv b sa))) (n := n) (ret := zrt m') (bytes := zby m') (maxL := zmx m') (index := k) ⟨C.1, C.2.1, C.2.2.2.2.1, C.2.2.2.2.2.1, hts⟩ (hM l D ids b sa adV)
    ⟨⟨⟨rfl, rfl, by show d' + 1 ≤ _; omega, by show 8 + (zmx m' + 11) + 40 * d' ≤ _; omega, zwd_ok C hmo, List.mem_cons_self⟩, hts _ o1, hts _ o2, o3, zlen w4, va_Nw.use rfl (C.2.2.2.2.2.2.2.2.1.2.1 _ w1)⟩, hts _ w2, trivial⟩
    ⟨zPc_blind, fun U hU hW => zPre C hmode hR hSa U hU hW⟩ rfl (by rw [List.length_map]; exact hAs) hL.1 (by rw [hst]; simp) (by rw [zcat_sum]; show 2 * 0 + _ ≤ 8; omega) hd ⟨by rw [C.2.2.2.2.2.2.2.2.2.2.2.1]; omega, by rw [C.2.2.2.2.2.2.2.2.2.2.2.2]; omega⟩ T hT X
  exact this
theorem z_call2 (C : zCx p R s mth args meth c D ids b sa adV n0 nE d m) {k m' n d' : Nat} {a : Int} {As rest : List zV} {r : zR} (hl : (zML (zcn m)).lookup k = some (m', 2, n)) (hmode : zmode m m' g w = true) (hAs : As.length = n) (hst : st = As.reverse ++ (2, a) :: rest) (h0 : 0 ≤ a) (hz : zcat rest ≤ 8)
    (hdd : d = d' + 1) (hge : g ≤ r.2.1) (hle : r.2.1 ≤ nE) (hM : zMt d' m' ((2, a) :: As) g w r) (hd : decode (zby m) pc = .ok (.invokespecial k, 3)) (kk : zWW p l e R s mth args below meth c D ids b sa n0 m Q (pc + 3) lv (zpush r.1 rest) r.2.1 r.2.2) : zWW p l e R s mth args below meth c D ids b sa n0 m Q pc lv st g w := by
  have hcm : zcn m < 9 := by
    by_cases hc : zcn m < 9
    · exact hc
    · exfalso
      have : zML (zcn m) = [] := by
        unfold zML
        split <;> first | omega | rfl
      rw [this] at hl
      cases hl
  obtain ⟨hmo, w1, w2, w3, w5, w4⟩ := zml_ok (zcn m) hcm _ (z_look hl)
  have hmo : zmok m' := hmo
  obtain ⟨o1, o2, o3, o4, o5, o6, o7⟩ := id hmo
  have hts := C.2.2.2.2.2.2.2.1
  have hfr := C.2.2.2.2.2.2.2.2.2.1
  have hlo := C.2.2.2.2.2.2.2.2.2.2.1
  have w5' : zrt m' = none := w5
  rw [w5'] at o1
  intro H locs ls hR hL hS hn T hT X
  have hSa : zST ((2, a) :: As) := fun v hv => hS v (by
    rw [hst]
    rcases List.mem_cons.mp hv with rfl | h
    · simp
    · simp [h])
  have hSr : zST rest := fun v hv => hS v (by rw [hst]; simp [hv])
  have hs1 := zsum_le hn
  have hs2 := zsum_le hge
  have hs3 := zsum_le hle
  refine z_after (r := r) (m' := m') (as := As) (a := (Value.ref (b + a.toNat) :: As.map (zcv b sa)).toArray) C hmode hge kk hR hL hSr hn ?_
  have := va_runI (H := H) (locs := locs) (cells := g - n0) (slots := zsum g - zsum n0) (As := As.map (zcv b sa)) (rest := rest.map (zcv b sa)) (b := b + a.toNat) (g := F0 mth pc ls (st.map (zcv b sa))) (n := n) (bytes := zby m') (maxL := zmx m') (index := k) ⟨C.1, C.2.1, C.2.2.2.2.1, C.2.2.2.2.2.1, hts⟩ (hM l D ids b sa adV)
    ⟨⟨rfl, rfl, by show d' + 1 ≤ _; omega, by show 8 + (zmx m' + 11) + 40 * d' ≤ _; omega, zwd_ok C hmo, by rw [← w5']; exact List.mem_cons_self, hts _ o1, hts _ o2, o3, zlen w4, hts _ w1⟩, w3, hts _ w2⟩
    ⟨zPc_blind, fun U hU hW => by
      have := zPre C hmode hR hSa U hU hW
      rw [List.map_cons, zcv_ref h0] at this
      exact this⟩ rfl (by rw [List.length_map]; exact hAs) hL.1 (by rw [hst]; simp [zcv_ref h0]) (by rw [zcat_sum]; show 2 * 0 + _ ≤ 8; omega) hd ⟨by rw [C.2.2.2.2.2.2.2.2.2.2.2.1]; omega, by rw [C.2.2.2.2.2.2.2.2.2.2.2.2]; omega⟩ T hT X
  exact this
theorem z_call12 (C : zCx p R s mth args meth c D ids b sa adV n0 nE d m) {k m' n d' : Nat} {a : Int} {As rest : List zV} {r : zR} (hl : (zML (zcn m)).lookup k = some (m', 12, n)) (hmode : zmode m m' g w = true) (hAs : As.length = n) (hst : st = As.reverse ++ (2, a) :: rest) (h0 : 0 ≤ a) (hz : zcat rest ≤ 8)
    (hdd : d = d' + 1) (hge : g ≤ r.2.1) (hle : r.2.1 ≤ nE) (hM : zMt d' m' ((2, a) :: As) g w r) (hd : decode (zby m) pc = .ok (.invokespecial k, 3)) (kk : zWW p l e R s mth args below meth c D ids b sa n0 m Q (pc + 3) lv (zpush r.1 rest) r.2.1 r.2.2) : zWW p l e R s mth args below meth c D ids b sa n0 m Q pc lv st g w := by
  have hcm : zcn m < 9 := by
    by_cases hc : zcn m < 9
    · exact hc
    · exfalso
      have : zML (zcn m) = [] := by
        unfold zML
        split <;> first | omega | rfl
      rw [this] at hl
      cases hl
  obtain ⟨hmo, w1, w2, w3, w5, w4⟩ := zml_ok (zcn m) hcm _ (z_look hl)
  have hmo : zmok m' := hmo
  obtain ⟨o1, o2, o3, o4, o5, o6, o7⟩ := id hmo
  have hts := C.2.2.2.2.2.2.2.1
  have hfr := C.2.2.2.2.2.2.2.2.2.1
  have hlo := C.2.2.2.2.2.2.2.2.2.2.1
  have w5' : zrt m' = none := w5
  rw [w5'] at o1
  intro H locs ls hR hL hS hn T hT X
  have hSa : zST ((2, a) :: As) := fun v hv => hS v (by
    rw [hst]
    rcases List.mem_cons.mp hv with rfl | h
    · simp
    · simp [h])
  have hSr : zST rest := fun v hv => hS v (by rw [hst]; simp [hv])
  have hs1 := zsum_le hn
  have hs2 := zsum_le hge
  have hs3 := zsum_le hle
  refine z_after (r := r) (m' := m') (as := As) (a := (Value.ref (b + a.toNat) :: As.map (zcv b sa)).toArray) C hmode hge kk hR hL hSr hn ?_
  have := va_runIN (H := H) (locs := locs) (cells := g - n0) (slots := zsum g - zsum n0) (As := As.map (zcv b sa)) (rest := rest.map (zcv b sa)) (b := b + a.toNat) (g := F0 mth pc ls (st.map (zcv b sa))) (n := n) (bytes := zby m') (maxL := zmx m') (index := k) ⟨C.1, C.2.1, C.2.2.2.2.1, C.2.2.2.2.2.1, hts⟩ (hM l D ids b sa adV)
    ⟨⟨⟨rfl, rfl, by show d' + 1 ≤ _; omega, by show 8 + (zmx m' + 11) + 40 * d' ≤ _; omega, zwd_ok C hmo, by rw [← w5']; exact List.mem_cons_self⟩, hts _ o1, hts _ o2, o3, zlen w4, va_Nw.use rfl (C.2.2.2.2.2.2.2.2.1.2.1 _ w1)⟩, w3, hts _ w2⟩
    ⟨zPc_blind, fun U hU hW => by
      have := zPre C hmode hR hSa U hU hW
      rw [List.map_cons, zcv_ref h0] at this
      exact this⟩ rfl (by rw [List.length_map]; exact hAs) hL.1 (by rw [hst]; simp [zcv_ref h0]) (by rw [zcat_sum]; show 2 * 0 + _ ≤ 8; omega) hd ⟨by rw [C.2.2.2.2.2.2.2.2.2.2.2.1]; omega, by rw [C.2.2.2.2.2.2.2.2.2.2.2.2]; omega⟩ T hT X
  exact this
end Z6
end
section
section Z8
variable {p : Program} {l : Launch} {e : Env} {R : Room} {s : State} {mth : MethodId} {args : Array Value} {below : List Frame} {meth : Method} {c : Code} {D : va_G} {ids : Nat → ClassId} {b : Nat} {sa adV : Nat → Nat} {n0 nE d m : Nat} {Q : State → Prop} {pc : Nat} {lv st : List zV} {g : Nat} {w : zW}
theorem z_ridx (C : zCx p R s mth args meth c D ids b sa adV n0 nE d m) {k : Nat} {q : Nat × Nat × Nat} {x i : Int} (hl : (zML (zcn m)).lookup k = some q) (hq : q.2.1 = 23) (h1 : 5 ≤ d) (hge : g ≤ nE) (ha : 0 ≤ i ∧ i < 3 ∧ zcat st ≤ 8) (hd : decode (zby m) pc = .ok (.invokevirtual k, 3)) (kk : zWW p l e R s mth args below meth c D ids b sa n0 m Q (pc + 3) lv ((0, zix i.toNat x) :: st) g w) : zWW p l e R s mth args below meth c D ids b sa n0 m Q pc lv ((0, x) :: (3, i) :: st) g w := sorry
end Z8
end
section
def zSok (p : Program) (l : Launch) (e : Env) (R : Room) (s : State) (mth : MethodId) (args : Array Value) (below : List Frame) (meth : Method) (c : Code) (D : va_G) (ids : Nat → ClassId) (b : Nat) (sa : Nat → Nat) (n0 nE d m : Nat) (pc : Nat) (lv st : List zV) (g : Nat) (w : zW) (o : zO) : Prop := match o with
  | .inl S' => S'.2.2.2.1 ≤ nE → ∀ Q, zWW p l e R s mth args below meth c D ids b sa n0 m Q S'.1 S'.2.1 S'.2.2.1 S'.2.2.2.1 S'.2.2.2.2 → zWW p l e R s mth args below meth c D ids b sa n0 m Q pc lv st g w
  | .inr (.inl v) => zWW p l e R s mth args below meth c D ids b sa n0 m (MQ below (zQc D ids b sa (zlm m) (v, g, w)) args s (g - n0) (zsum g - zsum n0) (fun q => b ≤ q)) pc lv st g w
  | .inr (.inr (m', as, rest)) => zmok m' ∧ (zflat as).length ≤ zmx m' ∧ ∀ (d' : Nat) (r : zR), d = d' + 1 → g ≤ r.2.1 → r.2.1 ≤ nE → zMt d' m' as g w r → ∀ Q, zWW p l e R s mth args below meth c D ids b sa n0 m Q (pc + 3) lv (zpush r.1 rest) r.2.1 r.2.2 → zWW p l e R s mth args below meth c D ids b sa n0 m Q pc lv st g w
theorem zex_mono {d m pc n : Nat} {lv st : List zV} {g : Nat} {w : zW} {i : Jvm.ClassFile.Instr} {S' : zS} (h : zex d m pc n lv st g w i = some (.inl S')) : g ≤ S'.2.2.2.1 := by
  have hgo : ∀ {pc : Nat} {lv st : List zV} {g : Nat} {w : zW}, zgo pc lv st g w = some (.inl S') → g ≤ S'.2.2.2.1 := fun h => by
    cases h
    exact Nat.le_refl _
  have hjm : ∀ {pc : Nat} {off : Int} {lv st : List zV} {g : Nat} {w : zW}, zjmp pc off lv st g w = some (.inl S') → g ≤ S'.2.2.2.1 := fun h => by
    unfold zjmp at h
    split at h
    · exact hgo h
    · cases h
  have hca : ∀ {m m' n : Nat} {rv : Bool} {st : List zV} {g : Nat} {w : zW}, zcall m m' n rv st g w = some (.inl S') → g ≤ S'.2.2.2.1 := fun h => by
    unfold zcall at h
    repeat' split at h
    all_goals cases h
  have hin : ∀ {d m k pc : Nat} {lv st : List zV} {g : Nat} {w : zW} {op : Nat}, zinvoke d m k pc lv st g w op = some (.inl S') → g ≤ S'.2.2.2.1 := fun h => by
    unfold zinvoke at h
    repeat' split at h
    all_goals first | exact hgo h | exact hca h | cases h
  cases i <;> simp only [zex] at h <;> (repeat' split at h) <;> first | exact hgo h | exact hjm h | exact hin h | (have := hgo h; omega) | (cases h; done)
section Z7
variable {p : Program} {l : Launch} {e : Env} {R : Room} {s : State} {mth : MethodId} {args : Array Value} {below : List Frame} {meth : Method} {c : Code} {D : va_G} {ids : Nat → ClassId} {b : Nat} {sa adV : Nat → Nat} {n0 nE d m : Nat} {Q : State → Prop} {pc : Nat} {lv st : List zV} {g : Nat} {w : zW}
theorem zcall_spec {m' n : Nat} {recv : Bool} {o : zO} (h : zcall m m' n recv st g w = some o) : zmode m m' g w = true ∧ n ≤ st.length ∧ ((recv = false ∧ zcat (st.drop n) ≤ 8 ∧ (zflat (st.take n).reverse).length ≤ zmx m' ∧ o = .inr (.inr (m', (st.take n).reverse, st.drop n))) ∨
    (recv = true ∧ ∃ (a : Int) (rest : List zV), st.drop n = (2, a) :: rest ∧ 0 ≤ a ∧ a < g ∧ (zsh a).1 = zcn m' ∧ zcat rest ≤ 8 ∧ (zflat ((2, a) :: (st.take n).reverse)).length ≤ zmx m' ∧ o = .inr (.inr (m', (2, a) :: (st.take n).reverse, rest)))) := by
  unfold zcall at h
  split at h
  next hc =>
    refine ⟨hc.1, hc.2, ?_⟩
    split at h
    next rest hr =>
      split at h
      next hz =>
        cases h
        exact Or.inl ⟨rfl, hz.1, hz.2, rfl⟩
      next => cases h
    next a rest hr =>
      split at h
      next hz =>
        cases h
        exact Or.inr ⟨rfl, a, rest, hr, hz.1, hz.2.1, hz.2.2.1, hz.2.2.2.1, hz.2.2.2.2, rfl⟩
      next => cases h
    next => cases h
  next => cases h
theorem zcok_kd {c : Nat} {q : Nat × Nat × Nat × Nat} (h : zcok c q) : q.2.2.1 = 0 ∨ q.2.2.1 = 1 ∨ q.2.2.1 = 2 ∨ q.2.2.1 = 11 ∨ q.2.2.1 = 12 ∨ q.2.2.1 = 20 ∨ q.2.2.1 = 21 ∨ q.2.2.1 = 22 ∨ q.2.2.1 = 23 := by
  unfold zcok at h
  split at h
  all_goals first | omega | exact h.elim
theorem zinv_step (C : zCx p R s mth args meth c D ids b sa adV n0 nE d m) {k op : Nat} {i : Jvm.ClassFile.Instr} {o : zO} (hi : (op = 0 ∧ i = .invokevirtual k) ∨ (op = 1 ∧ i = .invokestatic k) ∨ (op = 2 ∧ i = .invokespecial k)) (h : zinvoke d m k pc lv st g w op = some o) (hd : decode (zby m) pc = .ok (i, 3)) : zSok p l e R s mth args below meth c D ids b sa n0 nE d m pc lv st g w o := by
  unfold zinvoke at h
  split at h
  next => cases h
  next m' kd n hl =>
    have hcm : zcn m < 9 := by
      by_cases hc : zcn m < 9
      · exact hc
      · exfalso
        have : zML (zcn m) = [] := by
          unfold zML
          split <;> first | omega | rfl
        rw [this] at hl
        cases hl
    have hok := zml_ok (zcn m) hcm _ (z_look hl)
    split at h
    next hkd =>
      split at h
      next hop =>
        split at h
        next a rest =>
          split at h
          next ha =>
            cases h
            rcases hi with ⟨h9, -⟩ | ⟨h9, -⟩ | ⟨-, rfl⟩
            · omega
            · omega
            · exact fun _ Q kk => z_obj C hl hkd hop.2 ha hd kk
          next => cases h
        next => cases h
      next => cases h
    next =>
      split at h
      next hkd =>
        split at h
        next hop =>
          split at h
          next y x rest =>
            split at h
            next ha =>
              cases h
              rcases hi with ⟨h9, -⟩ | ⟨-, rfl⟩ | ⟨h9, -⟩
              · omega
              · exact fun hge Q kk => z_rmax C hl hkd hop.2 hge ha hd kk
              · omega
            next => cases h
          next => cases h
        next => cases h
      next =>
        split at h
        next hkd =>
          split at h
          next hop =>
            split at h
            next y x rest =>
              split at h
              next ha =>
                cases h
                rcases hi with ⟨h9, -⟩ | ⟨-, rfl⟩ | ⟨h9, -⟩
                · omega
                · exact fun hge Q kk => z_rmin C hl hkd hop.2 hge ha hd kk
                · omega
              next => cases h
            next => cases h
          next => cases h
        next =>
          split at h
          next hkd =>
            split at h
            next hop =>
              split at h
              next x j rest =>
                split at h
                next ha =>
                  cases h
                  rcases hi with ⟨-, rfl⟩ | ⟨h9, -⟩ | ⟨h9, -⟩
                  · exact fun hge Q kk => z_ridx C hl hkd hop.2 hge ha hd kk
                  · omega
                  · omega
                next => cases h
              next => cases h
            next => cases h
          next n20 n21 n22 n23 =>
            split at h
            next hkop =>
              obtain ⟨hmode, hn, hc⟩ := zcall_spec h
              have hlen : (st.take n).reverse.length = n := by rw [List.length_reverse, List.length_take]; omega
              have hsp : st = (st.take n).reverse.reverse ++ st.drop n := by rw [List.reverse_reverse, List.take_append_drop]
              rcases hi with ⟨rfl, rfl⟩ | ⟨rfl, rfl⟩ | ⟨rfl, rfl⟩
              · rcases hc with ⟨hrc, -⟩ | ⟨-, a, rest, hdr, h0, hag, hk, hz, hfl, rfl⟩
                · cases hrc
                · have hk0 : kd = 0 := by
                    have := zcok_kd hok
                    dsimp only at this
                    omega
                  subst hk0
                  rw [hdr] at hsp
                  exact ⟨hok.1, hfl, fun d' r hdd hge hle hM Q kk => z_call0 C hl hmode hlen hsp h0 hag hk hz hdd hge hle hM hd kk⟩
              · rcases hc with ⟨-, hz, hfl, rfl⟩ | ⟨hrc, -⟩
                · have hk0 : kd = 1 ∨ kd = 11 := by
                    have := zcok_kd hok
                    dsimp only at this
                    omega
                  rcases hk0 with rfl | rfl
                  · exact ⟨hok.1, hfl, fun d' r hdd hge hle hM Q kk => z_call1 C hl hmode hlen hsp hz hdd hge hle hM hd kk⟩
                  · exact ⟨hok.1, hfl, fun d' r hdd hge hle hM Q kk => z_call11 C hl hmode hlen hsp hz hdd hge hle hM hd kk⟩
                · cases hrc
              · rcases hc with ⟨hrc, -⟩ | ⟨-, a, rest, hdr, h0, hag, hk, hz, hfl, rfl⟩
                · cases hrc
                · have hk0 : kd = 2 ∨ kd = 12 := by
                    have := zcok_kd hok
                    dsimp only at this
                    omega
                  rw [hdr] at hsp
                  rcases hk0 with rfl | rfl
                  · exact ⟨hok.1, hfl, fun d' r hdd hge hle hM Q kk => z_call2 C hl hmode hlen hsp h0 hz hdd hge hle hM hd kk⟩
                  · exact ⟨hok.1, hfl, fun d' r hdd hge hle hM Q kk => z_call12 C hl hmode hlen hsp h0 hz hdd hge hle hM hd kk⟩
            next => cases h
theorem zjmp_ok {off : Int} {lv' st' : List zV} {g' : Nat} {w' : zW} {o : zO} (h : zjmp pc off lv' st' g' w' = some o) : ∃ tgt : Nat, (pc : Int) + off = (tgt : Int) ∧ o = .inl (tgt, lv', st', g', w') := by
  unfold zjmp at h
  split at h
  next h0 =>
    cases h
    exact ⟨((pc : Int) + off).toNat, (Int.toNat_of_nonneg h0).symm, rfl⟩
  next => cases h
theorem z_step (C : zCx p R s mth args meth c D ids b sa adV n0 nE d m) {i : Jvm.ClassFile.Instr} {n : Nat} {o : zO} (hd : decode (zby m) pc = .ok (i, n)) (h : zex d m pc n lv st g w i = some o) : zSok p l e R s mth args below meth c D ids b sa n0 nE d m pc lv st g w o := by
  cases i with
  | iconst v =>
    simp only [zex] at h
    split at h
    next hc =>
      obtain ⟨rfl, hv⟩ := hc
      cases h
      exact fun _ Q kk => z_iconst C hv hd kk
    next => cases h
  | bipush v =>
    simp only [zex] at h
    split at h
    next hc =>
      obtain ⟨rfl, hv⟩ := hc
      cases h
      exact fun _ Q kk => z_bipush C hv hd kk
    next => cases h
  | sipush v =>
    simp only [zex] at h
    split at h
    next hc =>
      obtain ⟨rfl, hv⟩ := hc
      cases h
      exact fun _ Q kk => z_sipush C hv hd kk
    next => cases h
  | lconst v =>
    simp only [zex] at h
    split at h
    next hc =>
      subst hc
      cases h
      exact fun _ Q kk => z_lconst C hd kk
    next => cases h
  | ldc2_w k =>
    simp only [zex] at h
    split at h
    next hc =>
      subst hc
      split at h
      next v hl =>
        cases h
        exact fun _ Q kk => z_ldc2 C hl hd kk
      next => cases h
    next => cases h
  | ldc k =>
    simp only [zex] at h
    split at h
    next hc =>
      subst hc
      split at h
      next v hl =>
        cases h
        exact fun _ Q kk => z_ldc C hl hd kk
      next => cases h
    next => cases h
  | iload_n k =>
    simp only [zex] at h
    split at h
    next hc =>
      subst hc
      split at h
      next v hl =>
        cases h
        exact fun _ Q kk => z_iload_n C hl hd kk
      next => cases h
    next => cases h
  | iload k =>
    simp only [zex] at h
    split at h
    next hc =>
      subst hc
      split at h
      next v hl =>
        cases h
        exact fun _ Q kk => z_iload C hl hd kk
      next => cases h
    next => cases h
  | lload_n k =>
    simp only [zex] at h
    split at h
    next hc =>
      subst hc
      split at h
      next v hl =>
        cases h
        exact fun _ Q kk => z_lload_n C hl hd kk
      next => cases h
    next => cases h
  | lload k =>
    simp only [zex] at h
    split at h
    next hc =>
      subst hc
      split at h
      next v hl =>
        cases h
        exact fun _ Q kk => z_lload C hl hd kk
      next => cases h
    next => cases h
  | aload_n k =>
    simp only [zex] at h
    split at h
    next hc =>
      subst hc
      split at h
      next v hl =>
        split at h
        next h0 =>
          cases h
          exact fun _ Q kk => z_aload_n C hl h0 hd kk
        next => cases h
      next => cases h
    next => cases h
  | aload k =>
    simp only [zex] at h
    split at h
    next hc =>
      subst hc
      split at h
      next v hl =>
        split at h
        next h0 =>
          cases h
          exact fun _ Q kk => z_aload C hl h0 hd kk
        next => cases h
      next => cases h
    next => cases h
  | istore_n k =>
    simp only [zex] at h
    split at h
    next hc =>
      subst hc
      split at h
      next x st =>
        split at h
        next lv2 hs =>
          cases h
          exact fun _ Q kk => z_istore_n C hs hd kk
        next => cases h
      next => cases h
    next => cases h
  | istore k =>
    simp only [zex] at h
    split at h
    next hc =>
      subst hc
      split at h
      next x st =>
        split at h
        next lv2 hs =>
          cases h
          exact fun _ Q kk => z_istore C hs hd kk
        next => cases h
      next => cases h
    next => cases h
  | lstore_n k =>
    simp only [zex] at h
    split at h
    next hc =>
      subst hc
      split at h
      next x st =>
        split at h
        next lv2 hs =>
          cases h
          exact fun _ Q kk => z_lstore_n C hs hd kk
        next => cases h
      next => cases h
    next => cases h
  | lstore k =>
    simp only [zex] at h
    split at h
    next hc =>
      subst hc
      split at h
      next x st =>
        split at h
        next lv2 hs =>
          cases h
          exact fun _ Q kk => z_lstore C hs hd kk
        next => cases h
      next => cases h
    next => cases h
  | astore_n k =>
    simp only [zex] at h
    split at h
    next hc =>
      subst hc
      split at h
      next x st =>
        split at h
        next h0 =>
          split at h
          next lv2 hs =>
            cases h
            exact fun _ Q kk => z_astore_n C h0 hs hd kk
          next => cases h
        next => cases h
      next => cases h
    next => cases h
  | astore k =>
    simp only [zex] at h
    split at h
    next hc =>
      subst hc
      split at h
      next x st =>
        split at h
        next h0 =>
          split at h
          next lv2 hs =>
            cases h
            exact fun _ Q kk => z_astore C h0 hs hd kk
          next => cases h
        next => cases h
      next => cases h
    next => cases h
  | iinc k v =>
    simp only [zex] at h
    split at h
    next hc =>
      subst hc
      split at h
      next x hl =>
        split at h
        next lv2 hs =>
          cases h
          exact fun _ Q kk => z_iinc C hl hs hd kk
        next => cases h
      next => cases h
    next => cases h
  | iadd =>
    simp only [zex] at h
    split at h
    next hc =>
      subst hc
      split at h
      next =>
        cases h
        exact fun _ Q kk => z_iadd C hd kk
      next => cases h
    next => cases h
  | isub =>
    simp only [zex] at h
    split at h
    next hc =>
      subst hc
      split at h
      next =>
        cases h
        exact fun _ Q kk => z_isub C hd kk
      next => cases h
    next => cases h
  | imul =>
    simp only [zex] at h
    split at h
    next hc =>
      subst hc
      split at h
      next =>
        cases h
        exact fun _ Q kk => z_imul C hd kk
      next => cases h
    next => cases h
  | iand =>
    simp only [zex] at h
    split at h
    next hc =>
      subst hc
      split at h
      next =>
        cases h
        exact fun _ Q kk => z_iand C hd kk
      next => cases h
    next => cases h
  | ior =>
    simp only [zex] at h
    split at h
    next hc =>
      subst hc
      split at h
      next =>
        cases h
        exact fun _ Q kk => z_ior C hd kk
      next => cases h
    next => cases h
  | ishl =>
    simp only [zex] at h
    split at h
    next hc =>
      subst hc
      split at h
      next =>
        cases h
        exact fun _ Q kk => z_ishl C hd kk
      next => cases h
    next => cases h
  | land =>
    simp only [zex] at h
    split at h
    next hc =>
      subst hc
      split at h
      next =>
        cases h
        exact fun _ Q kk => z_rland C hd kk
      next => cases h
    next => cases h
  | lor =>
    simp only [zex] at h
    split at h
    next hc =>
      subst hc
      split at h
      next =>
        cases h
        exact fun _ Q kk => z_rlor C hd kk
      next => cases h
    next => cases h
  | lmul =>
    simp only [zex] at h
    split at h
    next hc =>
      subst hc
      split at h
      next =>
        cases h
        exact fun _ Q kk => z_rlmul C hd kk
      next => cases h
    next => cases h
  | lsub =>
    simp only [zex] at h
    split at h
    next hc =>
      subst hc
      split at h
      next =>
        cases h
        exact fun _ Q kk => z_rlsub C hd kk
      next => cases h
    next => cases h
  | lshl =>
    simp only [zex] at h
    split at h
    next hc =>
      subst hc
      split at h
      next =>
        cases h
        exact fun _ Q kk => z_rlshl C hd kk
      next => cases h
    next => cases h
  | lshr =>
    simp only [zex] at h
    split at h
    next hc =>
      subst hc
      split at h
      next =>
        cases h
        exact fun _ Q kk => z_rlshr C hd kk
      next => cases h
    next => cases h
  | lushr =>
    simp only [zex] at h
    split at h
    next hc =>
      subst hc
      split at h
      next =>
        cases h
        exact fun _ Q kk => z_rlushr C hd kk
      next => cases h
    next => cases h
  | lcmp =>
    simp only [zex] at h
    split at h
    next hc =>
      subst hc
      split at h
      next =>
        cases h
        exact fun _ Q kk => z_rlcmp C hd kk
      next => cases h
    next => cases h
  | i2l =>
    simp only [zex] at h
    split at h
    next hc =>
      subst hc
      split at h
      next =>
        cases h
        exact fun _ Q kk => z_i2l C hd kk
      next => cases h
    next => cases h
  | l2i =>
    simp only [zex] at h
    split at h
    next hc =>
      subst hc
      split at h
      next =>
        cases h
        exact fun _ Q kk => z_rl2i C hd kk
      next => cases h
    next => cases h
  | i2c =>
    simp only [zex] at h
    split at h
    next hc =>
      subst hc
      split at h
      next =>
        cases h
        exact fun _ Q kk => z_ri2c C hd kk
      next => cases h
    next => cases h
  | idiv =>
    simp only [zex] at h
    split at h
    next hc =>
      subst hc
      split at h
      next =>
        split at h
        next => cases h
        next hy =>
          cases h
          exact fun _ Q kk => z_idiv C hy hd kk
      next => cases h
    next => cases h
  | irem =>
    simp only [zex] at h
    split at h
    next hc =>
      subst hc
      split at h
      next =>
        split at h
        next => cases h
        next hy =>
          cases h
          exact fun _ Q kk => z_irem C hy hd kk
      next => cases h
    next => cases h
  | dup =>
    simp only [zex] at h
    split at h
    next hc =>
      subst hc
      split at h
      next =>
        split at h
        next => cases h
        next hy =>
          cases h
          exact fun _ Q kk => z_dup C hy hd kk
      next => cases h
    next => cases h
  | pop =>
    simp only [zex] at h
    split at h
    next hc =>
      subst hc
      split at h
      next =>
        split at h
        next => cases h
        next hy =>
          cases h
          exact fun _ Q kk => z_pop C hy hd kk
      next => cases h
    next => cases h
  | dup2 =>
    simp only [zex] at h
    split at h
    next hc =>
      subst hc
      split at h
      next =>
        split at h
        next => cases h
        next hy =>
          cases h
          exact fun _ Q kk => z_dup2 C (fun e => hy (Or.inl e)) (fun e => hy (Or.inr e)) hd kk
      next => cases h
    next => cases h
  | ifCond cd off =>
    simp only [zex] at h
    split at h
    next hc =>
      obtain ⟨hc, e0⟩ := hc
      subst hc
      split at h
      next =>
        split at h
        next ht =>
          cases h
          exact fun _ Q kk => z_ifc C (tgt := ((pc : Int) + off).toNat) (Int.toNat_of_nonneg e0).symm hd (fun _ => kk) (fun hf => absurd ht hf)
        next hf =>
          cases h
          exact fun _ Q kk => z_ifc C (tgt := ((pc : Int) + off).toNat) (Int.toNat_of_nonneg e0).symm hd (fun ht => absurd ht hf) (fun _ => kk)
      next => cases h
    next => cases h
  | if_icmp cd off =>
    simp only [zex] at h
    split at h
    next hc =>
      obtain ⟨hc, e0⟩ := hc
      subst hc
      split at h
      next =>
        split at h
        next ht =>
          cases h
          exact fun _ Q kk => z_icmp C (tgt := ((pc : Int) + off).toNat) (Int.toNat_of_nonneg e0).symm hd (fun _ => kk) (fun hf => absurd ht hf)
        next hf =>
          cases h
          exact fun _ Q kk => z_icmp C (tgt := ((pc : Int) + off).toNat) (Int.toNat_of_nonneg e0).symm hd (fun ht => absurd ht hf) (fun _ => kk)
      next => cases h
    next => cases h
  | goto off =>
    simp only [zex] at h
    split at h
    next hc =>
      subst hc
      obtain ⟨tgt, e1, rfl⟩ := zjmp_ok h
      exact fun _ Q kk => z_goto C e1 hd kk
    next => cases h
  | tableswitch df lo hi offs =>
    simp only [zex] at h
    split at h
    next =>
      split at h
      next hx =>
        obtain ⟨tgt, e1, rfl⟩ := zjmp_ok h
        exact fun _ Q kk => z_tabO C hx e1 hd kk
      next hx =>
        split at h
        next off ho =>
          obtain ⟨tgt, e1, rfl⟩ := zjmp_ok h
          exact fun _ Q kk => z_tabI C hx ho e1 hd kk
        next => cases h
    next => cases h
  | lookupswitch df ps =>
    simp only [zex] at h
    split at h
    next =>
      split at h
      next hx =>
        obtain ⟨tgt, e1, rfl⟩ := zjmp_ok h
        exact fun _ Q kk => z_lsw C hx e1 hd kk
      next hx => cases h
    next => cases h
  | getfield k =>
    simp only [zex] at h
    split at h
    next hc =>
      subst hc
      split at h
      next =>
        split at h
        next v hl =>
          cases h
          exact fun _ Q kk => z_getf C hl hd kk
        next => cases h
      next => cases h
    next => cases h
  | putfield k =>
    simp only [zex] at h
    split at h
    next hc =>
      subst hc
      split at h
      next =>
        split at h
        next v hl =>
          cases h
          exact fun _ Q kk => z_putf C hl hd kk
        next => cases h
      next => cases h
    next => cases h
  | iaload =>
    simp only [zex] at h
    split at h
    next hc =>
      subst hc
      split at h
      next =>
        split at h
        next v hl =>
          cases h
          exact fun _ Q kk => z_iaload C hl hd kk
        next => cases h
      next => cases h
    next => cases h
  | laload =>
    simp only [zex] at h
    split at h
    next hc =>
      subst hc
      split at h
      next =>
        split at h
        next v hl =>
          cases h
          exact fun _ Q kk => z_laload C hl hd kk
        next => cases h
      next => cases h
    next => cases h
  | baload =>
    simp only [zex] at h
    split at h
    next hc =>
      subst hc
      split at h
      next =>
        split at h
        next v hl =>
          cases h
          exact fun _ Q kk => z_baload C hl hd kk
        next => cases h
      next => cases h
    next => cases h
  | iastore =>
    simp only [zex] at h
    split at h
    next hc =>
      subst hc
      split at h
      next =>
        split at h
        next v hl =>
          cases h
          exact fun _ Q kk => z_iastore C hl hd kk
        next => cases h
      next => cases h
    next => cases h
  | lastore =>
    simp only [zex] at h
    split at h
    next hc =>
      subst hc
      split at h
      next =>
        split at h
        next v hl =>
          cases h
          exact fun _ Q kk => z_lastore C hl hd kk
        next => cases h
      next => cases h
    next => cases h
  | bastore =>
    simp only [zex] at h
    split at h
    next hc =>
      subst hc
      split at h
      next =>
        split at h
        next hx =>
          split at h
          next v hl =>
            cases h
            exact fun _ Q kk => z_bastore C hx hl hd kk
          next => cases h
        next => cases h
      next => cases h
    next => cases h
  | arraylength =>
    simp only [zex] at h
    split at h
    next hc =>
      subst hc
      split at h
      next =>
        split at h
        next hx =>
          cases h
          exact fun _ Q kk => z_alen C hx hd kk
        next => cases h
      next => cases h
    next => cases h
  | new k =>
    simp only [zex] at h
    split at h
    next hc =>
      subst hc
      split at h
      next c2 hl =>
        split at h
        next hx =>
          cases h
          exact fun hge Q kk => z_newo C hl hx hge hd kk
        next => cases h
      next => cases h
    next => cases h
  | newarray t =>
    simp only [zex] at h
    split at h
    next hc =>
      subst hc
      split at h
      next x st =>
        split at h
        next hx =>
          cases h
          exact fun hge Q kk => z_newarr C rfl hx hge hd kk
        next => cases h
      next => cases h
    next => cases h
  | invokevirtual k =>
    simp only [zex] at h
    split at h
    next hc =>
      subst hc
      exact zinv_step C (Or.inl ⟨rfl, rfl⟩) h hd
    next => cases h
  | invokestatic k =>
    simp only [zex] at h
    split at h
    next hc =>
      subst hc
      exact zinv_step C (Or.inr (Or.inl ⟨rfl, rfl⟩)) h hd
    next => cases h
  | invokespecial k =>
    simp only [zex] at h
    split at h
    next hc =>
      subst hc
      exact zinv_step C (Or.inr (Or.inr ⟨rfl, rfl⟩)) h hd
    next => cases h
  | ireturn =>
    simp only [zex] at h
    split at h
    next hc =>
      subst hc
      split at h
      next =>
        split at h
        next hx =>
          cases h
          exact z_iret C hx hd
        next => cases h
      next => cases h
    next => cases h
  | lreturn =>
    simp only [zex] at h
    split at h
    next hc =>
      subst hc
      split at h
      next =>
        split at h
        next hx =>
          cases h
          exact z_lret C hx hd
        next => cases h
      next => cases h
    next => cases h
  | return_ =>
    simp only [zex] at h
    split at h
    next hc =>
      subst hc
      split at h
      next =>
        split at h
        next hx =>
          cases h
          exact z_vret C hx hd
        next => cases h
      next => cases h
    next => cases h
  | _ => cases h
end Z7
end
section
theorem zst_spec {d m : Nat} {S : zS} {o : zO} (h : zst d m S = some o) : ∃ (i : Jvm.ClassFile.Instr) (n : Nat), decode (zby m) S.1 = .ok (i, n) ∧ zex d m S.1 n S.2.1 S.2.2.1 S.2.2.2.1 S.2.2.2.2 i = some o := by
  unfold zst at h
  split at h
  next i n hd => exact ⟨i, n, hd, h⟩
  next => cases h
theorem zrun_g : ∀ (n d m : Nat) (S : zS) (r : zR), zrun n d m S = some r → S.2.2.2.1 ≤ r.2.1 := by
  intro n
  induction n with
  | zero => intro d m S r h; cases h
  | succ n ih =>
    intro d m S r h
    rw [zrun] at h
    split at h
    next => cases h
    next S' hs =>
      obtain ⟨i, k, -, hx⟩ := zst_spec hs
      exact Nat.le_trans (zex_mono hx) (ih d m S' r h)
    next v hs => cases h; exact Nat.le_refl _
    next m' as rest hs =>
      split at h
      next => cases h
      next d' =>
        split at h
        next => cases h
        next r1 h1 =>
          have a1 := ih _ _ _ _ h1
          have a2 := ih _ _ _ _ h
          exact Nat.le_trans a1 a2
theorem zflat_cons (v : zV) (as : List zV) : zflat (v :: as) = (if v.1 = 1 then [v, (9, 0)] else [v]) ++ zflat as := rfl
theorem zflat_args {b : Nat} {sa : Nat → Nat} : ∀ (as : List zV) (k i : Nat) (v : zV), (zflat as)[i]? = some v → v.1 < 4 → (k + i, zcv b sa v) ∈ lv_args k (as.map (zcv b sa))
  | [], k, i, v, h, _ => by cases h
  | a :: as, k, i, v, h, h4 => by
    rw [zflat_cons] at h
    rw [List.map_cons]
    show _ ∈ (k, zcv b sa a) :: lv_args (if (zcv b sa a).category = 2 then k + 2 else k + 1) (as.map (zcv b sa))
    by_cases h1 : a.1 = 1
    · rw [if_pos h1] at h
      rw [if_pos (zcv_cat1 h1)]
      match i, h with
      | 0, h => cases h; exact List.mem_cons_self
      | 1, h => cases h; exact absurd h4 (by decide)
      | i + 2, h =>
        have := zflat_args (b := b) (sa := sa) as (k + 2) i v h h4
        rw [show k + (i + 2) = k + 2 + i by omega]
        exact List.mem_cons_of_mem _ this
    · rw [if_neg h1] at h
      rw [if_neg (by rw [zcv_cat h1]; decide)]
      match i, h with
      | 0, h => cases h; exact List.mem_cons_self
      | i + 1, h =>
        have := zflat_args (b := b) (sa := sa) as (k + 1) i v h h4
        rw [show k + (i + 1) = k + 1 + i by omega]
        exact List.mem_cons_of_mem _ this
theorem zflat_len {b : Nat} {sa : Nat → Nat} : ∀ (as : List zV), (lg_sl (as.map (zcv b sa))).length = (zflat as).length
  | [] => rfl
  | a :: as => by
    have ih := zflat_len (b := b) (sa := sa) as
    rw [zflat_cons, List.map_cons]
    show ((if (zcv b sa a).category = 2 then [Slot.val (zcv b sa a), .second] else [.val (zcv b sa a)]) ++ lg_sl (as.map (zcv b sa))).length = _
    rw [List.length_append, List.length_append, ih]
    by_cases h1 : a.1 = 1
    · rw [if_pos h1, if_pos (zcv_cat1 h1)]
      rfl
    · rw [if_neg h1, if_neg (by rw [zcv_cat h1]; decide)]
      rfl
theorem zflat_in : ∀ (as : List zV) (i : Nat) (v : zV), zST as → (zflat as)[i]? = some v → v.1 < 4 → zin v
  | [], i, v, _, h, _ => by cases h
  | a :: as, i, v, hs, h, h4 => by
    rw [zflat_cons] at h
    by_cases h1 : a.1 = 1
    · rw [if_pos h1] at h
      match i, h with
      | 0, h => cases h; exact hs.head
      | 1, h => cases h; exact absurd h4 (by decide)
      | i + 2, h => exact zflat_in as i v hs.tail h h4
    · rw [if_neg h1] at h
      match i, h with
      | 0, h => cases h; exact hs.head
      | i + 1, h => exact zflat_in as i v hs.tail h h4
theorem zLV_entry {b : Nat} {sa : Nat → Nat} {as : List zV} {m : Nat} (hs : zST as) (hl : (zflat as).length ≤ zmx m) : zLV b sa ((lg_sl (as.map (zcv b sa)) ++ List.replicate (zmx m - (lg_sl (as.map (zcv b sa))).length) Slot.unset).toArray) (zmx m) (zloc m as) := by
  have h := lv_entry (as.map (zcv b sa)) (n := zmx m) (by rw [zflat_len]; exact hl)
  refine ⟨h.1, h.2.1, ?_, fun i v hi h4 => ?_⟩
  · unfold zloc
    rw [List.length_append, List.length_replicate]
    omega
  · unfold zloc at hi
    by_cases hlt : i < (zflat as).length
    · rw [List.getElem?_append_left hlt] at hi
      have h1 := zflat_args (b := b) (sa := sa) as 0 i v hi h4
      rw [Nat.zero_add] at h1
      exact ⟨h.2.2 _ h1, zflat_in as i v hs hi h4⟩
    · rw [List.getElem?_append_right (by omega)] at hi
      have := List.eq_of_mem_replicate (List.mem_of_getElem? hi)
      rw [this] at h4
      exact absurd h4 (by decide)
def zGood (n : Nat) : Prop := ∀ (p : Program) (l : Launch) (e : Env) (R : Room) (s : State) (mth : MethodId) (args : Array Value) (below : List Frame) (meth : Method) (c : Code) (D : va_G) (ids : Nat → ClassId) (b : Nat) (sa adV : Nat → Nat) (n0 d m : Nat) (S : zS) (r : zR), zrun n d m S = some r → zCx p R s mth args meth c D ids b sa adV n0 r.2.1 d m →
  zWW p l e R s mth args below meth c D ids b sa n0 m (MQ below (zQc D ids b sa (zlm m) r) args s (r.2.1 - n0) (zsum r.2.1 - zsum n0) (fun q => b ≤ q)) S.1 S.2.1 S.2.2.1 S.2.2.2.1 S.2.2.2.2
set_option maxHeartbeats 4000000 in
theorem z_met {n d m : Nat} {as : List zV} {g : Nat} {w : zW} {r : zR} (G : zGood n) (h : zrun n d m (0, zloc m as, [], g, w) = some r) (hm : zmok m) (hf : (zflat as).length ≤ zmx m) : zMt d m as g w r := by
  intro l D ids b sa adV
  refine Met.ofW (cc := zby m) (maxL := zmx m) (ret := zrt m) hm.2.2.2.1 rfl ?_
  intro p e s mth args below meth c s₁ B hml hv
  obtain ⟨rfl, hP, hsz, hok, hlk, hKK, hST⟩ := hv
  have hts := atoms_spec (ws := zwd m) B.pre
  have hown : s.vm.findClass (zyn m).cls = some mth.cls := findClass_of_methodNamed B.named
  have C : zCx p (headSpec (zwd m) (zrm d (r.2.1 - g) (zsum r.2.1 - zsum g))).room s mth (as.map (zcv b sa)).toArray meth c D ids b sa adV g r.2.1 d m :=
    ⟨B.exec, B.bytes, B.returns, B.notSynchronized, hml, by rw [← hm.2.2.2.2.1]; exact hown, (name_of_methodNamed B.named B.method).1, fun x hx => hts x (List.mem_cons_of_mem _ hx), hKK, Nat.le_refl _, Nat.le_refl _, rfl, rfl⟩
  have hW := G p l e _ s mth _ below meth c D ids b sa adV g d m _ r h C s.heap [] _ ⟨hP, hsz, Nat.le_refl _, by rw [hsz]; omega, fun _ _ => rfl, fun _ hx => absurd hx List.not_mem_nil, hok, hlk⟩ (zLV_entry hST hf) (fun _ hx => absurd hx List.not_mem_nil) (Nat.le_refl _)
  rw [lg_entry_eq]
  rw [Nat.sub_self, Nat.sub_self] at hW
  exact hW
set_option maxHeartbeats 4000000 in
theorem z_good : ∀ n, zGood n := by
  intro n
  induction n with
  | zero => intro p l e R s mth args below meth c D ids b sa adV n0 d m S r h; cases h
  | succ n ih =>
    intro p l e R s mth args below meth c D ids b sa adV n0 d m S r h C
    obtain ⟨pc, lv, st, g, w⟩ := S
    rw [zrun] at h
    split at h
    next => cases h
    next S' hs =>
      obtain ⟨i, k, hd, hx⟩ := zst_spec hs
      exact z_step (l := l) (e := e) (below := below) C hd hx (zrun_g _ _ _ _ _ h) _ (ih p l e R s mth args below meth c D ids b sa adV n0 d m S' r h C)
    next v hs =>
      obtain ⟨i, k, hd, hx⟩ := zst_spec hs
      cases h
      exact z_step (l := l) (e := e) (below := below) C hd hx
    next m' as rest hs =>
      obtain ⟨i, k, hd, hx⟩ := zst_spec hs
      split at h
      next => cases h
      next d' =>
        split at h
        next => cases h
        next r1 h1 =>
          obtain ⟨q1, q2, q3⟩ := z_step (l := l) (e := e) (below := below) C hd hx
          have g1 := zrun_g _ _ _ _ _ h1
          have g2 := zrun_g _ _ _ _ _ h
          exact q3 d' r1 rfl g1 g2 (z_met ih h1 q1 q2) _ (ih p l e R s mth args below meth c D ids b sa adV n0 (d' + 1) m _ r h C)
/-- more fuel, the same end -/
theorem zrun_more : ∀ (n d m : Nat) (S : zS) (r : zR), zrun n d m S = some r → zrun (n + 1) d m S = some r := by
  intro n
  induction n with
  | zero => intro d m S r h; cases h
  | succ n ih =>
    intro d m S r h
    rw [zrun] at h ⊢
    split at h
    next => cases h
    next S' hs =>
      exact ih d m S' r h
    next v hs =>
      exact h
    next m' as rest hs =>
      split at h
      next => cases h
      next d' =>
        split at h
        next => cases h
        next r1 h1 =>
          rw [ih _ _ _ _ h1]
          exact ih _ _ _ _ h
theorem zrun_le {n n' d m : Nat} {S : zS} {r : zR} (hn : n ≤ n') (h : zrun n d m S = some r) : zrun n' d m S = some r := by
  induction hn with
  | refl => exact h
  | step _ ih => exact zrun_more _ _ _ _ _ ih
theorem zrun_det {n n' d m : Nat} {S : zS} {r r' : zR} (h : zrun n d m S = some r) (h' : zrun n' d m S = some r') : r = r' := by
  have a := zrun_le (Nat.le_max_left n n') h
  have b := zrun_le (Nat.le_max_right n n') h'
  exact Option.some.inj (a.symm.trans b)
/-- the end of a run -/
noncomputable def Rn (d m pc : Nat) (lv st : List zV) (g : Nat) (w : zW) : Option zR := @dite _ (∃ r, ∃ n, zrun n d m (pc, lv, st, g, w) = some r) (Classical.propDecidable _) (fun h => some (Classical.choose h)) (fun _ => none)
theorem Rn_iff {d m pc : Nat} {lv st : List zV} {g : Nat} {w : zW} {r : zR} : Rn d m pc lv st g w = some r ↔ ∃ n, zrun n d m (pc, lv, st, g, w) = some r := by
  unfold Rn
  constructor
  · intro h
    split at h
    next hx =>
      cases h
      exact Classical.choose_spec hx
    next => cases h
  · intro h
    have hx : ∃ r, ∃ n, zrun n d m (pc, lv, st, g, w) = some r := ⟨r, h⟩
    rw [dif_pos hx]
    obtain ⟨n, hn⟩ := h
    obtain ⟨n', hn'⟩ := Classical.choose_spec hx
    rw [zrun_det hn' hn]
/-- a call -/
noncomputable def Cl (d m : Nat) (as : List zV) (g : Nat) (w : zW) : Option zR := Rn d m 0 (zloc m as) [] g w
noncomputable def zgoR (d m pc : Nat) (lv : List zV) (g : Nat) (w : zW) (o : Option zO) : Option zR := match o with
  | none => none
  | some (.inl S') => Rn d m S'.1 S'.2.1 S'.2.2.1 S'.2.2.2.1 S'.2.2.2.2
  | some (.inr (.inl v)) => some (v, g, w)
  | some (.inr (.inr (m', as, rest))) => match d with
    | 0 => none
    | d' + 1 => (Cl d' m' as g w).bind (fun r => Rn (d' + 1) m (pc + 3) lv (zpush r.1 rest) r.2.1 r.2.2)
theorem Rn_eq (d m pc : Nat) (lv st : List zV) (g : Nat) (w : zW) : Rn d m pc lv st g w = zgoR d m pc lv g w (zst d m (pc, lv, st, g, w)) := by
  apply Option.ext
  intro r
  rw [Rn_iff]
  constructor
  · rintro ⟨n, h⟩
    cases n with
    | zero => cases h
    | succ n =>
      rw [zrun] at h
      split at h
      next => cases h
      next S' hs =>
        rw [hs]
        exact Rn_iff.mpr ⟨n, h⟩
      next v hs =>
        rw [hs]
        exact h
      next m' as rest hs =>
        rw [hs]
        split at h
        next => cases h
        next d' =>
          split at h
          next => cases h
          next r1 h1 =>
            show (Cl d' m' as g w).bind _ = some r
            have : Cl d' m' as g w = some r1 := Rn_iff.mpr ⟨n, h1⟩
            rw [this]
            exact Rn_iff.mpr ⟨n, h⟩
  · intro h
    cases hs : zst d m (pc, lv, st, g, w) with
    | none => rw [hs] at h; cases h
    | some o =>
      rw [hs] at h
      match o, d, hs, h with
      | .inl S', d, hs, h =>
        obtain ⟨n, hn⟩ := Rn_iff.mp h
        refine ⟨n + 1, ?_⟩
        rw [zrun, hs]
        exact hn
      | .inr (.inl v), d, hs, h =>
        refine ⟨1, ?_⟩
        rw [zrun, hs]
        exact h
      | .inr (.inr (m', as, rest)), 0, hs, h => cases h
      | .inr (.inr (m', as, rest)), d' + 1, hs, h =>
        have h : (Cl d' m' as g w).bind (fun r => Rn (d' + 1) m (pc + 3) lv (zpush r.1 rest) r.2.1 r.2.2) = some r := h
        cases hc : Cl d' m' as g w with
        | none => rw [hc] at h; cases h
        | some r1 =>
          rw [hc] at h
          obtain ⟨n1, hn1⟩ := Rn_iff.mp hc
          obtain ⟨n2, hn2⟩ := Rn_iff.mp h
          refine ⟨max n1 n2 + 1, ?_⟩
          rw [zrun, hs]
          dsimp only
          rw [zrun_le (Nat.le_max_left n1 n2) hn1]
          exact zrun_le (Nat.le_max_right n1 n2) hn2
/-- what a run says of the machine -/
theorem Cl_met {d m : Nat} {as : List zV} {g : Nat} {w : zW} {r : zR} (h : Cl d m as g w = some r) (hm : zmok m) (hf : (zflat as).length ≤ zmx m) : zMt d m as g w r := by
  obtain ⟨n, hn⟩ := Rn_iff.mp h
  exact z_met (z_good n) hn hm hf
end
section
/-! equations of runs, an instruction each -/
def zob (a : Int) (c g : Nat) : Prop := 0 ≤ a ∧ a < g ∧ (zsh a).1 = c
section ZQ
variable {d m pc g : Nat} {lv st : List zV} {w : zW}
theorem Rn_st {i : Jvm.ClassFile.Instr} {n : Nat} (hd : decode (zby m) pc = .ok (i, n)) : Rn d m pc lv st g w = zgoR d m pc lv g w (zex d m pc n lv st g w i) := by
  rw [Rn_eq]
  unfold zst
  rw [hd]
theorem Rn_at {i : Jvm.ClassFile.Instr} {n : Nat} {o : Option zO} (hd : decode (zby m) pc = .ok (i, n)) (h : zex d m pc n lv st g w i = o) : Rn d m pc lv st g w = zgoR d m pc lv g w o := by rw [Rn_st hd, h]
theorem q_iconst {v : Int} (hd : decode (zby m) pc = .ok (.iconst v, 1)) (hv : -1 ≤ v ∧ v ≤ 5) : Rn d m pc lv st g w = Rn d m (pc + 1) lv ((0, v) :: st) g w := by
  rw [Rn_st hd]; dsimp only [zex]; rw [if_pos ⟨rfl, hv⟩]; rfl
theorem q_bipush {v : Int} (hd : decode (zby m) pc = .ok (.bipush v, 2)) (hv : -128 ≤ v ∧ v ≤ 127) : Rn d m pc lv st g w = Rn d m (pc + 2) lv ((0, v) :: st) g w := by
  rw [Rn_st hd]; dsimp only [zex]; rw [if_pos ⟨rfl, hv⟩]; rfl
theorem q_sipush {v : Int} (hd : decode (zby m) pc = .ok (.sipush v, 3)) (hv : -32768 ≤ v ∧ v ≤ 32767) : Rn d m pc lv st g w = Rn d m (pc + 3) lv ((0, v) :: st) g w := by
  rw [Rn_st hd]; dsimp only [zex]; rw [if_pos ⟨rfl, hv⟩]; rfl
theorem q_lconst {v : Fin 2} {x : Int} (hd : decode (zby m) pc = .ok (.lconst v, 1)) (hx : ((v : Nat) : Int) = x) : Rn d m pc lv st g w = Rn d m (pc + 1) lv ((1, x) :: st) g w := by
  subst hx
  rw [Rn_st hd]; rfl
theorem q_ldc2 {k : Nat} {v : Int} (hd : decode (zby m) pc = .ok (.ldc2_w k, 3)) (hl : (zKL (zcn m)).lookup k = some v) : Rn d m pc lv st g w = Rn d m (pc + 3) lv ((1, v) :: st) g w := by
  rw [Rn_st hd]; dsimp only [zex]; rw [if_pos rfl, hl]; rfl
theorem q_ldc {k j : Nat} {x : Int} (hd : decode (zby m) pc = .ok (.ldc k, 2)) (hl : (zSL (zcn m)).lookup k = some j) (hx : (j : Int) = x) : Rn d m pc lv st g w = Rn d m (pc + 2) lv ((3, x) :: st) g w := by
  subst hx
  rw [Rn_st hd]; dsimp only [zex]; rw [if_pos rfl, hl]; rfl
theorem q_iload_n {k : Fin 4} {v : zV} (hd : decode (zby m) pc = .ok (.iload_n k, 1)) (hl : zld 0 lv k = some v) : Rn d m pc lv st g w = Rn d m (pc + 1) lv (v :: st) g w := by
  rw [Rn_st hd]; dsimp only [zex]; rw [if_pos rfl, hl]; rfl
theorem q_iload {k : Nat} {v : zV} (hd : decode (zby m) pc = .ok (.iload k, 2)) (hl : zld 0 lv k = some v) : Rn d m pc lv st g w = Rn d m (pc + 2) lv (v :: st) g w := by
  rw [Rn_st hd]; dsimp only [zex]; rw [if_pos rfl, hl]; rfl
theorem q_lload_n {k : Fin 4} {v : zV} (hd : decode (zby m) pc = .ok (.lload_n k, 1)) (hl : zld 1 lv k = some v) : Rn d m pc lv st g w = Rn d m (pc + 1) lv (v :: st) g w := by
  rw [Rn_st hd]; dsimp only [zex]; rw [if_pos rfl, hl]; rfl
theorem q_lload {k : Nat} {v : zV} (hd : decode (zby m) pc = .ok (.lload k, 2)) (hl : zld 1 lv k = some v) : Rn d m pc lv st g w = Rn d m (pc + 2) lv (v :: st) g w := by
  rw [Rn_st hd]; dsimp only [zex]; rw [if_pos rfl, hl]; rfl
theorem q_aload_n {k : Fin 4} {v : zV} (hd : decode (zby m) pc = .ok (.aload_n k, 1)) (hl : zld 2 lv k = some v) (h0 : 0 ≤ v.2) : Rn d m pc lv st g w = Rn d m (pc + 1) lv (v :: st) g w := by
  rw [Rn_st hd]; dsimp only [zex]; rw [if_pos rfl, hl]; (try dsimp only); rw [if_pos h0]; rfl
theorem q_aload {k : Nat} {v : zV} (hd : decode (zby m) pc = .ok (.aload k, 2)) (hl : zld 2 lv k = some v) (h0 : 0 ≤ v.2) : Rn d m pc lv st g w = Rn d m (pc + 2) lv (v :: st) g w := by
  rw [Rn_st hd]; dsimp only [zex]; rw [if_pos rfl, hl]; (try dsimp only); rw [if_pos h0]; rfl
theorem q_istore_n {k : Fin 4} {x : Int} {lv' : List zV} (hd : decode (zby m) pc = .ok (.istore_n k, 1)) (hs : zsto lv k (0, x) = some lv') : Rn d m pc lv ((0, x) :: st) g w = Rn d m (pc + 1) lv' st g w := by
  rw [Rn_at hd (o := (match zsto lv k (0, x) with | some lv => zgo (pc + 1) lv st g w | none => none)) rfl]; rw [hs]; rfl
theorem q_istore {k : Nat} {x : Int} {lv' : List zV} (hd : decode (zby m) pc = .ok (.istore k, 2)) (hs : zsto lv k (0, x) = some lv') : Rn d m pc lv ((0, x) :: st) g w = Rn d m (pc + 2) lv' st g w := by
  rw [Rn_at hd (o := (match zsto lv k (0, x) with | some lv => zgo (pc + 2) lv st g w | none => none)) rfl]; rw [hs]; rfl
theorem q_lstore_n {k : Fin 4} {x : Int} {lv' : List zV} (hd : decode (zby m) pc = .ok (.lstore_n k, 1)) (hs : zstoL lv k (1, x) = some lv') : Rn d m pc lv ((1, x) :: st) g w = Rn d m (pc + 1) lv' st g w := by
  rw [Rn_at hd (o := (match zstoL lv k (1, x) with | some lv => zgo (pc + 1) lv st g w | none => none)) rfl]; rw [hs]; rfl
theorem q_lstore {k : Nat} {x : Int} {lv' : List zV} (hd : decode (zby m) pc = .ok (.lstore k, 2)) (hs : zstoL lv k (1, x) = some lv') : Rn d m pc lv ((1, x) :: st) g w = Rn d m (pc + 2) lv' st g w := by
  rw [Rn_at hd (o := (match zstoL lv k (1, x) with | some lv => zgo (pc + 2) lv st g w | none => none)) rfl]; rw [hs]; rfl
theorem q_astore_n {k : Fin 4} {x : Int} {lv' : List zV} (hd : decode (zby m) pc = .ok (.astore_n k, 1)) (hs : zsto lv k (2, x) = some lv') (h0 : 0 ≤ x) : Rn d m pc lv ((2, x) :: st) g w = Rn d m (pc + 1) lv' st g w := by
  rw [Rn_at hd (o := (if 0 ≤ x then (match zsto lv k (2, x) with | some lv => zgo (pc + 1) lv st g w | none => none) else none)) rfl]; rw [if_pos h0, hs]; rfl
theorem q_astore {k : Nat} {x : Int} {lv' : List zV} (hd : decode (zby m) pc = .ok (.astore k, 2)) (hs : zsto lv k (2, x) = some lv') (h0 : 0 ≤ x) : Rn d m pc lv ((2, x) :: st) g w = Rn d m (pc + 2) lv' st g w := by
  rw [Rn_at hd (o := (if 0 ≤ x then (match zsto lv k (2, x) with | some lv => zgo (pc + 2) lv st g w | none => none) else none)) rfl]; rw [if_pos h0, hs]; rfl
theorem q_iinc {k : Nat} {v : Int} {x : zV} {lv' : List zV} (hd : decode (zby m) pc = .ok (.iinc k v, 3)) (hl : zld 0 lv k = some x) (hs : zsto lv k (0, w32 (x.2 + v)) = some lv') : Rn d m pc lv st g w = Rn d m (pc + 3) lv' st g w := by
  rw [Rn_st hd]; dsimp only [zex]; rw [if_pos rfl, hl]; (try dsimp only); rw [hs]; rfl
theorem q_iadd {x y : Int} (hd : decode (zby m) pc = .ok (.iadd, 1)) : Rn d m pc lv ((0, y) :: (0, x) :: st) g w = Rn d m (pc + 1) lv ((0, w32 (x + y)) :: st) g w := by rw [Rn_st hd]; rfl
theorem q_isub {x y : Int} (hd : decode (zby m) pc = .ok (.isub, 1)) : Rn d m pc lv ((0, y) :: (0, x) :: st) g w = Rn d m (pc + 1) lv ((0, w32 (x - y)) :: st) g w := by rw [Rn_st hd]; rfl
theorem q_imul {x y : Int} (hd : decode (zby m) pc = .ok (.imul, 1)) : Rn d m pc lv ((0, y) :: (0, x) :: st) g w = Rn d m (pc + 1) lv ((0, w32 (x * y)) :: st) g w := by rw [Rn_st hd]; rfl
theorem q_iand {x y : Int} (hd : decode (zby m) pc = .ok (.iand, 1)) : Rn d m pc lv ((0, y) :: (0, x) :: st) g w = Rn d m (pc + 1) lv ((0, z_and x y) :: st) g w := by rw [Rn_st hd]; rfl
theorem q_ior {x y : Int} (hd : decode (zby m) pc = .ok (.ior, 1)) : Rn d m pc lv ((0, y) :: (0, x) :: st) g w = Rn d m (pc + 1) lv ((0, z_or x y) :: st) g w := by rw [Rn_st hd]; rfl
theorem q_ishl {x y : Int} (hd : decode (zby m) pc = .ok (.ishl, 1)) : Rn d m pc lv ((0, y) :: (0, x) :: st) g w = Rn d m (pc + 1) lv ((0, z_shl x y) :: st) g w := by rw [Rn_st hd]; rfl
theorem q_idiv {x y : Int} (hd : decode (zby m) pc = .ok (.idiv, 1)) (hy : y ≠ 0) : Rn d m pc lv ((0, y) :: (0, x) :: st) g w = Rn d m (pc + 1) lv ((0, z_div x y) :: st) g w := by
  rw [Rn_at hd (o := (if y = 0 then none else zgo (pc + 1) lv ((0, z_div x y) :: st) g w)) rfl]; rw [if_neg hy]; rfl
theorem q_irem {x y : Int} (hd : decode (zby m) pc = .ok (.irem, 1)) (hy : y ≠ 0) : Rn d m pc lv ((0, y) :: (0, x) :: st) g w = Rn d m (pc + 1) lv ((0, z_rem x y) :: st) g w := by
  rw [Rn_at hd (o := (if y = 0 then none else zgo (pc + 1) lv ((0, z_rem x y) :: st) g w)) rfl]; rw [if_neg hy]; rfl
theorem q_land {x y : Int} (hd : decode (zby m) pc = .ok (.land, 1)) : Rn d m pc lv ((1, y) :: (1, x) :: st) g w = Rn d m (pc + 1) lv ((1, z_land x y) :: st) g w := by rw [Rn_st hd]; rfl
theorem q_lor {x y : Int} (hd : decode (zby m) pc = .ok (.lor, 1)) : Rn d m pc lv ((1, y) :: (1, x) :: st) g w = Rn d m (pc + 1) lv ((1, z_lor x y) :: st) g w := by rw [Rn_st hd]; rfl
theorem q_lmul {x y : Int} (hd : decode (zby m) pc = .ok (.lmul, 1)) : Rn d m pc lv ((1, y) :: (1, x) :: st) g w = Rn d m (pc + 1) lv ((1, z_lmul x y) :: st) g w := by rw [Rn_st hd]; rfl
theorem q_lsub {x y : Int} (hd : decode (zby m) pc = .ok (.lsub, 1)) : Rn d m pc lv ((1, y) :: (1, x) :: st) g w = Rn d m (pc + 1) lv ((1, z_lsub x y) :: st) g w := by rw [Rn_st hd]; rfl
theorem q_lshl {x y : Int} (hd : decode (zby m) pc = .ok (.lshl, 1)) : Rn d m pc lv ((0, y) :: (1, x) :: st) g w = Rn d m (pc + 1) lv ((1, z_lshl x y) :: st) g w := by rw [Rn_st hd]; rfl
theorem q_lshr {x y : Int} (hd : decode (zby m) pc = .ok (.lshr, 1)) : Rn d m pc lv ((0, y) :: (1, x) :: st) g w = Rn d m (pc + 1) lv ((1, z_lshr x y) :: st) g w := by rw [Rn_st hd]; rfl
theorem q_lushr {x y : Int} (hd : decode (zby m) pc = .ok (.lushr, 1)) : Rn d m pc lv ((0, y) :: (1, x) :: st) g w = Rn d m (pc + 1) lv ((1, z_lushr x y) :: st) g w := by rw [Rn_st hd]; rfl
theorem q_lcmp {x y : Int} (hd : decode (zby m) pc = .ok (.lcmp, 1)) : Rn d m pc lv ((1, y) :: (1, x) :: st) g w = Rn d m (pc + 1) lv ((0, z_cmp x y) :: st) g w := by rw [Rn_st hd]; rfl
theorem q_i2l {x : Int} (hd : decode (zby m) pc = .ok (.i2l, 1)) : Rn d m pc lv ((0, x) :: st) g w = Rn d m (pc + 1) lv ((1, x) :: st) g w := by rw [Rn_st hd]; rfl
theorem q_l2i {x : Int} (hd : decode (zby m) pc = .ok (.l2i, 1)) : Rn d m pc lv ((1, x) :: st) g w = Rn d m (pc + 1) lv ((0, z_l2i x) :: st) g w := by rw [Rn_st hd]; rfl
theorem q_i2c {x : Int} (hd : decode (zby m) pc = .ok (.i2c, 1)) : Rn d m pc lv ((0, x) :: st) g w = Rn d m (pc + 1) lv ((0, z_i2c x) :: st) g w := by rw [Rn_st hd]; rfl
theorem q_dup {v : zV} (hd : decode (zby m) pc = .ok (.dup, 1)) (hv : v.1 ≠ 1) : Rn d m pc lv (v :: st) g w = Rn d m (pc + 1) lv (v :: v :: st) g w := by
  rw [Rn_at hd (o := (if v.1 = 1 then none else zgo (pc + 1) lv (v :: v :: st) g w)) rfl]; rw [if_neg hv]; rfl
theorem q_dup2 {v u : zV} (hd : decode (zby m) pc = .ok (.dup2, 1)) (hv : v.1 ≠ 1) (hu : u.1 ≠ 1) : Rn d m pc lv (v :: u :: st) g w = Rn d m (pc + 1) lv (v :: u :: v :: u :: st) g w := by
  rw [Rn_at hd (o := (if v.1 = 1 ∨ u.1 = 1 then none else zgo (pc + 1) lv (v :: u :: v :: u :: st) g w)) rfl]; rw [if_neg (fun e => e.elim hv hu)]; rfl
theorem q_pop {v : zV} (hd : decode (zby m) pc = .ok (.pop, 1)) (hv : v.1 ≠ 1) : Rn d m pc lv (v :: st) g w = Rn d m (pc + 1) lv st g w := by
  rw [Rn_at hd (o := (if v.1 = 1 then none else zgo (pc + 1) lv st g w)) rfl]; rw [if_neg hv]; rfl
theorem q_ifb {A B : Option zR} {c : Bool} {P : Prop} [Decidable P] (h : c = decide P) : (if c = true then A else B) = if P then A else B := by
  subst h
  by_cases hp : P
  · rw [if_pos hp, if_pos (decide_eq_true hp)]
  · rw [if_neg hp, if_neg (fun e => hp (of_decide_eq_true e))]
theorem zgoR_if {A B : Option zO} {c : Prop} [Decidable c] : zgoR d m pc lv g w (if c then A else B) = if c then zgoR d m pc lv g w A else zgoR d m pc lv g w B := by
  split <;> rfl
theorem q_ifc {cd : Jvm.ClassFile.Cond} {off : Int} {tgt : Nat} {x : Int} {P : Prop} [Decidable P] (hd : decode (zby m) pc = .ok (.ifCond cd off, 3)) (ht : (pc : Int) + off = (tgt : Int)) (hp : zcond cd x 0 = decide P) : Rn d m pc lv ((0, x) :: st) g w = if P then Rn d m tgt lv st g w else Rn d m (pc + 3) lv st g w := by
  rw [Rn_at hd (o := if 3 = 3 ∧ 0 ≤ (pc : Int) + off then (if zcond cd x 0 = true then zgo ((pc : Int) + off).toNat lv st g w else zgo (pc + 3) lv st g w) else none) rfl, if_pos ⟨rfl, by omega⟩, zgoR_if, ht]
  exact q_ifb hp
theorem q_icmp {cd : Jvm.ClassFile.Cond} {off : Int} {tgt : Nat} {x y : Int} {P : Prop} [Decidable P] (hd : decode (zby m) pc = .ok (.if_icmp cd off, 3)) (ht : (pc : Int) + off = (tgt : Int)) (hp : zcond cd x y = decide P) : Rn d m pc lv ((0, y) :: (0, x) :: st) g w = if P then Rn d m tgt lv st g w else Rn d m (pc + 3) lv st g w := by
  rw [Rn_at hd (o := if 3 = 3 ∧ 0 ≤ (pc : Int) + off then (if zcond cd x y = true then zgo ((pc : Int) + off).toNat lv st g w else zgo (pc + 3) lv st g w) else none) rfl, if_pos ⟨rfl, by omega⟩, zgoR_if, ht]
  exact q_ifb hp
theorem zjmp_at {off : Int} {tgt : Nat} (ht : (pc : Int) + off = (tgt : Int)) : zjmp pc off lv st g w = zgo tgt lv st g w := by
  unfold zjmp
  rw [if_pos (by omega), ht]
  rfl
theorem q_goto {off : Int} {tgt : Nat} (hd : decode (zby m) pc = .ok (.goto off, 3)) (ht : (pc : Int) + off = (tgt : Int)) : Rn d m pc lv st g w = Rn d m tgt lv st g w := by
  rw [Rn_st hd]; dsimp only [zex]; rw [if_pos rfl, zjmp_at ht]; rfl
theorem q_tab {df lo hi : Int} {offs : Array Int} {len : Nat} {x : Int} (hd : decode (zby m) pc = .ok (.tableswitch df lo hi offs, len)) : Rn d m pc lv ((0, x) :: st) g w = zgoR d m pc lv g w (if x < lo ∨ hi < x then zjmp pc df lv st g w else (match offs[(x - lo).toNat]? with | some off => zjmp pc off lv st g w | none => none)) := by
  rw [Rn_st hd]; rfl
theorem q_lsw {df : Int} {ps : Array (Int × Int)} {len : Nat} {x : Int} (hd : decode (zby m) pc = .ok (.lookupswitch df ps, len)) (hp : (ps.toList.zip (ps.toList.drop 1)).all (fun (a, next) => a.1 < next.1) = true) : Rn d m pc lv ((0, x) :: st) g w = zgoR d m pc lv g w (zjmp pc (zsw ps.toList df x) lv st g w) := by
  rw [Rn_at hd (o := (if (ps.toList.zip (ps.toList.drop 1)).all (fun (a, next) => a.1 < next.1) = true then zjmp pc (zsw ps.toList df x) lv st g w else none)) rfl]; rw [if_pos hp]
theorem q_getl {k c f : Nat} {a o : Int} (hd : decode (zby m) pc = .ok (.getfield k, 3)) (hl : (zFL (zcn m)).lookup k = some (c, f)) (hlm : zlm m = true) (hlk : zlk c f = some o) (hf : f < zNf c) (ha : zob a c g) : Rn d m pc lv ((2, a) :: st) g w = Rn d m (pc + 3) lv ((2, a + o) :: st) g w := by
  rw [Rn_at hd (o := (match zget m k a g w with | some v => zgo (pc + 3) lv (v :: st) g w | none => none)) rfl]; unfold zget; rw [hl]; dsimp only; rw [if_pos ⟨ha.1, ha.2.1, ha.2.2, hf⟩, hlm, hlk]; rfl
theorem q_getf {k c f : Nat} {a : Int} {t : Nat} (hd : decode (zby m) pc = .ok (.getfield k, 3)) (hl : (zFL (zcn m)).lookup k = some (c, f)) (hlk : zlm m = false ∨ zlk c f = none) (hf : f < zNf c) (ht : ztg c f = t) (ha : zob a c g) : Rn d m pc lv ((2, a) :: st) g w = Rn d m (pc + 3) lv ((t, w a f) :: st) g w := by
  subst ht
  rw [Rn_at hd (o := (match zget m k a g w with | some v => zgo (pc + 3) lv (v :: st) g w | none => none)) rfl]; unfold zget; rw [hl]; dsimp only; rw [if_pos ⟨ha.1, ha.2.1, ha.2.2, hf⟩]
  rcases hlk with h | h
  · rw [h]; rfl
  · rw [h]; cases zlm m <;> rfl
theorem q_putf {k c f : Nat} {a : Int} {v : zV} (hd : decode (zby m) pc = .ok (.putfield k, 3)) (hl : (zFL (zcn m)).lookup k = some (c, f)) (hf : f < zNf c) (ht : ztg c f = v.1) (hlk : zlm m = true → zlk c f = none) (hfi : (zTt c f).2.2.2 = true → zlm m = false ∧ c = zcn m ∧ (zyn m).name = "<init>") (ha : zob a c g) (hb : zty c f = .boolean → v.2 = 0 ∨ v.2 = 1) : Rn d m pc lv (v :: (2, a) :: st) g w = Rn d m (pc + 3) lv st g (zup w a f v.2) := by
  rw [Rn_at hd (o := (match zput m k a v g w with | some w => zgo (pc + 3) lv st g w | none => none)) rfl]; unfold zput; rw [hl]; dsimp only; rw [if_pos ⟨ha.1, ha.2.1, ha.2.2, hf, ht, hb, hlk, hfi⟩]; rfl
theorem q_iaload {a i : Int} (hd : decode (zby m) pc = .ok (.iaload, 1)) (ha : zob a 20 g) (h0 : 0 ≤ i) (h1 : i < (zsh a).2) : Rn d m pc lv ((0, i) :: (2, a) :: st) g w = Rn d m (pc + 1) lv ((0, w a i) :: st) g w := by
  rw [Rn_at hd (o := (match zald 20 a i g w with | some v => zgo (pc + 1) lv ((0, v) :: st) g w | none => none)) rfl]; unfold zald; rw [if_pos ⟨ha.1, ha.2.1, ha.2.2, h0, h1⟩]; rfl
theorem q_laload {a i : Int} (hd : decode (zby m) pc = .ok (.laload, 1)) (ha : zob a 21 g) (h0 : 0 ≤ i) (h1 : i < (zsh a).2) : Rn d m pc lv ((0, i) :: (2, a) :: st) g w = Rn d m (pc + 1) lv ((1, w a i) :: st) g w := by
  rw [Rn_at hd (o := (match zald 21 a i g w with | some v => zgo (pc + 1) lv ((1, v) :: st) g w | none => none)) rfl]; unfold zald; rw [if_pos ⟨ha.1, ha.2.1, ha.2.2, h0, h1⟩]; rfl
theorem q_baload {a i : Int} (hd : decode (zby m) pc = .ok (.baload, 1)) (ha : zob a 22 g) (h0 : 0 ≤ i) (h1 : i < (zsh a).2) : Rn d m pc lv ((0, i) :: (2, a) :: st) g w = Rn d m (pc + 1) lv ((0, w a i) :: st) g w := by
  rw [Rn_at hd (o := (match zald 22 a i g w with | some v => zgo (pc + 1) lv ((0, v) :: st) g w | none => none)) rfl]; unfold zald; rw [if_pos ⟨ha.1, ha.2.1, ha.2.2, h0, h1⟩]; rfl
theorem q_iastore {a i x : Int} (hd : decode (zby m) pc = .ok (.iastore, 1)) (ha : zob a 20 g) (h0 : 0 ≤ i) (h1 : i < (zsh a).2) : Rn d m pc lv ((0, x) :: (0, i) :: (2, a) :: st) g w = Rn d m (pc + 1) lv st g (zup w a i x) := by
  rw [Rn_at hd (o := (match zast 20 a i x g w with | some w => zgo (pc + 1) lv st g w | none => none)) rfl]; unfold zast; rw [if_pos ⟨ha.1, ha.2.1, ha.2.2, h0, h1⟩]; rfl
theorem q_lastore {a i x : Int} (hd : decode (zby m) pc = .ok (.lastore, 1)) (ha : zob a 21 g) (h0 : 0 ≤ i) (h1 : i < (zsh a).2) : Rn d m pc lv ((1, x) :: (0, i) :: (2, a) :: st) g w = Rn d m (pc + 1) lv st g (zup w a i x) := by
  rw [Rn_at hd (o := (match zast 21 a i x g w with | some w => zgo (pc + 1) lv st g w | none => none)) rfl]; unfold zast; rw [if_pos ⟨ha.1, ha.2.1, ha.2.2, h0, h1⟩]; rfl
theorem q_bastore {a i x : Int} (hd : decode (zby m) pc = .ok (.bastore, 1)) (ha : zob a 22 g) (h0 : 0 ≤ i) (h1 : i < (zsh a).2) (hx : x = 0 ∨ x = 1) : Rn d m pc lv ((0, x) :: (0, i) :: (2, a) :: st) g w = Rn d m (pc + 1) lv st g (zup w a i x) := by
  rw [Rn_at hd (o := (if x = 0 ∨ x = 1 then (match zast 22 a i x g w with | some w => zgo (pc + 1) lv st g w | none => none) else none)) rfl]; unfold zast; rw [if_pos hx, if_pos ⟨ha.1, ha.2.1, ha.2.2, h0, h1⟩]; rfl
theorem q_alen {a : Int} (hd : decode (zby m) pc = .ok (.arraylength, 1)) (h0 : 0 ≤ a) (hg : a < g) (h1 : 20 ≤ (zsh a).1 ∧ (zsh a).1 ≤ 22) : Rn d m pc lv ((2, a) :: st) g w = Rn d m (pc + 1) lv ((0, ((zsh a).2 : Int)) :: st) g w := by
  rw [Rn_at hd (o := (if 0 ≤ a ∧ a < g ∧ 20 ≤ (zsh a).1 ∧ (zsh a).1 ≤ 22 then zgo (pc + 1) lv ((0, ((zsh a).2 : Int)) :: st) g w else none)) rfl]; rw [if_pos ⟨h0, hg, h1.1, h1.2⟩]; rfl
theorem q_new {k c : Nat} (hd : decode (zby m) pc = .ok (.new k, 3)) (hl : (zCL (zcn m)).lookup k = some c) (h : zlm m = false ∧ c < 9 ∧ zsh g = (c, zNf c)) : Rn d m pc lv st g w = Rn d m (pc + 3) lv ((2, (g : Int)) :: st) (g + 1) (zblank w g (fun j => if ztg c j.toNat = 2 then -1 else 0)) := by
  rw [Rn_st hd]; dsimp only [zex]; rw [if_pos rfl, hl]; (try dsimp only); rw [if_pos h]; rfl
theorem q_newarray {t : Jvm.ClassFile.ArrayType} {x : Int} (hd : decode (zby m) pc = .ok (.newarray t, 2)) (h : zlm m = false ∧ 0 ≤ x ∧ zsh g = (znk t, x.toNat)) : Rn d m pc lv ((0, x) :: st) g w = Rn d m (pc + 2) lv ((2, (g : Int)) :: st) (g + 1) (zblank w g (fun _ => 0)) := by
  rw [Rn_at hd (o := (if zlm m = false ∧ 0 ≤ x ∧ zsh g = (znk t, x.toNat) then zgo (pc + 2) lv ((2, (g : Int)) :: st) (g + 1) (zblank w g (fun _ => 0)) else none)) rfl]; rw [if_pos h]; rfl
theorem q_objInit {k n m' : Nat} {a : Int} (hd : decode (zby m) pc = .ok (.invokespecial k, 3)) (hl : (zML (zcn m)).lookup k = some (m', 20, n)) (ha : 0 ≤ a ∧ a < g) (hz : zcat st ≤ 8) : Rn (d + 1) m pc lv ((2, a) :: st) g w = Rn (d + 1) m (pc + 3) lv st g w := by
  rw [Rn_at hd (o := zinvoke (d + 1) m k pc lv ((2, a) :: st) g w 2) rfl]; unfold zinvoke; rw [hl]; dsimp only; rw [if_pos rfl, if_pos ⟨rfl, by omega⟩]; show zgoR _ _ _ _ _ _ (if 0 ≤ a ∧ a < g ∧ zcat st ≤ 8 then zgo (pc + 3) lv st g w else none) = _; rw [if_pos ⟨ha.1, ha.2, hz⟩]; rfl
theorem q_max {k n m' : Nat} {x y : Int} (hd : decode (zby m) pc = .ok (.invokestatic k, 3)) (hl : (zML (zcn m)).lookup k = some (m', 21, n)) (hz : zcat st ≤ 8) : Rn (d + 1) m pc lv ((0, y) :: (0, x) :: st) g w = Rn (d + 1) m (pc + 3) lv ((0, z_max x y) :: st) g w := by
  rw [Rn_at hd (o := zinvoke (d + 1) m k pc lv ((0, y) :: (0, x) :: st) g w 1) rfl]; unfold zinvoke; rw [hl]; dsimp only; rw [if_neg (by decide), if_pos rfl, if_pos ⟨rfl, by omega⟩]; show zgoR _ _ _ _ _ _ (if zcat st ≤ 8 then zgo (pc + 3) lv ((0, z_max x y) :: st) g w else none) = _; rw [if_pos hz]; rfl
theorem q_min {k n m' : Nat} {x y : Int} (hd : decode (zby m) pc = .ok (.invokestatic k, 3)) (hl : (zML (zcn m)).lookup k = some (m', 22, n)) (hz : zcat st ≤ 8) : Rn (d + 1) m pc lv ((0, y) :: (0, x) :: st) g w = Rn (d + 1) m (pc + 3) lv ((0, z_min x y) :: st) g w := by
  rw [Rn_at hd (o := zinvoke (d + 1) m k pc lv ((0, y) :: (0, x) :: st) g w 1) rfl]; unfold zinvoke; rw [hl]; dsimp only; rw [if_neg (by decide), if_neg (by decide), if_pos rfl, if_pos ⟨rfl, by omega⟩]; show zgoR _ _ _ _ _ _ (if zcat st ≤ 8 then zgo (pc + 3) lv ((0, z_min x y) :: st) g w else none) = _; rw [if_pos hz]; rfl
theorem q_idx {k n m' : Nat} {x i : Int} (hd : decode (zby m) pc = .ok (.invokevirtual k, 3)) (hl : (zML (zcn m)).lookup k = some (m', 23, n)) (hi : 0 ≤ i ∧ i < 3) (hz : zcat st ≤ 8) : Rn (d + 5) m pc lv ((0, x) :: (3, i) :: st) g w = Rn (d + 5) m (pc + 3) lv ((0, zix i.toNat x) :: st) g w := by
  rw [Rn_at hd (o := zinvoke (d + 5) m k pc lv ((0, x) :: (3, i) :: st) g w 0) rfl]; unfold zinvoke; rw [hl]; dsimp only; rw [if_neg (by decide), if_neg (by decide), if_neg (by decide), if_pos rfl, if_pos ⟨rfl, by omega⟩]; show zgoR _ _ _ _ _ _ (if 0 ≤ i ∧ i < 3 ∧ zcat st ≤ 8 then zgo (pc + 3) lv ((0, zix i.toNat x) :: st) g w else none) = _; rw [if_pos ⟨hi.1, hi.2, hz⟩]; rfl
theorem q_callS {k n m' kd : Nat} {as : List zV} (hd : decode (zby m) pc = .ok (.invokestatic k, 3)) (hl : (zML (zcn m)).lookup k = some (m', kd, n)) (hkd : (kd ≠ 20 ∧ kd ≠ 21 ∧ kd ≠ 22 ∧ kd ≠ 23) ∧ kd % 10 = 1) (hlm : zlm m = true ∧ zlm m' = true) (hn : as.length = n) (hf : (zflat as).length ≤ zmx m') (hz : zcat st ≤ 8) : Rn (d + 1) m pc lv (as.reverse ++ st) g w = (Cl d m' as g w).bind (fun r => Rn (d + 1) m (pc + 3) lv (zpush r.1 st) r.2.1 r.2.2) := by
  have e1 : (as.reverse ++ st).take n = as.reverse := by rw [← hn, ← List.length_reverse, List.take_left]
  have e2 : (as.reverse ++ st).drop n = st := by rw [← hn, ← List.length_reverse, List.drop_left]
  have e3 : zcall m m' n false (as.reverse ++ st) g w = some (.inr (.inr (m', as, st))) := by
    unfold zcall zmode
    rw [if_pos ⟨by rw [hlm.2, hlm.1]; rfl, by rw [List.length_append, List.length_reverse]; omega⟩]
    dsimp only
    rw [e1, e2, List.reverse_reverse, if_pos ⟨hz, hf⟩]
  rw [Rn_st hd]; dsimp only [zex]; unfold zinvoke; rw [if_pos rfl, hl]; (try dsimp only); rw [if_neg hkd.1.1, if_neg hkd.1.2.1, if_neg hkd.1.2.2.1, if_neg hkd.1.2.2.2, if_pos hkd.2]
  show zgoR _ _ _ _ _ _ (zcall m m' n false (as.reverse ++ st) g w) = _
  rw [e3]
  rfl
theorem zcallV {m' n : Nat} {as : List zV} {a : Int} (hmo : zmode m m' g w = true) (hn : as.length = n) (hf : (zflat ((2, a) :: as)).length ≤ zmx m') (ha : zob a (zcn m') g) (hz : zcat st ≤ 8) : zcall m m' n true (as.reverse ++ (2, a) :: st) g w = some (.inr (.inr (m', (2, a) :: as, st))) := by
  have e1 : (as.reverse ++ (2, a) :: st).take n = as.reverse := by rw [← hn, ← List.length_reverse, List.take_left]
  have e2 : (as.reverse ++ (2, a) :: st).drop n = (2, a) :: st := by rw [← hn, ← List.length_reverse, List.drop_left]
  unfold zcall
  rw [if_pos ⟨hmo, by rw [List.length_append, List.length_reverse]; omega⟩]
  rw [e1, e2, List.reverse_reverse]
  show (if 0 ≤ a ∧ a < g ∧ (zsh a).1 = zcn m' ∧ zcat st ≤ 8 ∧ (zflat ((2, a) :: as)).length ≤ zmx m' then (some (Sum.inr (Sum.inr (m', (2, a) :: as, st))) : Option zO) else none) = _
  rw [if_pos ⟨ha.1, ha.2.1, ha.2.2, hz, hf⟩]
theorem q_callV {k n m' kd : Nat} {as : List zV} {a : Int} (hd : decode (zby m) pc = .ok (.invokevirtual k, 3)) (hl : (zML (zcn m)).lookup k = some (m', kd, n)) (hkd : (kd ≠ 20 ∧ kd ≠ 21 ∧ kd ≠ 22 ∧ kd ≠ 23) ∧ kd % 10 = 0) (hmo : zmode m m' g w = true) (hn : as.length = n) (hf : (zflat ((2, a) :: as)).length ≤ zmx m') (ha : zob a (zcn m') g) (hz : zcat st ≤ 8) : Rn (d + 1) m pc lv (as.reverse ++ (2, a) :: st) g w = (Cl d m' ((2, a) :: as) g w).bind (fun r => Rn (d + 1) m (pc + 3) lv (zpush r.1 st) r.2.1 r.2.2) := by
  rw [Rn_st hd]; dsimp only [zex]; unfold zinvoke; rw [if_pos rfl, hl]; (try dsimp only); rw [if_neg hkd.1.1, if_neg hkd.1.2.1, if_neg hkd.1.2.2.1, if_neg hkd.1.2.2.2, if_pos hkd.2]
  show zgoR _ _ _ _ _ _ (zcall m m' n true (as.reverse ++ (2, a) :: st) g w) = _
  rw [zcallV hmo hn hf ha hz]
  rfl
theorem q_callI {k n m' kd : Nat} {as : List zV} {a : Int} (hd : decode (zby m) pc = .ok (.invokespecial k, 3)) (hl : (zML (zcn m)).lookup k = some (m', kd, n)) (hkd : (kd ≠ 20 ∧ kd ≠ 21 ∧ kd ≠ 22 ∧ kd ≠ 23) ∧ kd % 10 = 2) (hmo : zmode m m' g w = true) (hn : as.length = n) (hf : (zflat ((2, a) :: as)).length ≤ zmx m') (ha : zob a (zcn m') g) (hz : zcat st ≤ 8) : Rn (d + 1) m pc lv (as.reverse ++ (2, a) :: st) g w = (Cl d m' ((2, a) :: as) g w).bind (fun r => Rn (d + 1) m (pc + 3) lv (zpush r.1 st) r.2.1 r.2.2) := by
  rw [Rn_st hd]; dsimp only [zex]; unfold zinvoke; rw [if_pos rfl, hl]; (try dsimp only); rw [if_neg hkd.1.1, if_neg hkd.1.2.1, if_neg hkd.1.2.2.1, if_neg hkd.1.2.2.2, if_pos hkd.2]
  show zgoR _ _ _ _ _ _ (zcall m m' n true (as.reverse ++ (2, a) :: st) g w) = _
  rw [zcallV hmo hn hf ha hz]
  rfl
theorem q_iret {x : Int} (hd : decode (zby m) pc = .ok (.ireturn, 1)) (hr : zrt m = some .int) : Rn d m pc lv [(0, x)] g w = some ((0, x), g, w) := by
  rw [Rn_at hd (o := (if zrt m = some .int ∨ (zrt m = some .boolean ∧ (x = 0 ∨ x = 1)) then some (.inr (.inl (0, x))) else none)) rfl]; rw [if_pos (Or.inl hr)]; rfl
theorem q_zret {x : Int} (hd : decode (zby m) pc = .ok (.ireturn, 1)) (hr : zrt m = some .boolean) (hx : x = 0 ∨ x = 1) : Rn d m pc lv [(0, x)] g w = some ((0, x), g, w) := by
  rw [Rn_at hd (o := (if zrt m = some .int ∨ (zrt m = some .boolean ∧ (x = 0 ∨ x = 1)) then some (.inr (.inl (0, x))) else none)) rfl]; rw [if_pos (Or.inr ⟨hr, hx⟩)]; rfl
theorem q_lret {x : Int} (hd : decode (zby m) pc = .ok (.lreturn, 1)) (hr : zrt m = some .long) : Rn d m pc lv [(1, x)] g w = some ((1, x), g, w) := by
  rw [Rn_at hd (o := (if zrt m = some .long then some (.inr (.inl (1, x))) else none)) rfl]; rw [if_pos (hr)]; rfl
theorem q_vret (hd : decode (zby m) pc = .ok (.return_, 1)) (hr : zrt m = none) : Rn d m pc lv [] g w = some ((9, 0), g, w) := by
  rw [Rn_at hd (o := (if zrt m = none then some (.inr (.inl (9, 0))) else none)) rfl]; rw [if_pos (hr)]; rfl
theorem zpush_i (x : Int) (st : List zV) : zpush (0, x) st = (0, x) :: st := rfl
theorem zpush_l (x : Int) (st : List zV) : zpush (1, x) st = (1, x) :: st := rfl
theorem zpush_v (x : Int) (st : List zV) : zpush (9, x) st = st := rfl
end ZQ
end
