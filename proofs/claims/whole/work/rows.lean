section
-- ===== PART A: goes FIRST, ahead of the names: the tables' words, and 'selects' of the private methods out of them =====
/-- a private method of a class that the tables say can be made, by its rows of tables_1 -/
def lw_okq (q : MethodName × Nat) : Prop := (q.1.cls ≠ "java/lang/invoke/MethodHandle" ∧ q.1.cls ≠ "java/lang/invoke/VarHandle") ∧ Cond.instantiable q.1.cls q.2 ∈ tables_1 ∧ Cond.privateMethod q.1 ∈ tables_1 ∧ Cond.instanceMethod q.1 ∈ tables_1
theorem lw_p0 : lw_okq (⟨"RetryStorm", "keepState", "()V"⟩, 4) := ⟨⟨by decide +kernel, by decide +kernel⟩, List.mem_of_getElem? (i := 12) (by decide +kernel), List.mem_of_getElem? (i := 180) (by decide +kernel), List.mem_of_getElem? (i := 181) (by decide +kernel)⟩
theorem lw_p1 : lw_okq (⟨"RetryStorm", "dropOldestRecord", "()V"⟩, 4) := ⟨⟨by decide +kernel, by decide +kernel⟩, List.mem_of_getElem? (i := 12) (by decide +kernel), List.mem_of_getElem? (i := 184) (by decide +kernel), List.mem_of_getElem? (i := 185) (by decide +kernel)⟩
theorem lw_p2 : lw_okq (⟨"RetryStorm", "isInUseBeyond", "(II)Z"⟩, 4) := ⟨⟨by decide +kernel, by decide +kernel⟩, List.mem_of_getElem? (i := 12) (by decide +kernel), List.mem_of_getElem? (i := 218) (by decide +kernel), List.mem_of_getElem? (i := 219) (by decide +kernel)⟩
theorem lw_p3 : lw_okq (⟨"RetryStorm", "goodWorkWith", "(II)I"⟩, 4) := ⟨⟨by decide +kernel, by decide +kernel⟩, List.mem_of_getElem? (i := 12) (by decide +kernel), List.mem_of_getElem? (i := 387) (by decide +kernel), List.mem_of_getElem? (i := 388) (by decide +kernel)⟩
theorem lw_p4 : lw_okq (⟨"RetryStorm", "hashOfClients", "(J)J"⟩, 4) := ⟨⟨by decide +kernel, by decide +kernel⟩, List.mem_of_getElem? (i := 12) (by decide +kernel), List.mem_of_getElem? (i := 472) (by decide +kernel), List.mem_of_getElem? (i := 473) (by decide +kernel)⟩
theorem lw_p5 : lw_okq (⟨"RetryStorm", "hashOfServer", "(JII)J"⟩, 4) := ⟨⟨by decide +kernel, by decide +kernel⟩, List.mem_of_getElem? (i := 12) (by decide +kernel), List.mem_of_getElem? (i := 481) (by decide +kernel), List.mem_of_getElem? (i := 482) (by decide +kernel)⟩
theorem lw_p6 : lw_okq (⟨"RetryStormModel", "begins", "()V"⟩, 10) := ⟨⟨by decide +kernel, by decide +kernel⟩, List.mem_of_getElem? (i := 488) (by decide +kernel), List.mem_of_getElem? (i := 535) (by decide +kernel), List.mem_of_getElem? (i := 536) (by decide +kernel)⟩
theorem lw_p7 : lw_okq (⟨"RetryStormModel", "copies", "(II)V"⟩, 10) := ⟨⟨by decide +kernel, by decide +kernel⟩, List.mem_of_getElem? (i := 488) (by decide +kernel), List.mem_of_getElem? (i := 539) (by decide +kernel), List.mem_of_getElem? (i := 540) (by decide +kernel)⟩
theorem lw_p8 : lw_okq (⟨"RetryStormModel", "of", "(II)I"⟩, 10) := ⟨⟨by decide +kernel, by decide +kernel⟩, List.mem_of_getElem? (i := 488) (by decide +kernel), List.mem_of_getElem? (i := 543) (by decide +kernel), List.mem_of_getElem? (i := 544) (by decide +kernel)⟩
theorem lw_p9 : lw_okq (⟨"RetryStormModel", "runs", "(I)I"⟩, 10) := ⟨⟨by decide +kernel, by decide +kernel⟩, List.mem_of_getElem? (i := 488) (by decide +kernel), List.mem_of_getElem? (i := 571) (by decide +kernel), List.mem_of_getElem? (i := 572) (by decide +kernel)⟩
theorem lw_p10 : lw_okq (⟨"RetryStormModel", "ticks", "()V"⟩, 10) := ⟨⟨by decide +kernel, by decide +kernel⟩, List.mem_of_getElem? (i := 488) (by decide +kernel), List.mem_of_getElem? (i := 575) (by decide +kernel), List.mem_of_getElem? (i := 576) (by decide +kernel)⟩
theorem lw_p11 : lw_okq (⟨"RetryStormModel", "isDue", "(I)Z"⟩, 10) := ⟨⟨by decide +kernel, by decide +kernel⟩, List.mem_of_getElem? (i := 488) (by decide +kernel), List.mem_of_getElem? (i := 579) (by decide +kernel), List.mem_of_getElem? (i := 580) (by decide +kernel)⟩
theorem lw_p12 : lw_okq (⟨"RetryStormModel", "factorOf", "(I)I"⟩, 10) := ⟨⟨by decide +kernel, by decide +kernel⟩, List.mem_of_getElem? (i := 488) (by decide +kernel), List.mem_of_getElem? (i := 583) (by decide +kernel), List.mem_of_getElem? (i := 584) (by decide +kernel)⟩
theorem lw_p13 : lw_okq (⟨"RetryStormModel", "creates", "(I)V"⟩, 10) := ⟨⟨by decide +kernel, by decide +kernel⟩, List.mem_of_getElem? (i := 488) (by decide +kernel), List.mem_of_getElem? (i := 587) (by decide +kernel), List.mem_of_getElem? (i := 588) (by decide +kernel)⟩
theorem lw_p14 : lw_okq (⟨"RetryStormModel", "counts", "(III)V"⟩, 10) := ⟨⟨by decide +kernel, by decide +kernel⟩, List.mem_of_getElem? (i := 488) (by decide +kernel), List.mem_of_getElem? (i := 591) (by decide +kernel), List.mem_of_getElem? (i := 592) (by decide +kernel)⟩
theorem lw_p15 : lw_okq (⟨"RetryStormModel", "row", "(I)I"⟩, 10) := ⟨⟨by decide +kernel, by decide +kernel⟩, List.mem_of_getElem? (i := 488) (by decide +kernel), List.mem_of_getElem? (i := 598) (by decide +kernel), List.mem_of_getElem? (i := 599) (by decide +kernel)⟩
def lw_privs_1 : List (MethodName × Nat) := [(⟨"RetryStorm", "keepState", "()V"⟩, 4), (⟨"RetryStorm", "dropOldestRecord", "()V"⟩, 4), (⟨"RetryStorm", "isInUseBeyond", "(II)Z"⟩, 4), (⟨"RetryStorm", "goodWorkWith", "(II)I"⟩, 4), (⟨"RetryStorm", "hashOfClients", "(J)J"⟩, 4), (⟨"RetryStorm", "hashOfServer", "(JII)J"⟩, 4), (⟨"RetryStormModel", "begins", "()V"⟩, 10), (⟨"RetryStormModel", "copies", "(II)V"⟩, 10), (⟨"RetryStormModel", "of", "(II)I"⟩, 10), (⟨"RetryStormModel", "runs", "(I)I"⟩, 10), (⟨"RetryStormModel", "ticks", "()V"⟩, 10), (⟨"RetryStormModel", "isDue", "(I)Z"⟩, 10), (⟨"RetryStormModel", "factorOf", "(I)I"⟩, 10), (⟨"RetryStormModel", "creates", "(I)V"⟩, 10), (⟨"RetryStormModel", "counts", "(III)V"⟩, 10), (⟨"RetryStormModel", "row", "(I)I"⟩, 10)]
theorem lw_r1 : ∀ q ∈ lw_privs_1, lw_okq q := List.forall_mem_cons.mpr ⟨lw_p0, List.forall_mem_cons.mpr ⟨lw_p1, List.forall_mem_cons.mpr ⟨lw_p2, List.forall_mem_cons.mpr ⟨lw_p3, List.forall_mem_cons.mpr ⟨lw_p4, List.forall_mem_cons.mpr ⟨lw_p5, List.forall_mem_cons.mpr ⟨lw_p6, List.forall_mem_cons.mpr ⟨lw_p7, List.forall_mem_cons.mpr ⟨lw_p8, List.forall_mem_cons.mpr ⟨lw_p9, List.forall_mem_cons.mpr ⟨lw_p10, List.forall_mem_cons.mpr ⟨lw_p11, List.forall_mem_cons.mpr ⟨lw_p12, List.forall_mem_cons.mpr ⟨lw_p13, List.forall_mem_cons.mpr ⟨lw_p14, List.forall_mem_cons.mpr ⟨lw_p15, fun _ h => absurd h List.not_mem_nil⟩⟩⟩⟩⟩⟩⟩⟩⟩⟩⟩⟩⟩⟩⟩⟩
theorem lw_p16 : lw_okq (⟨"RetryStormModel", "sends", "(I)V"⟩, 10) := ⟨⟨by decide +kernel, by decide +kernel⟩, List.mem_of_getElem? (i := 488) (by decide +kernel), List.mem_of_getElem? (i := 602) (by decide +kernel), List.mem_of_getElem? (i := 603) (by decide +kernel)⟩
theorem lw_p17 : lw_okq (⟨"RetryStormModel", "isOn", "(I)Z"⟩, 10) := ⟨⟨by decide +kernel, by decide +kernel⟩, List.mem_of_getElem? (i := 488) (by decide +kernel), List.mem_of_getElem? (i := 606) (by decide +kernel), List.mem_of_getElem? (i := 607) (by decide +kernel)⟩
theorem lw_p18 : lw_okq (⟨"RetryStormModel", "fails", "(II)V"⟩, 10) := ⟨⟨by decide +kernel, by decide +kernel⟩, List.mem_of_getElem? (i := 488) (by decide +kernel), List.mem_of_getElem? (i := 610) (by decide +kernel), List.mem_of_getElem? (i := 611) (by decide +kernel)⟩
theorem lw_p19 : lw_okq (⟨"RetryStormModel", "delayOf", "(I)I"⟩, 10) := ⟨⟨by decide +kernel, by decide +kernel⟩, List.mem_of_getElem? (i := 488) (by decide +kernel), List.mem_of_getElem? (i := 614) (by decide +kernel), List.mem_of_getElem? (i := 615) (by decide +kernel)⟩
theorem lw_p20 : lw_okq (⟨"RetryStormModel", "draws", "()I"⟩, 10) := ⟨⟨by decide +kernel, by decide +kernel⟩, List.mem_of_getElem? (i := 488) (by decide +kernel), List.mem_of_getElem? (i := 618) (by decide +kernel), List.mem_of_getElem? (i := 619) (by decide +kernel)⟩
theorem lw_p21 : lw_okq (⟨"RetryStormModel", "dies", "(I)V"⟩, 10) := ⟨⟨by decide +kernel, by decide +kernel⟩, List.mem_of_getElem? (i := 488) (by decide +kernel), List.mem_of_getElem? (i := 623) (by decide +kernel), List.mem_of_getElem? (i := 624) (by decide +kernel)⟩
theorem lw_p22 : lw_okq (⟨"RetryStormModel", "pulls", "(III)I"⟩, 10) := ⟨⟨by decide +kernel, by decide +kernel⟩, List.mem_of_getElem? (i := 488) (by decide +kernel), List.mem_of_getElem? (i := 627) (by decide +kernel), List.mem_of_getElem? (i := 628) (by decide +kernel)⟩
theorem lw_p23 : lw_okq (⟨"RetryStormModel", "loses", "(II)V"⟩, 10) := ⟨⟨by decide +kernel, by decide +kernel⟩, List.mem_of_getElem? (i := 488) (by decide +kernel), List.mem_of_getElem? (i := 631) (by decide +kernel), List.mem_of_getElem? (i := 632) (by decide +kernel)⟩
theorem lw_p24 : lw_okq (⟨"RetryStormModel", "slot", "(I)I"⟩, 10) := ⟨⟨by decide +kernel, by decide +kernel⟩, List.mem_of_getElem? (i := 488) (by decide +kernel), List.mem_of_getElem? (i := 635) (by decide +kernel), List.mem_of_getElem? (i := 636) (by decide +kernel)⟩
theorem lw_p25 : lw_okq (⟨"RetryStormModel", "leaves", "(IZ)V"⟩, 10) := ⟨⟨by decide +kernel, by decide +kernel⟩, List.mem_of_getElem? (i := 488) (by decide +kernel), List.mem_of_getElem? (i := 639) (by decide +kernel), List.mem_of_getElem? (i := 640) (by decide +kernel)⟩
theorem lw_p26 : lw_okq (⟨"RetryStormModel", "placeOf", "(I)I"⟩, 10) := ⟨⟨by decide +kernel, by decide +kernel⟩, List.mem_of_getElem? (i := 488) (by decide +kernel), List.mem_of_getElem? (i := 643) (by decide +kernel), List.mem_of_getElem? (i := 644) (by decide +kernel)⟩
theorem lw_p27 : lw_okq (⟨"RetryStormModel", "freeSlot", "()I"⟩, 10) := ⟨⟨by decide +kernel, by decide +kernel⟩, List.mem_of_getElem? (i := 488) (by decide +kernel), List.mem_of_getElem? (i := 647) (by decide +kernel), List.mem_of_getElem? (i := 648) (by decide +kernel)⟩
theorem lw_p28 : lw_okq (⟨"RetryStormModel", "joins", "(III)V"⟩, 10) := ⟨⟨by decide +kernel, by decide +kernel⟩, List.mem_of_getElem? (i := 488) (by decide +kernel), List.mem_of_getElem? (i := 651) (by decide +kernel), List.mem_of_getElem? (i := 652) (by decide +kernel)⟩
theorem lw_p29 : lw_okq (⟨"RetryStormModel", "gathers", "(I)I"⟩, 10) := ⟨⟨by decide +kernel, by decide +kernel⟩, List.mem_of_getElem? (i := 488) (by decide +kernel), List.mem_of_getElem? (i := 655) (by decide +kernel), List.mem_of_getElem? (i := 656) (by decide +kernel)⟩
theorem lw_p30 : lw_okq (⟨"RetryStormModel", "takesBack", "(I)V"⟩, 10) := ⟨⟨by decide +kernel, by decide +kernel⟩, List.mem_of_getElem? (i := 488) (by decide +kernel), List.mem_of_getElem? (i := 659) (by decide +kernel), List.mem_of_getElem? (i := 660) (by decide +kernel)⟩
theorem lw_p31 : lw_okq (⟨"RetryStormModel", "left", "(I)I"⟩, 10) := ⟨⟨by decide +kernel, by decide +kernel⟩, List.mem_of_getElem? (i := 488) (by decide +kernel), List.mem_of_getElem? (i := 663) (by decide +kernel), List.mem_of_getElem? (i := 664) (by decide +kernel)⟩
def lw_privs_2 : List (MethodName × Nat) := [(⟨"RetryStormModel", "sends", "(I)V"⟩, 10), (⟨"RetryStormModel", "isOn", "(I)Z"⟩, 10), (⟨"RetryStormModel", "fails", "(II)V"⟩, 10), (⟨"RetryStormModel", "delayOf", "(I)I"⟩, 10), (⟨"RetryStormModel", "draws", "()I"⟩, 10), (⟨"RetryStormModel", "dies", "(I)V"⟩, 10), (⟨"RetryStormModel", "pulls", "(III)I"⟩, 10), (⟨"RetryStormModel", "loses", "(II)V"⟩, 10), (⟨"RetryStormModel", "slot", "(I)I"⟩, 10), (⟨"RetryStormModel", "leaves", "(IZ)V"⟩, 10), (⟨"RetryStormModel", "placeOf", "(I)I"⟩, 10), (⟨"RetryStormModel", "freeSlot", "()I"⟩, 10), (⟨"RetryStormModel", "joins", "(III)V"⟩, 10), (⟨"RetryStormModel", "gathers", "(I)I"⟩, 10), (⟨"RetryStormModel", "takesBack", "(I)V"⟩, 10), (⟨"RetryStormModel", "left", "(I)I"⟩, 10)]
theorem lw_r2 : ∀ q ∈ lw_privs_2, lw_okq q := List.forall_mem_cons.mpr ⟨lw_p16, List.forall_mem_cons.mpr ⟨lw_p17, List.forall_mem_cons.mpr ⟨lw_p18, List.forall_mem_cons.mpr ⟨lw_p19, List.forall_mem_cons.mpr ⟨lw_p20, List.forall_mem_cons.mpr ⟨lw_p21, List.forall_mem_cons.mpr ⟨lw_p22, List.forall_mem_cons.mpr ⟨lw_p23, List.forall_mem_cons.mpr ⟨lw_p24, List.forall_mem_cons.mpr ⟨lw_p25, List.forall_mem_cons.mpr ⟨lw_p26, List.forall_mem_cons.mpr ⟨lw_p27, List.forall_mem_cons.mpr ⟨lw_p28, List.forall_mem_cons.mpr ⟨lw_p29, List.forall_mem_cons.mpr ⟨lw_p30, List.forall_mem_cons.mpr ⟨lw_p31, fun _ h => absurd h List.not_mem_nil⟩⟩⟩⟩⟩⟩⟩⟩⟩⟩⟩⟩⟩⟩⟩⟩
theorem lw_p32 : lw_okq (⟨"RetryStormModel", "takesFront", "(I)V"⟩, 10) := ⟨⟨by decide +kernel, by decide +kernel⟩, List.mem_of_getElem? (i := 488) (by decide +kernel), List.mem_of_getElem? (i := 667) (by decide +kernel), List.mem_of_getElem? (i := 668) (by decide +kernel)⟩
theorem lw_p33 : lw_okq (⟨"RetryStormModel", "chosen", "()I"⟩, 10) := ⟨⟨by decide +kernel, by decide +kernel⟩, List.mem_of_getElem? (i := 488) (by decide +kernel), List.mem_of_getElem? (i := 671) (by decide +kernel), List.mem_of_getElem? (i := 672) (by decide +kernel)⟩
theorem lw_p34 : lw_okq (⟨"RetryStormModel", "works", "()V"⟩, 10) := ⟨⟨by decide +kernel, by decide +kernel⟩, List.mem_of_getElem? (i := 488) (by decide +kernel), List.mem_of_getElem? (i := 675) (by decide +kernel), List.mem_of_getElem? (i := 676) (by decide +kernel)⟩
theorem lw_p35 : lw_okq (⟨"RetryStormModel", "finishesBack", "(I)V"⟩, 10) := ⟨⟨by decide +kernel, by decide +kernel⟩, List.mem_of_getElem? (i := 488) (by decide +kernel), List.mem_of_getElem? (i := 679) (by decide +kernel), List.mem_of_getElem? (i := 680) (by decide +kernel)⟩
theorem lw_p36 : lw_okq (⟨"RetryStormModel", "answers", "(I)V"⟩, 10) := ⟨⟨by decide +kernel, by decide +kernel⟩, List.mem_of_getElem? (i := 488) (by decide +kernel), List.mem_of_getElem? (i := 683) (by decide +kernel), List.mem_of_getElem? (i := 684) (by decide +kernel)⟩
theorem lw_p37 : lw_okq (⟨"RetryStormModel", "finishesFront", "(I)V"⟩, 10) := ⟨⟨by decide +kernel, by decide +kernel⟩, List.mem_of_getElem? (i := 488) (by decide +kernel), List.mem_of_getElem? (i := 687) (by decide +kernel), List.mem_of_getElem? (i := 688) (by decide +kernel)⟩
theorem lw_p38 : lw_okq (⟨"RetryStormModel", "abandons", "(I)V"⟩, 10) := ⟨⟨by decide +kernel, by decide +kernel⟩, List.mem_of_getElem? (i := 488) (by decide +kernel), List.mem_of_getElem? (i := 691) (by decide +kernel), List.mem_of_getElem? (i := 692) (by decide +kernel)⟩
theorem lw_p39 : lw_okq (⟨"RetryStormModel", "cancels", "(I)V"⟩, 10) := ⟨⟨by decide +kernel, by decide +kernel⟩, List.mem_of_getElem? (i := 488) (by decide +kernel), List.mem_of_getElem? (i := 695) (by decide +kernel), List.mem_of_getElem? (i := 696) (by decide +kernel)⟩
theorem lw_p40 : lw_okq (⟨"RetryStormModel", "tries", "(II)I"⟩, 10) := ⟨⟨by decide +kernel, by decide +kernel⟩, List.mem_of_getElem? (i := 488) (by decide +kernel), List.mem_of_getElem? (i := 703) (by decide +kernel), List.mem_of_getElem? (i := 704) (by decide +kernel)⟩
theorem lw_p41 : lw_okq (⟨"RetryStormModel", "waiting", "()I"⟩, 10) := ⟨⟨by decide +kernel, by decide +kernel⟩, List.mem_of_getElem? (i := 488) (by decide +kernel), List.mem_of_getElem? (i := 723) (by decide +kernel), List.mem_of_getElem? (i := 724) (by decide +kernel)⟩
theorem lw_p42 : lw_okq (⟨"RetryStormModel", "busy", "(I)I"⟩, 10) := ⟨⟨by decide +kernel, by decide +kernel⟩, List.mem_of_getElem? (i := 488) (by decide +kernel), List.mem_of_getElem? (i := 727) (by decide +kernel), List.mem_of_getElem? (i := 728) (by decide +kernel)⟩
theorem lw_p43 : lw_okq (⟨"RetryStormModel", "pending", "()I"⟩, 10) := ⟨⟨by decide +kernel, by decide +kernel⟩, List.mem_of_getElem? (i := 488) (by decide +kernel), List.mem_of_getElem? (i := 731) (by decide +kernel), List.mem_of_getElem? (i := 732) (by decide +kernel)⟩
theorem lw_p44 : lw_okq (⟨"RetryStormModel", "propertyOf", "(II)I"⟩, 10) := ⟨⟨by decide +kernel, by decide +kernel⟩, List.mem_of_getElem? (i := 488) (by decide +kernel), List.mem_of_getElem? (i := 743) (by decide +kernel), List.mem_of_getElem? (i := 744) (by decide +kernel)⟩
theorem lw_p45 : lw_okq (⟨"RetryStormModel", "ownerOf", "(I)I"⟩, 10) := ⟨⟨by decide +kernel, by decide +kernel⟩, List.mem_of_getElem? (i := 488) (by decide +kernel), List.mem_of_getElem? (i := 751) (by decide +kernel), List.mem_of_getElem? (i := 752) (by decide +kernel)⟩
theorem lw_p46 : lw_okq (⟨"RetryStormModel", "past", "(II)I"⟩, 10) := ⟨⟨by decide +kernel, by decide +kernel⟩, List.mem_of_getElem? (i := 488) (by decide +kernel), List.mem_of_getElem? (i := 763) (by decide +kernel), List.mem_of_getElem? (i := 764) (by decide +kernel)⟩
theorem lw_p47 : lw_okq (⟨"RetryStormModel", "known", "()I"⟩, 10) := ⟨⟨by decide +kernel, by decide +kernel⟩, List.mem_of_getElem? (i := 488) (by decide +kernel), List.mem_of_getElem? (i := 771) (by decide +kernel), List.mem_of_getElem? (i := 772) (by decide +kernel)⟩
def lw_privs_3 : List (MethodName × Nat) := [(⟨"RetryStormModel", "takesFront", "(I)V"⟩, 10), (⟨"RetryStormModel", "chosen", "()I"⟩, 10), (⟨"RetryStormModel", "works", "()V"⟩, 10), (⟨"RetryStormModel", "finishesBack", "(I)V"⟩, 10), (⟨"RetryStormModel", "answers", "(I)V"⟩, 10), (⟨"RetryStormModel", "finishesFront", "(I)V"⟩, 10), (⟨"RetryStormModel", "abandons", "(I)V"⟩, 10), (⟨"RetryStormModel", "cancels", "(I)V"⟩, 10), (⟨"RetryStormModel", "tries", "(II)I"⟩, 10), (⟨"RetryStormModel", "waiting", "()I"⟩, 10), (⟨"RetryStormModel", "busy", "(I)I"⟩, 10), (⟨"RetryStormModel", "pending", "()I"⟩, 10), (⟨"RetryStormModel", "propertyOf", "(II)I"⟩, 10), (⟨"RetryStormModel", "ownerOf", "(I)I"⟩, 10), (⟨"RetryStormModel", "past", "(II)I"⟩, 10), (⟨"RetryStormModel", "known", "()I"⟩, 10)]
theorem lw_r3 : ∀ q ∈ lw_privs_3, lw_okq q := List.forall_mem_cons.mpr ⟨lw_p32, List.forall_mem_cons.mpr ⟨lw_p33, List.forall_mem_cons.mpr ⟨lw_p34, List.forall_mem_cons.mpr ⟨lw_p35, List.forall_mem_cons.mpr ⟨lw_p36, List.forall_mem_cons.mpr ⟨lw_p37, List.forall_mem_cons.mpr ⟨lw_p38, List.forall_mem_cons.mpr ⟨lw_p39, List.forall_mem_cons.mpr ⟨lw_p40, List.forall_mem_cons.mpr ⟨lw_p41, List.forall_mem_cons.mpr ⟨lw_p42, List.forall_mem_cons.mpr ⟨lw_p43, List.forall_mem_cons.mpr ⟨lw_p44, List.forall_mem_cons.mpr ⟨lw_p45, List.forall_mem_cons.mpr ⟨lw_p46, List.forall_mem_cons.mpr ⟨lw_p47, fun _ h => absurd h List.not_mem_nil⟩⟩⟩⟩⟩⟩⟩⟩⟩⟩⟩⟩⟩⟩⟩⟩
theorem lw_p48 : lw_okq (⟨"RetryStormModel", "mixedClient", "(JI)J"⟩, 10) := ⟨⟨by decide +kernel, by decide +kernel⟩, List.mem_of_getElem? (i := 488) (by decide +kernel), List.mem_of_getElem? (i := 795) (by decide +kernel), List.mem_of_getElem? (i := 796) (by decide +kernel)⟩
def lw_privs_4 : List (MethodName × Nat) := [(⟨"RetryStormModel", "mixedClient", "(JI)J"⟩, 10)]
theorem lw_r4 : ∀ q ∈ lw_privs_4, lw_okq q := List.forall_mem_cons.mpr ⟨lw_p48, fun _ h => absurd h List.not_mem_nil⟩
def lw_privs : List (MethodName × Nat) := lw_privs_1 ++ (lw_privs_2 ++ (lw_privs_3 ++ (lw_privs_4)))
def lw_tbl : List Cond := k2_sels lw_privs ++ tables_1
theorem lw_privs_ok : ∀ q ∈ lw_privs, lw_okq q := by
  show ∀ q ∈ lw_privs_1 ++ (lw_privs_2 ++ (lw_privs_3 ++ (lw_privs_4))), lw_okq q
  exact List.forall_mem_append.mpr ⟨lw_r1, List.forall_mem_append.mpr ⟨lw_r2, List.forall_mem_append.mpr ⟨lw_r3, lw_r4⟩⟩⟩

def RX0 : String := "RetryStorm$Clients"
def TX0 : u_T := fun k => match k with
  | _ => ("", "", "", false)
def tyX0 : Nat → FieldType := fun k => match k with
  | _ => .int
abbrev wsX00 : List Cond := u_ws RX0 TX0 0
theorem nmX0 : ∀ a, a < 0 → ∀ b, b < 0 → a ≠ b → (TX0 a).2.1 ≠ (TX0 b).2.1 := by decide +kernel
theorem tyX0_ok : ∀ k, k < 0 → parseFieldDescriptor (TX0 k).2.2.1 = some (tyX0 k) := by decide +kernel
abbrev cX0_createRequests : ByteArray := prog_2_method_2_code
def yX0_createRequests : MethodName := ⟨RX0, "createRequests", "(LRetryStorm$State;)V"⟩
abbrev cX0_sendWaiting : ByteArray := prog_2_method_3_code
def yX0_sendWaiting : MethodName := ⟨RX0, "sendWaiting", "(LRetryStorm$State;)V"⟩
abbrev cX0_abandonExpired : ByteArray := prog_2_method_4_code
def yX0_abandonExpired : MethodName := ⟨RX0, "abandonExpired", "(LRetryStorm$State;)V"⟩
abbrev cX0_births : ByteArray := prog_2_method_5_code
def yX0_births : MethodName := ⟨RX0, "births", "(LRetryStorm$State;I)I"⟩
abbrev cX0_create : ByteArray := prog_2_method_6_code
def yX0_create : MethodName := ⟨RX0, "create", "(LRetryStorm$State;I)I"⟩
abbrev cX0_send : ByteArray := prog_2_method_7_code
def yX0_send : MethodName := ⟨RX0, "send", "(LRetryStorm$State;I)I"⟩
abbrev cX0_fail : ByteArray := prog_2_method_8_code
def yX0_fail : MethodName := ⟨RX0, "fail", "(LRetryStorm$State;II)V"⟩
abbrev cX0_delay : ByteArray := prog_2_method_9_code
def yX0_delay : MethodName := ⟨RX0, "delay", "(LRetryStorm$State;II)I"⟩
abbrev cX0_draw : ByteArray := prog_2_method_10_code
def yX0_draw : MethodName := ⟨RX0, "draw", "(LRetryStorm$State;)I"⟩
def RX1 : String := "RetryStorm$Servers"
def TX1 : u_T := fun k => match k with
  | _ => ("", "", "", false)
def tyX1 : Nat → FieldType := fun k => match k with
  | _ => .int
abbrev wsX10 : List Cond := u_ws RX1 TX1 0
theorem nmX1 : ∀ a, a < 0 → ∀ b, b < 0 → a ≠ b → (TX1 a).2.1 ≠ (TX1 b).2.1 := by decide +kernel
theorem tyX1_ok : ∀ k, k < 0 → parseFieldDescriptor (TX1 k).2.2.1 = some (tyX1 k) := by decide +kernel
abbrev cX1_enqueue : ByteArray := prog_3_method_2_code
def yX1_enqueue : MethodName := ⟨RX1, "enqueue", "(LRetryStorm$State;I)V"⟩
abbrev cX1_fillBackWorkers : ByteArray := prog_3_method_3_code
def yX1_fillBackWorkers : MethodName := ⟨RX1, "fillBackWorkers", "(LRetryStorm$State;)V"⟩
abbrev cX1_fillFrontWorkers : ByteArray := prog_3_method_4_code
def yX1_fillFrontWorkers : MethodName := ⟨RX1, "fillFrontWorkers", "(LRetryStorm$State;)V"⟩
abbrev cX1_takeAtBack : ByteArray := prog_3_method_5_code
def yX1_takeAtBack : MethodName := ⟨RX1, "takeAtBack", "(LRetryStorm$State;I)I"⟩
abbrev cX1_takeAtFront : ByteArray := prog_3_method_6_code
def yX1_takeAtFront : MethodName := ⟨RX1, "takeAtFront", "(LRetryStorm$State;II)I"⟩
abbrev cX1_nextInQueue : ByteArray := prog_3_method_7_code
def yX1_nextInQueue : MethodName := ⟨RX1, "nextInQueue", "(LRetryStorm$State;)I"⟩
abbrev cX1_firstToExpire : ByteArray := prog_3_method_8_code
def yX1_firstToExpire : MethodName := ⟨RX1, "firstToExpire", "(LRetryStorm$Table;)I"⟩
abbrev cX1_isHopeless : ByteArray := prog_3_method_9_code
def yX1_isHopeless : MethodName := ⟨RX1, "isHopeless", "(LRetryStorm$State;LRetryStorm$Table;I)Z"⟩
abbrev cX1_work : ByteArray := prog_3_method_10_code
def yX1_work : MethodName := ⟨RX1, "work", "(LRetryStorm$State;)V"⟩
abbrev cX1_endBackWork : ByteArray := prog_3_method_11_code
def yX1_endBackWork : MethodName := ⟨RX1, "endBackWork", "(LRetryStorm$State;)V"⟩
abbrev cX1_endFrontWork : ByteArray := prog_3_method_12_code
def yX1_endFrontWork : MethodName := ⟨RX1, "endFrontWork", "(LRetryStorm$State;)V"⟩
abbrev cX1_callBack : ByteArray := prog_3_method_13_code
def yX1_callBack : MethodName := ⟨RX1, "callBack", "(LRetryStorm$State;I)I"⟩
abbrev cX1_answer : ByteArray := prog_3_method_14_code
def yX1_answer : MethodName := ⟨RX1, "answer", "(LRetryStorm$State;I)V"⟩
abbrev cX1_waste : ByteArray := prog_3_method_15_code
def yX1_waste : MethodName := ⟨RX1, "waste", "(LRetryStorm$State;I)I"⟩
abbrev cX1_abandon : ByteArray := prog_3_method_16_code
def yX1_abandon : MethodName := ⟨RX1, "abandon", "(LRetryStorm$State;I)V"⟩
def RX2 : String := "RetryStorm$State"
def TX2 : u_T := fun k => match k with
  | 0 => ("RetryStorm$State", "clients", "LRetryStorm$Table;", true)
  | 1 => ("RetryStorm$State", "tallies", "LRetryStorm$Table;", true)
  | 2 => ("RetryStorm$State", "surges", "LRetryStorm$Table;", true)
  | 3 => ("RetryStorm$State", "servers", "LRetryStorm$Table;", true)
  | 4 => ("RetryStorm$State", "switches", "LRetryStorm$Table;", true)
  | 5 => ("RetryStorm$State", "requests", "LRetryStorm$Table;", true)
  | 6 => ("RetryStorm$State", "queue", "LRetryStorm$Table;", true)
  | 7 => ("RetryStorm$State", "workers", "LRetryStorm$Table;", true)
  | 8 => ("RetryStorm$State", "backQueue", "LRetryStorm$Table;", true)
  | 9 => ("RetryStorm$State", "backWorkers", "LRetryStorm$Table;", true)
  | 10 => ("RetryStorm$State", "history", "LRetryStorm$Table;", true)
  | 11 => ("RetryStorm$State", "discipline", "I", false)
  | 12 => ("RetryStorm$State", "clock", "I", false)
  | 13 => ("RetryStorm$State", "seed", "I", false)
  | 14 => ("RetryStorm$State", "numbers", "I", false)
  | 15 => ("RetryStorm$State", "good", "I", false)
  | 16 => ("RetryStorm$State", "wasted", "I", false)
  | _ => ("RetryStorm$State", "longest", "I", false)
def tyX2 : Nat → FieldType := fun k => match k with
  | 0 => .object "RetryStorm$Table"
  | 1 => .object "RetryStorm$Table"
  | 2 => .object "RetryStorm$Table"
  | 3 => .object "RetryStorm$Table"
  | 4 => .object "RetryStorm$Table"
  | 5 => .object "RetryStorm$Table"
  | 6 => .object "RetryStorm$Table"
  | 7 => .object "RetryStorm$Table"
  | 8 => .object "RetryStorm$Table"
  | 9 => .object "RetryStorm$Table"
  | 10 => .object "RetryStorm$Table"
  | 11 => .int
  | 12 => .int
  | 13 => .int
  | 14 => .int
  | 15 => .int
  | 16 => .int
  | _ => .int
abbrev wsX20 : List Cond := u_ws RX2 TX2 18
theorem nmX2 : ∀ a, a < 18 → ∀ b, b < 18 → a ≠ b → (TX2 a).2.1 ≠ (TX2 b).2.1 := by decide +kernel
theorem tyX2_ok : ∀ k, k < 18 → parseFieldDescriptor (TX2 k).2.2.1 = some (tyX2 k) := by decide +kernel
abbrev cX2_init : ByteArray := prog_4_method_1_code
def yX2_init : MethodName := ⟨RX2, "<init>", "()V"⟩
abbrev cX2_copyFrom : ByteArray := prog_4_method_2_code
def yX2_copyFrom : MethodName := ⟨RX2, "copyFrom", "(LRetryStorm$State;)V"⟩
abbrev cX2_total : ByteArray := prog_4_method_3_code
def yX2_total : MethodName := ⟨RX2, "total", "(I)I"⟩
abbrev cX2_pendingWork : ByteArray := prog_4_method_4_code
def yX2_pendingWork : MethodName := ⟨RX2, "pendingWork", "()I"⟩
abbrev cX2_placeOf : ByteArray := prog_4_method_5_code
def yX2_placeOf : MethodName := ⟨RX2, "placeOf", "(I)I"⟩
abbrev cX2_nextDue : ByteArray := prog_4_method_6_code
def yX2_nextDue : MethodName := ⟨RX2, "nextDue", "(IZ)I"⟩
abbrev cX2_ofTick : ByteArray := prog_4_method_7_code
def yX2_ofTick : MethodName := ⟨RX2, "ofTick", "(II)I"⟩
def RX3 : String := "RetryStorm$Table"
def TX3 : u_T := fun k => match k with
  | 0 => ("RetryStorm$Table", "width", "I", true)
  | 1 => ("RetryStorm$Table", "cells", "[I", true)
  | _ => ("RetryStorm$Table", "size", "I", false)
def tyX3 : Nat → FieldType := fun k => match k with
  | 0 => .int
  | 1 => .array .int
  | _ => .int
abbrev wsX30 : List Cond := u_ws RX3 TX3 3
theorem nmX3 : ∀ a, a < 3 → ∀ b, b < 3 → a ≠ b → (TX3 a).2.1 ≠ (TX3 b).2.1 := by decide +kernel
theorem tyX3_ok : ∀ k, k < 3 → parseFieldDescriptor (TX3 k).2.2.1 = some (tyX3 k) := by decide +kernel
abbrev cX3_init : ByteArray := prog_5_method_1_code
def yX3_init : MethodName := ⟨RX3, "<init>", "(III)V"⟩
abbrev cX3_size : ByteArray := prog_5_method_2_code
def yX3_size : MethodName := ⟨RX3, "size", "()I"⟩
abbrev cX3_get : ByteArray := prog_5_method_3_code
def yX3_get : MethodName := ⟨RX3, "get", "(II)I"⟩
abbrev cX3_put : ByteArray := prog_5_method_4_code
def yX3_put : MethodName := ⟨RX3, "put", "(III)V"⟩
abbrev cX3_add : ByteArray := prog_5_method_5_code
def yX3_add : MethodName := ⟨RX3, "add", "(III)V"⟩
abbrev cX3_putInAll : ByteArray := prog_5_method_6_code
def yX3_putInAll : MethodName := ⟨RX3, "putInAll", "(II)V"⟩
abbrev cX3_append : ByteArray := prog_5_method_7_code
def yX3_append : MethodName := ⟨RX3, "append", "()I"⟩
abbrev cX3_drop : ByteArray := prog_5_method_8_code
def yX3_drop : MethodName := ⟨RX3, "drop", "(I)V"⟩
abbrev cX3_find : ByteArray := prog_5_method_9_code
def yX3_find : MethodName := ⟨RX3, "find", "(II)I"⟩
abbrev cX3_rowsWith : ByteArray := prog_5_method_10_code
def yX3_rowsWith : MethodName := ⟨RX3, "rowsWith", "(II)I"⟩
abbrev cX3_sumOf : ByteArray := prog_5_method_11_code
def yX3_sumOf : MethodName := ⟨RX3, "sumOf", "(I)I"⟩
abbrev cX3_copyRow : ByteArray := prog_5_method_12_code
def yX3_copyRow : MethodName := ⟨RX3, "copyRow", "(ILRetryStorm$Table;I)V"⟩
abbrev cX3_copyFrom : ByteArray := prog_5_method_13_code
def yX3_copyFrom : MethodName := ⟨RX3, "copyFrom", "(LRetryStorm$Table;)V"⟩
def RX4 : String := "RetryStorm$Ticks"
def TX4 : u_T := fun k => match k with
  | _ => ("", "", "", false)
def tyX4 : Nat → FieldType := fun k => match k with
  | _ => .int
abbrev wsX40 : List Cond := u_ws RX4 TX4 0
theorem nmX4 : ∀ a, a < 0 → ∀ b, b < 0 → a ≠ b → (TX4 a).2.1 ≠ (TX4 b).2.1 := by decide +kernel
theorem tyX4_ok : ∀ k, k < 0 → parseFieldDescriptor (TX4 k).2.2.1 = some (tyX4 k) := by decide +kernel
abbrev cX4_pass : ByteArray := prog_6_method_2_code
def yX4_pass : MethodName := ⟨RX4, "pass", "(LRetryStorm$State;)V"⟩
def RX5 : String := "RetryStorm"
def TX5 : u_T := fun k => match k with
  | 0 => ("RetryStorm", "state", "LRetryStorm$State;", true)
  | 1 => ("RetryStorm", "trial", "LRetryStorm$State;", true)
  | 2 => ("RetryStorm", "recorded", "[LRetryStorm$State;", true)
  | _ => ("RetryStorm", "records", "I", false)
def tyX5 : Nat → FieldType := fun k => match k with
  | 0 => .object "RetryStorm$State"
  | 1 => .object "RetryStorm$State"
  | 2 => .array (.object "RetryStorm$State")
  | _ => .int
abbrev wsX50 : List Cond := u_ws RX5 TX5 4
theorem nmX5 : ∀ a, a < 4 → ∀ b, b < 4 → a ≠ b → (TX5 a).2.1 ≠ (TX5 b).2.1 := by decide +kernel
theorem tyX5_ok : ∀ k, k < 4 → parseFieldDescriptor (TX5 k).2.2.1 = some (tyX5 k) := by decide +kernel
abbrev cX5_init : ByteArray := prog_1_method_1_code
def yX5_init : MethodName := ⟨RX5, "<init>", "()V"⟩
abbrev cX5_set : ByteArray := prog_1_method_2_code
def yX5_set : MethodName := ⟨RX5, "set", "(III)I"⟩
abbrev cX5_property : ByteArray := prog_1_method_3_code
def yX5_property : MethodName := ⟨RX5, "property", "(II)I"⟩
abbrev cX5_setServer : ByteArray := prog_1_method_4_code
def yX5_setServer : MethodName := ⟨RX5, "setServer", "(II)I"⟩
abbrev cX5_setDiscipline : ByteArray := prog_1_method_5_code
def yX5_setDiscipline : MethodName := ⟨RX5, "setDiscipline", "(I)I"⟩
abbrev cX5_setSwitch : ByteArray := prog_1_method_6_code
def yX5_setSwitch : MethodName := ⟨RX5, "setSwitch", "(IZ)I"⟩
abbrev cX5_surge : ByteArray := prog_1_method_7_code
def yX5_surge : MethodName := ⟨RX5, "surge", "(IIII)I"⟩
abbrev cX5_run : ByteArray := prog_1_method_8_code
def yX5_run : MethodName := ⟨RX5, "run", "(I)I"⟩
abbrev cX5_ifRun : ByteArray := prog_1_method_9_code
def yX5_ifRun : MethodName := ⟨RX5, "ifRun", "(II)I"⟩
abbrev cX5_bestDiscipline : ByteArray := prog_1_method_10_code
def yX5_bestDiscipline : MethodName := ⟨RX5, "bestDiscipline", "(I)I"⟩
abbrev cX5_count : ByteArray := prog_1_method_11_code
def yX5_count : MethodName := ⟨RX5, "count", "(II)I"⟩
abbrev cX5_succeededAt : ByteArray := prog_1_method_12_code
def yX5_succeededAt : MethodName := ⟨RX5, "succeededAt", "(II)I"⟩
abbrev cX5_told : ByteArray := prog_1_method_13_code
def yX5_told : MethodName := ⟨RX5, "told", "(I)I"⟩
abbrev cX5_live : ByteArray := prog_1_method_14_code
def yX5_live : MethodName := ⟨RX5, "live", "(I)I"⟩
abbrev cX5_request : ByteArray := prog_1_method_15_code
def yX5_request : MethodName := ⟨RX5, "request", "(II)I"⟩
abbrev cX5_queued : ByteArray := prog_1_method_16_code
def yX5_queued : MethodName := ⟨RX5, "queued", "(ZI)I"⟩
abbrev cX5_atWorker : ByteArray := prog_1_method_17_code
def yX5_atWorker : MethodName := ⟨RX5, "atWorker", "(ZI)I"⟩
abbrev cX5_window : ByteArray := prog_1_method_18_code
def yX5_window : MethodName := ⟨RX5, "window", "(II)I"⟩
abbrev cX5_quiet : ByteArray := prog_1_method_19_code
def yX5_quiet : MethodName := ⟨RX5, "quiet", "(I)I"⟩
abbrev cX5_recovery : ByteArray := prog_1_method_20_code
def yX5_recovery : MethodName := ⟨RX5, "recovery", "(II)I"⟩
abbrev cX5_amplification : ByteArray := prog_1_method_21_code
def yX5_amplification : MethodName := ⟨RX5, "amplification", "()I"⟩
abbrev cX5_undo : ByteArray := prog_1_method_22_code
def yX5_undo : MethodName := ⟨RX5, "undo", "()I"⟩
abbrev cX5_digest : ByteArray := prog_1_method_23_code
def yX5_digest : MethodName := ⟨RX5, "digest", "()J"⟩
abbrev cX5_hashOfClients : ByteArray := prog_1_method_24_code
def yX5_hashOfClients : MethodName := ⟨RX5, "hashOfClients", "(J)J"⟩
abbrev cX5_hashOfServer : ByteArray := prog_1_method_25_code
def yX5_hashOfServer : MethodName := ⟨RX5, "hashOfServer", "(JII)J"⟩
abbrev cX5_isClient : ByteArray := prog_1_method_26_code
def yX5_isClient : MethodName := ⟨RX5, "isClient", "(I)Z"⟩
abbrev cX5_mostOfServer : ByteArray := prog_1_method_27_code
def yX5_mostOfServer : MethodName := ⟨RX5, "mostOfServer", "(I)I"⟩
abbrev cX5_isInUseBeyond : ByteArray := prog_1_method_28_code
def yX5_isInUseBeyond : MethodName := ⟨RX5, "isInUseBeyond", "(II)Z"⟩
abbrev cX5_isAnyTakenFrom : ByteArray := prog_1_method_29_code
def yX5_isAnyTakenFrom : MethodName := ⟨RX5, "isAnyTakenFrom", "(LRetryStorm$Table;I)Z"⟩
abbrev cX5_goodWorkWith : ByteArray := prog_1_method_30_code
def yX5_goodWorkWith : MethodName := ⟨RX5, "goodWorkWith", "(II)I"⟩
abbrev cX5_keepState : ByteArray := prog_1_method_31_code
def yX5_keepState : MethodName := ⟨RX5, "keepState", "()V"⟩
abbrev cX5_dropOldestRecord : ByteArray := prog_1_method_32_code
def yX5_dropOldestRecord : MethodName := ⟨RX5, "dropOldestRecord", "()V"⟩
def RX6 : String := "RetryStormModel"
def TX6 : u_T := fun k => match k with
  | 0 => ("RetryStormModel", "page", "[I", true)
  | 1 => ("RetryStormModel", "remembered", "I", false)
  | 2 => ("RetryStormModel", "lows", "[I", true)
  | 3 => ("RetryStormModel", "highs", "[I", true)
  | 4 => ("RetryStormModel", "firsts", "[I", true)
  | 5 => ("RetryStormModel", "now", "I", false)
  | 6 => ("RetryStormModel", "successes", "I", false)
  | 7 => ("RetryStormModel", "sent", "I", false)
  | 8 => ("RetryStormModel", "wasted", "I", false)
  | _ => ("RetryStormModel", "some", "[I", true)
def tyX6 : Nat → FieldType := fun k => match k with
  | 0 => .array .int
  | 1 => .int
  | 2 => .array .int
  | 3 => .array .int
  | 4 => .array .int
  | 5 => .int
  | 6 => .int
  | 7 => .int
  | 8 => .int
  | _ => .array .int
abbrev wsX60 : List Cond := u_ws RX6 TX6 10
theorem nmX6 : ∀ a, a < 10 → ∀ b, b < 10 → a ≠ b → (TX6 a).2.1 ≠ (TX6 b).2.1 := by decide +kernel
theorem tyX6_ok : ∀ k, k < 10 → parseFieldDescriptor (TX6 k).2.2.1 = some (tyX6 k) := by decide +kernel
abbrev cX6_init : ByteArray := prog_8_method_1_code
def yX6_init : MethodName := ⟨RX6, "<init>", "()V"⟩
abbrev cX6_in : ByteArray := prog_8_method_3_code
def yX6_in : MethodName := ⟨RX6, "in", "(III)Z"⟩
abbrev cX6_copies : ByteArray := prog_8_method_4_code
def yX6_copies : MethodName := ⟨RX6, "copies", "(II)V"⟩
abbrev cX6_begins : ByteArray := prog_8_method_5_code
def yX6_begins : MethodName := ⟨RX6, "begins", "()V"⟩
abbrev cX6_isClient : ByteArray := prog_8_method_6_code
def yX6_isClient : MethodName := ⟨RX6, "isClient", "(I)Z"⟩
abbrev cX6_of : ByteArray := prog_8_method_7_code
def yX6_of : MethodName := ⟨RX6, "of", "(II)I"⟩
abbrev cX6_counts : ByteArray := prog_8_method_8_code
def yX6_counts : MethodName := ⟨RX6, "counts", "(III)V"⟩
abbrev cX6_isOn : ByteArray := prog_8_method_9_code
def yX6_isOn : MethodName := ⟨RX6, "isOn", "(I)Z"⟩
abbrev cX6_set : ByteArray := prog_8_method_10_code
def yX6_set : MethodName := ⟨RX6, "set", "(III)I"⟩
abbrev cX6_property : ByteArray := prog_8_method_11_code
def yX6_property : MethodName := ⟨RX6, "property", "(II)I"⟩
abbrev cX6_setServer : ByteArray := prog_8_method_12_code
def yX6_setServer : MethodName := ⟨RX6, "setServer", "(II)I"⟩
abbrev cX6_setDiscipline : ByteArray := prog_8_method_13_code
def yX6_setDiscipline : MethodName := ⟨RX6, "setDiscipline", "(I)I"⟩
abbrev cX6_setSwitch : ByteArray := prog_8_method_14_code
def yX6_setSwitch : MethodName := ⟨RX6, "setSwitch", "(IZ)I"⟩
abbrev cX6_surge : ByteArray := prog_8_method_15_code
def yX6_surge : MethodName := ⟨RX6, "surge", "(IIII)I"⟩
abbrev cX6_row : ByteArray := prog_8_method_16_code
def yX6_row : MethodName := ⟨RX6, "row", "(I)I"⟩
abbrev cX6_slot : ByteArray := prog_8_method_17_code
def yX6_slot : MethodName := ⟨RX6, "slot", "(I)I"⟩
abbrev cX6_placeOf : ByteArray := prog_8_method_18_code
def yX6_placeOf : MethodName := ⟨RX6, "placeOf", "(I)I"⟩
abbrev cX6_dies : ByteArray := prog_8_method_19_code
def yX6_dies : MethodName := ⟨RX6, "dies", "(I)V"⟩
abbrev cX6_draws : ByteArray := prog_8_method_20_code
def yX6_draws : MethodName := ⟨RX6, "draws", "()I"⟩
abbrev cX6_least : ByteArray := prog_8_method_21_code
def yX6_least : MethodName := ⟨RX6, "least", "(II)I"⟩
abbrev cX6_delayOf : ByteArray := prog_8_method_22_code
def yX6_delayOf : MethodName := ⟨RX6, "delayOf", "(I)I"⟩
abbrev cX6_fails : ByteArray := prog_8_method_23_code
def yX6_fails : MethodName := ⟨RX6, "fails", "(II)V"⟩
abbrev cX6_leaves : ByteArray := prog_8_method_24_code
def yX6_leaves : MethodName := ⟨RX6, "leaves", "(IZ)V"⟩
abbrev cX6_loses : ByteArray := prog_8_method_25_code
def yX6_loses : MethodName := ⟨RX6, "loses", "(II)V"⟩
abbrev cX6_pulls : ByteArray := prog_8_method_26_code
def yX6_pulls : MethodName := ⟨RX6, "pulls", "(III)I"⟩
abbrev cX6_joins : ByteArray := prog_8_method_27_code
def yX6_joins : MethodName := ⟨RX6, "joins", "(III)V"⟩
abbrev cX6_freeSlot : ByteArray := prog_8_method_28_code
def yX6_freeSlot : MethodName := ⟨RX6, "freeSlot", "()I"⟩
abbrev cX6_sends : ByteArray := prog_8_method_29_code
def yX6_sends : MethodName := ⟨RX6, "sends", "(I)V"⟩
abbrev cX6_isDue : ByteArray := prog_8_method_30_code
def yX6_isDue : MethodName := ⟨RX6, "isDue", "(I)Z"⟩
abbrev cX6_factorOf : ByteArray := prog_8_method_31_code
def yX6_factorOf : MethodName := ⟨RX6, "factorOf", "(I)I"⟩
abbrev cX6_creates : ByteArray := prog_8_method_32_code
def yX6_creates : MethodName := ⟨RX6, "creates", "(I)V"⟩
abbrev cX6_left : ByteArray := prog_8_method_33_code
def yX6_left : MethodName := ⟨RX6, "left", "(I)I"⟩
abbrev cX6_takesBack : ByteArray := prog_8_method_34_code
def yX6_takesBack : MethodName := ⟨RX6, "takesBack", "(I)V"⟩
abbrev cX6_chosen : ByteArray := prog_8_method_35_code
def yX6_chosen : MethodName := ⟨RX6, "chosen", "()I"⟩
abbrev cX6_takesFront : ByteArray := prog_8_method_36_code
def yX6_takesFront : MethodName := ⟨RX6, "takesFront", "(I)V"⟩
abbrev cX6_works : ByteArray := prog_8_method_37_code
def yX6_works : MethodName := ⟨RX6, "works", "()V"⟩
abbrev cX6_answers : ByteArray := prog_8_method_38_code
def yX6_answers : MethodName := ⟨RX6, "answers", "(I)V"⟩
abbrev cX6_finishesBack : ByteArray := prog_8_method_39_code
def yX6_finishesBack : MethodName := ⟨RX6, "finishesBack", "(I)V"⟩
abbrev cX6_finishesFront : ByteArray := prog_8_method_40_code
def yX6_finishesFront : MethodName := ⟨RX6, "finishesFront", "(I)V"⟩
abbrev cX6_cancels : ByteArray := prog_8_method_41_code
def yX6_cancels : MethodName := ⟨RX6, "cancels", "(I)V"⟩
abbrev cX6_gathers : ByteArray := prog_8_method_42_code
def yX6_gathers : MethodName := ⟨RX6, "gathers", "(I)I"⟩
abbrev cX6_abandons : ByteArray := prog_8_method_43_code
def yX6_abandons : MethodName := ⟨RX6, "abandons", "(I)V"⟩
abbrev cX6_ticks : ByteArray := prog_8_method_44_code
def yX6_ticks : MethodName := ⟨RX6, "ticks", "()V"⟩
abbrev cX6_runs : ByteArray := prog_8_method_45_code
def yX6_runs : MethodName := ⟨RX6, "runs", "(I)I"⟩
abbrev cX6_run : ByteArray := prog_8_method_46_code
def yX6_run : MethodName := ⟨RX6, "run", "(I)I"⟩
abbrev cX6_tries : ByteArray := prog_8_method_47_code
def yX6_tries : MethodName := ⟨RX6, "tries", "(II)I"⟩
abbrev cX6_ifRun : ByteArray := prog_8_method_48_code
def yX6_ifRun : MethodName := ⟨RX6, "ifRun", "(II)I"⟩
abbrev cX6_bestDiscipline : ByteArray := prog_8_method_49_code
def yX6_bestDiscipline : MethodName := ⟨RX6, "bestDiscipline", "(I)I"⟩
abbrev cX6_count : ByteArray := prog_8_method_50_code
def yX6_count : MethodName := ⟨RX6, "count", "(II)I"⟩
abbrev cX6_succeededAt : ByteArray := prog_8_method_51_code
def yX6_succeededAt : MethodName := ⟨RX6, "succeededAt", "(II)I"⟩
abbrev cX6_busy : ByteArray := prog_8_method_52_code
def yX6_busy : MethodName := ⟨RX6, "busy", "(I)I"⟩
abbrev cX6_waiting : ByteArray := prog_8_method_53_code
def yX6_waiting : MethodName := ⟨RX6, "waiting", "()I"⟩
abbrev cX6_pending : ByteArray := prog_8_method_54_code
def yX6_pending : MethodName := ⟨RX6, "pending", "()I"⟩
abbrev cX6_told : ByteArray := prog_8_method_55_code
def yX6_told : MethodName := ⟨RX6, "told", "(I)I"⟩
abbrev cX6_live : ByteArray := prog_8_method_56_code
def yX6_live : MethodName := ⟨RX6, "live", "(I)I"⟩
abbrev cX6_propertyOf : ByteArray := prog_8_method_57_code
def yX6_propertyOf : MethodName := ⟨RX6, "propertyOf", "(II)I"⟩
abbrev cX6_request : ByteArray := prog_8_method_58_code
def yX6_request : MethodName := ⟨RX6, "request", "(II)I"⟩
abbrev cX6_ownerOf : ByteArray := prog_8_method_59_code
def yX6_ownerOf : MethodName := ⟨RX6, "ownerOf", "(I)I"⟩
abbrev cX6_queued : ByteArray := prog_8_method_60_code
def yX6_queued : MethodName := ⟨RX6, "queued", "(ZI)I"⟩
abbrev cX6_atWorker : ByteArray := prog_8_method_61_code
def yX6_atWorker : MethodName := ⟨RX6, "atWorker", "(ZI)I"⟩
abbrev cX6_past : ByteArray := prog_8_method_62_code
def yX6_past : MethodName := ⟨RX6, "past", "(II)I"⟩
abbrev cX6_window : ByteArray := prog_8_method_63_code
def yX6_window : MethodName := ⟨RX6, "window", "(II)I"⟩
abbrev cX6_known : ByteArray := prog_8_method_64_code
def yX6_known : MethodName := ⟨RX6, "known", "()I"⟩
abbrev cX6_quiet : ByteArray := prog_8_method_65_code
def yX6_quiet : MethodName := ⟨RX6, "quiet", "(I)I"⟩
abbrev cX6_recovery : ByteArray := prog_8_method_66_code
def yX6_recovery : MethodName := ⟨RX6, "recovery", "(II)I"⟩
abbrev cX6_amplification : ByteArray := prog_8_method_67_code
def yX6_amplification : MethodName := ⟨RX6, "amplification", "()I"⟩
abbrev cX6_undo : ByteArray := prog_8_method_68_code
def yX6_undo : MethodName := ⟨RX6, "undo", "()I"⟩
abbrev cX6_mixedClient : ByteArray := prog_8_method_69_code
def yX6_mixedClient : MethodName := ⟨RX6, "mixedClient", "(JI)J"⟩
abbrev cX6_digest : ByteArray := prog_8_method_70_code
def yX6_digest : MethodName := ⟨RX6, "digest", "()J"⟩
def RJ9 : String := "java/lang/Math"
abbrev cJ9_floorMod_7cf53 : ByteArray := prog_9_method_50_code
def yJ9_floorMod_7cf53 : MethodName := ⟨RJ9, "floorMod", "(II)I"⟩
abbrev cJ9_max_7cf53 : ByteArray := prog_9_method_65_code
def yJ9_max_7cf53 : MethodName := ⟨RJ9, "max", "(II)I"⟩
abbrev cJ9_min_7cf53 : ByteArray := prog_9_method_69_code
def yJ9_min_7cf53 : MethodName := ⟨RJ9, "min", "(II)I"⟩
def RJ10 : String := "java/lang/System"
def RJ7 : String := "java/util/Arrays"
abbrev cJ7_rangeCheck_23922 : ByteArray := prog_11_method_30_code
def yJ7_rangeCheck_23922 : MethodName := ⟨RJ7, "rangeCheck", "(III)V"⟩
abbrev cJ7_fill_fda19 : ByteArray := prog_11_method_104_code
def yJ7_fill_fda19 : MethodName := ⟨RJ7, "fill", "([IIII)V"⟩
def RL : String := "RetryStormLaw"
abbrev cL_law : ByteArray := code
abbrev vwCl : List vw_C := [(RX2, TX2, 18), (RX3, TX3, 3), (RX5, TX5, 4), (RX6, TX6, 10)]

/-- the tables' words that hold at any time: every method's list is its own code and these -/
def WS : List Cond := lw_tbl.filter goodWord
theorem WS_tbl : ∀ w ∈ WS, w ∈ lw_tbl := fun _ h => (List.mem_filter.mp h).1
theorem WS_good : ∀ w ∈ WS, (w.onTables && w.keeps) = true ∨ ∃ ty, w = .arrayClass ty := fun _ h => good_of_word (List.mem_filter.mp h).2
theorem WS_of {w : Cond} (h : w ∈ lw_tbl) (g : goodWord w = true) : w ∈ WS := List.mem_filter.mpr ⟨h, g⟩
theorem WS_1 {w : Cond} (k : Nat) (h : tables_1_1[k]? = some w) (g : goodWord w = true) : w ∈ WS := WS_of (List.mem_append_right _ (List.mem_append_left _ (List.mem_of_getElem? h))) g
theorem WS_2 {w : Cond} (k : Nat) (h : tables_1_2[k]? = some w) (g : goodWord w = true) : w ∈ WS := WS_of (List.mem_append_right _ (List.mem_append_right _ (List.mem_append_left _ (List.mem_of_getElem? h)))) g
theorem WS_3 {w : Cond} (k : Nat) (h : tables_1_3[k]? = some w) (g : goodWord w = true) : w ∈ WS := WS_of (List.mem_append_right _ (List.mem_append_right _ (List.mem_append_right _ (List.mem_append_left _ (List.mem_of_getElem? h))))) g
theorem WS_4 {w : Cond} (k : Nat) (h : tables_1_4[k]? = some w) (g : goodWord w = true) : w ∈ WS := WS_of (List.mem_append_right _ (List.mem_append_right _ (List.mem_append_right _ (List.mem_append_right _ (List.mem_of_getElem? h))))) g
theorem WS_p1 {y : MethodName} {n : Nat} (k : Nat) (h : lw_privs_1[k]? = some (y, n)) : Cond.selects y.cls y y ∈ WS := WS_of (List.mem_append_left _ (List.mem_map.mpr ⟨(y, n), List.mem_append_left _ (List.mem_of_getElem? h), rfl⟩)) rfl
theorem WS_p2 {y : MethodName} {n : Nat} (k : Nat) (h : lw_privs_2[k]? = some (y, n)) : Cond.selects y.cls y y ∈ WS := WS_of (List.mem_append_left _ (List.mem_map.mpr ⟨(y, n), List.mem_append_right _ (List.mem_append_left _ (List.mem_of_getElem? h)), rfl⟩)) rfl
theorem WS_p3 {y : MethodName} {n : Nat} (k : Nat) (h : lw_privs_3[k]? = some (y, n)) : Cond.selects y.cls y y ∈ WS := WS_of (List.mem_append_left _ (List.mem_map.mpr ⟨(y, n), List.mem_append_right _ (List.mem_append_right _ (List.mem_append_left _ (List.mem_of_getElem? h))), rfl⟩)) rfl
theorem WS_p4 {y : MethodName} {n : Nat} (k : Nat) (h : lw_privs_4[k]? = some (y, n)) : Cond.selects y.cls y y ∈ WS := WS_of (List.mem_append_left _ (List.mem_map.mpr ⟨(y, n), List.mem_append_right _ (List.mem_append_right _ (List.mem_append_right _ (List.mem_of_getElem? h))), rfl⟩)) rfl

theorem wz_L : Jvm.Cond.initialized "RetryStormLaw" ∈ WS := WS_1 0 (by decide +kernel) rfl
theorem wz_X5 : Jvm.Cond.initialized "RetryStorm" ∈ WS := WS_1 1 (by decide +kernel) rfl
theorem wz_X2 : Jvm.Cond.initialized "RetryStorm$State" ∈ WS := WS_1 2 (by decide +kernel) rfl
theorem wz_X3 : Jvm.Cond.initialized "RetryStorm$Table" ∈ WS := WS_1 3 (by decide +kernel) rfl
theorem wz_J9 : Jvm.Cond.initialized "java/lang/Math" ∈ WS := WS_1 4 (by decide +kernel) rfl
theorem wz_X6 : Jvm.Cond.initialized "RetryStormModel" ∈ WS := WS_1 5 (by decide +kernel) rfl
theorem wz_J10 : Jvm.Cond.initialized "java/lang/System" ∈ WS := WS_1 6 (by decide +kernel) rfl
theorem wz_X4 : Jvm.Cond.initialized "RetryStorm$Ticks" ∈ WS := WS_1 7 (by decide +kernel) rfl
theorem wz_X0 : Jvm.Cond.initialized "RetryStorm$Clients" ∈ WS := WS_1 8 (by decide +kernel) rfl
theorem wz_J7 : Jvm.Cond.initialized "java/util/Arrays" ∈ WS := WS_1 9 (by decide +kernel) rfl
theorem wz_X1 : Jvm.Cond.initialized "RetryStorm$Servers" ∈ WS := WS_1 10 (by decide +kernel) rfl
theorem wk_L_7 : Jvm.Cond.classLink "RetryStormLaw" (7 : Nat) "RetryStorm" ∈ WS := WS_1 11 (by decide +kernel) rfl
theorem wa_X5 : Jvm.Cond.instantiable "RetryStorm" (4 : Nat) ∈ WS := WS_1 12 (by decide +kernel) rfl
theorem wm_L_9 : Jvm.Cond.methodLink "RetryStormLaw" (9 : Nat) ({ cls := "RetryStorm", name := "<init>", desc := "()V" } : Jvm.MethodName) ∈ WS := WS_1 13 (by decide +kernel) rfl
theorem wi_X5_init : Jvm.Cond.instanceMethod ({ cls := "RetryStorm", name := "<init>", desc := "()V" } : Jvm.MethodName) ∈ WS := WS_1 14 (by decide +kernel) rfl
theorem wc_X5_init : Jvm.Cond.code ({ cls := "RetryStorm", name := "<init>", desc := "()V" } : Jvm.MethodName) prog_1_method_1_code (2 : Nat) (Option.none : Option Jvm.ClassFile.FieldType) ∈ WS := WS_1 15 rfl rfl
theorem wm_X5_1 : Jvm.Cond.methodLink "RetryStorm" (1 : Nat) ({ cls := "java/lang/Object", name := "<init>", desc := "()V" } : Jvm.MethodName) ∈ WS := WS_1 16 (by decide +kernel) rfl
theorem wi__java_lang_Object_init___V : Jvm.Cond.instanceMethod ({ cls := "java/lang/Object", name := "<init>", desc := "()V" } : Jvm.MethodName) ∈ WS := WS_1 17 (by decide +kernel) rfl
theorem wc__java_lang_Object__init_ : Jvm.Cond.code ({ cls := "java/lang/Object", name := "<init>", desc := "()V" } : Jvm.MethodName) object_method_1_code (1 : Nat) (Option.none : Option Jvm.ClassFile.FieldType) ∈ WS := WS_1 18 rfl rfl
theorem wk_X5_7 : Jvm.Cond.classLink "RetryStorm" (7 : Nat) "RetryStorm$State" ∈ WS := WS_1 19 (by decide +kernel) rfl
theorem wa_X2 : Jvm.Cond.instantiable "RetryStorm$State" (18 : Nat) ∈ WS := WS_1 20 (by decide +kernel) rfl
theorem wm_X5_9 : Jvm.Cond.methodLink "RetryStorm" (9 : Nat) ({ cls := "RetryStorm$State", name := "<init>", desc := "()V" } : Jvm.MethodName) ∈ WS := WS_1 21 (by decide +kernel) rfl
theorem wi_X2_init : Jvm.Cond.instanceMethod ({ cls := "RetryStorm$State", name := "<init>", desc := "()V" } : Jvm.MethodName) ∈ WS := WS_1 22 (by decide +kernel) rfl
theorem wc_X2_init : Jvm.Cond.code ({ cls := "RetryStorm$State", name := "<init>", desc := "()V" } : Jvm.MethodName) prog_4_method_1_code (2 : Nat) (Option.none : Option Jvm.ClassFile.FieldType) ∈ WS := WS_1 23 rfl rfl
theorem wm_X2_3 : Jvm.Cond.methodLink "RetryStorm$State" (3 : Nat) ({ cls := "java/lang/Object", name := "<init>", desc := "()V" } : Jvm.MethodName) ∈ WS := WS_1 24 (by decide +kernel) rfl
theorem wk_X2_9 : Jvm.Cond.classLink "RetryStorm$State" (9 : Nat) "RetryStorm$Table" ∈ WS := WS_1 25 (by decide +kernel) rfl
theorem wa_X3 : Jvm.Cond.instantiable "RetryStorm$Table" (3 : Nat) ∈ WS := WS_1 26 (by decide +kernel) rfl
theorem wm_X2_11 : Jvm.Cond.methodLink "RetryStorm$State" (11 : Nat) ({ cls := "RetryStorm$Table", name := "<init>", desc := "(III)V" } : Jvm.MethodName) ∈ WS := WS_1 27 (by decide +kernel) rfl
theorem wi_X3_init : Jvm.Cond.instanceMethod ({ cls := "RetryStorm$Table", name := "<init>", desc := "(III)V" } : Jvm.MethodName) ∈ WS := WS_1 28 (by decide +kernel) rfl
theorem wc_X3_init : Jvm.Cond.code ({ cls := "RetryStorm$Table", name := "<init>", desc := "(III)V" } : Jvm.MethodName) prog_5_method_1_code (4 : Nat) (Option.none : Option Jvm.ClassFile.FieldType) ∈ WS := WS_1 29 rfl rfl
theorem wm_X3_3 : Jvm.Cond.methodLink "RetryStorm$Table" (3 : Nat) ({ cls := "java/lang/Object", name := "<init>", desc := "()V" } : Jvm.MethodName) ∈ WS := WS_1 30 (by decide +kernel) rfl
theorem wm_X3_15 : Jvm.Cond.methodLink "RetryStorm$Table" (15 : Nat) ({ cls := "java/lang/Math", name := "max", desc := "(II)I" } : Jvm.MethodName) ∈ WS := WS_1 31 (by decide +kernel) rfl
theorem wt_J9_max_7cf53 : Jvm.Cond.static ({ cls := "java/lang/Math", name := "max", desc := "(II)I" } : Jvm.MethodName) ∈ WS := WS_1 32 (by decide +kernel) rfl
theorem wc_J9_max_7cf53 : Jvm.Cond.code ({ cls := "java/lang/Math", name := "max", desc := "(II)I" } : Jvm.MethodName) prog_9_method_65_code (2 : Nat) (Option.some Jvm.ClassFile.FieldType.int) ∈ WS := WS_1 33 rfl rfl
theorem wf_X3_9 : Jvm.Cond.fieldLink "RetryStorm$Table" (9 : Nat) "RetryStorm$Table" "width" "I" ∈ WS := WS_1 34 (by decide +kernel) rfl
theorem wf_X3_21 : Jvm.Cond.fieldLink "RetryStorm$Table" (21 : Nat) "RetryStorm$Table" "cells" "[I" ∈ WS := WS_1 35 (by decide +kernel) rfl
theorem wf_X3_25 : Jvm.Cond.fieldLink "RetryStorm$Table" (25 : Nat) "RetryStorm$Table" "size" "I" ∈ WS := WS_1 36 (by decide +kernel) rfl
theorem wl_X3_width : Jvm.Cond.laysFinal "RetryStorm$Table" "RetryStorm$Table" "width" "I" ∈ WS := WS_1 37 (by decide +kernel) rfl
theorem wl_X3_cells : Jvm.Cond.laysFinal "RetryStorm$Table" "RetryStorm$Table" "cells" "[I" ∈ WS := WS_1 39 (by decide +kernel) rfl
theorem wl_X3_size : Jvm.Cond.lays "RetryStorm$Table" "RetryStorm$Table" "size" "I" ∈ WS := WS_1 41 (by decide +kernel) rfl
theorem w_arrI : Jvm.Cond.arrayClass Jvm.ClassFile.FieldType.int ∈ WS := WS_1 44 (by decide +kernel) rfl
theorem wf_X2_54 : Jvm.Cond.fieldLinkNest "RetryStorm$State" (54 : Nat) "RetryStorm" "AT_FIRST" "[I" "RetryStorm" ∈ lw_tbl := List.mem_append_right _ (List.mem_append_left _ (List.mem_of_getElem? (i := 45) (by decide +kernel)))
theorem wl_X5_AT_FIRST : Jvm.Cond.laysStatic "RetryStorm" "AT_FIRST" "[I" ∈ lw_tbl := List.mem_append_right _ (List.mem_append_left _ (List.mem_of_getElem? (i := 46) (by decide +kernel)))
theorem wm_X2_58 : Jvm.Cond.methodLink "RetryStorm$State" (58 : Nat) ({ cls := "RetryStorm$Table", name := "putInAll", desc := "(II)V" } : Jvm.MethodName) ∈ WS := WS_1 47 (by decide +kernel) rfl
theorem wi_X3_putInAll : Jvm.Cond.instanceMethod ({ cls := "RetryStorm$Table", name := "putInAll", desc := "(II)V" } : Jvm.MethodName) ∈ WS := WS_1 48 (by decide +kernel) rfl
theorem we_X3_putInAll : Jvm.Cond.selects "RetryStorm$Table" ({ cls := "RetryStorm$Table", name := "putInAll", desc := "(II)V" } : Jvm.MethodName) ({ cls := "RetryStorm$Table", name := "putInAll", desc := "(II)V" } : Jvm.MethodName) ∈ WS := WS_1 49 (by decide +kernel) rfl
theorem wc_X3_putInAll : Jvm.Cond.code ({ cls := "RetryStorm$Table", name := "putInAll", desc := "(II)V" } : Jvm.MethodName) prog_5_method_6_code (4 : Nat) (Option.none : Option Jvm.ClassFile.FieldType) ∈ WS := WS_1 50 rfl rfl
theorem wm_X3_31 : Jvm.Cond.methodLink "RetryStorm$Table" (31 : Nat) ({ cls := "RetryStorm$Table", name := "put", desc := "(III)V" } : Jvm.MethodName) ∈ WS := WS_1 51 (by decide +kernel) rfl
theorem wi_X3_put : Jvm.Cond.instanceMethod ({ cls := "RetryStorm$Table", name := "put", desc := "(III)V" } : Jvm.MethodName) ∈ WS := WS_1 52 (by decide +kernel) rfl
theorem we_X3_put : Jvm.Cond.selects "RetryStorm$Table" ({ cls := "RetryStorm$Table", name := "put", desc := "(III)V" } : Jvm.MethodName) ({ cls := "RetryStorm$Table", name := "put", desc := "(III)V" } : Jvm.MethodName) ∈ WS := WS_1 53 (by decide +kernel) rfl
theorem wc_X3_put : Jvm.Cond.code ({ cls := "RetryStorm$Table", name := "put", desc := "(III)V" } : Jvm.MethodName) prog_5_method_4_code (5 : Nat) (Option.none : Option Jvm.ClassFile.FieldType) ∈ WS := WS_1 54 rfl rfl
theorem wm_X2_62 : Jvm.Cond.methodLink "RetryStorm$State" (62 : Nat) ({ cls := "RetryStorm$Table", name := "put", desc := "(III)V" } : Jvm.MethodName) ∈ WS := WS_1 55 (by decide +kernel) rfl
theorem wf_X2_14 : Jvm.Cond.fieldLink "RetryStorm$State" (14 : Nat) "RetryStorm$State" "clients" "LRetryStorm$Table;" ∈ WS := WS_1 56 (by decide +kernel) rfl
theorem wf_X5_37 : Jvm.Cond.fieldLink "RetryStorm" (37 : Nat) "RetryStorm$State" "clients" "LRetryStorm$Table;" ∈ WS := WS_1 57 (by decide +kernel) rfl
theorem wf_X1_32 : Jvm.Cond.fieldLink "RetryStorm$Servers" (32 : Nat) "RetryStorm$State" "clients" "LRetryStorm$Table;" ∈ WS := WS_1 58 (by decide +kernel) rfl
theorem wf_X0_37 : Jvm.Cond.fieldLink "RetryStorm$Clients" (37 : Nat) "RetryStorm$State" "clients" "LRetryStorm$Table;" ∈ WS := WS_1 59 (by decide +kernel) rfl
theorem wf_X2_20 : Jvm.Cond.fieldLink "RetryStorm$State" (20 : Nat) "RetryStorm$State" "tallies" "LRetryStorm$Table;" ∈ WS := WS_1 60 (by decide +kernel) rfl
theorem wf_X5_51 : Jvm.Cond.fieldLink "RetryStorm" (51 : Nat) "RetryStorm$State" "tallies" "LRetryStorm$Table;" ∈ WS := WS_1 61 (by decide +kernel) rfl
theorem wf_X0_54 : Jvm.Cond.fieldLink "RetryStorm$Clients" (54 : Nat) "RetryStorm$State" "tallies" "LRetryStorm$Table;" ∈ WS := WS_1 62 (by decide +kernel) rfl
theorem wf_X1_120 : Jvm.Cond.fieldLink "RetryStorm$Servers" (120 : Nat) "RetryStorm$State" "tallies" "LRetryStorm$Table;" ∈ WS := WS_1 63 (by decide +kernel) rfl
theorem wf_X2_23 : Jvm.Cond.fieldLink "RetryStorm$State" (23 : Nat) "RetryStorm$State" "surges" "LRetryStorm$Table;" ∈ WS := WS_1 64 (by decide +kernel) rfl
theorem wf_X0_51 : Jvm.Cond.fieldLink "RetryStorm$Clients" (51 : Nat) "RetryStorm$State" "surges" "LRetryStorm$Table;" ∈ WS := WS_1 65 (by decide +kernel) rfl
theorem wf_X5_75 : Jvm.Cond.fieldLink "RetryStorm" (75 : Nat) "RetryStorm$State" "surges" "LRetryStorm$Table;" ∈ WS := WS_1 66 (by decide +kernel) rfl
theorem wf_X2_26 : Jvm.Cond.fieldLink "RetryStorm$State" (26 : Nat) "RetryStorm$State" "servers" "LRetryStorm$Table;" ∈ WS := WS_1 67 (by decide +kernel) rfl
theorem wf_X1_35 : Jvm.Cond.fieldLink "RetryStorm$Servers" (35 : Nat) "RetryStorm$State" "servers" "LRetryStorm$Table;" ∈ WS := WS_1 68 (by decide +kernel) rfl
theorem wf_X5_62 : Jvm.Cond.fieldLink "RetryStorm" (62 : Nat) "RetryStorm$State" "servers" "LRetryStorm$Table;" ∈ WS := WS_1 69 (by decide +kernel) rfl
theorem wf_X0_88 : Jvm.Cond.fieldLink "RetryStorm$Clients" (88 : Nat) "RetryStorm$State" "servers" "LRetryStorm$Table;" ∈ WS := WS_1 70 (by decide +kernel) rfl
theorem wf_X2_29 : Jvm.Cond.fieldLink "RetryStorm$State" (29 : Nat) "RetryStorm$State" "switches" "LRetryStorm$Table;" ∈ WS := WS_1 71 (by decide +kernel) rfl
theorem wf_X5_69 : Jvm.Cond.fieldLink "RetryStorm" (69 : Nat) "RetryStorm$State" "switches" "LRetryStorm$Table;" ∈ WS := WS_1 72 (by decide +kernel) rfl
theorem wf_X0_91 : Jvm.Cond.fieldLink "RetryStorm$Clients" (91 : Nat) "RetryStorm$State" "switches" "LRetryStorm$Table;" ∈ WS := WS_1 73 (by decide +kernel) rfl
theorem wf_X1_101 : Jvm.Cond.fieldLink "RetryStorm$Servers" (101 : Nat) "RetryStorm$State" "switches" "LRetryStorm$Table;" ∈ WS := WS_1 74 (by decide +kernel) rfl
theorem wf_X2_32 : Jvm.Cond.fieldLink "RetryStorm$State" (32 : Nat) "RetryStorm$State" "requests" "LRetryStorm$Table;" ∈ WS := WS_1 75 (by decide +kernel) rfl
theorem wf_X1_9 : Jvm.Cond.fieldLink "RetryStorm$Servers" (9 : Nat) "RetryStorm$State" "requests" "LRetryStorm$Table;" ∈ WS := WS_1 76 (by decide +kernel) rfl
theorem wf_X0_69 : Jvm.Cond.fieldLink "RetryStorm$Clients" (69 : Nat) "RetryStorm$State" "requests" "LRetryStorm$Table;" ∈ WS := WS_1 77 (by decide +kernel) rfl
theorem wf_X5_90 : Jvm.Cond.fieldLink "RetryStorm" (90 : Nat) "RetryStorm$State" "requests" "LRetryStorm$Table;" ∈ WS := WS_1 78 (by decide +kernel) rfl
theorem wf_X2_35 : Jvm.Cond.fieldLink "RetryStorm$State" (35 : Nat) "RetryStorm$State" "queue" "LRetryStorm$Table;" ∈ WS := WS_1 79 (by decide +kernel) rfl
theorem wf_X1_21 : Jvm.Cond.fieldLink "RetryStorm$Servers" (21 : Nat) "RetryStorm$State" "queue" "LRetryStorm$Table;" ∈ WS := WS_1 80 (by decide +kernel) rfl
theorem wf_X4_61 : Jvm.Cond.fieldLink "RetryStorm$Ticks" (61 : Nat) "RetryStorm$State" "queue" "LRetryStorm$Table;" ∈ WS := WS_1 81 (by decide +kernel) rfl
theorem wf_X0_82 : Jvm.Cond.fieldLink "RetryStorm$Clients" (82 : Nat) "RetryStorm$State" "queue" "LRetryStorm$Table;" ∈ WS := WS_1 82 (by decide +kernel) rfl
theorem wf_X5_100 : Jvm.Cond.fieldLink "RetryStorm" (100 : Nat) "RetryStorm$State" "queue" "LRetryStorm$Table;" ∈ WS := WS_1 83 (by decide +kernel) rfl
theorem wf_X2_38 : Jvm.Cond.fieldLink "RetryStorm$State" (38 : Nat) "RetryStorm$State" "workers" "LRetryStorm$Table;" ∈ WS := WS_1 84 (by decide +kernel) rfl
theorem wf_X1_59 : Jvm.Cond.fieldLink "RetryStorm$Servers" (59 : Nat) "RetryStorm$State" "workers" "LRetryStorm$Table;" ∈ WS := WS_1 85 (by decide +kernel) rfl
theorem wf_X5_106 : Jvm.Cond.fieldLink "RetryStorm" (106 : Nat) "RetryStorm$State" "workers" "LRetryStorm$Table;" ∈ WS := WS_1 86 (by decide +kernel) rfl
theorem wf_X2_41 : Jvm.Cond.fieldLink "RetryStorm$State" (41 : Nat) "RetryStorm$State" "backQueue" "LRetryStorm$Table;" ∈ WS := WS_1 87 (by decide +kernel) rfl
theorem wf_X1_38 : Jvm.Cond.fieldLink "RetryStorm$Servers" (38 : Nat) "RetryStorm$State" "backQueue" "LRetryStorm$Table;" ∈ WS := WS_1 88 (by decide +kernel) rfl
theorem wf_X5_103 : Jvm.Cond.fieldLink "RetryStorm" (103 : Nat) "RetryStorm$State" "backQueue" "LRetryStorm$Table;" ∈ WS := WS_1 89 (by decide +kernel) rfl
theorem wf_X2_44 : Jvm.Cond.fieldLink "RetryStorm$State" (44 : Nat) "RetryStorm$State" "backWorkers" "LRetryStorm$Table;" ∈ WS := WS_1 90 (by decide +kernel) rfl
theorem wf_X1_44 : Jvm.Cond.fieldLink "RetryStorm$Servers" (44 : Nat) "RetryStorm$State" "backWorkers" "LRetryStorm$Table;" ∈ WS := WS_1 91 (by decide +kernel) rfl
theorem wf_X5_109 : Jvm.Cond.fieldLink "RetryStorm" (109 : Nat) "RetryStorm$State" "backWorkers" "LRetryStorm$Table;" ∈ WS := WS_1 92 (by decide +kernel) rfl
theorem wf_X2_47 : Jvm.Cond.fieldLink "RetryStorm$State" (47 : Nat) "RetryStorm$State" "history" "LRetryStorm$Table;" ∈ WS := WS_1 93 (by decide +kernel) rfl
theorem wf_X4_57 : Jvm.Cond.fieldLink "RetryStorm$Ticks" (57 : Nat) "RetryStorm$State" "history" "LRetryStorm$Table;" ∈ WS := WS_1 94 (by decide +kernel) rfl
theorem wf_X2_69 : Jvm.Cond.fieldLink "RetryStorm$State" (69 : Nat) "RetryStorm$State" "discipline" "I" ∈ WS := WS_1 95 (by decide +kernel) rfl
theorem wf_X5_65 : Jvm.Cond.fieldLink "RetryStorm" (65 : Nat) "RetryStorm$State" "discipline" "I" ∈ WS := WS_1 96 (by decide +kernel) rfl
theorem wf_X1_85 : Jvm.Cond.fieldLink "RetryStorm$Servers" (85 : Nat) "RetryStorm$State" "discipline" "I" ∈ WS := WS_1 97 (by decide +kernel) rfl
theorem wf_X4_39 : Jvm.Cond.fieldLink "RetryStorm$Ticks" (39 : Nat) "RetryStorm$State" "clock" "I" ∈ WS := WS_1 98 (by decide +kernel) rfl
theorem wf_X2_72 : Jvm.Cond.fieldLink "RetryStorm$State" (72 : Nat) "RetryStorm$State" "clock" "I" ∈ WS := WS_1 99 (by decide +kernel) rfl
theorem wf_X0_47 : Jvm.Cond.fieldLink "RetryStorm$Clients" (47 : Nat) "RetryStorm$State" "clock" "I" ∈ WS := WS_1 100 (by decide +kernel) rfl
theorem wf_X5_72 : Jvm.Cond.fieldLink "RetryStorm" (72 : Nat) "RetryStorm$State" "clock" "I" ∈ WS := WS_1 101 (by decide +kernel) rfl
theorem wf_X1_93 : Jvm.Cond.fieldLink "RetryStorm$Servers" (93 : Nat) "RetryStorm$State" "clock" "I" ∈ WS := WS_1 102 (by decide +kernel) rfl
theorem wf_X2_50 : Jvm.Cond.fieldLink "RetryStorm$State" (50 : Nat) "RetryStorm$State" "seed" "I" ∈ WS := WS_1 103 (by decide +kernel) rfl
theorem wf_X0_112 : Jvm.Cond.fieldLink "RetryStorm$Clients" (112 : Nat) "RetryStorm$State" "seed" "I" ∈ WS := WS_1 104 (by decide +kernel) rfl
theorem wf_X2_75 : Jvm.Cond.fieldLink "RetryStorm$State" (75 : Nat) "RetryStorm$State" "numbers" "I" ∈ WS := WS_1 105 (by decide +kernel) rfl
theorem wf_X0_76 : Jvm.Cond.fieldLink "RetryStorm$Clients" (76 : Nat) "RetryStorm$State" "numbers" "I" ∈ WS := WS_1 106 (by decide +kernel) rfl
theorem wf_X2_78 : Jvm.Cond.fieldLink "RetryStorm$State" (78 : Nat) "RetryStorm$State" "good" "I" ∈ WS := WS_1 107 (by decide +kernel) rfl
theorem wf_X5_112 : Jvm.Cond.fieldLink "RetryStorm" (112 : Nat) "RetryStorm$State" "good" "I" ∈ WS := WS_1 108 (by decide +kernel) rfl
theorem wf_X1_117 : Jvm.Cond.fieldLink "RetryStorm$Servers" (117 : Nat) "RetryStorm$State" "good" "I" ∈ WS := WS_1 109 (by decide +kernel) rfl
theorem wf_X4_15 : Jvm.Cond.fieldLink "RetryStorm$Ticks" (15 : Nat) "RetryStorm$State" "wasted" "I" ∈ WS := WS_1 110 (by decide +kernel) rfl
theorem wf_X2_81 : Jvm.Cond.fieldLink "RetryStorm$State" (81 : Nat) "RetryStorm$State" "wasted" "I" ∈ WS := WS_1 111 (by decide +kernel) rfl
theorem wf_X5_115 : Jvm.Cond.fieldLink "RetryStorm" (115 : Nat) "RetryStorm$State" "wasted" "I" ∈ WS := WS_1 112 (by decide +kernel) rfl
theorem wf_X1_123 : Jvm.Cond.fieldLink "RetryStorm$Servers" (123 : Nat) "RetryStorm$State" "wasted" "I" ∈ WS := WS_1 113 (by decide +kernel) rfl
theorem wf_X4_74 : Jvm.Cond.fieldLink "RetryStorm$Ticks" (74 : Nat) "RetryStorm$State" "longest" "I" ∈ WS := WS_1 114 (by decide +kernel) rfl
theorem wf_X2_84 : Jvm.Cond.fieldLink "RetryStorm$State" (84 : Nat) "RetryStorm$State" "longest" "I" ∈ WS := WS_1 115 (by decide +kernel) rfl
theorem wf_X5_121 : Jvm.Cond.fieldLink "RetryStorm" (121 : Nat) "RetryStorm$State" "longest" "I" ∈ WS := WS_1 116 (by decide +kernel) rfl
theorem wl_X2_clients : Jvm.Cond.laysFinal "RetryStorm$State" "RetryStorm$State" "clients" "LRetryStorm$Table;" ∈ WS := WS_1 117 (by decide +kernel) rfl
theorem wl_X2_tallies : Jvm.Cond.laysFinal "RetryStorm$State" "RetryStorm$State" "tallies" "LRetryStorm$Table;" ∈ WS := WS_1 119 (by decide +kernel) rfl
theorem wl_X2_surges : Jvm.Cond.laysFinal "RetryStorm$State" "RetryStorm$State" "surges" "LRetryStorm$Table;" ∈ WS := WS_1 121 (by decide +kernel) rfl
theorem wl_X2_servers : Jvm.Cond.laysFinal "RetryStorm$State" "RetryStorm$State" "servers" "LRetryStorm$Table;" ∈ WS := WS_1 123 (by decide +kernel) rfl
theorem wl_X2_switches : Jvm.Cond.laysFinal "RetryStorm$State" "RetryStorm$State" "switches" "LRetryStorm$Table;" ∈ WS := WS_1 125 (by decide +kernel) rfl
theorem wl_X2_requests : Jvm.Cond.laysFinal "RetryStorm$State" "RetryStorm$State" "requests" "LRetryStorm$Table;" ∈ WS := WS_1 127 (by decide +kernel) rfl
theorem wl_X2_queue : Jvm.Cond.laysFinal "RetryStorm$State" "RetryStorm$State" "queue" "LRetryStorm$Table;" ∈ WS := WS_1 129 (by decide +kernel) rfl
theorem wl_X2_workers : Jvm.Cond.laysFinal "RetryStorm$State" "RetryStorm$State" "workers" "LRetryStorm$Table;" ∈ WS := WS_1 131 (by decide +kernel) rfl
theorem wl_X2_backQueue : Jvm.Cond.laysFinal "RetryStorm$State" "RetryStorm$State" "backQueue" "LRetryStorm$Table;" ∈ WS := WS_1 133 (by decide +kernel) rfl
theorem wl_X2_backWorkers : Jvm.Cond.laysFinal "RetryStorm$State" "RetryStorm$State" "backWorkers" "LRetryStorm$Table;" ∈ WS := WS_1 135 (by decide +kernel) rfl
theorem wl_X2_history : Jvm.Cond.laysFinal "RetryStorm$State" "RetryStorm$State" "history" "LRetryStorm$Table;" ∈ WS := WS_1 137 (by decide +kernel) rfl
theorem wl_X2_discipline : Jvm.Cond.lays "RetryStorm$State" "RetryStorm$State" "discipline" "I" ∈ WS := WS_1 139 (by decide +kernel) rfl
theorem wl_X2_clock : Jvm.Cond.lays "RetryStorm$State" "RetryStorm$State" "clock" "I" ∈ WS := WS_1 141 (by decide +kernel) rfl
theorem wl_X2_seed : Jvm.Cond.lays "RetryStorm$State" "RetryStorm$State" "seed" "I" ∈ WS := WS_1 143 (by decide +kernel) rfl
theorem wl_X2_numbers : Jvm.Cond.lays "RetryStorm$State" "RetryStorm$State" "numbers" "I" ∈ WS := WS_1 145 (by decide +kernel) rfl
theorem wl_X2_good : Jvm.Cond.lays "RetryStorm$State" "RetryStorm$State" "good" "I" ∈ WS := WS_1 147 (by decide +kernel) rfl
theorem wl_X2_wasted : Jvm.Cond.lays "RetryStorm$State" "RetryStorm$State" "wasted" "I" ∈ WS := WS_1 149 (by decide +kernel) rfl
theorem wl_X2_longest : Jvm.Cond.lays "RetryStorm$State" "RetryStorm$State" "longest" "I" ∈ WS := WS_1 151 (by decide +kernel) rfl
theorem w_arrS : Jvm.Cond.arrayOver (Jvm.ClassFile.FieldType.object "RetryStorm$State") ∈ lw_tbl := List.mem_append_right _ (List.mem_append_left _ (List.mem_of_getElem? (i := 154) (by decide +kernel)))
theorem wf_X5_10 : Jvm.Cond.fieldLink "RetryStorm" (10 : Nat) "RetryStorm" "state" "LRetryStorm$State;" ∈ WS := WS_1 155 (by decide +kernel) rfl
theorem wf_X5_16 : Jvm.Cond.fieldLink "RetryStorm" (16 : Nat) "RetryStorm" "trial" "LRetryStorm$State;" ∈ WS := WS_1 156 (by decide +kernel) rfl
theorem wf_X5_19 : Jvm.Cond.fieldLink "RetryStorm" (19 : Nat) "RetryStorm" "recorded" "[LRetryStorm$State;" ∈ WS := WS_1 157 (by decide +kernel) rfl
theorem wf_X5_124 : Jvm.Cond.fieldLink "RetryStorm" (124 : Nat) "RetryStorm" "records" "I" ∈ WS := WS_1 158 (by decide +kernel) rfl
theorem wl_X5_state : Jvm.Cond.laysFinal "RetryStorm" "RetryStorm" "state" "LRetryStorm$State;" ∈ WS := WS_1 159 (by decide +kernel) rfl
theorem wl_X5_trial : Jvm.Cond.laysFinal "RetryStorm" "RetryStorm" "trial" "LRetryStorm$State;" ∈ WS := WS_1 161 (by decide +kernel) rfl
theorem wl_X5_recorded : Jvm.Cond.laysFinal "RetryStorm" "RetryStorm" "recorded" "[LRetryStorm$State;" ∈ WS := WS_1 163 (by decide +kernel) rfl
theorem wl_X5_records : Jvm.Cond.lays "RetryStorm" "RetryStorm" "records" "I" ∈ WS := WS_1 165 (by decide +kernel) rfl
theorem wm_L_13 : Jvm.Cond.methodLink "RetryStormLaw" (13 : Nat) ({ cls := "RetryStorm", name := "set", desc := "(III)I" } : Jvm.MethodName) ∈ WS := WS_1 168 (by decide +kernel) rfl
theorem wi_X5_set : Jvm.Cond.instanceMethod ({ cls := "RetryStorm", name := "set", desc := "(III)I" } : Jvm.MethodName) ∈ WS := WS_1 169 (by decide +kernel) rfl
theorem we_X5_set : Jvm.Cond.selects "RetryStorm" ({ cls := "RetryStorm", name := "set", desc := "(III)I" } : Jvm.MethodName) ({ cls := "RetryStorm", name := "set", desc := "(III)I" } : Jvm.MethodName) ∈ WS := WS_1 170 (by decide +kernel) rfl
theorem wc_X5_set : Jvm.Cond.code ({ cls := "RetryStorm", name := "set", desc := "(III)I" } : Jvm.MethodName) prog_1_method_2_code (5 : Nat) (Option.some Jvm.ClassFile.FieldType.int) ∈ WS := WS_1 171 rfl rfl
theorem wm_X5_23 : Jvm.Cond.methodLink "RetryStorm" (23 : Nat) ({ cls := "RetryStorm", name := "isClient", desc := "(I)Z" } : Jvm.MethodName) ∈ WS := WS_1 172 (by decide +kernel) rfl
theorem wt_X5_isClient : Jvm.Cond.static ({ cls := "RetryStorm", name := "isClient", desc := "(I)Z" } : Jvm.MethodName) ∈ WS := WS_1 173 (by decide +kernel) rfl
theorem wc_X5_isClient : Jvm.Cond.code ({ cls := "RetryStorm", name := "isClient", desc := "(I)Z" } : Jvm.MethodName) prog_1_method_26_code (1 : Nat) (Option.some Jvm.ClassFile.FieldType.boolean) ∈ WS := WS_1 174 rfl rfl
theorem wf_X5_27 : Jvm.Cond.fieldLink "RetryStorm" (27 : Nat) "RetryStorm" "LEAST" "[I" ∈ WS := WS_1 175 (by decide +kernel) rfl
theorem wl_X5_LEAST : Jvm.Cond.laysStatic "RetryStorm" "LEAST" "[I" ∈ lw_tbl := List.mem_append_right _ (List.mem_append_left _ (List.mem_of_getElem? (i := 176) (by decide +kernel)))
theorem wf_X5_31 : Jvm.Cond.fieldLink "RetryStorm" (31 : Nat) "RetryStorm" "MOST" "[I" ∈ WS := WS_1 177 (by decide +kernel) rfl
theorem wl_X5_MOST : Jvm.Cond.laysStatic "RetryStorm" "MOST" "[I" ∈ lw_tbl := List.mem_append_right _ (List.mem_append_left _ (List.mem_of_getElem? (i := 178) (by decide +kernel)))
theorem wm_X5_34 : Jvm.Cond.methodLink "RetryStorm" (34 : Nat) ({ cls := "RetryStorm", name := "keepState", desc := "()V" } : Jvm.MethodName) ∈ WS := WS_1 179 (by decide +kernel) rfl
theorem wi_X5_keepState : Jvm.Cond.instanceMethod ({ cls := "RetryStorm", name := "keepState", desc := "()V" } : Jvm.MethodName) ∈ WS := WS_1 181 (by decide +kernel) rfl
theorem wc_X5_keepState : Jvm.Cond.code ({ cls := "RetryStorm", name := "keepState", desc := "()V" } : Jvm.MethodName) prog_1_method_31_code (2 : Nat) (Option.none : Option Jvm.ClassFile.FieldType) ∈ WS := WS_1 182 rfl rfl
theorem wm_X5_193 : Jvm.Cond.methodLink "RetryStorm" (193 : Nat) ({ cls := "RetryStorm", name := "dropOldestRecord", desc := "()V" } : Jvm.MethodName) ∈ WS := WS_1 183 (by decide +kernel) rfl
theorem wi_X5_dropOldestRecord : Jvm.Cond.instanceMethod ({ cls := "RetryStorm", name := "dropOldestRecord", desc := "()V" } : Jvm.MethodName) ∈ WS := WS_1 185 (by decide +kernel) rfl
theorem wc_X5_dropOldestRecord : Jvm.Cond.code ({ cls := "RetryStorm", name := "dropOldestRecord", desc := "()V" } : Jvm.MethodName) prog_1_method_32_code (3 : Nat) (Option.none : Option Jvm.ClassFile.FieldType) ∈ WS := WS_1 186 rfl rfl
theorem wm_X5_146 : Jvm.Cond.methodLink "RetryStorm" (146 : Nat) ({ cls := "RetryStorm$State", name := "copyFrom", desc := "(LRetryStorm$State;)V" } : Jvm.MethodName) ∈ WS := WS_1 187 (by decide +kernel) rfl
theorem wi_X2_copyFrom : Jvm.Cond.instanceMethod ({ cls := "RetryStorm$State", name := "copyFrom", desc := "(LRetryStorm$State;)V" } : Jvm.MethodName) ∈ WS := WS_1 188 (by decide +kernel) rfl
theorem we_X2_copyFrom : Jvm.Cond.selects "RetryStorm$State" ({ cls := "RetryStorm$State", name := "copyFrom", desc := "(LRetryStorm$State;)V" } : Jvm.MethodName) ({ cls := "RetryStorm$State", name := "copyFrom", desc := "(LRetryStorm$State;)V" } : Jvm.MethodName) ∈ WS := WS_1 189 (by decide +kernel) rfl
theorem wc_X2_copyFrom : Jvm.Cond.code ({ cls := "RetryStorm$State", name := "copyFrom", desc := "(LRetryStorm$State;)V" } : Jvm.MethodName) prog_4_method_2_code (2 : Nat) (Option.none : Option Jvm.ClassFile.FieldType) ∈ WS := WS_1 190 rfl rfl
theorem wm_X2_65 : Jvm.Cond.methodLink "RetryStorm$State" (65 : Nat) ({ cls := "RetryStorm$Table", name := "copyFrom", desc := "(LRetryStorm$Table;)V" } : Jvm.MethodName) ∈ WS := WS_1 191 (by decide +kernel) rfl
theorem wi_X3_copyFrom : Jvm.Cond.instanceMethod ({ cls := "RetryStorm$Table", name := "copyFrom", desc := "(LRetryStorm$Table;)V" } : Jvm.MethodName) ∈ WS := WS_1 192 (by decide +kernel) rfl
theorem we_X3_copyFrom : Jvm.Cond.selects "RetryStorm$Table" ({ cls := "RetryStorm$Table", name := "copyFrom", desc := "(LRetryStorm$Table;)V" } : Jvm.MethodName) ({ cls := "RetryStorm$Table", name := "copyFrom", desc := "(LRetryStorm$Table;)V" } : Jvm.MethodName) ∈ WS := WS_1 193 (by decide +kernel) rfl
theorem wc_X3_copyFrom : Jvm.Cond.code ({ cls := "RetryStorm$Table", name := "copyFrom", desc := "(LRetryStorm$Table;)V" } : Jvm.MethodName) prog_5_method_13_code (2 : Nat) (Option.none : Option Jvm.ClassFile.FieldType) ∈ WS := WS_1 194 rfl rfl
theorem wm_X3_47 : Jvm.Cond.methodLink "RetryStorm$Table" (47 : Nat) ({ cls := "java/lang/Math", name := "min", desc := "(II)I" } : Jvm.MethodName) ∈ WS := WS_1 195 (by decide +kernel) rfl
theorem wt_J9_min_7cf53 : Jvm.Cond.static ({ cls := "java/lang/Math", name := "min", desc := "(II)I" } : Jvm.MethodName) ∈ WS := WS_1 196 (by decide +kernel) rfl
theorem wc_J9_min_7cf53 : Jvm.Cond.code ({ cls := "java/lang/Math", name := "min", desc := "(II)I" } : Jvm.MethodName) prog_9_method_69_code (2 : Nat) (Option.some Jvm.ClassFile.FieldType.int) ∈ WS := WS_1 197 rfl rfl
theorem wm_X3_41 : Jvm.Cond.methodLink "RetryStorm$Table" (41 : Nat) ({ cls := "java/lang/System", name := "arraycopy", desc := "(Ljava/lang/Object;ILjava/lang/Object;II)V" } : Jvm.MethodName) ∈ WS := WS_1 198 (by decide +kernel) rfl
theorem wt__java_lang_System_arraycopy : Jvm.Cond.static ({ cls := "java/lang/System", name := "arraycopy", desc := "(Ljava/lang/Object;ILjava/lang/Object;II)V" } : Jvm.MethodName) ∈ WS := WS_1 199 (by decide +kernel) rfl
theorem wn_arraycopy : Jvm.Cond.native ({ cls := "java/lang/System", name := "arraycopy", desc := "(Ljava/lang/Object;ILjava/lang/Object;II)V" } : Jvm.MethodName) ∈ WS := WS_1 200 (by decide +kernel) rfl
theorem wm_X5_41 : Jvm.Cond.methodLink "RetryStorm" (41 : Nat) ({ cls := "RetryStorm$Table", name := "get", desc := "(II)I" } : Jvm.MethodName) ∈ WS := WS_1 201 (by decide +kernel) rfl
theorem wi_X3_get : Jvm.Cond.instanceMethod ({ cls := "RetryStorm$Table", name := "get", desc := "(II)I" } : Jvm.MethodName) ∈ WS := WS_1 202 (by decide +kernel) rfl
theorem we_X3_get : Jvm.Cond.selects "RetryStorm$Table" ({ cls := "RetryStorm$Table", name := "get", desc := "(II)I" } : Jvm.MethodName) ({ cls := "RetryStorm$Table", name := "get", desc := "(II)I" } : Jvm.MethodName) ∈ WS := WS_1 203 (by decide +kernel) rfl
theorem wc_X3_get : Jvm.Cond.code ({ cls := "RetryStorm$Table", name := "get", desc := "(II)I" } : Jvm.MethodName) prog_5_method_3_code (4 : Nat) (Option.some Jvm.ClassFile.FieldType.int) ∈ WS := WS_1 204 rfl rfl
theorem wm_X5_47 : Jvm.Cond.methodLink "RetryStorm" (47 : Nat) ({ cls := "RetryStorm$Table", name := "put", desc := "(III)V" } : Jvm.MethodName) ∈ WS := WS_1 205 (by decide +kernel) rfl
theorem wm_L_18 : Jvm.Cond.methodLink "RetryStormLaw" (18 : Nat) ({ cls := "RetryStorm", name := "property", desc := "(II)I" } : Jvm.MethodName) ∈ WS := WS_1 206 (by decide +kernel) rfl
theorem wi_X5_property : Jvm.Cond.instanceMethod ({ cls := "RetryStorm", name := "property", desc := "(II)I" } : Jvm.MethodName) ∈ WS := WS_1 207 (by decide +kernel) rfl
theorem we_X5_property : Jvm.Cond.selects "RetryStorm" ({ cls := "RetryStorm", name := "property", desc := "(II)I" } : Jvm.MethodName) ({ cls := "RetryStorm", name := "property", desc := "(II)I" } : Jvm.MethodName) ∈ WS := WS_1 208 (by decide +kernel) rfl
theorem wc_X5_property : Jvm.Cond.code ({ cls := "RetryStorm", name := "property", desc := "(II)I" } : Jvm.MethodName) prog_1_method_3_code (3 : Nat) (Option.some Jvm.ClassFile.FieldType.int) ∈ WS := WS_1 209 rfl rfl
theorem wm_L_23 : Jvm.Cond.methodLink "RetryStormLaw" (23 : Nat) ({ cls := "RetryStorm", name := "setServer", desc := "(II)I" } : Jvm.MethodName) ∈ WS := WS_1 210 (by decide +kernel) rfl
theorem wi_X5_setServer : Jvm.Cond.instanceMethod ({ cls := "RetryStorm", name := "setServer", desc := "(II)I" } : Jvm.MethodName) ∈ WS := WS_1 211 (by decide +kernel) rfl
theorem we_X5_setServer : Jvm.Cond.selects "RetryStorm" ({ cls := "RetryStorm", name := "setServer", desc := "(II)I" } : Jvm.MethodName) ({ cls := "RetryStorm", name := "setServer", desc := "(II)I" } : Jvm.MethodName) ∈ WS := WS_1 212 (by decide +kernel) rfl
theorem wc_X5_setServer : Jvm.Cond.code ({ cls := "RetryStorm", name := "setServer", desc := "(II)I" } : Jvm.MethodName) prog_1_method_4_code (4 : Nat) (Option.some Jvm.ClassFile.FieldType.int) ∈ WS := WS_1 213 rfl rfl
theorem wm_X5_54 : Jvm.Cond.methodLink "RetryStorm" (54 : Nat) ({ cls := "RetryStorm", name := "mostOfServer", desc := "(I)I" } : Jvm.MethodName) ∈ WS := WS_1 214 (by decide +kernel) rfl
theorem wt_X5_mostOfServer : Jvm.Cond.static ({ cls := "RetryStorm", name := "mostOfServer", desc := "(I)I" } : Jvm.MethodName) ∈ WS := WS_1 215 (by decide +kernel) rfl
theorem wc_X5_mostOfServer : Jvm.Cond.code ({ cls := "RetryStorm", name := "mostOfServer", desc := "(I)I" } : Jvm.MethodName) prog_1_method_27_code (1 : Nat) (Option.some Jvm.ClassFile.FieldType.int) ∈ WS := WS_1 216 rfl rfl
theorem wm_X5_58 : Jvm.Cond.methodLink "RetryStorm" (58 : Nat) ({ cls := "RetryStorm", name := "isInUseBeyond", desc := "(II)Z" } : Jvm.MethodName) ∈ WS := WS_1 217 (by decide +kernel) rfl
theorem wi_X5_isInUseBeyond : Jvm.Cond.instanceMethod ({ cls := "RetryStorm", name := "isInUseBeyond", desc := "(II)Z" } : Jvm.MethodName) ∈ WS := WS_1 219 (by decide +kernel) rfl
theorem wc_X5_isInUseBeyond : Jvm.Cond.code ({ cls := "RetryStorm", name := "isInUseBeyond", desc := "(II)Z" } : Jvm.MethodName) prog_1_method_28_code (3 : Nat) (Option.some Jvm.ClassFile.FieldType.boolean) ∈ WS := WS_1 220 rfl rfl
theorem wm_X5_189 : Jvm.Cond.methodLink "RetryStorm" (189 : Nat) ({ cls := "RetryStorm", name := "isAnyTakenFrom", desc := "(LRetryStorm$Table;I)Z" } : Jvm.MethodName) ∈ WS := WS_1 221 (by decide +kernel) rfl
theorem wt_X5_isAnyTakenFrom : Jvm.Cond.static ({ cls := "RetryStorm", name := "isAnyTakenFrom", desc := "(LRetryStorm$Table;I)Z" } : Jvm.MethodName) ∈ WS := WS_1 222 (by decide +kernel) rfl
theorem wc_X5_isAnyTakenFrom : Jvm.Cond.code ({ cls := "RetryStorm", name := "isAnyTakenFrom", desc := "(LRetryStorm$Table;I)Z" } : Jvm.MethodName) prog_1_method_29_code (3 : Nat) (Option.some Jvm.ClassFile.FieldType.boolean) ∈ WS := WS_1 223 rfl rfl
theorem wm_X5_93 : Jvm.Cond.methodLink "RetryStorm" (93 : Nat) ({ cls := "RetryStorm$Table", name := "size", desc := "()I" } : Jvm.MethodName) ∈ WS := WS_1 224 (by decide +kernel) rfl
theorem wi_X3_size : Jvm.Cond.instanceMethod ({ cls := "RetryStorm$Table", name := "size", desc := "()I" } : Jvm.MethodName) ∈ WS := WS_1 225 (by decide +kernel) rfl
theorem we_X3_size : Jvm.Cond.selects "RetryStorm$Table" ({ cls := "RetryStorm$Table", name := "size", desc := "()I" } : Jvm.MethodName) ({ cls := "RetryStorm$Table", name := "size", desc := "()I" } : Jvm.MethodName) ∈ WS := WS_1 226 (by decide +kernel) rfl
theorem wc_X3_size : Jvm.Cond.code ({ cls := "RetryStorm$Table", name := "size", desc := "()I" } : Jvm.MethodName) prog_5_method_2_code (1 : Nat) (Option.some Jvm.ClassFile.FieldType.int) ∈ WS := WS_1 227 rfl rfl
theorem wm_L_27 : Jvm.Cond.methodLink "RetryStormLaw" (27 : Nat) ({ cls := "RetryStorm", name := "setDiscipline", desc := "(I)I" } : Jvm.MethodName) ∈ WS := WS_1 228 (by decide +kernel) rfl
theorem wi_X5_setDiscipline : Jvm.Cond.instanceMethod ({ cls := "RetryStorm", name := "setDiscipline", desc := "(I)I" } : Jvm.MethodName) ∈ WS := WS_1 229 (by decide +kernel) rfl
theorem we_X5_setDiscipline : Jvm.Cond.selects "RetryStorm" ({ cls := "RetryStorm", name := "setDiscipline", desc := "(I)I" } : Jvm.MethodName) ({ cls := "RetryStorm", name := "setDiscipline", desc := "(I)I" } : Jvm.MethodName) ∈ WS := WS_1 230 (by decide +kernel) rfl
theorem wc_X5_setDiscipline : Jvm.Cond.code ({ cls := "RetryStorm", name := "setDiscipline", desc := "(I)I" } : Jvm.MethodName) prog_1_method_5_code (3 : Nat) (Option.some Jvm.ClassFile.FieldType.int) ∈ WS := WS_1 231 rfl rfl
theorem wm_L_32 : Jvm.Cond.methodLink "RetryStormLaw" (32 : Nat) ({ cls := "RetryStorm", name := "setSwitch", desc := "(IZ)I" } : Jvm.MethodName) ∈ WS := WS_1 232 (by decide +kernel) rfl
theorem wi_X5_setSwitch : Jvm.Cond.instanceMethod ({ cls := "RetryStorm", name := "setSwitch", desc := "(IZ)I" } : Jvm.MethodName) ∈ WS := WS_1 233 (by decide +kernel) rfl
theorem we_X5_setSwitch : Jvm.Cond.selects "RetryStorm" ({ cls := "RetryStorm", name := "setSwitch", desc := "(IZ)I" } : Jvm.MethodName) ({ cls := "RetryStorm", name := "setSwitch", desc := "(IZ)I" } : Jvm.MethodName) ∈ WS := WS_1 234 (by decide +kernel) rfl
theorem wc_X5_setSwitch : Jvm.Cond.code ({ cls := "RetryStorm", name := "setSwitch", desc := "(IZ)I" } : Jvm.MethodName) prog_1_method_6_code (4 : Nat) (Option.some Jvm.ClassFile.FieldType.int) ∈ WS := WS_1 235 rfl rfl
theorem wm_L_37 : Jvm.Cond.methodLink "RetryStormLaw" (37 : Nat) ({ cls := "RetryStorm", name := "surge", desc := "(IIII)I" } : Jvm.MethodName) ∈ WS := WS_1 236 (by decide +kernel) rfl
theorem wi_X5_surge : Jvm.Cond.instanceMethod ({ cls := "RetryStorm", name := "surge", desc := "(IIII)I" } : Jvm.MethodName) ∈ WS := WS_1 237 (by decide +kernel) rfl
theorem we_X5_surge : Jvm.Cond.selects "RetryStorm" ({ cls := "RetryStorm", name := "surge", desc := "(IIII)I" } : Jvm.MethodName) ({ cls := "RetryStorm", name := "surge", desc := "(IIII)I" } : Jvm.MethodName) ∈ WS := WS_1 238 (by decide +kernel) rfl
theorem wc_X5_surge : Jvm.Cond.code ({ cls := "RetryStorm", name := "surge", desc := "(IIII)I" } : Jvm.MethodName) prog_1_method_7_code (6 : Nat) (Option.some Jvm.ClassFile.FieldType.int) ∈ WS := WS_1 239 rfl rfl
theorem wm_L_42 : Jvm.Cond.methodLink "RetryStormLaw" (42 : Nat) ({ cls := "RetryStorm", name := "run", desc := "(I)I" } : Jvm.MethodName) ∈ WS := WS_2 0 (by decide +kernel) rfl
theorem wi_X5_run : Jvm.Cond.instanceMethod ({ cls := "RetryStorm", name := "run", desc := "(I)I" } : Jvm.MethodName) ∈ WS := WS_2 1 (by decide +kernel) rfl
theorem we_X5_run : Jvm.Cond.selects "RetryStorm" ({ cls := "RetryStorm", name := "run", desc := "(I)I" } : Jvm.MethodName) ({ cls := "RetryStorm", name := "run", desc := "(I)I" } : Jvm.MethodName) ∈ WS := WS_2 2 (by decide +kernel) rfl
theorem wc_X5_run : Jvm.Cond.code ({ cls := "RetryStorm", name := "run", desc := "(I)I" } : Jvm.MethodName) prog_1_method_8_code (4 : Nat) (Option.some Jvm.ClassFile.FieldType.int) ∈ WS := WS_2 3 rfl rfl
theorem wm_X5_78 : Jvm.Cond.methodLink "RetryStorm" (78 : Nat) ({ cls := "RetryStorm$State", name := "total", desc := "(I)I" } : Jvm.MethodName) ∈ WS := WS_2 4 (by decide +kernel) rfl
theorem wi_X2_total : Jvm.Cond.instanceMethod ({ cls := "RetryStorm$State", name := "total", desc := "(I)I" } : Jvm.MethodName) ∈ WS := WS_2 5 (by decide +kernel) rfl
theorem we_X2_total : Jvm.Cond.selects "RetryStorm$State" ({ cls := "RetryStorm$State", name := "total", desc := "(I)I" } : Jvm.MethodName) ({ cls := "RetryStorm$State", name := "total", desc := "(I)I" } : Jvm.MethodName) ∈ WS := WS_2 6 (by decide +kernel) rfl
theorem wc_X2_total : Jvm.Cond.code ({ cls := "RetryStorm$State", name := "total", desc := "(I)I" } : Jvm.MethodName) prog_4_method_3_code (2 : Nat) (Option.some Jvm.ClassFile.FieldType.int) ∈ WS := WS_2 7 rfl rfl
theorem wm_X2_87 : Jvm.Cond.methodLink "RetryStorm$State" (87 : Nat) ({ cls := "RetryStorm$Table", name := "sumOf", desc := "(I)I" } : Jvm.MethodName) ∈ WS := WS_2 8 (by decide +kernel) rfl
theorem wi_X3_sumOf : Jvm.Cond.instanceMethod ({ cls := "RetryStorm$Table", name := "sumOf", desc := "(I)I" } : Jvm.MethodName) ∈ WS := WS_2 9 (by decide +kernel) rfl
theorem we_X3_sumOf : Jvm.Cond.selects "RetryStorm$Table" ({ cls := "RetryStorm$Table", name := "sumOf", desc := "(I)I" } : Jvm.MethodName) ({ cls := "RetryStorm$Table", name := "sumOf", desc := "(I)I" } : Jvm.MethodName) ∈ WS := WS_2 10 (by decide +kernel) rfl
theorem wc_X3_sumOf : Jvm.Cond.code ({ cls := "RetryStorm$Table", name := "sumOf", desc := "(I)I" } : Jvm.MethodName) prog_5_method_11_code (4 : Nat) (Option.some Jvm.ClassFile.FieldType.int) ∈ WS := WS_2 11 rfl rfl
theorem wm_X3_28 : Jvm.Cond.methodLink "RetryStorm$Table" (28 : Nat) ({ cls := "RetryStorm$Table", name := "get", desc := "(II)I" } : Jvm.MethodName) ∈ WS := WS_2 12 (by decide +kernel) rfl
theorem wm_X5_81 : Jvm.Cond.methodLink "RetryStorm" (81 : Nat) ({ cls := "RetryStorm$Ticks", name := "pass", desc := "(LRetryStorm$State;)V" } : Jvm.MethodName) ∈ WS := WS_2 13 (by decide +kernel) rfl
theorem wt_X4_pass : Jvm.Cond.static ({ cls := "RetryStorm$Ticks", name := "pass", desc := "(LRetryStorm$State;)V" } : Jvm.MethodName) ∈ WS := WS_2 14 (by decide +kernel) rfl
theorem wc_X4_pass : Jvm.Cond.code ({ cls := "RetryStorm$Ticks", name := "pass", desc := "(LRetryStorm$State;)V" } : Jvm.MethodName) prog_6_method_2_code (5 : Nat) (Option.none : Option Jvm.ClassFile.FieldType) ∈ WS := WS_2 15 rfl rfl
theorem wm_X4_9 : Jvm.Cond.methodLink "RetryStorm$Ticks" (9 : Nat) ({ cls := "RetryStorm$State", name := "total", desc := "(I)I" } : Jvm.MethodName) ∈ WS := WS_2 16 (by decide +kernel) rfl
theorem wm_X4_19 : Jvm.Cond.methodLink "RetryStorm$Ticks" (19 : Nat) ({ cls := "RetryStorm$Clients", name := "createRequests", desc := "(LRetryStorm$State;)V" } : Jvm.MethodName) ∈ WS := WS_2 17 (by decide +kernel) rfl
theorem wt_X0_createRequests : Jvm.Cond.static ({ cls := "RetryStorm$Clients", name := "createRequests", desc := "(LRetryStorm$State;)V" } : Jvm.MethodName) ∈ WS := WS_2 18 (by decide +kernel) rfl
theorem wc_X0_createRequests : Jvm.Cond.code ({ cls := "RetryStorm$Clients", name := "createRequests", desc := "(LRetryStorm$State;)V" } : Jvm.MethodName) prog_2_method_2_code (5 : Nat) (Option.none : Option Jvm.ClassFile.FieldType) ∈ WS := WS_2 19 rfl rfl
theorem wm_X0_9 : Jvm.Cond.methodLink "RetryStorm$Clients" (9 : Nat) ({ cls := "RetryStorm$Clients", name := "births", desc := "(LRetryStorm$State;I)I" } : Jvm.MethodName) ∈ WS := WS_2 20 (by decide +kernel) rfl
theorem wt_X0_births : Jvm.Cond.static ({ cls := "RetryStorm$Clients", name := "births", desc := "(LRetryStorm$State;I)I" } : Jvm.MethodName) ∈ WS := WS_2 21 (by decide +kernel) rfl
theorem wc_X0_births : Jvm.Cond.code ({ cls := "RetryStorm$Clients", name := "births", desc := "(LRetryStorm$State;I)I" } : Jvm.MethodName) prog_2_method_5_code (5 : Nat) (Option.some Jvm.ClassFile.FieldType.int) ∈ WS := WS_2 22 rfl rfl
theorem wm_X0_41 : Jvm.Cond.methodLink "RetryStorm$Clients" (41 : Nat) ({ cls := "RetryStorm$Table", name := "get", desc := "(II)I" } : Jvm.MethodName) ∈ WS := WS_2 23 (by decide +kernel) rfl
theorem wm_X0_15 : Jvm.Cond.methodLink "RetryStorm$Clients" (15 : Nat) ({ cls := "RetryStorm$Clients", name := "create", desc := "(LRetryStorm$State;I)I" } : Jvm.MethodName) ∈ WS := WS_2 24 (by decide +kernel) rfl
theorem wt_X0_create : Jvm.Cond.static ({ cls := "RetryStorm$Clients", name := "create", desc := "(LRetryStorm$State;I)I" } : Jvm.MethodName) ∈ WS := WS_2 25 (by decide +kernel) rfl
theorem wc_X0_create : Jvm.Cond.code ({ cls := "RetryStorm$Clients", name := "create", desc := "(LRetryStorm$State;I)I" } : Jvm.MethodName) prog_2_method_6_code (5 : Nat) (Option.some Jvm.ClassFile.FieldType.int) ∈ WS := WS_2 26 rfl rfl
theorem wm_X0_57 : Jvm.Cond.methodLink "RetryStorm$Clients" (57 : Nat) ({ cls := "RetryStorm$Table", name := "add", desc := "(III)V" } : Jvm.MethodName) ∈ WS := WS_2 27 (by decide +kernel) rfl
theorem wi_X3_add : Jvm.Cond.instanceMethod ({ cls := "RetryStorm$Table", name := "add", desc := "(III)V" } : Jvm.MethodName) ∈ WS := WS_2 28 (by decide +kernel) rfl
theorem we_X3_add : Jvm.Cond.selects "RetryStorm$Table" ({ cls := "RetryStorm$Table", name := "add", desc := "(III)V" } : Jvm.MethodName) ({ cls := "RetryStorm$Table", name := "add", desc := "(III)V" } : Jvm.MethodName) ∈ WS := WS_2 29 (by decide +kernel) rfl
theorem wc_X3_add : Jvm.Cond.code ({ cls := "RetryStorm$Table", name := "add", desc := "(III)V" } : Jvm.MethodName) prog_5_method_5_code (4 : Nat) (Option.none : Option Jvm.ClassFile.FieldType) ∈ WS := WS_2 30 rfl rfl
theorem wm_X0_61 : Jvm.Cond.methodLink "RetryStorm$Clients" (61 : Nat) ({ cls := "java/lang/Math", name := "min", desc := "(II)I" } : Jvm.MethodName) ∈ WS := WS_2 31 (by decide +kernel) rfl
theorem wm_X0_66 : Jvm.Cond.methodLink "RetryStorm$Clients" (66 : Nat) ({ cls := "RetryStorm$Table", name := "put", desc := "(III)V" } : Jvm.MethodName) ∈ WS := WS_2 32 (by decide +kernel) rfl
theorem wm_X0_72 : Jvm.Cond.methodLink "RetryStorm$Clients" (72 : Nat) ({ cls := "RetryStorm$Table", name := "append", desc := "()I" } : Jvm.MethodName) ∈ WS := WS_2 33 (by decide +kernel) rfl
theorem wi_X3_append : Jvm.Cond.instanceMethod ({ cls := "RetryStorm$Table", name := "append", desc := "()I" } : Jvm.MethodName) ∈ WS := WS_2 34 (by decide +kernel) rfl
theorem we_X3_append : Jvm.Cond.selects "RetryStorm$Table" ({ cls := "RetryStorm$Table", name := "append", desc := "()I" } : Jvm.MethodName) ({ cls := "RetryStorm$Table", name := "append", desc := "()I" } : Jvm.MethodName) ∈ WS := WS_2 35 (by decide +kernel) rfl
theorem wc_X3_append : Jvm.Cond.code ({ cls := "RetryStorm$Table", name := "append", desc := "()I" } : Jvm.MethodName) prog_5_method_7_code (3 : Nat) (Option.some Jvm.ClassFile.FieldType.int) ∈ WS := WS_2 36 rfl rfl
theorem wm_X3_35 : Jvm.Cond.methodLink "RetryStorm$Table" (35 : Nat) ({ cls := "java/util/Arrays", name := "fill", desc := "([IIII)V" } : Jvm.MethodName) ∈ WS := WS_2 37 (by decide +kernel) rfl
theorem wt_J7_fill_fda19 : Jvm.Cond.static ({ cls := "java/util/Arrays", name := "fill", desc := "([IIII)V" } : Jvm.MethodName) ∈ WS := WS_2 38 (by decide +kernel) rfl
theorem wc_J7_fill_fda19 : Jvm.Cond.code ({ cls := "java/util/Arrays", name := "fill", desc := "([IIII)V" } : Jvm.MethodName) prog_11_method_104_code (5 : Nat) (Option.none : Option Jvm.ClassFile.FieldType) ∈ WS := WS_2 39 rfl rfl
theorem wm_J7_13 : Jvm.Cond.methodLink "java/util/Arrays" (13 : Nat) ({ cls := "java/util/Arrays", name := "rangeCheck", desc := "(III)V" } : Jvm.MethodName) ∈ WS := WS_2 40 (by decide +kernel) rfl
theorem wt_J7_rangeCheck_23922 : Jvm.Cond.static ({ cls := "java/util/Arrays", name := "rangeCheck", desc := "(III)V" } : Jvm.MethodName) ∈ WS := WS_2 41 (by decide +kernel) rfl
theorem wc_J7_rangeCheck_23922 : Jvm.Cond.code ({ cls := "java/util/Arrays", name := "rangeCheck", desc := "(III)V" } : Jvm.MethodName) prog_11_method_30_code (3 : Nat) (Option.none : Option Jvm.ClassFile.FieldType) ∈ WS := WS_2 42 rfl rfl
theorem wm_X0_18 : Jvm.Cond.methodLink "RetryStorm$Clients" (18 : Nat) ({ cls := "RetryStorm$Clients", name := "send", desc := "(LRetryStorm$State;I)I" } : Jvm.MethodName) ∈ WS := WS_2 43 (by decide +kernel) rfl
theorem wt_X0_send : Jvm.Cond.static ({ cls := "RetryStorm$Clients", name := "send", desc := "(LRetryStorm$State;I)I" } : Jvm.MethodName) ∈ WS := WS_2 44 (by decide +kernel) rfl
theorem wc_X0_send : Jvm.Cond.code ({ cls := "RetryStorm$Clients", name := "send", desc := "(LRetryStorm$State;I)I" } : Jvm.MethodName) prog_2_method_7_code (6 : Nat) (Option.some Jvm.ClassFile.FieldType.int) ∈ WS := WS_2 45 rfl rfl
theorem wm_X0_79 : Jvm.Cond.methodLink "RetryStorm$Clients" (79 : Nat) ({ cls := "RetryStorm$Table", name := "find", desc := "(II)I" } : Jvm.MethodName) ∈ WS := WS_2 46 (by decide +kernel) rfl
theorem wi_X3_find : Jvm.Cond.instanceMethod ({ cls := "RetryStorm$Table", name := "find", desc := "(II)I" } : Jvm.MethodName) ∈ WS := WS_2 47 (by decide +kernel) rfl
theorem we_X3_find : Jvm.Cond.selects "RetryStorm$Table" ({ cls := "RetryStorm$Table", name := "find", desc := "(II)I" } : Jvm.MethodName) ({ cls := "RetryStorm$Table", name := "find", desc := "(II)I" } : Jvm.MethodName) ∈ WS := WS_2 48 (by decide +kernel) rfl
theorem wc_X3_find : Jvm.Cond.code ({ cls := "RetryStorm$Table", name := "find", desc := "(II)I" } : Jvm.MethodName) prog_5_method_9_code (4 : Nat) (Option.some Jvm.ClassFile.FieldType.int) ∈ WS := WS_2 49 rfl rfl
theorem wm_X0_85 : Jvm.Cond.methodLink "RetryStorm$Clients" (85 : Nat) ({ cls := "RetryStorm$Table", name := "size", desc := "()I" } : Jvm.MethodName) ∈ WS := WS_2 50 (by decide +kernel) rfl
theorem wm_X0_94 : Jvm.Cond.methodLink "RetryStorm$Clients" (94 : Nat) ({ cls := "RetryStorm$Table", name := "drop", desc := "(I)V" } : Jvm.MethodName) ∈ WS := WS_2 51 (by decide +kernel) rfl
theorem wi_X3_drop : Jvm.Cond.instanceMethod ({ cls := "RetryStorm$Table", name := "drop", desc := "(I)V" } : Jvm.MethodName) ∈ WS := WS_2 52 (by decide +kernel) rfl
theorem we_X3_drop : Jvm.Cond.selects "RetryStorm$Table" ({ cls := "RetryStorm$Table", name := "drop", desc := "(I)V" } : Jvm.MethodName) ({ cls := "RetryStorm$Table", name := "drop", desc := "(I)V" } : Jvm.MethodName) ∈ WS := WS_2 53 (by decide +kernel) rfl
theorem wc_X3_drop : Jvm.Cond.code ({ cls := "RetryStorm$Table", name := "drop", desc := "(I)V" } : Jvm.MethodName) prog_5_method_8_code (5 : Nat) (Option.none : Option Jvm.ClassFile.FieldType) ∈ WS := WS_2 54 rfl rfl
theorem wm_X0_98 : Jvm.Cond.methodLink "RetryStorm$Clients" (98 : Nat) ({ cls := "RetryStorm$Servers", name := "enqueue", desc := "(LRetryStorm$State;I)V" } : Jvm.MethodName) ∈ WS := WS_2 55 (by decide +kernel) rfl
theorem wt_X1_enqueue : Jvm.Cond.static ({ cls := "RetryStorm$Servers", name := "enqueue", desc := "(LRetryStorm$State;I)V" } : Jvm.MethodName) ∈ WS := WS_2 56 (by decide +kernel) rfl
theorem wc_X1_enqueue : Jvm.Cond.code ({ cls := "RetryStorm$Servers", name := "enqueue", desc := "(LRetryStorm$State;I)V" } : Jvm.MethodName) prog_3_method_2_code (4 : Nat) (Option.none : Option Jvm.ClassFile.FieldType) ∈ WS := WS_2 57 rfl rfl
theorem wm_X1_15 : Jvm.Cond.methodLink "RetryStorm$Servers" (15 : Nat) ({ cls := "RetryStorm$Table", name := "get", desc := "(II)I" } : Jvm.MethodName) ∈ WS := WS_2 58 (by decide +kernel) rfl
theorem wm_X1_24 : Jvm.Cond.methodLink "RetryStorm$Servers" (24 : Nat) ({ cls := "RetryStorm$Table", name := "append", desc := "()I" } : Jvm.MethodName) ∈ WS := WS_2 59 (by decide +kernel) rfl
theorem wm_X1_28 : Jvm.Cond.methodLink "RetryStorm$Servers" (28 : Nat) ({ cls := "RetryStorm$Table", name := "put", desc := "(III)V" } : Jvm.MethodName) ∈ WS := WS_2 60 (by decide +kernel) rfl
theorem wm_X0_21 : Jvm.Cond.methodLink "RetryStorm$Clients" (21 : Nat) ({ cls := "RetryStorm$Clients", name := "fail", desc := "(LRetryStorm$State;II)V" } : Jvm.MethodName) ∈ WS := WS_2 61 (by decide +kernel) rfl
theorem wt_X0_fail : Jvm.Cond.static ({ cls := "RetryStorm$Clients", name := "fail", desc := "(LRetryStorm$State;II)V" } : Jvm.MethodName) ∈ WS := WS_2 62 (by decide +kernel) rfl
theorem wc_X0_fail : Jvm.Cond.code ({ cls := "RetryStorm$Clients", name := "fail", desc := "(LRetryStorm$State;II)V" } : Jvm.MethodName) prog_2_method_8_code (8 : Nat) (Option.none : Option Jvm.ClassFile.FieldType) ∈ WS := WS_2 63 rfl rfl
theorem wm_X0_101 : Jvm.Cond.methodLink "RetryStorm$Clients" (101 : Nat) ({ cls := "RetryStorm$Clients", name := "delay", desc := "(LRetryStorm$State;II)I" } : Jvm.MethodName) ∈ WS := WS_2 64 (by decide +kernel) rfl
theorem wt_X0_delay : Jvm.Cond.static ({ cls := "RetryStorm$Clients", name := "delay", desc := "(LRetryStorm$State;II)I" } : Jvm.MethodName) ∈ WS := WS_2 65 (by decide +kernel) rfl
theorem wc_X0_delay : Jvm.Cond.code ({ cls := "RetryStorm$Clients", name := "delay", desc := "(LRetryStorm$State;II)I" } : Jvm.MethodName) prog_2_method_9_code (8 : Nat) (Option.some Jvm.ClassFile.FieldType.int) ∈ WS := WS_2 66 rfl rfl
theorem wm_X0_105 : Jvm.Cond.methodLink "RetryStorm$Clients" (105 : Nat) ({ cls := "java/lang/Math", name := "max", desc := "(II)I" } : Jvm.MethodName) ∈ WS := WS_2 67 (by decide +kernel) rfl
theorem wm_X0_108 : Jvm.Cond.methodLink "RetryStorm$Clients" (108 : Nat) ({ cls := "RetryStorm$Clients", name := "draw", desc := "(LRetryStorm$State;)I" } : Jvm.MethodName) ∈ WS := WS_2 68 (by decide +kernel) rfl
theorem wt_X0_draw : Jvm.Cond.static ({ cls := "RetryStorm$Clients", name := "draw", desc := "(LRetryStorm$State;)I" } : Jvm.MethodName) ∈ WS := WS_2 69 (by decide +kernel) rfl
theorem wc_X0_draw : Jvm.Cond.code ({ cls := "RetryStorm$Clients", name := "draw", desc := "(LRetryStorm$State;)I" } : Jvm.MethodName) prog_2_method_10_code (1 : Nat) (Option.some Jvm.ClassFile.FieldType.int) ∈ WS := WS_2 70 rfl rfl
theorem wq_X0_115 : Jvm.Cond.constant "RetryStorm$Clients" (115 : Nat) (1103515245 : Int32) ∈ WS := WS_2 71 (by decide +kernel) rfl
theorem wm_X4_25 : Jvm.Cond.methodLink "RetryStorm$Ticks" (25 : Nat) ({ cls := "RetryStorm$Clients", name := "sendWaiting", desc := "(LRetryStorm$State;)V" } : Jvm.MethodName) ∈ WS := WS_2 72 (by decide +kernel) rfl
theorem wt_X0_sendWaiting : Jvm.Cond.static ({ cls := "RetryStorm$Clients", name := "sendWaiting", desc := "(LRetryStorm$State;)V" } : Jvm.MethodName) ∈ WS := WS_2 73 (by decide +kernel) rfl
theorem wc_X0_sendWaiting : Jvm.Cond.code ({ cls := "RetryStorm$Clients", name := "sendWaiting", desc := "(LRetryStorm$State;)V" } : Jvm.MethodName) prog_2_method_3_code (3 : Nat) (Option.none : Option Jvm.ClassFile.FieldType) ∈ WS := WS_2 74 rfl rfl
theorem wm_X0_25 : Jvm.Cond.methodLink "RetryStorm$Clients" (25 : Nat) ({ cls := "RetryStorm$State", name := "nextDue", desc := "(IZ)I" } : Jvm.MethodName) ∈ WS := WS_2 75 (by decide +kernel) rfl
theorem wi_X2_nextDue : Jvm.Cond.instanceMethod ({ cls := "RetryStorm$State", name := "nextDue", desc := "(IZ)I" } : Jvm.MethodName) ∈ WS := WS_2 76 (by decide +kernel) rfl
theorem we_X2_nextDue : Jvm.Cond.selects "RetryStorm$State" ({ cls := "RetryStorm$State", name := "nextDue", desc := "(IZ)I" } : Jvm.MethodName) ({ cls := "RetryStorm$State", name := "nextDue", desc := "(IZ)I" } : Jvm.MethodName) ∈ WS := WS_2 77 (by decide +kernel) rfl
theorem wc_X2_nextDue : Jvm.Cond.code ({ cls := "RetryStorm$State", name := "nextDue", desc := "(IZ)I" } : Jvm.MethodName) prog_4_method_6_code (5 : Nat) (Option.some Jvm.ClassFile.FieldType.int) ∈ WS := WS_2 78 rfl rfl
theorem wm_X2_98 : Jvm.Cond.methodLink "RetryStorm$State" (98 : Nat) ({ cls := "RetryStorm$Table", name := "size", desc := "()I" } : Jvm.MethodName) ∈ WS := WS_2 79 (by decide +kernel) rfl
theorem wm_X2_91 : Jvm.Cond.methodLink "RetryStorm$State" (91 : Nat) ({ cls := "RetryStorm$Table", name := "get", desc := "(II)I" } : Jvm.MethodName) ∈ WS := WS_2 80 (by decide +kernel) rfl
theorem wm_X4_28 : Jvm.Cond.methodLink "RetryStorm$Ticks" (28 : Nat) ({ cls := "RetryStorm$Servers", name := "fillBackWorkers", desc := "(LRetryStorm$State;)V" } : Jvm.MethodName) ∈ WS := WS_2 81 (by decide +kernel) rfl
theorem wt_X1_fillBackWorkers : Jvm.Cond.static ({ cls := "RetryStorm$Servers", name := "fillBackWorkers", desc := "(LRetryStorm$State;)V" } : Jvm.MethodName) ∈ WS := WS_2 82 (by decide +kernel) rfl
theorem wc_X1_fillBackWorkers : Jvm.Cond.code ({ cls := "RetryStorm$Servers", name := "fillBackWorkers", desc := "(LRetryStorm$State;)V" } : Jvm.MethodName) prog_3_method_3_code (4 : Nat) (Option.none : Option Jvm.ClassFile.FieldType) ∈ WS := WS_2 83 rfl rfl
theorem wm_X1_41 : Jvm.Cond.methodLink "RetryStorm$Servers" (41 : Nat) ({ cls := "RetryStorm$Table", name := "size", desc := "()I" } : Jvm.MethodName) ∈ WS := WS_2 84 (by decide +kernel) rfl
theorem wm_X1_47 : Jvm.Cond.methodLink "RetryStorm$Servers" (47 : Nat) ({ cls := "RetryStorm$Servers", name := "takeAtBack", desc := "(LRetryStorm$State;I)I" } : Jvm.MethodName) ∈ WS := WS_2 85 (by decide +kernel) rfl
theorem wt_X1_takeAtBack : Jvm.Cond.static ({ cls := "RetryStorm$Servers", name := "takeAtBack", desc := "(LRetryStorm$State;I)I" } : Jvm.MethodName) ∈ WS := WS_2 86 (by decide +kernel) rfl
theorem wc_X1_takeAtBack : Jvm.Cond.code ({ cls := "RetryStorm$Servers", name := "takeAtBack", desc := "(LRetryStorm$State;I)I" } : Jvm.MethodName) prog_3_method_5_code (3 : Nat) (Option.some Jvm.ClassFile.FieldType.int) ∈ WS := WS_2 87 rfl rfl
theorem wm_X1_70 : Jvm.Cond.methodLink "RetryStorm$Servers" (70 : Nat) ({ cls := "RetryStorm$Table", name := "drop", desc := "(I)V" } : Jvm.MethodName) ∈ WS := WS_2 88 (by decide +kernel) rfl
theorem wm_X1_74 : Jvm.Cond.methodLink "RetryStorm$Servers" (74 : Nat) ({ cls := "RetryStorm$Servers", name := "isHopeless", desc := "(LRetryStorm$State;LRetryStorm$Table;I)Z" } : Jvm.MethodName) ∈ WS := WS_2 89 (by decide +kernel) rfl
theorem wt_X1_isHopeless : Jvm.Cond.static ({ cls := "RetryStorm$Servers", name := "isHopeless", desc := "(LRetryStorm$State;LRetryStorm$Table;I)Z" } : Jvm.MethodName) ∈ WS := WS_2 90 (by decide +kernel) rfl
theorem wc_X1_isHopeless : Jvm.Cond.code ({ cls := "RetryStorm$Servers", name := "isHopeless", desc := "(LRetryStorm$State;LRetryStorm$Table;I)Z" } : Jvm.MethodName) prog_3_method_9_code (5 : Nat) (Option.some Jvm.ClassFile.FieldType.boolean) ∈ WS := WS_2 91 rfl rfl
theorem wm_X1_96 : Jvm.Cond.methodLink "RetryStorm$Servers" (96 : Nat) ({ cls := "java/lang/Math", name := "max", desc := "(II)I" } : Jvm.MethodName) ∈ WS := WS_2 92 (by decide +kernel) rfl
theorem wm_X1_78 : Jvm.Cond.methodLink "RetryStorm$Servers" (78 : Nat) ({ cls := "RetryStorm$Servers", name := "waste", desc := "(LRetryStorm$State;I)I" } : Jvm.MethodName) ∈ WS := WS_2 93 (by decide +kernel) rfl
theorem wt_X1_waste : Jvm.Cond.static ({ cls := "RetryStorm$Servers", name := "waste", desc := "(LRetryStorm$State;I)I" } : Jvm.MethodName) ∈ WS := WS_2 94 (by decide +kernel) rfl
theorem wc_X1_waste : Jvm.Cond.code ({ cls := "RetryStorm$Servers", name := "waste", desc := "(LRetryStorm$State;I)I" } : Jvm.MethodName) prog_3_method_15_code (3 : Nat) (Option.some Jvm.ClassFile.FieldType.int) ∈ WS := WS_2 95 rfl rfl
theorem wm_X1_53 : Jvm.Cond.methodLink "RetryStorm$Servers" (53 : Nat) ({ cls := "RetryStorm$Clients", name := "fail", desc := "(LRetryStorm$State;II)V" } : Jvm.MethodName) ∈ WS := WS_2 96 (by decide +kernel) rfl
theorem wm_X4_33 : Jvm.Cond.methodLink "RetryStorm$Ticks" (33 : Nat) ({ cls := "RetryStorm$Servers", name := "fillFrontWorkers", desc := "(LRetryStorm$State;)V" } : Jvm.MethodName) ∈ WS := WS_2 97 (by decide +kernel) rfl
theorem wt_X1_fillFrontWorkers : Jvm.Cond.static ({ cls := "RetryStorm$Servers", name := "fillFrontWorkers", desc := "(LRetryStorm$State;)V" } : Jvm.MethodName) ∈ WS := WS_2 98 (by decide +kernel) rfl
theorem wc_X1_fillFrontWorkers : Jvm.Cond.code ({ cls := "RetryStorm$Servers", name := "fillFrontWorkers", desc := "(LRetryStorm$State;)V" } : Jvm.MethodName) prog_3_method_4_code (4 : Nat) (Option.none : Option Jvm.ClassFile.FieldType) ∈ WS := WS_2 99 rfl rfl
theorem wm_X1_62 : Jvm.Cond.methodLink "RetryStorm$Servers" (62 : Nat) ({ cls := "RetryStorm$Servers", name := "nextInQueue", desc := "(LRetryStorm$State;)I" } : Jvm.MethodName) ∈ WS := WS_2 100 (by decide +kernel) rfl
theorem wt_X1_nextInQueue : Jvm.Cond.static ({ cls := "RetryStorm$Servers", name := "nextInQueue", desc := "(LRetryStorm$State;)I" } : Jvm.MethodName) ∈ WS := WS_2 101 (by decide +kernel) rfl
theorem wc_X1_nextInQueue : Jvm.Cond.code ({ cls := "RetryStorm$Servers", name := "nextInQueue", desc := "(LRetryStorm$State;)I" } : Jvm.MethodName) prog_3_method_7_code (2 : Nat) (Option.some Jvm.ClassFile.FieldType.int) ∈ WS := WS_2 102 rfl rfl
theorem wm_X1_89 : Jvm.Cond.methodLink "RetryStorm$Servers" (89 : Nat) ({ cls := "RetryStorm$Servers", name := "firstToExpire", desc := "(LRetryStorm$Table;)I" } : Jvm.MethodName) ∈ WS := WS_2 103 (by decide +kernel) rfl
theorem wt_X1_firstToExpire : Jvm.Cond.static ({ cls := "RetryStorm$Servers", name := "firstToExpire", desc := "(LRetryStorm$Table;)I" } : Jvm.MethodName) ∈ WS := WS_2 104 (by decide +kernel) rfl
theorem wc_X1_firstToExpire : Jvm.Cond.code ({ cls := "RetryStorm$Servers", name := "firstToExpire", desc := "(LRetryStorm$Table;)I" } : Jvm.MethodName) prog_3_method_8_code (3 : Nat) (Option.some Jvm.ClassFile.FieldType.int) ∈ WS := WS_2 105 rfl rfl
theorem wm_X1_66 : Jvm.Cond.methodLink "RetryStorm$Servers" (66 : Nat) ({ cls := "RetryStorm$Servers", name := "takeAtFront", desc := "(LRetryStorm$State;II)I" } : Jvm.MethodName) ∈ WS := WS_2 106 (by decide +kernel) rfl
theorem wt_X1_takeAtFront : Jvm.Cond.static ({ cls := "RetryStorm$Servers", name := "takeAtFront", desc := "(LRetryStorm$State;II)I" } : Jvm.MethodName) ∈ WS := WS_2 107 (by decide +kernel) rfl
theorem wc_X1_takeAtFront : Jvm.Cond.code ({ cls := "RetryStorm$Servers", name := "takeAtFront", desc := "(LRetryStorm$State;II)I" } : Jvm.MethodName) prog_3_method_6_code (4 : Nat) (Option.some Jvm.ClassFile.FieldType.int) ∈ WS := WS_2 108 rfl rfl
theorem wm_X1_81 : Jvm.Cond.methodLink "RetryStorm$Servers" (81 : Nat) ({ cls := "RetryStorm$Table", name := "copyRow", desc := "(ILRetryStorm$Table;I)V" } : Jvm.MethodName) ∈ WS := WS_2 109 (by decide +kernel) rfl
theorem wi_X3_copyRow : Jvm.Cond.instanceMethod ({ cls := "RetryStorm$Table", name := "copyRow", desc := "(ILRetryStorm$Table;I)V" } : Jvm.MethodName) ∈ WS := WS_2 110 (by decide +kernel) rfl
theorem we_X3_copyRow : Jvm.Cond.selects "RetryStorm$Table" ({ cls := "RetryStorm$Table", name := "copyRow", desc := "(ILRetryStorm$Table;I)V" } : Jvm.MethodName) ({ cls := "RetryStorm$Table", name := "copyRow", desc := "(ILRetryStorm$Table;I)V" } : Jvm.MethodName) ∈ WS := WS_2 111 (by decide +kernel) rfl
theorem wc_X3_copyRow : Jvm.Cond.code ({ cls := "RetryStorm$Table", name := "copyRow", desc := "(ILRetryStorm$Table;I)V" } : Jvm.MethodName) prog_5_method_12_code (5 : Nat) (Option.none : Option Jvm.ClassFile.FieldType) ∈ WS := WS_2 112 rfl rfl
theorem wm_X4_36 : Jvm.Cond.methodLink "RetryStorm$Ticks" (36 : Nat) ({ cls := "RetryStorm$Servers", name := "work", desc := "(LRetryStorm$State;)V" } : Jvm.MethodName) ∈ WS := WS_2 113 (by decide +kernel) rfl
theorem wt_X1_work : Jvm.Cond.static ({ cls := "RetryStorm$Servers", name := "work", desc := "(LRetryStorm$State;)V" } : Jvm.MethodName) ∈ WS := WS_2 114 (by decide +kernel) rfl
theorem wc_X1_work : Jvm.Cond.code ({ cls := "RetryStorm$Servers", name := "work", desc := "(LRetryStorm$State;)V" } : Jvm.MethodName) prog_3_method_10_code (4 : Nat) (Option.none : Option Jvm.ClassFile.FieldType) ∈ WS := WS_2 115 rfl rfl
theorem wm_X1_104 : Jvm.Cond.methodLink "RetryStorm$Servers" (104 : Nat) ({ cls := "RetryStorm$Table", name := "add", desc := "(III)V" } : Jvm.MethodName) ∈ WS := WS_2 116 (by decide +kernel) rfl
theorem wm_X4_42 : Jvm.Cond.methodLink "RetryStorm$Ticks" (42 : Nat) ({ cls := "RetryStorm$Servers", name := "endBackWork", desc := "(LRetryStorm$State;)V" } : Jvm.MethodName) ∈ WS := WS_2 117 (by decide +kernel) rfl
theorem wt_X1_endBackWork : Jvm.Cond.static ({ cls := "RetryStorm$Servers", name := "endBackWork", desc := "(LRetryStorm$State;)V" } : Jvm.MethodName) ∈ WS := WS_2 118 (by decide +kernel) rfl
theorem wc_X1_endBackWork : Jvm.Cond.code ({ cls := "RetryStorm$Servers", name := "endBackWork", desc := "(LRetryStorm$State;)V" } : Jvm.MethodName) prog_3_method_11_code (3 : Nat) (Option.none : Option Jvm.ClassFile.FieldType) ∈ WS := WS_2 119 rfl rfl
theorem wm_X1_107 : Jvm.Cond.methodLink "RetryStorm$Servers" (107 : Nat) ({ cls := "RetryStorm$Servers", name := "answer", desc := "(LRetryStorm$State;I)V" } : Jvm.MethodName) ∈ WS := WS_2 120 (by decide +kernel) rfl
theorem wt_X1_answer : Jvm.Cond.static ({ cls := "RetryStorm$Servers", name := "answer", desc := "(LRetryStorm$State;I)V" } : Jvm.MethodName) ∈ WS := WS_2 121 (by decide +kernel) rfl
theorem wc_X1_answer : Jvm.Cond.code ({ cls := "RetryStorm$Servers", name := "answer", desc := "(LRetryStorm$State;I)V" } : Jvm.MethodName) prog_3_method_14_code (4 : Nat) (Option.none : Option Jvm.ClassFile.FieldType) ∈ WS := WS_2 122 rfl rfl
theorem wm_X1_114 : Jvm.Cond.methodLink "RetryStorm$Servers" (114 : Nat) ({ cls := "RetryStorm$Table", name := "find", desc := "(II)I" } : Jvm.MethodName) ∈ WS := WS_2 123 (by decide +kernel) rfl
theorem wm_X4_45 : Jvm.Cond.methodLink "RetryStorm$Ticks" (45 : Nat) ({ cls := "RetryStorm$Servers", name := "endFrontWork", desc := "(LRetryStorm$State;)V" } : Jvm.MethodName) ∈ WS := WS_2 124 (by decide +kernel) rfl
theorem wt_X1_endFrontWork : Jvm.Cond.static ({ cls := "RetryStorm$Servers", name := "endFrontWork", desc := "(LRetryStorm$State;)V" } : Jvm.MethodName) ∈ WS := WS_2 125 (by decide +kernel) rfl
theorem wc_X1_endFrontWork : Jvm.Cond.code ({ cls := "RetryStorm$Servers", name := "endFrontWork", desc := "(LRetryStorm$State;)V" } : Jvm.MethodName) prog_3_method_12_code (3 : Nat) (Option.none : Option Jvm.ClassFile.FieldType) ∈ WS := WS_2 126 rfl rfl
theorem wm_X1_111 : Jvm.Cond.methodLink "RetryStorm$Servers" (111 : Nat) ({ cls := "RetryStorm$Servers", name := "callBack", desc := "(LRetryStorm$State;I)I" } : Jvm.MethodName) ∈ WS := WS_2 127 (by decide +kernel) rfl
theorem wt_X1_callBack : Jvm.Cond.static ({ cls := "RetryStorm$Servers", name := "callBack", desc := "(LRetryStorm$State;I)I" } : Jvm.MethodName) ∈ WS := WS_2 128 (by decide +kernel) rfl
theorem wc_X1_callBack : Jvm.Cond.code ({ cls := "RetryStorm$Servers", name := "callBack", desc := "(LRetryStorm$State;I)I" } : Jvm.MethodName) prog_3_method_13_code (3 : Nat) (Option.some Jvm.ClassFile.FieldType.int) ∈ WS := WS_2 129 rfl rfl
theorem wm_X4_48 : Jvm.Cond.methodLink "RetryStorm$Ticks" (48 : Nat) ({ cls := "RetryStorm$Clients", name := "abandonExpired", desc := "(LRetryStorm$State;)V" } : Jvm.MethodName) ∈ WS := WS_2 130 (by decide +kernel) rfl
theorem wt_X0_abandonExpired : Jvm.Cond.static ({ cls := "RetryStorm$Clients", name := "abandonExpired", desc := "(LRetryStorm$State;)V" } : Jvm.MethodName) ∈ WS := WS_2 131 (by decide +kernel) rfl
theorem wc_X0_abandonExpired : Jvm.Cond.code ({ cls := "RetryStorm$Clients", name := "abandonExpired", desc := "(LRetryStorm$State;)V" } : Jvm.MethodName) prog_2_method_4_code (3 : Nat) (Option.none : Option Jvm.ClassFile.FieldType) ∈ WS := WS_2 132 rfl rfl
theorem wm_X0_31 : Jvm.Cond.methodLink "RetryStorm$Clients" (31 : Nat) ({ cls := "RetryStorm$Servers", name := "abandon", desc := "(LRetryStorm$State;I)V" } : Jvm.MethodName) ∈ WS := WS_2 133 (by decide +kernel) rfl
theorem wt_X1_abandon : Jvm.Cond.static ({ cls := "RetryStorm$Servers", name := "abandon", desc := "(LRetryStorm$State;I)V" } : Jvm.MethodName) ∈ WS := WS_2 134 (by decide +kernel) rfl
theorem wc_X1_abandon : Jvm.Cond.code ({ cls := "RetryStorm$Servers", name := "abandon", desc := "(LRetryStorm$State;I)V" } : Jvm.MethodName) prog_3_method_16_code (4 : Nat) (Option.none : Option Jvm.ClassFile.FieldType) ∈ WS := WS_2 135 rfl rfl
theorem wm_X4_51 : Jvm.Cond.methodLink "RetryStorm$Ticks" (51 : Nat) ({ cls := "java/lang/Math", name := "floorMod", desc := "(II)I" } : Jvm.MethodName) ∈ WS := WS_2 136 (by decide +kernel) rfl
theorem wt_J9_floorMod_7cf53 : Jvm.Cond.static ({ cls := "java/lang/Math", name := "floorMod", desc := "(II)I" } : Jvm.MethodName) ∈ WS := WS_2 137 (by decide +kernel) rfl
theorem wc_J9_floorMod_7cf53 : Jvm.Cond.code ({ cls := "java/lang/Math", name := "floorMod", desc := "(II)I" } : Jvm.MethodName) prog_9_method_50_code (3 : Nat) (Option.some Jvm.ClassFile.FieldType.int) ∈ WS := WS_2 138 rfl rfl
theorem wm_X4_64 : Jvm.Cond.methodLink "RetryStorm$Ticks" (64 : Nat) ({ cls := "RetryStorm$Table", name := "size", desc := "()I" } : Jvm.MethodName) ∈ WS := WS_2 139 (by decide +kernel) rfl
theorem wm_X4_70 : Jvm.Cond.methodLink "RetryStorm$Ticks" (70 : Nat) ({ cls := "RetryStorm$Table", name := "put", desc := "(III)V" } : Jvm.MethodName) ∈ WS := WS_2 140 (by decide +kernel) rfl
theorem wm_X4_77 : Jvm.Cond.methodLink "RetryStorm$Ticks" (77 : Nat) ({ cls := "java/lang/Math", name := "max", desc := "(II)I" } : Jvm.MethodName) ∈ WS := WS_2 141 (by decide +kernel) rfl
theorem wm_L_46 : Jvm.Cond.methodLink "RetryStormLaw" (46 : Nat) ({ cls := "RetryStorm", name := "ifRun", desc := "(II)I" } : Jvm.MethodName) ∈ WS := WS_2 142 (by decide +kernel) rfl
theorem wi_X5_ifRun : Jvm.Cond.instanceMethod ({ cls := "RetryStorm", name := "ifRun", desc := "(II)I" } : Jvm.MethodName) ∈ WS := WS_2 143 (by decide +kernel) rfl
theorem we_X5_ifRun : Jvm.Cond.selects "RetryStorm" ({ cls := "RetryStorm", name := "ifRun", desc := "(II)I" } : Jvm.MethodName) ({ cls := "RetryStorm", name := "ifRun", desc := "(II)I" } : Jvm.MethodName) ∈ WS := WS_2 144 (by decide +kernel) rfl
theorem wc_X5_ifRun : Jvm.Cond.code ({ cls := "RetryStorm", name := "ifRun", desc := "(II)I" } : Jvm.MethodName) prog_1_method_9_code (3 : Nat) (Option.some Jvm.ClassFile.FieldType.int) ∈ WS := WS_2 145 rfl rfl
theorem wm_X5_87 : Jvm.Cond.methodLink "RetryStorm" (87 : Nat) ({ cls := "RetryStorm", name := "goodWorkWith", desc := "(II)I" } : Jvm.MethodName) ∈ WS := WS_2 146 (by decide +kernel) rfl
theorem wi_X5_goodWorkWith : Jvm.Cond.instanceMethod ({ cls := "RetryStorm", name := "goodWorkWith", desc := "(II)I" } : Jvm.MethodName) ∈ WS := WS_2 148 (by decide +kernel) rfl
theorem wc_X5_goodWorkWith : Jvm.Cond.code ({ cls := "RetryStorm", name := "goodWorkWith", desc := "(II)I" } : Jvm.MethodName) prog_1_method_30_code (4 : Nat) (Option.some Jvm.ClassFile.FieldType.int) ∈ WS := WS_2 149 rfl rfl
theorem wm_L_50 : Jvm.Cond.methodLink "RetryStormLaw" (50 : Nat) ({ cls := "RetryStorm", name := "bestDiscipline", desc := "(I)I" } : Jvm.MethodName) ∈ WS := WS_2 150 (by decide +kernel) rfl
theorem wi_X5_bestDiscipline : Jvm.Cond.instanceMethod ({ cls := "RetryStorm", name := "bestDiscipline", desc := "(I)I" } : Jvm.MethodName) ∈ WS := WS_2 151 (by decide +kernel) rfl
theorem we_X5_bestDiscipline : Jvm.Cond.selects "RetryStorm" ({ cls := "RetryStorm", name := "bestDiscipline", desc := "(I)I" } : Jvm.MethodName) ({ cls := "RetryStorm", name := "bestDiscipline", desc := "(I)I" } : Jvm.MethodName) ∈ WS := WS_2 152 (by decide +kernel) rfl
theorem wc_X5_bestDiscipline : Jvm.Cond.code ({ cls := "RetryStorm", name := "bestDiscipline", desc := "(I)I" } : Jvm.MethodName) prog_1_method_10_code (6 : Nat) (Option.some Jvm.ClassFile.FieldType.int) ∈ WS := WS_2 153 rfl rfl
theorem wm_L_54 : Jvm.Cond.methodLink "RetryStormLaw" (54 : Nat) ({ cls := "RetryStorm", name := "count", desc := "(II)I" } : Jvm.MethodName) ∈ WS := WS_2 154 (by decide +kernel) rfl
theorem wi_X5_count : Jvm.Cond.instanceMethod ({ cls := "RetryStorm", name := "count", desc := "(II)I" } : Jvm.MethodName) ∈ WS := WS_2 155 (by decide +kernel) rfl
theorem we_X5_count : Jvm.Cond.selects "RetryStorm" ({ cls := "RetryStorm", name := "count", desc := "(II)I" } : Jvm.MethodName) ({ cls := "RetryStorm", name := "count", desc := "(II)I" } : Jvm.MethodName) ∈ WS := WS_2 156 (by decide +kernel) rfl
theorem wc_X5_count : Jvm.Cond.code ({ cls := "RetryStorm", name := "count", desc := "(II)I" } : Jvm.MethodName) prog_1_method_11_code (3 : Nat) (Option.some Jvm.ClassFile.FieldType.int) ∈ WS := WS_2 157 rfl rfl
theorem wm_L_58 : Jvm.Cond.methodLink "RetryStormLaw" (58 : Nat) ({ cls := "RetryStorm", name := "succeededAt", desc := "(II)I" } : Jvm.MethodName) ∈ WS := WS_2 158 (by decide +kernel) rfl
theorem wi_X5_succeededAt : Jvm.Cond.instanceMethod ({ cls := "RetryStorm", name := "succeededAt", desc := "(II)I" } : Jvm.MethodName) ∈ WS := WS_2 159 (by decide +kernel) rfl
theorem we_X5_succeededAt : Jvm.Cond.selects "RetryStorm" ({ cls := "RetryStorm", name := "succeededAt", desc := "(II)I" } : Jvm.MethodName) ({ cls := "RetryStorm", name := "succeededAt", desc := "(II)I" } : Jvm.MethodName) ∈ WS := WS_2 160 (by decide +kernel) rfl
theorem wc_X5_succeededAt : Jvm.Cond.code ({ cls := "RetryStorm", name := "succeededAt", desc := "(II)I" } : Jvm.MethodName) prog_1_method_12_code (3 : Nat) (Option.some Jvm.ClassFile.FieldType.int) ∈ WS := WS_2 161 rfl rfl
theorem wm_L_62 : Jvm.Cond.methodLink "RetryStormLaw" (62 : Nat) ({ cls := "RetryStorm", name := "told", desc := "(I)I" } : Jvm.MethodName) ∈ WS := WS_2 162 (by decide +kernel) rfl
theorem wi_X5_told : Jvm.Cond.instanceMethod ({ cls := "RetryStorm", name := "told", desc := "(I)I" } : Jvm.MethodName) ∈ WS := WS_2 163 (by decide +kernel) rfl
theorem we_X5_told : Jvm.Cond.selects "RetryStorm" ({ cls := "RetryStorm", name := "told", desc := "(I)I" } : Jvm.MethodName) ({ cls := "RetryStorm", name := "told", desc := "(I)I" } : Jvm.MethodName) ∈ WS := WS_2 164 (by decide +kernel) rfl
theorem wc_X5_told : Jvm.Cond.code ({ cls := "RetryStorm", name := "told", desc := "(I)I" } : Jvm.MethodName) prog_1_method_13_code (2 : Nat) (Option.some Jvm.ClassFile.FieldType.int) ∈ WS := WS_2 165 rfl rfl
theorem wm_X5_97 : Jvm.Cond.methodLink "RetryStorm" (97 : Nat) ({ cls := "RetryStorm$Table", name := "rowsWith", desc := "(II)I" } : Jvm.MethodName) ∈ WS := WS_2 166 (by decide +kernel) rfl
theorem wi_X3_rowsWith : Jvm.Cond.instanceMethod ({ cls := "RetryStorm$Table", name := "rowsWith", desc := "(II)I" } : Jvm.MethodName) ∈ WS := WS_2 167 (by decide +kernel) rfl
theorem we_X3_rowsWith : Jvm.Cond.selects "RetryStorm$Table" ({ cls := "RetryStorm$Table", name := "rowsWith", desc := "(II)I" } : Jvm.MethodName) ({ cls := "RetryStorm$Table", name := "rowsWith", desc := "(II)I" } : Jvm.MethodName) ∈ WS := WS_2 168 (by decide +kernel) rfl
theorem wc_X3_rowsWith : Jvm.Cond.code ({ cls := "RetryStorm$Table", name := "rowsWith", desc := "(II)I" } : Jvm.MethodName) prog_5_method_10_code (5 : Nat) (Option.some Jvm.ClassFile.FieldType.int) ∈ WS := WS_2 169 rfl rfl
theorem wm_X5_118 : Jvm.Cond.methodLink "RetryStorm" (118 : Nat) ({ cls := "RetryStorm$State", name := "pendingWork", desc := "()I" } : Jvm.MethodName) ∈ WS := WS_2 170 (by decide +kernel) rfl
theorem wi_X2_pendingWork : Jvm.Cond.instanceMethod ({ cls := "RetryStorm$State", name := "pendingWork", desc := "()I" } : Jvm.MethodName) ∈ WS := WS_2 171 (by decide +kernel) rfl
theorem we_X2_pendingWork : Jvm.Cond.selects "RetryStorm$State" ({ cls := "RetryStorm$State", name := "pendingWork", desc := "()I" } : Jvm.MethodName) ({ cls := "RetryStorm$State", name := "pendingWork", desc := "()I" } : Jvm.MethodName) ∈ WS := WS_2 172 (by decide +kernel) rfl
theorem wc_X2_pendingWork : Jvm.Cond.code ({ cls := "RetryStorm$State", name := "pendingWork", desc := "()I" } : Jvm.MethodName) prog_4_method_4_code (3 : Nat) (Option.some Jvm.ClassFile.FieldType.int) ∈ WS := WS_2 173 rfl rfl
theorem wm_L_66 : Jvm.Cond.methodLink "RetryStormLaw" (66 : Nat) ({ cls := "RetryStorm", name := "live", desc := "(I)I" } : Jvm.MethodName) ∈ WS := WS_2 174 (by decide +kernel) rfl
theorem wi_X5_live : Jvm.Cond.instanceMethod ({ cls := "RetryStorm", name := "live", desc := "(I)I" } : Jvm.MethodName) ∈ WS := WS_2 175 (by decide +kernel) rfl
theorem we_X5_live : Jvm.Cond.selects "RetryStorm" ({ cls := "RetryStorm", name := "live", desc := "(I)I" } : Jvm.MethodName) ({ cls := "RetryStorm", name := "live", desc := "(I)I" } : Jvm.MethodName) ∈ WS := WS_2 176 (by decide +kernel) rfl
theorem wc_X5_live : Jvm.Cond.code ({ cls := "RetryStorm", name := "live", desc := "(I)I" } : Jvm.MethodName) prog_1_method_14_code (2 : Nat) (Option.some Jvm.ClassFile.FieldType.int) ∈ WS := WS_2 177 rfl rfl
theorem wm_L_70 : Jvm.Cond.methodLink "RetryStormLaw" (70 : Nat) ({ cls := "RetryStorm", name := "request", desc := "(II)I" } : Jvm.MethodName) ∈ WS := WS_2 178 (by decide +kernel) rfl
theorem wi_X5_request : Jvm.Cond.instanceMethod ({ cls := "RetryStorm", name := "request", desc := "(II)I" } : Jvm.MethodName) ∈ WS := WS_2 179 (by decide +kernel) rfl
theorem we_X5_request : Jvm.Cond.selects "RetryStorm" ({ cls := "RetryStorm", name := "request", desc := "(II)I" } : Jvm.MethodName) ({ cls := "RetryStorm", name := "request", desc := "(II)I" } : Jvm.MethodName) ∈ WS := WS_2 180 (by decide +kernel) rfl
theorem wc_X5_request : Jvm.Cond.code ({ cls := "RetryStorm", name := "request", desc := "(II)I" } : Jvm.MethodName) prog_1_method_15_code (4 : Nat) (Option.some Jvm.ClassFile.FieldType.int) ∈ WS := WS_2 181 rfl rfl
theorem wm_X5_127 : Jvm.Cond.methodLink "RetryStorm" (127 : Nat) ({ cls := "RetryStorm$Table", name := "find", desc := "(II)I" } : Jvm.MethodName) ∈ WS := WS_2 182 (by decide +kernel) rfl
theorem wm_X5_130 : Jvm.Cond.methodLink "RetryStorm" (130 : Nat) ({ cls := "RetryStorm$State", name := "placeOf", desc := "(I)I" } : Jvm.MethodName) ∈ WS := WS_2 183 (by decide +kernel) rfl
theorem wi_X2_placeOf : Jvm.Cond.instanceMethod ({ cls := "RetryStorm$State", name := "placeOf", desc := "(I)I" } : Jvm.MethodName) ∈ WS := WS_2 184 (by decide +kernel) rfl
theorem we_X2_placeOf : Jvm.Cond.selects "RetryStorm$State" ({ cls := "RetryStorm$State", name := "placeOf", desc := "(I)I" } : Jvm.MethodName) ({ cls := "RetryStorm$State", name := "placeOf", desc := "(I)I" } : Jvm.MethodName) ∈ WS := WS_2 185 (by decide +kernel) rfl
theorem wc_X2_placeOf : Jvm.Cond.code ({ cls := "RetryStorm$State", name := "placeOf", desc := "(I)I" } : Jvm.MethodName) prog_4_method_5_code (3 : Nat) (Option.some Jvm.ClassFile.FieldType.int) ∈ WS := WS_2 186 rfl rfl
theorem wm_X2_95 : Jvm.Cond.methodLink "RetryStorm$State" (95 : Nat) ({ cls := "RetryStorm$Table", name := "find", desc := "(II)I" } : Jvm.MethodName) ∈ WS := WS_2 187 (by decide +kernel) rfl
theorem wm_L_74 : Jvm.Cond.methodLink "RetryStormLaw" (74 : Nat) ({ cls := "RetryStorm", name := "queued", desc := "(ZI)I" } : Jvm.MethodName) ∈ WS := WS_2 188 (by decide +kernel) rfl
theorem wi_X5_queued : Jvm.Cond.instanceMethod ({ cls := "RetryStorm", name := "queued", desc := "(ZI)I" } : Jvm.MethodName) ∈ WS := WS_2 189 (by decide +kernel) rfl
theorem we_X5_queued : Jvm.Cond.selects "RetryStorm" ({ cls := "RetryStorm", name := "queued", desc := "(ZI)I" } : Jvm.MethodName) ({ cls := "RetryStorm", name := "queued", desc := "(ZI)I" } : Jvm.MethodName) ∈ WS := WS_2 190 (by decide +kernel) rfl
theorem wc_X5_queued : Jvm.Cond.code ({ cls := "RetryStorm", name := "queued", desc := "(ZI)I" } : Jvm.MethodName) prog_1_method_16_code (3 : Nat) (Option.some Jvm.ClassFile.FieldType.int) ∈ WS := WS_2 191 rfl rfl
theorem wm_L_79 : Jvm.Cond.methodLink "RetryStormLaw" (79 : Nat) ({ cls := "RetryStorm", name := "atWorker", desc := "(ZI)I" } : Jvm.MethodName) ∈ WS := WS_2 192 (by decide +kernel) rfl
theorem wi_X5_atWorker : Jvm.Cond.instanceMethod ({ cls := "RetryStorm", name := "atWorker", desc := "(ZI)I" } : Jvm.MethodName) ∈ WS := WS_2 193 (by decide +kernel) rfl
theorem we_X5_atWorker : Jvm.Cond.selects "RetryStorm" ({ cls := "RetryStorm", name := "atWorker", desc := "(ZI)I" } : Jvm.MethodName) ({ cls := "RetryStorm", name := "atWorker", desc := "(ZI)I" } : Jvm.MethodName) ∈ WS := WS_2 194 (by decide +kernel) rfl
theorem wc_X5_atWorker : Jvm.Cond.code ({ cls := "RetryStorm", name := "atWorker", desc := "(ZI)I" } : Jvm.MethodName) prog_1_method_17_code (3 : Nat) (Option.some Jvm.ClassFile.FieldType.int) ∈ WS := WS_2 195 rfl rfl
theorem wm_L_83 : Jvm.Cond.methodLink "RetryStormLaw" (83 : Nat) ({ cls := "RetryStorm", name := "window", desc := "(II)I" } : Jvm.MethodName) ∈ WS := WS_2 196 (by decide +kernel) rfl
theorem wi_X5_window : Jvm.Cond.instanceMethod ({ cls := "RetryStorm", name := "window", desc := "(II)I" } : Jvm.MethodName) ∈ WS := WS_2 197 (by decide +kernel) rfl
theorem we_X5_window : Jvm.Cond.selects "RetryStorm" ({ cls := "RetryStorm", name := "window", desc := "(II)I" } : Jvm.MethodName) ({ cls := "RetryStorm", name := "window", desc := "(II)I" } : Jvm.MethodName) ∈ WS := WS_2 198 (by decide +kernel) rfl
theorem wc_X5_window : Jvm.Cond.code ({ cls := "RetryStorm", name := "window", desc := "(II)I" } : Jvm.MethodName) prog_1_method_18_code (5 : Nat) (Option.some Jvm.ClassFile.FieldType.int) ∈ WS := WS_2 199 rfl rfl
theorem wm_X5_133 : Jvm.Cond.methodLink "RetryStorm" (133 : Nat) ({ cls := "RetryStorm$State", name := "ofTick", desc := "(II)I" } : Jvm.MethodName) ∈ WS := WS_2 200 (by decide +kernel) rfl
theorem wi_X2_ofTick : Jvm.Cond.instanceMethod ({ cls := "RetryStorm$State", name := "ofTick", desc := "(II)I" } : Jvm.MethodName) ∈ WS := WS_2 201 (by decide +kernel) rfl
theorem we_X2_ofTick : Jvm.Cond.selects "RetryStorm$State" ({ cls := "RetryStorm$State", name := "ofTick", desc := "(II)I" } : Jvm.MethodName) ({ cls := "RetryStorm$State", name := "ofTick", desc := "(II)I" } : Jvm.MethodName) ∈ WS := WS_2 202 (by decide +kernel) rfl
theorem wc_X2_ofTick : Jvm.Cond.code ({ cls := "RetryStorm$State", name := "ofTick", desc := "(II)I" } : Jvm.MethodName) prog_4_method_7_code (3 : Nat) (Option.some Jvm.ClassFile.FieldType.int) ∈ WS := WS_2 203 rfl rfl
theorem wm_X2_102 : Jvm.Cond.methodLink "RetryStorm$State" (102 : Nat) ({ cls := "java/lang/Math", name := "floorMod", desc := "(II)I" } : Jvm.MethodName) ∈ WS := WS_2 204 (by decide +kernel) rfl
theorem wm_L_87 : Jvm.Cond.methodLink "RetryStormLaw" (87 : Nat) ({ cls := "RetryStorm", name := "quiet", desc := "(I)I" } : Jvm.MethodName) ∈ WS := WS_2 205 (by decide +kernel) rfl
theorem wi_X5_quiet : Jvm.Cond.instanceMethod ({ cls := "RetryStorm", name := "quiet", desc := "(I)I" } : Jvm.MethodName) ∈ WS := WS_2 206 (by decide +kernel) rfl
theorem we_X5_quiet : Jvm.Cond.selects "RetryStorm" ({ cls := "RetryStorm", name := "quiet", desc := "(I)I" } : Jvm.MethodName) ({ cls := "RetryStorm", name := "quiet", desc := "(I)I" } : Jvm.MethodName) ∈ WS := WS_2 207 (by decide +kernel) rfl
theorem wc_X5_quiet : Jvm.Cond.code ({ cls := "RetryStorm", name := "quiet", desc := "(I)I" } : Jvm.MethodName) prog_1_method_19_code (4 : Nat) (Option.some Jvm.ClassFile.FieldType.int) ∈ WS := WS_2 208 rfl rfl
theorem wm_X5_136 : Jvm.Cond.methodLink "RetryStorm" (136 : Nat) ({ cls := "java/lang/Math", name := "min", desc := "(II)I" } : Jvm.MethodName) ∈ WS := WS_2 209 (by decide +kernel) rfl
theorem wm_L_91 : Jvm.Cond.methodLink "RetryStormLaw" (91 : Nat) ({ cls := "RetryStorm", name := "recovery", desc := "(II)I" } : Jvm.MethodName) ∈ WS := WS_2 210 (by decide +kernel) rfl
theorem wi_X5_recovery : Jvm.Cond.instanceMethod ({ cls := "RetryStorm", name := "recovery", desc := "(II)I" } : Jvm.MethodName) ∈ WS := WS_2 211 (by decide +kernel) rfl
theorem we_X5_recovery : Jvm.Cond.selects "RetryStorm" ({ cls := "RetryStorm", name := "recovery", desc := "(II)I" } : Jvm.MethodName) ({ cls := "RetryStorm", name := "recovery", desc := "(II)I" } : Jvm.MethodName) ∈ WS := WS_2 212 (by decide +kernel) rfl
theorem wc_X5_recovery : Jvm.Cond.code ({ cls := "RetryStorm", name := "recovery", desc := "(II)I" } : Jvm.MethodName) prog_1_method_20_code (6 : Nat) (Option.some Jvm.ClassFile.FieldType.int) ∈ WS := WS_2 213 rfl rfl
theorem wm_X5_141 : Jvm.Cond.methodLink "RetryStorm" (141 : Nat) ({ cls := "java/lang/Math", name := "max", desc := "(II)I" } : Jvm.MethodName) ∈ WS := WS_2 214 (by decide +kernel) rfl
theorem wm_L_95 : Jvm.Cond.methodLink "RetryStormLaw" (95 : Nat) ({ cls := "RetryStorm", name := "amplification", desc := "()I" } : Jvm.MethodName) ∈ WS := WS_2 215 (by decide +kernel) rfl
theorem wi_X5_amplification : Jvm.Cond.instanceMethod ({ cls := "RetryStorm", name := "amplification", desc := "()I" } : Jvm.MethodName) ∈ WS := WS_2 216 (by decide +kernel) rfl
theorem we_X5_amplification : Jvm.Cond.selects "RetryStorm" ({ cls := "RetryStorm", name := "amplification", desc := "()I" } : Jvm.MethodName) ({ cls := "RetryStorm", name := "amplification", desc := "()I" } : Jvm.MethodName) ∈ WS := WS_2 217 (by decide +kernel) rfl
theorem wc_X5_amplification : Jvm.Cond.code ({ cls := "RetryStorm", name := "amplification", desc := "()I" } : Jvm.MethodName) prog_1_method_21_code (2 : Nat) (Option.some Jvm.ClassFile.FieldType.int) ∈ WS := WS_2 218 rfl rfl
theorem wq_X5_144 : Jvm.Cond.constantLong "RetryStorm" (144 : Nat) (100 : Int64) ∈ WS := WS_2 219 (by decide +kernel) rfl
theorem wm_L_100 : Jvm.Cond.methodLink "RetryStormLaw" (100 : Nat) ({ cls := "RetryStorm", name := "undo", desc := "()I" } : Jvm.MethodName) ∈ WS := WS_2 220 (by decide +kernel) rfl
theorem wi_X5_undo : Jvm.Cond.instanceMethod ({ cls := "RetryStorm", name := "undo", desc := "()I" } : Jvm.MethodName) ∈ WS := WS_2 221 (by decide +kernel) rfl
theorem we_X5_undo : Jvm.Cond.selects "RetryStorm" ({ cls := "RetryStorm", name := "undo", desc := "()I" } : Jvm.MethodName) ({ cls := "RetryStorm", name := "undo", desc := "()I" } : Jvm.MethodName) ∈ WS := WS_2 222 (by decide +kernel) rfl
theorem wc_X5_undo : Jvm.Cond.code ({ cls := "RetryStorm", name := "undo", desc := "()I" } : Jvm.MethodName) prog_1_method_22_code (2 : Nat) (Option.some Jvm.ClassFile.FieldType.int) ∈ WS := WS_2 223 rfl rfl
theorem wm_L_104 : Jvm.Cond.methodLink "RetryStormLaw" (104 : Nat) ({ cls := "RetryStorm", name := "digest", desc := "()J" } : Jvm.MethodName) ∈ WS := WS_2 224 (by decide +kernel) rfl
theorem wi_X5_digest : Jvm.Cond.instanceMethod ({ cls := "RetryStorm", name := "digest", desc := "()J" } : Jvm.MethodName) ∈ WS := WS_2 225 (by decide +kernel) rfl
theorem we_X5_digest : Jvm.Cond.selects "RetryStorm" ({ cls := "RetryStorm", name := "digest", desc := "()J" } : Jvm.MethodName) ({ cls := "RetryStorm", name := "digest", desc := "()J" } : Jvm.MethodName) ∈ WS := WS_2 226 (by decide +kernel) rfl
theorem wc_X5_digest : Jvm.Cond.code ({ cls := "RetryStorm", name := "digest", desc := "()J" } : Jvm.MethodName) prog_1_method_23_code (6 : Nat) (Option.some Jvm.ClassFile.FieldType.long) ∈ WS := WS_2 227 rfl rfl
theorem wq_X5_149 : Jvm.Cond.constantLong "RetryStorm" (149 : Nat) (18520 : Int64) ∈ WS := WS_2 228 (by decide +kernel) rfl
theorem wq_X5_151 : Jvm.Cond.constantLong "RetryStorm" (151 : Nat) (31 : Int64) ∈ WS := WS_2 229 (by decide +kernel) rfl
theorem wm_X5_153 : Jvm.Cond.methodLink "RetryStorm" (153 : Nat) ({ cls := "RetryStorm", name := "told", desc := "(I)I" } : Jvm.MethodName) ∈ WS := WS_2 230 (by decide +kernel) rfl
theorem wm_X5_156 : Jvm.Cond.methodLink "RetryStorm" (156 : Nat) ({ cls := "RetryStorm", name := "hashOfClients", desc := "(J)J" } : Jvm.MethodName) ∈ WS := WS_2 231 (by decide +kernel) rfl
theorem wi_X5_hashOfClients : Jvm.Cond.instanceMethod ({ cls := "RetryStorm", name := "hashOfClients", desc := "(J)J" } : Jvm.MethodName) ∈ WS := WS_2 233 (by decide +kernel) rfl
theorem wc_X5_hashOfClients : Jvm.Cond.code ({ cls := "RetryStorm", name := "hashOfClients", desc := "(J)J" } : Jvm.MethodName) prog_1_method_24_code (7 : Nat) (Option.some Jvm.ClassFile.FieldType.long) ∈ WS := WS_2 234 rfl rfl
theorem wm_X5_173 : Jvm.Cond.methodLink "RetryStorm" (173 : Nat) ({ cls := "RetryStorm", name := "property", desc := "(II)I" } : Jvm.MethodName) ∈ WS := WS_2 235 (by decide +kernel) rfl
theorem wm_X5_176 : Jvm.Cond.methodLink "RetryStorm" (176 : Nat) ({ cls := "RetryStorm", name := "count", desc := "(II)I" } : Jvm.MethodName) ∈ WS := WS_2 236 (by decide +kernel) rfl
theorem wm_X5_179 : Jvm.Cond.methodLink "RetryStorm" (179 : Nat) ({ cls := "RetryStorm", name := "succeededAt", desc := "(II)I" } : Jvm.MethodName) ∈ WS := WS_2 237 (by decide +kernel) rfl
theorem wm_X5_160 : Jvm.Cond.methodLink "RetryStorm" (160 : Nat) ({ cls := "RetryStorm", name := "live", desc := "(I)I" } : Jvm.MethodName) ∈ WS := WS_2 238 (by decide +kernel) rfl
theorem wm_X5_163 : Jvm.Cond.methodLink "RetryStorm" (163 : Nat) ({ cls := "RetryStorm", name := "request", desc := "(II)I" } : Jvm.MethodName) ∈ WS := WS_2 239 (by decide +kernel) rfl
theorem wm_X5_166 : Jvm.Cond.methodLink "RetryStorm" (166 : Nat) ({ cls := "RetryStorm", name := "hashOfServer", desc := "(JII)J" } : Jvm.MethodName) ∈ WS := WS_3 0 (by decide +kernel) rfl
theorem wi_X5_hashOfServer : Jvm.Cond.instanceMethod ({ cls := "RetryStorm", name := "hashOfServer", desc := "(JII)J" } : Jvm.MethodName) ∈ WS := WS_3 2 (by decide +kernel) rfl
theorem wc_X5_hashOfServer : Jvm.Cond.code ({ cls := "RetryStorm", name := "hashOfServer", desc := "(JII)J" } : Jvm.MethodName) prog_1_method_25_code (8 : Nat) (Option.some Jvm.ClassFile.FieldType.long) ∈ WS := WS_3 3 rfl rfl
theorem wm_X5_182 : Jvm.Cond.methodLink "RetryStorm" (182 : Nat) ({ cls := "RetryStorm", name := "queued", desc := "(ZI)I" } : Jvm.MethodName) ∈ WS := WS_3 4 (by decide +kernel) rfl
theorem wm_X5_186 : Jvm.Cond.methodLink "RetryStorm" (186 : Nat) ({ cls := "RetryStorm", name := "atWorker", desc := "(ZI)I" } : Jvm.MethodName) ∈ WS := WS_3 5 (by decide +kernel) rfl
theorem wm_X5_170 : Jvm.Cond.methodLink "RetryStorm" (170 : Nat) ({ cls := "RetryStorm", name := "amplification", desc := "()I" } : Jvm.MethodName) ∈ WS := WS_3 6 (by decide +kernel) rfl
theorem wk_L_10 : Jvm.Cond.classLink "RetryStormLaw" (10 : Nat) "RetryStormModel" ∈ WS := WS_3 7 (by decide +kernel) rfl
theorem wa_X6 : Jvm.Cond.instantiable "RetryStormModel" (10 : Nat) ∈ WS := WS_3 8 (by decide +kernel) rfl
theorem wm_L_12 : Jvm.Cond.methodLink "RetryStormLaw" (12 : Nat) ({ cls := "RetryStormModel", name := "<init>", desc := "()V" } : Jvm.MethodName) ∈ WS := WS_3 9 (by decide +kernel) rfl
theorem wi_X6_init : Jvm.Cond.instanceMethod ({ cls := "RetryStormModel", name := "<init>", desc := "()V" } : Jvm.MethodName) ∈ WS := WS_3 10 (by decide +kernel) rfl
theorem wc_X6_init : Jvm.Cond.code ({ cls := "RetryStormModel", name := "<init>", desc := "()V" } : Jvm.MethodName) prog_8_method_1_code (3 : Nat) (Option.none : Option Jvm.ClassFile.FieldType) ∈ WS := WS_3 11 rfl rfl
theorem wm_X6_1 : Jvm.Cond.methodLink "RetryStormModel" (1 : Nat) ({ cls := "java/lang/Object", name := "<init>", desc := "()V" } : Jvm.MethodName) ∈ WS := WS_3 12 (by decide +kernel) rfl
theorem wf_X6_7 : Jvm.Cond.fieldLink "RetryStormModel" (7 : Nat) "RetryStormModel" "page" "[I" ∈ WS := WS_3 13 (by decide +kernel) rfl
theorem wf_X6_25 : Jvm.Cond.fieldLink "RetryStormModel" (25 : Nat) "RetryStormModel" "remembered" "I" ∈ WS := WS_3 14 (by decide +kernel) rfl
theorem wf_X6_13 : Jvm.Cond.fieldLink "RetryStormModel" (13 : Nat) "RetryStormModel" "lows" "[I" ∈ WS := WS_3 15 (by decide +kernel) rfl
theorem wf_X6_16 : Jvm.Cond.fieldLink "RetryStormModel" (16 : Nat) "RetryStormModel" "highs" "[I" ∈ WS := WS_3 16 (by decide +kernel) rfl
theorem wf_X6_19 : Jvm.Cond.fieldLink "RetryStormModel" (19 : Nat) "RetryStormModel" "firsts" "[I" ∈ WS := WS_3 17 (by decide +kernel) rfl
theorem wf_X6_67 : Jvm.Cond.fieldLink "RetryStormModel" (67 : Nat) "RetryStormModel" "now" "I" ∈ WS := WS_3 18 (by decide +kernel) rfl
theorem wf_X6_118 : Jvm.Cond.fieldLink "RetryStormModel" (118 : Nat) "RetryStormModel" "successes" "I" ∈ WS := WS_3 19 (by decide +kernel) rfl
theorem wf_X6_90 : Jvm.Cond.fieldLink "RetryStormModel" (90 : Nat) "RetryStormModel" "sent" "I" ∈ WS := WS_3 20 (by decide +kernel) rfl
theorem wf_X6_77 : Jvm.Cond.fieldLink "RetryStormModel" (77 : Nat) "RetryStormModel" "wasted" "I" ∈ WS := WS_3 21 (by decide +kernel) rfl
theorem wf_X6_22 : Jvm.Cond.fieldLink "RetryStormModel" (22 : Nat) "RetryStormModel" "some" "[I" ∈ WS := WS_3 22 (by decide +kernel) rfl
theorem wl_X6_page : Jvm.Cond.laysFinal "RetryStormModel" "RetryStormModel" "page" "[I" ∈ WS := WS_3 23 (by decide +kernel) rfl
theorem wl_X6_remembered : Jvm.Cond.lays "RetryStormModel" "RetryStormModel" "remembered" "I" ∈ WS := WS_3 25 (by decide +kernel) rfl
theorem wl_X6_lows : Jvm.Cond.laysFinal "RetryStormModel" "RetryStormModel" "lows" "[I" ∈ WS := WS_3 27 (by decide +kernel) rfl
theorem wl_X6_highs : Jvm.Cond.laysFinal "RetryStormModel" "RetryStormModel" "highs" "[I" ∈ WS := WS_3 29 (by decide +kernel) rfl
theorem wl_X6_firsts : Jvm.Cond.laysFinal "RetryStormModel" "RetryStormModel" "firsts" "[I" ∈ WS := WS_3 31 (by decide +kernel) rfl
theorem wl_X6_now : Jvm.Cond.lays "RetryStormModel" "RetryStormModel" "now" "I" ∈ WS := WS_3 33 (by decide +kernel) rfl
theorem wl_X6_successes : Jvm.Cond.lays "RetryStormModel" "RetryStormModel" "successes" "I" ∈ WS := WS_3 35 (by decide +kernel) rfl
theorem wl_X6_sent : Jvm.Cond.lays "RetryStormModel" "RetryStormModel" "sent" "I" ∈ WS := WS_3 37 (by decide +kernel) rfl
theorem wl_X6_wasted : Jvm.Cond.lays "RetryStormModel" "RetryStormModel" "wasted" "I" ∈ WS := WS_3 39 (by decide +kernel) rfl
theorem wl_X6_some : Jvm.Cond.laysFinal "RetryStormModel" "RetryStormModel" "some" "[I" ∈ WS := WS_3 41 (by decide +kernel) rfl
theorem wm_L_17 : Jvm.Cond.methodLink "RetryStormLaw" (17 : Nat) ({ cls := "RetryStormModel", name := "set", desc := "(III)I" } : Jvm.MethodName) ∈ WS := WS_3 44 (by decide +kernel) rfl
theorem wi_X6_set : Jvm.Cond.instanceMethod ({ cls := "RetryStormModel", name := "set", desc := "(III)I" } : Jvm.MethodName) ∈ WS := WS_3 45 (by decide +kernel) rfl
theorem we_X6_set : Jvm.Cond.selects "RetryStormModel" ({ cls := "RetryStormModel", name := "set", desc := "(III)I" } : Jvm.MethodName) ({ cls := "RetryStormModel", name := "set", desc := "(III)I" } : Jvm.MethodName) ∈ WS := WS_3 46 (by decide +kernel) rfl
theorem wc_X6_set : Jvm.Cond.code ({ cls := "RetryStormModel", name := "set", desc := "(III)I" } : Jvm.MethodName) prog_8_method_10_code (5 : Nat) (Option.some Jvm.ClassFile.FieldType.int) ∈ WS := WS_3 47 rfl rfl
theorem wm_X6_37 : Jvm.Cond.methodLink "RetryStormModel" (37 : Nat) ({ cls := "RetryStormModel", name := "isClient", desc := "(I)Z" } : Jvm.MethodName) ∈ WS := WS_3 48 (by decide +kernel) rfl
theorem wt_X6_isClient : Jvm.Cond.static ({ cls := "RetryStormModel", name := "isClient", desc := "(I)Z" } : Jvm.MethodName) ∈ WS := WS_3 49 (by decide +kernel) rfl
theorem wc_X6_isClient : Jvm.Cond.code ({ cls := "RetryStormModel", name := "isClient", desc := "(I)Z" } : Jvm.MethodName) prog_8_method_6_code (1 : Nat) (Option.some Jvm.ClassFile.FieldType.boolean) ∈ WS := WS_3 50 rfl rfl
theorem wm_X6_33 : Jvm.Cond.methodLink "RetryStormModel" (33 : Nat) ({ cls := "RetryStormModel", name := "in", desc := "(III)Z" } : Jvm.MethodName) ∈ WS := WS_3 51 (by decide +kernel) rfl
theorem wt_X6_in : Jvm.Cond.static ({ cls := "RetryStormModel", name := "in", desc := "(III)Z" } : Jvm.MethodName) ∈ WS := WS_3 52 (by decide +kernel) rfl
theorem wc_X6_in : Jvm.Cond.code ({ cls := "RetryStormModel", name := "in", desc := "(III)Z" } : Jvm.MethodName) prog_8_method_3_code (3 : Nat) (Option.some Jvm.ClassFile.FieldType.boolean) ∈ WS := WS_3 53 rfl rfl
theorem wm_X6_41 : Jvm.Cond.methodLink "RetryStormModel" (41 : Nat) ({ cls := "RetryStormModel", name := "begins", desc := "()V" } : Jvm.MethodName) ∈ WS := WS_3 54 (by decide +kernel) rfl
theorem wi_X6_begins : Jvm.Cond.instanceMethod ({ cls := "RetryStormModel", name := "begins", desc := "()V" } : Jvm.MethodName) ∈ WS := WS_3 56 (by decide +kernel) rfl
theorem wc_X6_begins : Jvm.Cond.code ({ cls := "RetryStormModel", name := "begins", desc := "()V" } : Jvm.MethodName) prog_8_method_5_code (2 : Nat) (Option.none : Option Jvm.ClassFile.FieldType) ∈ WS := WS_3 57 rfl rfl
theorem wm_X6_29 : Jvm.Cond.methodLink "RetryStormModel" (29 : Nat) ({ cls := "RetryStormModel", name := "copies", desc := "(II)V" } : Jvm.MethodName) ∈ WS := WS_3 58 (by decide +kernel) rfl
theorem wi_X6_copies : Jvm.Cond.instanceMethod ({ cls := "RetryStormModel", name := "copies", desc := "(II)V" } : Jvm.MethodName) ∈ WS := WS_3 60 (by decide +kernel) rfl
theorem wc_X6_copies : Jvm.Cond.code ({ cls := "RetryStormModel", name := "copies", desc := "(II)V" } : Jvm.MethodName) prog_8_method_4_code (4 : Nat) (Option.none : Option Jvm.ClassFile.FieldType) ∈ WS := WS_3 61 rfl rfl
theorem wm_X6_44 : Jvm.Cond.methodLink "RetryStormModel" (44 : Nat) ({ cls := "RetryStormModel", name := "of", desc := "(II)I" } : Jvm.MethodName) ∈ WS := WS_3 62 (by decide +kernel) rfl
theorem wi_X6_of : Jvm.Cond.instanceMethod ({ cls := "RetryStormModel", name := "of", desc := "(II)I" } : Jvm.MethodName) ∈ WS := WS_3 64 (by decide +kernel) rfl
theorem wc_X6_of : Jvm.Cond.code ({ cls := "RetryStormModel", name := "of", desc := "(II)I" } : Jvm.MethodName) prog_8_method_7_code (3 : Nat) (Option.some Jvm.ClassFile.FieldType.int) ∈ WS := WS_3 65 rfl rfl
theorem wm_L_22 : Jvm.Cond.methodLink "RetryStormLaw" (22 : Nat) ({ cls := "RetryStormModel", name := "property", desc := "(II)I" } : Jvm.MethodName) ∈ WS := WS_3 66 (by decide +kernel) rfl
theorem wi_X6_property : Jvm.Cond.instanceMethod ({ cls := "RetryStormModel", name := "property", desc := "(II)I" } : Jvm.MethodName) ∈ WS := WS_3 67 (by decide +kernel) rfl
theorem we_X6_property : Jvm.Cond.selects "RetryStormModel" ({ cls := "RetryStormModel", name := "property", desc := "(II)I" } : Jvm.MethodName) ({ cls := "RetryStormModel", name := "property", desc := "(II)I" } : Jvm.MethodName) ∈ WS := WS_3 68 (by decide +kernel) rfl
theorem wc_X6_property : Jvm.Cond.code ({ cls := "RetryStormModel", name := "property", desc := "(II)I" } : Jvm.MethodName) prog_8_method_11_code (3 : Nat) (Option.some Jvm.ClassFile.FieldType.int) ∈ WS := WS_3 69 rfl rfl
theorem wm_L_26 : Jvm.Cond.methodLink "RetryStormLaw" (26 : Nat) ({ cls := "RetryStormModel", name := "setServer", desc := "(II)I" } : Jvm.MethodName) ∈ WS := WS_3 70 (by decide +kernel) rfl
theorem wi_X6_setServer : Jvm.Cond.instanceMethod ({ cls := "RetryStormModel", name := "setServer", desc := "(II)I" } : Jvm.MethodName) ∈ WS := WS_3 71 (by decide +kernel) rfl
theorem we_X6_setServer : Jvm.Cond.selects "RetryStormModel" ({ cls := "RetryStormModel", name := "setServer", desc := "(II)I" } : Jvm.MethodName) ({ cls := "RetryStormModel", name := "setServer", desc := "(II)I" } : Jvm.MethodName) ∈ WS := WS_3 72 (by decide +kernel) rfl
theorem wc_X6_setServer : Jvm.Cond.code ({ cls := "RetryStormModel", name := "setServer", desc := "(II)I" } : Jvm.MethodName) prog_8_method_12_code (5 : Nat) (Option.some Jvm.ClassFile.FieldType.int) ∈ WS := WS_3 73 rfl rfl
theorem wm_L_31 : Jvm.Cond.methodLink "RetryStormLaw" (31 : Nat) ({ cls := "RetryStormModel", name := "setDiscipline", desc := "(I)I" } : Jvm.MethodName) ∈ WS := WS_3 74 (by decide +kernel) rfl
theorem wi_X6_setDiscipline : Jvm.Cond.instanceMethod ({ cls := "RetryStormModel", name := "setDiscipline", desc := "(I)I" } : Jvm.MethodName) ∈ WS := WS_3 75 (by decide +kernel) rfl
theorem we_X6_setDiscipline : Jvm.Cond.selects "RetryStormModel" ({ cls := "RetryStormModel", name := "setDiscipline", desc := "(I)I" } : Jvm.MethodName) ({ cls := "RetryStormModel", name := "setDiscipline", desc := "(I)I" } : Jvm.MethodName) ∈ WS := WS_3 76 (by decide +kernel) rfl
theorem wc_X6_setDiscipline : Jvm.Cond.code ({ cls := "RetryStormModel", name := "setDiscipline", desc := "(I)I" } : Jvm.MethodName) prog_8_method_13_code (3 : Nat) (Option.some Jvm.ClassFile.FieldType.int) ∈ WS := WS_3 77 rfl rfl
theorem wm_L_36 : Jvm.Cond.methodLink "RetryStormLaw" (36 : Nat) ({ cls := "RetryStormModel", name := "setSwitch", desc := "(IZ)I" } : Jvm.MethodName) ∈ WS := WS_3 78 (by decide +kernel) rfl
theorem wi_X6_setSwitch : Jvm.Cond.instanceMethod ({ cls := "RetryStormModel", name := "setSwitch", desc := "(IZ)I" } : Jvm.MethodName) ∈ WS := WS_3 79 (by decide +kernel) rfl
theorem we_X6_setSwitch : Jvm.Cond.selects "RetryStormModel" ({ cls := "RetryStormModel", name := "setSwitch", desc := "(IZ)I" } : Jvm.MethodName) ({ cls := "RetryStormModel", name := "setSwitch", desc := "(IZ)I" } : Jvm.MethodName) ∈ WS := WS_3 80 (by decide +kernel) rfl
theorem wc_X6_setSwitch : Jvm.Cond.code ({ cls := "RetryStormModel", name := "setSwitch", desc := "(IZ)I" } : Jvm.MethodName) prog_8_method_14_code (4 : Nat) (Option.some Jvm.ClassFile.FieldType.int) ∈ WS := WS_3 81 rfl rfl
theorem wm_L_41 : Jvm.Cond.methodLink "RetryStormLaw" (41 : Nat) ({ cls := "RetryStormModel", name := "surge", desc := "(IIII)I" } : Jvm.MethodName) ∈ WS := WS_3 82 (by decide +kernel) rfl
theorem wi_X6_surge : Jvm.Cond.instanceMethod ({ cls := "RetryStormModel", name := "surge", desc := "(IIII)I" } : Jvm.MethodName) ∈ WS := WS_3 83 (by decide +kernel) rfl
theorem we_X6_surge : Jvm.Cond.selects "RetryStormModel" ({ cls := "RetryStormModel", name := "surge", desc := "(IIII)I" } : Jvm.MethodName) ({ cls := "RetryStormModel", name := "surge", desc := "(IIII)I" } : Jvm.MethodName) ∈ WS := WS_3 84 (by decide +kernel) rfl
theorem wc_X6_surge : Jvm.Cond.code ({ cls := "RetryStormModel", name := "surge", desc := "(IIII)I" } : Jvm.MethodName) prog_8_method_15_code (5 : Nat) (Option.some Jvm.ClassFile.FieldType.int) ∈ WS := WS_3 85 rfl rfl
theorem wm_L_45 : Jvm.Cond.methodLink "RetryStormLaw" (45 : Nat) ({ cls := "RetryStormModel", name := "run", desc := "(I)I" } : Jvm.MethodName) ∈ WS := WS_3 86 (by decide +kernel) rfl
theorem wi_X6_run : Jvm.Cond.instanceMethod ({ cls := "RetryStormModel", name := "run", desc := "(I)I" } : Jvm.MethodName) ∈ WS := WS_3 87 (by decide +kernel) rfl
theorem we_X6_run : Jvm.Cond.selects "RetryStormModel" ({ cls := "RetryStormModel", name := "run", desc := "(I)I" } : Jvm.MethodName) ({ cls := "RetryStormModel", name := "run", desc := "(I)I" } : Jvm.MethodName) ∈ WS := WS_3 88 (by decide +kernel) rfl
theorem wc_X6_run : Jvm.Cond.code ({ cls := "RetryStormModel", name := "run", desc := "(I)I" } : Jvm.MethodName) prog_8_method_46_code (2 : Nat) (Option.some Jvm.ClassFile.FieldType.int) ∈ WS := WS_3 89 rfl rfl
theorem wm_X6_160 : Jvm.Cond.methodLink "RetryStormModel" (160 : Nat) ({ cls := "RetryStormModel", name := "runs", desc := "(I)I" } : Jvm.MethodName) ∈ WS := WS_3 90 (by decide +kernel) rfl
theorem wi_X6_runs : Jvm.Cond.instanceMethod ({ cls := "RetryStormModel", name := "runs", desc := "(I)I" } : Jvm.MethodName) ∈ WS := WS_3 92 (by decide +kernel) rfl
theorem wc_X6_runs : Jvm.Cond.code ({ cls := "RetryStormModel", name := "runs", desc := "(I)I" } : Jvm.MethodName) prog_8_method_45_code (4 : Nat) (Option.some Jvm.ClassFile.FieldType.int) ∈ WS := WS_3 93 rfl rfl
theorem wm_X6_157 : Jvm.Cond.methodLink "RetryStormModel" (157 : Nat) ({ cls := "RetryStormModel", name := "ticks", desc := "()V" } : Jvm.MethodName) ∈ WS := WS_3 94 (by decide +kernel) rfl
theorem wi_X6_ticks : Jvm.Cond.instanceMethod ({ cls := "RetryStormModel", name := "ticks", desc := "()V" } : Jvm.MethodName) ∈ WS := WS_3 96 (by decide +kernel) rfl
theorem wc_X6_ticks : Jvm.Cond.code ({ cls := "RetryStormModel", name := "ticks", desc := "()V" } : Jvm.MethodName) prog_8_method_44_code (3 : Nat) (Option.none : Option Jvm.ClassFile.FieldType) ∈ WS := WS_3 97 rfl rfl
theorem wm_X6_127 : Jvm.Cond.methodLink "RetryStormModel" (127 : Nat) ({ cls := "RetryStormModel", name := "isDue", desc := "(I)Z" } : Jvm.MethodName) ∈ WS := WS_3 98 (by decide +kernel) rfl
theorem wi_X6_isDue : Jvm.Cond.instanceMethod ({ cls := "RetryStormModel", name := "isDue", desc := "(I)Z" } : Jvm.MethodName) ∈ WS := WS_3 100 (by decide +kernel) rfl
theorem wc_X6_isDue : Jvm.Cond.code ({ cls := "RetryStormModel", name := "isDue", desc := "(I)Z" } : Jvm.MethodName) prog_8_method_30_code (3 : Nat) (Option.some Jvm.ClassFile.FieldType.boolean) ∈ WS := WS_3 101 rfl rfl
theorem wm_X6_130 : Jvm.Cond.methodLink "RetryStormModel" (130 : Nat) ({ cls := "RetryStormModel", name := "factorOf", desc := "(I)I" } : Jvm.MethodName) ∈ WS := WS_3 102 (by decide +kernel) rfl
theorem wi_X6_factorOf : Jvm.Cond.instanceMethod ({ cls := "RetryStormModel", name := "factorOf", desc := "(I)I" } : Jvm.MethodName) ∈ WS := WS_3 104 (by decide +kernel) rfl
theorem wc_X6_factorOf : Jvm.Cond.code ({ cls := "RetryStormModel", name := "factorOf", desc := "(I)I" } : Jvm.MethodName) prog_8_method_31_code (3 : Nat) (Option.some Jvm.ClassFile.FieldType.int) ∈ WS := WS_3 105 rfl rfl
theorem wm_X6_133 : Jvm.Cond.methodLink "RetryStormModel" (133 : Nat) ({ cls := "RetryStormModel", name := "creates", desc := "(I)V" } : Jvm.MethodName) ∈ WS := WS_3 106 (by decide +kernel) rfl
theorem wi_X6_creates : Jvm.Cond.instanceMethod ({ cls := "RetryStormModel", name := "creates", desc := "(I)V" } : Jvm.MethodName) ∈ WS := WS_3 108 (by decide +kernel) rfl
theorem wc_X6_creates : Jvm.Cond.code ({ cls := "RetryStormModel", name := "creates", desc := "(I)V" } : Jvm.MethodName) prog_8_method_32_code (5 : Nat) (Option.none : Option Jvm.ClassFile.FieldType) ∈ WS := WS_3 109 rfl rfl
theorem wm_X6_60 : Jvm.Cond.methodLink "RetryStormModel" (60 : Nat) ({ cls := "RetryStormModel", name := "counts", desc := "(III)V" } : Jvm.MethodName) ∈ WS := WS_3 110 (by decide +kernel) rfl
theorem wi_X6_counts : Jvm.Cond.instanceMethod ({ cls := "RetryStormModel", name := "counts", desc := "(III)V" } : Jvm.MethodName) ∈ WS := WS_3 112 (by decide +kernel) rfl
theorem wc_X6_counts : Jvm.Cond.code ({ cls := "RetryStormModel", name := "counts", desc := "(III)V" } : Jvm.MethodName) prog_8_method_8_code (4 : Nat) (Option.none : Option Jvm.ClassFile.FieldType) ∈ WS := WS_3 113 rfl rfl
theorem wm_X6_53 : Jvm.Cond.methodLink "RetryStormModel" (53 : Nat) ({ cls := "RetryStormModel", name := "least", desc := "(II)I" } : Jvm.MethodName) ∈ WS := WS_3 114 (by decide +kernel) rfl
theorem wt_X6_least : Jvm.Cond.static ({ cls := "RetryStormModel", name := "least", desc := "(II)I" } : Jvm.MethodName) ∈ WS := WS_3 115 (by decide +kernel) rfl
theorem wc_X6_least : Jvm.Cond.code ({ cls := "RetryStormModel", name := "least", desc := "(II)I" } : Jvm.MethodName) prog_8_method_21_code (2 : Nat) (Option.some Jvm.ClassFile.FieldType.int) ∈ WS := WS_3 116 rfl rfl
theorem wm_X6_48 : Jvm.Cond.methodLink "RetryStormModel" (48 : Nat) ({ cls := "RetryStormModel", name := "row", desc := "(I)I" } : Jvm.MethodName) ∈ WS := WS_3 117 (by decide +kernel) rfl
theorem wi_X6_row : Jvm.Cond.instanceMethod ({ cls := "RetryStormModel", name := "row", desc := "(I)I" } : Jvm.MethodName) ∈ WS := WS_3 119 (by decide +kernel) rfl
theorem wc_X6_row : Jvm.Cond.code ({ cls := "RetryStormModel", name := "row", desc := "(I)I" } : Jvm.MethodName) prog_8_method_16_code (2 : Nat) (Option.some Jvm.ClassFile.FieldType.int) ∈ WS := WS_3 120 rfl rfl
theorem wm_X6_109 : Jvm.Cond.methodLink "RetryStormModel" (109 : Nat) ({ cls := "RetryStormModel", name := "sends", desc := "(I)V" } : Jvm.MethodName) ∈ WS := WS_3 121 (by decide +kernel) rfl
theorem wi_X6_sends : Jvm.Cond.instanceMethod ({ cls := "RetryStormModel", name := "sends", desc := "(I)V" } : Jvm.MethodName) ∈ WS := WS_3 123 (by decide +kernel) rfl
theorem wc_X6_sends : Jvm.Cond.code ({ cls := "RetryStormModel", name := "sends", desc := "(I)V" } : Jvm.MethodName) prog_8_method_29_code (6 : Nat) (Option.none : Option Jvm.ClassFile.FieldType) ∈ WS := WS_3 124 rfl rfl
theorem wm_X6_93 : Jvm.Cond.methodLink "RetryStormModel" (93 : Nat) ({ cls := "RetryStormModel", name := "isOn", desc := "(I)Z" } : Jvm.MethodName) ∈ WS := WS_3 125 (by decide +kernel) rfl
theorem wi_X6_isOn : Jvm.Cond.instanceMethod ({ cls := "RetryStormModel", name := "isOn", desc := "(I)Z" } : Jvm.MethodName) ∈ WS := WS_3 127 (by decide +kernel) rfl
theorem wc_X6_isOn : Jvm.Cond.code ({ cls := "RetryStormModel", name := "isOn", desc := "(I)Z" } : Jvm.MethodName) prog_8_method_9_code (2 : Nat) (Option.some Jvm.ClassFile.FieldType.boolean) ∈ WS := WS_3 128 rfl rfl
theorem wm_X6_87 : Jvm.Cond.methodLink "RetryStormModel" (87 : Nat) ({ cls := "RetryStormModel", name := "fails", desc := "(II)V" } : Jvm.MethodName) ∈ WS := WS_3 129 (by decide +kernel) rfl
theorem wi_X6_fails : Jvm.Cond.instanceMethod ({ cls := "RetryStormModel", name := "fails", desc := "(II)V" } : Jvm.MethodName) ∈ WS := WS_3 131 (by decide +kernel) rfl
theorem wc_X6_fails : Jvm.Cond.code ({ cls := "RetryStormModel", name := "fails", desc := "(II)V" } : Jvm.MethodName) prog_8_method_23_code (6 : Nat) (Option.none : Option Jvm.ClassFile.FieldType) ∈ WS := WS_3 132 rfl rfl
theorem wm_X6_64 : Jvm.Cond.methodLink "RetryStormModel" (64 : Nat) ({ cls := "RetryStormModel", name := "delayOf", desc := "(I)I" } : Jvm.MethodName) ∈ WS := WS_3 133 (by decide +kernel) rfl
theorem wi_X6_delayOf : Jvm.Cond.instanceMethod ({ cls := "RetryStormModel", name := "delayOf", desc := "(I)I" } : Jvm.MethodName) ∈ WS := WS_3 135 (by decide +kernel) rfl
theorem wc_X6_delayOf : Jvm.Cond.code ({ cls := "RetryStormModel", name := "delayOf", desc := "(I)I" } : Jvm.MethodName) prog_8_method_22_code (7 : Nat) (Option.some Jvm.ClassFile.FieldType.int) ∈ WS := WS_3 136 rfl rfl
theorem wm_X6_56 : Jvm.Cond.methodLink "RetryStormModel" (56 : Nat) ({ cls := "RetryStormModel", name := "draws", desc := "()I" } : Jvm.MethodName) ∈ WS := WS_3 137 (by decide +kernel) rfl
theorem wi_X6_draws : Jvm.Cond.instanceMethod ({ cls := "RetryStormModel", name := "draws", desc := "()I" } : Jvm.MethodName) ∈ WS := WS_3 139 (by decide +kernel) rfl
theorem wc_X6_draws : Jvm.Cond.code ({ cls := "RetryStormModel", name := "draws", desc := "()I" } : Jvm.MethodName) prog_8_method_20_code (1 : Nat) (Option.some Jvm.ClassFile.FieldType.int) ∈ WS := WS_3 140 rfl rfl
theorem wq_X6_52 : Jvm.Cond.constant "RetryStormModel" (52 : Nat) (1103515245 : Int32) ∈ WS := WS_3 141 (by decide +kernel) rfl
theorem wm_X6_70 : Jvm.Cond.methodLink "RetryStormModel" (70 : Nat) ({ cls := "RetryStormModel", name := "dies", desc := "(I)V" } : Jvm.MethodName) ∈ WS := WS_3 142 (by decide +kernel) rfl
theorem wi_X6_dies : Jvm.Cond.instanceMethod ({ cls := "RetryStormModel", name := "dies", desc := "(I)V" } : Jvm.MethodName) ∈ WS := WS_3 144 (by decide +kernel) rfl
theorem wc_X6_dies : Jvm.Cond.code ({ cls := "RetryStormModel", name := "dies", desc := "(I)V" } : Jvm.MethodName) prog_8_method_19_code (3 : Nat) (Option.none : Option Jvm.ClassFile.FieldType) ∈ WS := WS_3 145 rfl rfl
theorem wm_X6_96 : Jvm.Cond.methodLink "RetryStormModel" (96 : Nat) ({ cls := "RetryStormModel", name := "pulls", desc := "(III)I" } : Jvm.MethodName) ∈ WS := WS_3 146 (by decide +kernel) rfl
theorem wi_X6_pulls : Jvm.Cond.instanceMethod ({ cls := "RetryStormModel", name := "pulls", desc := "(III)I" } : Jvm.MethodName) ∈ WS := WS_3 148 (by decide +kernel) rfl
theorem wc_X6_pulls : Jvm.Cond.code ({ cls := "RetryStormModel", name := "pulls", desc := "(III)I" } : Jvm.MethodName) prog_8_method_26_code (6 : Nat) (Option.some Jvm.ClassFile.FieldType.int) ∈ WS := WS_3 149 rfl rfl
theorem wm_X6_100 : Jvm.Cond.methodLink "RetryStormModel" (100 : Nat) ({ cls := "RetryStormModel", name := "loses", desc := "(II)V" } : Jvm.MethodName) ∈ WS := WS_3 150 (by decide +kernel) rfl
theorem wi_X6_loses : Jvm.Cond.instanceMethod ({ cls := "RetryStormModel", name := "loses", desc := "(II)V" } : Jvm.MethodName) ∈ WS := WS_3 152 (by decide +kernel) rfl
theorem wc_X6_loses : Jvm.Cond.code ({ cls := "RetryStormModel", name := "loses", desc := "(II)V" } : Jvm.MethodName) prog_8_method_25_code (4 : Nat) (Option.none : Option Jvm.ClassFile.FieldType) ∈ WS := WS_3 153 rfl rfl
theorem wm_X6_74 : Jvm.Cond.methodLink "RetryStormModel" (74 : Nat) ({ cls := "RetryStormModel", name := "slot", desc := "(I)I" } : Jvm.MethodName) ∈ WS := WS_3 154 (by decide +kernel) rfl
theorem wi_X6_slot : Jvm.Cond.instanceMethod ({ cls := "RetryStormModel", name := "slot", desc := "(I)I" } : Jvm.MethodName) ∈ WS := WS_3 156 (by decide +kernel) rfl
theorem wc_X6_slot : Jvm.Cond.code ({ cls := "RetryStormModel", name := "slot", desc := "(I)I" } : Jvm.MethodName) prog_8_method_17_code (2 : Nat) (Option.some Jvm.ClassFile.FieldType.int) ∈ WS := WS_3 157 rfl rfl
theorem wm_X6_80 : Jvm.Cond.methodLink "RetryStormModel" (80 : Nat) ({ cls := "RetryStormModel", name := "leaves", desc := "(IZ)V" } : Jvm.MethodName) ∈ WS := WS_3 158 (by decide +kernel) rfl
theorem wi_X6_leaves : Jvm.Cond.instanceMethod ({ cls := "RetryStormModel", name := "leaves", desc := "(IZ)V" } : Jvm.MethodName) ∈ WS := WS_3 160 (by decide +kernel) rfl
theorem wc_X6_leaves : Jvm.Cond.code ({ cls := "RetryStormModel", name := "leaves", desc := "(IZ)V" } : Jvm.MethodName) prog_8_method_24_code (4 : Nat) (Option.none : Option Jvm.ClassFile.FieldType) ∈ WS := WS_3 161 rfl rfl
theorem wm_X6_84 : Jvm.Cond.methodLink "RetryStormModel" (84 : Nat) ({ cls := "RetryStormModel", name := "placeOf", desc := "(I)I" } : Jvm.MethodName) ∈ WS := WS_3 162 (by decide +kernel) rfl
theorem wi_X6_placeOf : Jvm.Cond.instanceMethod ({ cls := "RetryStormModel", name := "placeOf", desc := "(I)I" } : Jvm.MethodName) ∈ WS := WS_3 164 (by decide +kernel) rfl
theorem wc_X6_placeOf : Jvm.Cond.code ({ cls := "RetryStormModel", name := "placeOf", desc := "(I)I" } : Jvm.MethodName) prog_8_method_18_code (3 : Nat) (Option.some Jvm.ClassFile.FieldType.int) ∈ WS := WS_3 165 rfl rfl
theorem wm_X6_103 : Jvm.Cond.methodLink "RetryStormModel" (103 : Nat) ({ cls := "RetryStormModel", name := "freeSlot", desc := "()I" } : Jvm.MethodName) ∈ WS := WS_3 166 (by decide +kernel) rfl
theorem wi_X6_freeSlot : Jvm.Cond.instanceMethod ({ cls := "RetryStormModel", name := "freeSlot", desc := "()I" } : Jvm.MethodName) ∈ WS := WS_3 168 (by decide +kernel) rfl
theorem wc_X6_freeSlot : Jvm.Cond.code ({ cls := "RetryStormModel", name := "freeSlot", desc := "()I" } : Jvm.MethodName) prog_8_method_28_code (2 : Nat) (Option.some Jvm.ClassFile.FieldType.int) ∈ WS := WS_3 169 rfl rfl
theorem wm_X6_106 : Jvm.Cond.methodLink "RetryStormModel" (106 : Nat) ({ cls := "RetryStormModel", name := "joins", desc := "(III)V" } : Jvm.MethodName) ∈ WS := WS_3 170 (by decide +kernel) rfl
theorem wi_X6_joins : Jvm.Cond.instanceMethod ({ cls := "RetryStormModel", name := "joins", desc := "(III)V" } : Jvm.MethodName) ∈ WS := WS_3 172 (by decide +kernel) rfl
theorem wc_X6_joins : Jvm.Cond.code ({ cls := "RetryStormModel", name := "joins", desc := "(III)V" } : Jvm.MethodName) prog_8_method_27_code (4 : Nat) (Option.none : Option Jvm.ClassFile.FieldType) ∈ WS := WS_3 173 rfl rfl
theorem wm_X6_136 : Jvm.Cond.methodLink "RetryStormModel" (136 : Nat) ({ cls := "RetryStormModel", name := "gathers", desc := "(I)I" } : Jvm.MethodName) ∈ WS := WS_3 174 (by decide +kernel) rfl
theorem wi_X6_gathers : Jvm.Cond.instanceMethod ({ cls := "RetryStormModel", name := "gathers", desc := "(I)I" } : Jvm.MethodName) ∈ WS := WS_3 176 (by decide +kernel) rfl
theorem wc_X6_gathers : Jvm.Cond.code ({ cls := "RetryStormModel", name := "gathers", desc := "(I)I" } : Jvm.MethodName) prog_8_method_42_code (4 : Nat) (Option.some Jvm.ClassFile.FieldType.int) ∈ WS := WS_3 177 rfl rfl
theorem wm_X6_139 : Jvm.Cond.methodLink "RetryStormModel" (139 : Nat) ({ cls := "RetryStormModel", name := "takesBack", desc := "(I)V" } : Jvm.MethodName) ∈ WS := WS_3 178 (by decide +kernel) rfl
theorem wi_X6_takesBack : Jvm.Cond.instanceMethod ({ cls := "RetryStormModel", name := "takesBack", desc := "(I)V" } : Jvm.MethodName) ∈ WS := WS_3 180 (by decide +kernel) rfl
theorem wc_X6_takesBack : Jvm.Cond.code ({ cls := "RetryStormModel", name := "takesBack", desc := "(I)V" } : Jvm.MethodName) prog_8_method_34_code (3 : Nat) (Option.none : Option Jvm.ClassFile.FieldType) ∈ WS := WS_3 181 rfl rfl
theorem wm_X6_112 : Jvm.Cond.methodLink "RetryStormModel" (112 : Nat) ({ cls := "RetryStormModel", name := "left", desc := "(I)I" } : Jvm.MethodName) ∈ WS := WS_3 182 (by decide +kernel) rfl
theorem wi_X6_left : Jvm.Cond.instanceMethod ({ cls := "RetryStormModel", name := "left", desc := "(I)I" } : Jvm.MethodName) ∈ WS := WS_3 184 (by decide +kernel) rfl
theorem wc_X6_left : Jvm.Cond.code ({ cls := "RetryStormModel", name := "left", desc := "(I)I" } : Jvm.MethodName) prog_8_method_33_code (2 : Nat) (Option.some Jvm.ClassFile.FieldType.int) ∈ WS := WS_3 185 rfl rfl
theorem wm_X6_142 : Jvm.Cond.methodLink "RetryStormModel" (142 : Nat) ({ cls := "RetryStormModel", name := "takesFront", desc := "(I)V" } : Jvm.MethodName) ∈ WS := WS_3 186 (by decide +kernel) rfl
theorem wi_X6_takesFront : Jvm.Cond.instanceMethod ({ cls := "RetryStormModel", name := "takesFront", desc := "(I)V" } : Jvm.MethodName) ∈ WS := WS_3 188 (by decide +kernel) rfl
theorem wc_X6_takesFront : Jvm.Cond.code ({ cls := "RetryStormModel", name := "takesFront", desc := "(I)V" } : Jvm.MethodName) prog_8_method_36_code (3 : Nat) (Option.none : Option Jvm.ClassFile.FieldType) ∈ WS := WS_3 189 rfl rfl
theorem wm_X6_115 : Jvm.Cond.methodLink "RetryStormModel" (115 : Nat) ({ cls := "RetryStormModel", name := "chosen", desc := "()I" } : Jvm.MethodName) ∈ WS := WS_3 190 (by decide +kernel) rfl
theorem wi_X6_chosen : Jvm.Cond.instanceMethod ({ cls := "RetryStormModel", name := "chosen", desc := "()I" } : Jvm.MethodName) ∈ WS := WS_3 192 (by decide +kernel) rfl
theorem wc_X6_chosen : Jvm.Cond.code ({ cls := "RetryStormModel", name := "chosen", desc := "()I" } : Jvm.MethodName) prog_8_method_35_code (4 : Nat) (Option.some Jvm.ClassFile.FieldType.int) ∈ WS := WS_3 193 rfl rfl
theorem wm_X6_145 : Jvm.Cond.methodLink "RetryStormModel" (145 : Nat) ({ cls := "RetryStormModel", name := "works", desc := "()V" } : Jvm.MethodName) ∈ WS := WS_3 194 (by decide +kernel) rfl
theorem wi_X6_works : Jvm.Cond.instanceMethod ({ cls := "RetryStormModel", name := "works", desc := "()V" } : Jvm.MethodName) ∈ WS := WS_3 196 (by decide +kernel) rfl
theorem wc_X6_works : Jvm.Cond.code ({ cls := "RetryStormModel", name := "works", desc := "()V" } : Jvm.MethodName) prog_8_method_37_code (4 : Nat) (Option.none : Option Jvm.ClassFile.FieldType) ∈ WS := WS_3 197 rfl rfl
theorem wm_X6_148 : Jvm.Cond.methodLink "RetryStormModel" (148 : Nat) ({ cls := "RetryStormModel", name := "finishesBack", desc := "(I)V" } : Jvm.MethodName) ∈ WS := WS_3 198 (by decide +kernel) rfl
theorem wi_X6_finishesBack : Jvm.Cond.instanceMethod ({ cls := "RetryStormModel", name := "finishesBack", desc := "(I)V" } : Jvm.MethodName) ∈ WS := WS_3 200 (by decide +kernel) rfl
theorem wc_X6_finishesBack : Jvm.Cond.code ({ cls := "RetryStormModel", name := "finishesBack", desc := "(I)V" } : Jvm.MethodName) prog_8_method_39_code (3 : Nat) (Option.none : Option Jvm.ClassFile.FieldType) ∈ WS := WS_3 201 rfl rfl
theorem wm_X6_121 : Jvm.Cond.methodLink "RetryStormModel" (121 : Nat) ({ cls := "RetryStormModel", name := "answers", desc := "(I)V" } : Jvm.MethodName) ∈ WS := WS_3 202 (by decide +kernel) rfl
theorem wi_X6_answers : Jvm.Cond.instanceMethod ({ cls := "RetryStormModel", name := "answers", desc := "(I)V" } : Jvm.MethodName) ∈ WS := WS_3 204 (by decide +kernel) rfl
theorem wc_X6_answers : Jvm.Cond.code ({ cls := "RetryStormModel", name := "answers", desc := "(I)V" } : Jvm.MethodName) prog_8_method_38_code (5 : Nat) (Option.none : Option Jvm.ClassFile.FieldType) ∈ WS := WS_3 205 rfl rfl
theorem wm_X6_151 : Jvm.Cond.methodLink "RetryStormModel" (151 : Nat) ({ cls := "RetryStormModel", name := "finishesFront", desc := "(I)V" } : Jvm.MethodName) ∈ WS := WS_3 206 (by decide +kernel) rfl
theorem wi_X6_finishesFront : Jvm.Cond.instanceMethod ({ cls := "RetryStormModel", name := "finishesFront", desc := "(I)V" } : Jvm.MethodName) ∈ WS := WS_3 208 (by decide +kernel) rfl
theorem wc_X6_finishesFront : Jvm.Cond.code ({ cls := "RetryStormModel", name := "finishesFront", desc := "(I)V" } : Jvm.MethodName) prog_8_method_40_code (3 : Nat) (Option.none : Option Jvm.ClassFile.FieldType) ∈ WS := WS_3 209 rfl rfl
theorem wm_X6_154 : Jvm.Cond.methodLink "RetryStormModel" (154 : Nat) ({ cls := "RetryStormModel", name := "abandons", desc := "(I)V" } : Jvm.MethodName) ∈ WS := WS_3 210 (by decide +kernel) rfl
theorem wi_X6_abandons : Jvm.Cond.instanceMethod ({ cls := "RetryStormModel", name := "abandons", desc := "(I)V" } : Jvm.MethodName) ∈ WS := WS_3 212 (by decide +kernel) rfl
theorem wc_X6_abandons : Jvm.Cond.code ({ cls := "RetryStormModel", name := "abandons", desc := "(I)V" } : Jvm.MethodName) prog_8_method_43_code (4 : Nat) (Option.none : Option Jvm.ClassFile.FieldType) ∈ WS := WS_3 213 rfl rfl
theorem wm_X6_124 : Jvm.Cond.methodLink "RetryStormModel" (124 : Nat) ({ cls := "RetryStormModel", name := "cancels", desc := "(I)V" } : Jvm.MethodName) ∈ WS := WS_3 214 (by decide +kernel) rfl
theorem wi_X6_cancels : Jvm.Cond.instanceMethod ({ cls := "RetryStormModel", name := "cancels", desc := "(I)V" } : Jvm.MethodName) ∈ WS := WS_3 216 (by decide +kernel) rfl
theorem wc_X6_cancels : Jvm.Cond.code ({ cls := "RetryStormModel", name := "cancels", desc := "(I)V" } : Jvm.MethodName) prog_8_method_41_code (3 : Nat) (Option.none : Option Jvm.ClassFile.FieldType) ∈ WS := WS_3 217 rfl rfl
theorem wm_L_49 : Jvm.Cond.methodLink "RetryStormLaw" (49 : Nat) ({ cls := "RetryStormModel", name := "ifRun", desc := "(II)I" } : Jvm.MethodName) ∈ WS := WS_3 218 (by decide +kernel) rfl
theorem wi_X6_ifRun : Jvm.Cond.instanceMethod ({ cls := "RetryStormModel", name := "ifRun", desc := "(II)I" } : Jvm.MethodName) ∈ WS := WS_3 219 (by decide +kernel) rfl
theorem we_X6_ifRun : Jvm.Cond.selects "RetryStormModel" ({ cls := "RetryStormModel", name := "ifRun", desc := "(II)I" } : Jvm.MethodName) ({ cls := "RetryStormModel", name := "ifRun", desc := "(II)I" } : Jvm.MethodName) ∈ WS := WS_3 220 (by decide +kernel) rfl
theorem wc_X6_ifRun : Jvm.Cond.code ({ cls := "RetryStormModel", name := "ifRun", desc := "(II)I" } : Jvm.MethodName) prog_8_method_48_code (3 : Nat) (Option.some Jvm.ClassFile.FieldType.int) ∈ WS := WS_3 221 rfl rfl
theorem wm_X6_163 : Jvm.Cond.methodLink "RetryStormModel" (163 : Nat) ({ cls := "RetryStormModel", name := "tries", desc := "(II)I" } : Jvm.MethodName) ∈ WS := WS_3 222 (by decide +kernel) rfl
theorem wi_X6_tries : Jvm.Cond.instanceMethod ({ cls := "RetryStormModel", name := "tries", desc := "(II)I" } : Jvm.MethodName) ∈ WS := WS_3 224 (by decide +kernel) rfl
theorem wc_X6_tries : Jvm.Cond.code ({ cls := "RetryStormModel", name := "tries", desc := "(II)I" } : Jvm.MethodName) prog_8_method_47_code (5 : Nat) (Option.some Jvm.ClassFile.FieldType.int) ∈ WS := WS_3 225 rfl rfl
theorem wm_L_53 : Jvm.Cond.methodLink "RetryStormLaw" (53 : Nat) ({ cls := "RetryStormModel", name := "bestDiscipline", desc := "(I)I" } : Jvm.MethodName) ∈ WS := WS_3 226 (by decide +kernel) rfl
theorem wi_X6_bestDiscipline : Jvm.Cond.instanceMethod ({ cls := "RetryStormModel", name := "bestDiscipline", desc := "(I)I" } : Jvm.MethodName) ∈ WS := WS_3 227 (by decide +kernel) rfl
theorem we_X6_bestDiscipline : Jvm.Cond.selects "RetryStormModel" ({ cls := "RetryStormModel", name := "bestDiscipline", desc := "(I)I" } : Jvm.MethodName) ({ cls := "RetryStormModel", name := "bestDiscipline", desc := "(I)I" } : Jvm.MethodName) ∈ WS := WS_3 228 (by decide +kernel) rfl
theorem wc_X6_bestDiscipline : Jvm.Cond.code ({ cls := "RetryStormModel", name := "bestDiscipline", desc := "(I)I" } : Jvm.MethodName) prog_8_method_49_code (6 : Nat) (Option.some Jvm.ClassFile.FieldType.int) ∈ WS := WS_3 229 rfl rfl
theorem wm_L_57 : Jvm.Cond.methodLink "RetryStormLaw" (57 : Nat) ({ cls := "RetryStormModel", name := "count", desc := "(II)I" } : Jvm.MethodName) ∈ WS := WS_3 230 (by decide +kernel) rfl
theorem wi_X6_count : Jvm.Cond.instanceMethod ({ cls := "RetryStormModel", name := "count", desc := "(II)I" } : Jvm.MethodName) ∈ WS := WS_3 231 (by decide +kernel) rfl
theorem we_X6_count : Jvm.Cond.selects "RetryStormModel" ({ cls := "RetryStormModel", name := "count", desc := "(II)I" } : Jvm.MethodName) ({ cls := "RetryStormModel", name := "count", desc := "(II)I" } : Jvm.MethodName) ∈ WS := WS_3 232 (by decide +kernel) rfl
theorem wc_X6_count : Jvm.Cond.code ({ cls := "RetryStormModel", name := "count", desc := "(II)I" } : Jvm.MethodName) prog_8_method_50_code (3 : Nat) (Option.some Jvm.ClassFile.FieldType.int) ∈ WS := WS_3 233 rfl rfl
theorem wm_L_61 : Jvm.Cond.methodLink "RetryStormLaw" (61 : Nat) ({ cls := "RetryStormModel", name := "succeededAt", desc := "(II)I" } : Jvm.MethodName) ∈ WS := WS_3 234 (by decide +kernel) rfl
theorem wi_X6_succeededAt : Jvm.Cond.instanceMethod ({ cls := "RetryStormModel", name := "succeededAt", desc := "(II)I" } : Jvm.MethodName) ∈ WS := WS_3 235 (by decide +kernel) rfl
theorem we_X6_succeededAt : Jvm.Cond.selects "RetryStormModel" ({ cls := "RetryStormModel", name := "succeededAt", desc := "(II)I" } : Jvm.MethodName) ({ cls := "RetryStormModel", name := "succeededAt", desc := "(II)I" } : Jvm.MethodName) ∈ WS := WS_3 236 (by decide +kernel) rfl
theorem wc_X6_succeededAt : Jvm.Cond.code ({ cls := "RetryStormModel", name := "succeededAt", desc := "(II)I" } : Jvm.MethodName) prog_8_method_51_code (3 : Nat) (Option.some Jvm.ClassFile.FieldType.int) ∈ WS := WS_3 237 rfl rfl
theorem wm_L_65 : Jvm.Cond.methodLink "RetryStormLaw" (65 : Nat) ({ cls := "RetryStormModel", name := "told", desc := "(I)I" } : Jvm.MethodName) ∈ WS := WS_3 238 (by decide +kernel) rfl
theorem wi_X6_told : Jvm.Cond.instanceMethod ({ cls := "RetryStormModel", name := "told", desc := "(I)I" } : Jvm.MethodName) ∈ WS := WS_3 239 (by decide +kernel) rfl
theorem we_X6_told : Jvm.Cond.selects "RetryStormModel" ({ cls := "RetryStormModel", name := "told", desc := "(I)I" } : Jvm.MethodName) ({ cls := "RetryStormModel", name := "told", desc := "(I)I" } : Jvm.MethodName) ∈ WS := WS_4 0 (by decide +kernel) rfl
theorem wc_X6_told : Jvm.Cond.code ({ cls := "RetryStormModel", name := "told", desc := "(I)I" } : Jvm.MethodName) prog_8_method_55_code (2 : Nat) (Option.some Jvm.ClassFile.FieldType.int) ∈ WS := WS_4 1 rfl rfl
theorem wm_X6_166 : Jvm.Cond.methodLink "RetryStormModel" (166 : Nat) ({ cls := "RetryStormModel", name := "waiting", desc := "()I" } : Jvm.MethodName) ∈ WS := WS_4 2 (by decide +kernel) rfl
theorem wi_X6_waiting : Jvm.Cond.instanceMethod ({ cls := "RetryStormModel", name := "waiting", desc := "()I" } : Jvm.MethodName) ∈ WS := WS_4 4 (by decide +kernel) rfl
theorem wc_X6_waiting : Jvm.Cond.code ({ cls := "RetryStormModel", name := "waiting", desc := "()I" } : Jvm.MethodName) prog_8_method_53_code (3 : Nat) (Option.some Jvm.ClassFile.FieldType.int) ∈ WS := WS_4 5 rfl rfl
theorem wm_X6_169 : Jvm.Cond.methodLink "RetryStormModel" (169 : Nat) ({ cls := "RetryStormModel", name := "busy", desc := "(I)I" } : Jvm.MethodName) ∈ WS := WS_4 6 (by decide +kernel) rfl
theorem wi_X6_busy : Jvm.Cond.instanceMethod ({ cls := "RetryStormModel", name := "busy", desc := "(I)I" } : Jvm.MethodName) ∈ WS := WS_4 8 (by decide +kernel) rfl
theorem wc_X6_busy : Jvm.Cond.code ({ cls := "RetryStormModel", name := "busy", desc := "(I)I" } : Jvm.MethodName) prog_8_method_52_code (4 : Nat) (Option.some Jvm.ClassFile.FieldType.int) ∈ WS := WS_4 9 rfl rfl
theorem wm_X6_172 : Jvm.Cond.methodLink "RetryStormModel" (172 : Nat) ({ cls := "RetryStormModel", name := "pending", desc := "()I" } : Jvm.MethodName) ∈ WS := WS_4 10 (by decide +kernel) rfl
theorem wi_X6_pending : Jvm.Cond.instanceMethod ({ cls := "RetryStormModel", name := "pending", desc := "()I" } : Jvm.MethodName) ∈ WS := WS_4 12 (by decide +kernel) rfl
theorem wc_X6_pending : Jvm.Cond.code ({ cls := "RetryStormModel", name := "pending", desc := "()I" } : Jvm.MethodName) prog_8_method_54_code (3 : Nat) (Option.some Jvm.ClassFile.FieldType.int) ∈ WS := WS_4 13 rfl rfl
theorem wm_L_69 : Jvm.Cond.methodLink "RetryStormLaw" (69 : Nat) ({ cls := "RetryStormModel", name := "live", desc := "(I)I" } : Jvm.MethodName) ∈ WS := WS_4 14 (by decide +kernel) rfl
theorem wi_X6_live : Jvm.Cond.instanceMethod ({ cls := "RetryStormModel", name := "live", desc := "(I)I" } : Jvm.MethodName) ∈ WS := WS_4 15 (by decide +kernel) rfl
theorem we_X6_live : Jvm.Cond.selects "RetryStormModel" ({ cls := "RetryStormModel", name := "live", desc := "(I)I" } : Jvm.MethodName) ({ cls := "RetryStormModel", name := "live", desc := "(I)I" } : Jvm.MethodName) ∈ WS := WS_4 16 (by decide +kernel) rfl
theorem wc_X6_live : Jvm.Cond.code ({ cls := "RetryStormModel", name := "live", desc := "(I)I" } : Jvm.MethodName) prog_8_method_56_code (2 : Nat) (Option.some Jvm.ClassFile.FieldType.int) ∈ WS := WS_4 17 rfl rfl
theorem wm_L_73 : Jvm.Cond.methodLink "RetryStormLaw" (73 : Nat) ({ cls := "RetryStormModel", name := "request", desc := "(II)I" } : Jvm.MethodName) ∈ WS := WS_4 18 (by decide +kernel) rfl
theorem wi_X6_request : Jvm.Cond.instanceMethod ({ cls := "RetryStormModel", name := "request", desc := "(II)I" } : Jvm.MethodName) ∈ WS := WS_4 19 (by decide +kernel) rfl
theorem we_X6_request : Jvm.Cond.selects "RetryStormModel" ({ cls := "RetryStormModel", name := "request", desc := "(II)I" } : Jvm.MethodName) ({ cls := "RetryStormModel", name := "request", desc := "(II)I" } : Jvm.MethodName) ∈ WS := WS_4 20 (by decide +kernel) rfl
theorem wc_X6_request : Jvm.Cond.code ({ cls := "RetryStormModel", name := "request", desc := "(II)I" } : Jvm.MethodName) prog_8_method_58_code (4 : Nat) (Option.some Jvm.ClassFile.FieldType.int) ∈ WS := WS_4 21 rfl rfl
theorem wm_X6_175 : Jvm.Cond.methodLink "RetryStormModel" (175 : Nat) ({ cls := "RetryStormModel", name := "propertyOf", desc := "(II)I" } : Jvm.MethodName) ∈ WS := WS_4 22 (by decide +kernel) rfl
theorem wi_X6_propertyOf : Jvm.Cond.instanceMethod ({ cls := "RetryStormModel", name := "propertyOf", desc := "(II)I" } : Jvm.MethodName) ∈ WS := WS_4 24 (by decide +kernel) rfl
theorem wc_X6_propertyOf : Jvm.Cond.code ({ cls := "RetryStormModel", name := "propertyOf", desc := "(II)I" } : Jvm.MethodName) prog_8_method_57_code (3 : Nat) (Option.some Jvm.ClassFile.FieldType.int) ∈ WS := WS_4 25 rfl rfl
theorem wm_L_78 : Jvm.Cond.methodLink "RetryStormLaw" (78 : Nat) ({ cls := "RetryStormModel", name := "queued", desc := "(ZI)I" } : Jvm.MethodName) ∈ WS := WS_4 26 (by decide +kernel) rfl
theorem wi_X6_queued : Jvm.Cond.instanceMethod ({ cls := "RetryStormModel", name := "queued", desc := "(ZI)I" } : Jvm.MethodName) ∈ WS := WS_4 27 (by decide +kernel) rfl
theorem we_X6_queued : Jvm.Cond.selects "RetryStormModel" ({ cls := "RetryStormModel", name := "queued", desc := "(ZI)I" } : Jvm.MethodName) ({ cls := "RetryStormModel", name := "queued", desc := "(ZI)I" } : Jvm.MethodName) ∈ WS := WS_4 28 (by decide +kernel) rfl
theorem wc_X6_queued : Jvm.Cond.code ({ cls := "RetryStormModel", name := "queued", desc := "(ZI)I" } : Jvm.MethodName) prog_8_method_60_code (3 : Nat) (Option.some Jvm.ClassFile.FieldType.int) ∈ WS := WS_4 29 rfl rfl
theorem wm_X6_178 : Jvm.Cond.methodLink "RetryStormModel" (178 : Nat) ({ cls := "RetryStormModel", name := "ownerOf", desc := "(I)I" } : Jvm.MethodName) ∈ WS := WS_4 30 (by decide +kernel) rfl
theorem wi_X6_ownerOf : Jvm.Cond.instanceMethod ({ cls := "RetryStormModel", name := "ownerOf", desc := "(I)I" } : Jvm.MethodName) ∈ WS := WS_4 32 (by decide +kernel) rfl
theorem wc_X6_ownerOf : Jvm.Cond.code ({ cls := "RetryStormModel", name := "ownerOf", desc := "(I)I" } : Jvm.MethodName) prog_8_method_59_code (2 : Nat) (Option.some Jvm.ClassFile.FieldType.int) ∈ WS := WS_4 33 rfl rfl
theorem wm_L_82 : Jvm.Cond.methodLink "RetryStormLaw" (82 : Nat) ({ cls := "RetryStormModel", name := "atWorker", desc := "(ZI)I" } : Jvm.MethodName) ∈ WS := WS_4 34 (by decide +kernel) rfl
theorem wi_X6_atWorker : Jvm.Cond.instanceMethod ({ cls := "RetryStormModel", name := "atWorker", desc := "(ZI)I" } : Jvm.MethodName) ∈ WS := WS_4 35 (by decide +kernel) rfl
theorem we_X6_atWorker : Jvm.Cond.selects "RetryStormModel" ({ cls := "RetryStormModel", name := "atWorker", desc := "(ZI)I" } : Jvm.MethodName) ({ cls := "RetryStormModel", name := "atWorker", desc := "(ZI)I" } : Jvm.MethodName) ∈ WS := WS_4 36 (by decide +kernel) rfl
theorem wc_X6_atWorker : Jvm.Cond.code ({ cls := "RetryStormModel", name := "atWorker", desc := "(ZI)I" } : Jvm.MethodName) prog_8_method_61_code (3 : Nat) (Option.some Jvm.ClassFile.FieldType.int) ∈ WS := WS_4 37 rfl rfl
theorem wm_L_86 : Jvm.Cond.methodLink "RetryStormLaw" (86 : Nat) ({ cls := "RetryStormModel", name := "window", desc := "(II)I" } : Jvm.MethodName) ∈ WS := WS_4 38 (by decide +kernel) rfl
theorem wi_X6_window : Jvm.Cond.instanceMethod ({ cls := "RetryStormModel", name := "window", desc := "(II)I" } : Jvm.MethodName) ∈ WS := WS_4 39 (by decide +kernel) rfl
theorem we_X6_window : Jvm.Cond.selects "RetryStormModel" ({ cls := "RetryStormModel", name := "window", desc := "(II)I" } : Jvm.MethodName) ({ cls := "RetryStormModel", name := "window", desc := "(II)I" } : Jvm.MethodName) ∈ WS := WS_4 40 (by decide +kernel) rfl
theorem wc_X6_window : Jvm.Cond.code ({ cls := "RetryStormModel", name := "window", desc := "(II)I" } : Jvm.MethodName) prog_8_method_63_code (5 : Nat) (Option.some Jvm.ClassFile.FieldType.int) ∈ WS := WS_4 41 rfl rfl
theorem wm_X6_181 : Jvm.Cond.methodLink "RetryStormModel" (181 : Nat) ({ cls := "RetryStormModel", name := "past", desc := "(II)I" } : Jvm.MethodName) ∈ WS := WS_4 42 (by decide +kernel) rfl
theorem wi_X6_past : Jvm.Cond.instanceMethod ({ cls := "RetryStormModel", name := "past", desc := "(II)I" } : Jvm.MethodName) ∈ WS := WS_4 44 (by decide +kernel) rfl
theorem wc_X6_past : Jvm.Cond.code ({ cls := "RetryStormModel", name := "past", desc := "(II)I" } : Jvm.MethodName) prog_8_method_62_code (3 : Nat) (Option.some Jvm.ClassFile.FieldType.int) ∈ WS := WS_4 45 rfl rfl
theorem wm_L_90 : Jvm.Cond.methodLink "RetryStormLaw" (90 : Nat) ({ cls := "RetryStormModel", name := "quiet", desc := "(I)I" } : Jvm.MethodName) ∈ WS := WS_4 46 (by decide +kernel) rfl
theorem wi_X6_quiet : Jvm.Cond.instanceMethod ({ cls := "RetryStormModel", name := "quiet", desc := "(I)I" } : Jvm.MethodName) ∈ WS := WS_4 47 (by decide +kernel) rfl
theorem we_X6_quiet : Jvm.Cond.selects "RetryStormModel" ({ cls := "RetryStormModel", name := "quiet", desc := "(I)I" } : Jvm.MethodName) ({ cls := "RetryStormModel", name := "quiet", desc := "(I)I" } : Jvm.MethodName) ∈ WS := WS_4 48 (by decide +kernel) rfl
theorem wc_X6_quiet : Jvm.Cond.code ({ cls := "RetryStormModel", name := "quiet", desc := "(I)I" } : Jvm.MethodName) prog_8_method_65_code (3 : Nat) (Option.some Jvm.ClassFile.FieldType.int) ∈ WS := WS_4 49 rfl rfl
theorem wm_X6_184 : Jvm.Cond.methodLink "RetryStormModel" (184 : Nat) ({ cls := "RetryStormModel", name := "known", desc := "()I" } : Jvm.MethodName) ∈ WS := WS_4 50 (by decide +kernel) rfl
theorem wi_X6_known : Jvm.Cond.instanceMethod ({ cls := "RetryStormModel", name := "known", desc := "()I" } : Jvm.MethodName) ∈ WS := WS_4 52 (by decide +kernel) rfl
theorem wc_X6_known : Jvm.Cond.code ({ cls := "RetryStormModel", name := "known", desc := "()I" } : Jvm.MethodName) prog_8_method_64_code (1 : Nat) (Option.some Jvm.ClassFile.FieldType.int) ∈ WS := WS_4 53 rfl rfl
theorem wm_L_94 : Jvm.Cond.methodLink "RetryStormLaw" (94 : Nat) ({ cls := "RetryStormModel", name := "recovery", desc := "(II)I" } : Jvm.MethodName) ∈ WS := WS_4 54 (by decide +kernel) rfl
theorem wi_X6_recovery : Jvm.Cond.instanceMethod ({ cls := "RetryStormModel", name := "recovery", desc := "(II)I" } : Jvm.MethodName) ∈ WS := WS_4 55 (by decide +kernel) rfl
theorem we_X6_recovery : Jvm.Cond.selects "RetryStormModel" ({ cls := "RetryStormModel", name := "recovery", desc := "(II)I" } : Jvm.MethodName) ({ cls := "RetryStormModel", name := "recovery", desc := "(II)I" } : Jvm.MethodName) ∈ WS := WS_4 56 (by decide +kernel) rfl
theorem wc_X6_recovery : Jvm.Cond.code ({ cls := "RetryStormModel", name := "recovery", desc := "(II)I" } : Jvm.MethodName) prog_8_method_66_code (5 : Nat) (Option.some Jvm.ClassFile.FieldType.int) ∈ WS := WS_4 57 rfl rfl
theorem wm_L_99 : Jvm.Cond.methodLink "RetryStormLaw" (99 : Nat) ({ cls := "RetryStormModel", name := "amplification", desc := "()I" } : Jvm.MethodName) ∈ WS := WS_4 58 (by decide +kernel) rfl
theorem wi_X6_amplification : Jvm.Cond.instanceMethod ({ cls := "RetryStormModel", name := "amplification", desc := "()I" } : Jvm.MethodName) ∈ WS := WS_4 59 (by decide +kernel) rfl
theorem we_X6_amplification : Jvm.Cond.selects "RetryStormModel" ({ cls := "RetryStormModel", name := "amplification", desc := "()I" } : Jvm.MethodName) ({ cls := "RetryStormModel", name := "amplification", desc := "()I" } : Jvm.MethodName) ∈ WS := WS_4 60 (by decide +kernel) rfl
theorem wc_X6_amplification : Jvm.Cond.code ({ cls := "RetryStormModel", name := "amplification", desc := "()I" } : Jvm.MethodName) prog_8_method_67_code (6 : Nat) (Option.some Jvm.ClassFile.FieldType.int) ∈ WS := WS_4 61 rfl rfl
theorem wq_X6_187 : Jvm.Cond.constantLong "RetryStormModel" (187 : Nat) (100 : Int64) ∈ WS := WS_4 62 (by decide +kernel) rfl
theorem wm_L_103 : Jvm.Cond.methodLink "RetryStormLaw" (103 : Nat) ({ cls := "RetryStormModel", name := "undo", desc := "()I" } : Jvm.MethodName) ∈ WS := WS_4 63 (by decide +kernel) rfl
theorem wi_X6_undo : Jvm.Cond.instanceMethod ({ cls := "RetryStormModel", name := "undo", desc := "()I" } : Jvm.MethodName) ∈ WS := WS_4 64 (by decide +kernel) rfl
theorem we_X6_undo : Jvm.Cond.selects "RetryStormModel" ({ cls := "RetryStormModel", name := "undo", desc := "()I" } : Jvm.MethodName) ({ cls := "RetryStormModel", name := "undo", desc := "()I" } : Jvm.MethodName) ∈ WS := WS_4 65 (by decide +kernel) rfl
theorem wc_X6_undo : Jvm.Cond.code ({ cls := "RetryStormModel", name := "undo", desc := "()I" } : Jvm.MethodName) prog_8_method_68_code (1 : Nat) (Option.some Jvm.ClassFile.FieldType.int) ∈ WS := WS_4 66 rfl rfl
theorem wm_L_108 : Jvm.Cond.methodLink "RetryStormLaw" (108 : Nat) ({ cls := "RetryStormModel", name := "digest", desc := "()J" } : Jvm.MethodName) ∈ WS := WS_4 67 (by decide +kernel) rfl
theorem wi_X6_digest : Jvm.Cond.instanceMethod ({ cls := "RetryStormModel", name := "digest", desc := "()J" } : Jvm.MethodName) ∈ WS := WS_4 68 (by decide +kernel) rfl
theorem we_X6_digest : Jvm.Cond.selects "RetryStormModel" ({ cls := "RetryStormModel", name := "digest", desc := "()J" } : Jvm.MethodName) ({ cls := "RetryStormModel", name := "digest", desc := "()J" } : Jvm.MethodName) ∈ WS := WS_4 69 (by decide +kernel) rfl
theorem wc_X6_digest : Jvm.Cond.code ({ cls := "RetryStormModel", name := "digest", desc := "()J" } : Jvm.MethodName) prog_8_method_70_code (5 : Nat) (Option.some Jvm.ClassFile.FieldType.long) ∈ WS := WS_4 70 rfl rfl
theorem wq_X6_191 : Jvm.Cond.constantLong "RetryStormModel" (191 : Nat) (18520 : Int64) ∈ WS := WS_4 71 (by decide +kernel) rfl
theorem wq_X6_189 : Jvm.Cond.constantLong "RetryStormModel" (189 : Nat) (31 : Int64) ∈ WS := WS_4 72 (by decide +kernel) rfl
theorem wm_X6_193 : Jvm.Cond.methodLink "RetryStormModel" (193 : Nat) ({ cls := "RetryStormModel", name := "told", desc := "(I)I" } : Jvm.MethodName) ∈ WS := WS_4 73 (by decide +kernel) rfl
theorem wm_X6_196 : Jvm.Cond.methodLink "RetryStormModel" (196 : Nat) ({ cls := "RetryStormModel", name := "mixedClient", desc := "(JI)J" } : Jvm.MethodName) ∈ WS := WS_4 74 (by decide +kernel) rfl
theorem wi_X6_mixedClient : Jvm.Cond.instanceMethod ({ cls := "RetryStormModel", name := "mixedClient", desc := "(JI)J" } : Jvm.MethodName) ∈ WS := WS_4 76 (by decide +kernel) rfl
theorem wc_X6_mixedClient : Jvm.Cond.code ({ cls := "RetryStormModel", name := "mixedClient", desc := "(JI)J" } : Jvm.MethodName) prog_8_method_69_code (7 : Nat) (Option.some Jvm.ClassFile.FieldType.long) ∈ WS := WS_4 77 rfl rfl
theorem wm_X6_200 : Jvm.Cond.methodLink "RetryStormModel" (200 : Nat) ({ cls := "RetryStormModel", name := "amplification", desc := "()I" } : Jvm.MethodName) ∈ WS := WS_4 78 (by decide +kernel) rfl
theorem we_X5_keepState : Cond.selects "RetryStorm" (⟨"RetryStorm", "keepState", "()V"⟩ : MethodName) ⟨"RetryStorm", "keepState", "()V"⟩ ∈ WS := WS_p1 (y := ⟨"RetryStorm", "keepState", "()V"⟩) (n := 4) 0 rfl
theorem we_X5_dropOldestRecord : Cond.selects "RetryStorm" (⟨"RetryStorm", "dropOldestRecord", "()V"⟩ : MethodName) ⟨"RetryStorm", "dropOldestRecord", "()V"⟩ ∈ WS := WS_p1 (y := ⟨"RetryStorm", "dropOldestRecord", "()V"⟩) (n := 4) 1 rfl
theorem we_X5_isInUseBeyond : Cond.selects "RetryStorm" (⟨"RetryStorm", "isInUseBeyond", "(II)Z"⟩ : MethodName) ⟨"RetryStorm", "isInUseBeyond", "(II)Z"⟩ ∈ WS := WS_p1 (y := ⟨"RetryStorm", "isInUseBeyond", "(II)Z"⟩) (n := 4) 2 rfl
theorem we_X5_goodWorkWith : Cond.selects "RetryStorm" (⟨"RetryStorm", "goodWorkWith", "(II)I"⟩ : MethodName) ⟨"RetryStorm", "goodWorkWith", "(II)I"⟩ ∈ WS := WS_p1 (y := ⟨"RetryStorm", "goodWorkWith", "(II)I"⟩) (n := 4) 3 rfl
theorem we_X5_hashOfClients : Cond.selects "RetryStorm" (⟨"RetryStorm", "hashOfClients", "(J)J"⟩ : MethodName) ⟨"RetryStorm", "hashOfClients", "(J)J"⟩ ∈ WS := WS_p1 (y := ⟨"RetryStorm", "hashOfClients", "(J)J"⟩) (n := 4) 4 rfl
theorem we_X5_hashOfServer : Cond.selects "RetryStorm" (⟨"RetryStorm", "hashOfServer", "(JII)J"⟩ : MethodName) ⟨"RetryStorm", "hashOfServer", "(JII)J"⟩ ∈ WS := WS_p1 (y := ⟨"RetryStorm", "hashOfServer", "(JII)J"⟩) (n := 4) 5 rfl
theorem we_X6_begins : Cond.selects "RetryStormModel" (⟨"RetryStormModel", "begins", "()V"⟩ : MethodName) ⟨"RetryStormModel", "begins", "()V"⟩ ∈ WS := WS_p1 (y := ⟨"RetryStormModel", "begins", "()V"⟩) (n := 10) 6 rfl
theorem we_X6_copies : Cond.selects "RetryStormModel" (⟨"RetryStormModel", "copies", "(II)V"⟩ : MethodName) ⟨"RetryStormModel", "copies", "(II)V"⟩ ∈ WS := WS_p1 (y := ⟨"RetryStormModel", "copies", "(II)V"⟩) (n := 10) 7 rfl
theorem we_X6_of : Cond.selects "RetryStormModel" (⟨"RetryStormModel", "of", "(II)I"⟩ : MethodName) ⟨"RetryStormModel", "of", "(II)I"⟩ ∈ WS := WS_p1 (y := ⟨"RetryStormModel", "of", "(II)I"⟩) (n := 10) 8 rfl
theorem we_X6_runs : Cond.selects "RetryStormModel" (⟨"RetryStormModel", "runs", "(I)I"⟩ : MethodName) ⟨"RetryStormModel", "runs", "(I)I"⟩ ∈ WS := WS_p1 (y := ⟨"RetryStormModel", "runs", "(I)I"⟩) (n := 10) 9 rfl
theorem we_X6_ticks : Cond.selects "RetryStormModel" (⟨"RetryStormModel", "ticks", "()V"⟩ : MethodName) ⟨"RetryStormModel", "ticks", "()V"⟩ ∈ WS := WS_p1 (y := ⟨"RetryStormModel", "ticks", "()V"⟩) (n := 10) 10 rfl
theorem we_X6_isDue : Cond.selects "RetryStormModel" (⟨"RetryStormModel", "isDue", "(I)Z"⟩ : MethodName) ⟨"RetryStormModel", "isDue", "(I)Z"⟩ ∈ WS := WS_p1 (y := ⟨"RetryStormModel", "isDue", "(I)Z"⟩) (n := 10) 11 rfl
theorem we_X6_factorOf : Cond.selects "RetryStormModel" (⟨"RetryStormModel", "factorOf", "(I)I"⟩ : MethodName) ⟨"RetryStormModel", "factorOf", "(I)I"⟩ ∈ WS := WS_p1 (y := ⟨"RetryStormModel", "factorOf", "(I)I"⟩) (n := 10) 12 rfl
theorem we_X6_creates : Cond.selects "RetryStormModel" (⟨"RetryStormModel", "creates", "(I)V"⟩ : MethodName) ⟨"RetryStormModel", "creates", "(I)V"⟩ ∈ WS := WS_p1 (y := ⟨"RetryStormModel", "creates", "(I)V"⟩) (n := 10) 13 rfl
theorem we_X6_counts : Cond.selects "RetryStormModel" (⟨"RetryStormModel", "counts", "(III)V"⟩ : MethodName) ⟨"RetryStormModel", "counts", "(III)V"⟩ ∈ WS := WS_p1 (y := ⟨"RetryStormModel", "counts", "(III)V"⟩) (n := 10) 14 rfl
theorem we_X6_row : Cond.selects "RetryStormModel" (⟨"RetryStormModel", "row", "(I)I"⟩ : MethodName) ⟨"RetryStormModel", "row", "(I)I"⟩ ∈ WS := WS_p1 (y := ⟨"RetryStormModel", "row", "(I)I"⟩) (n := 10) 15 rfl
theorem we_X6_sends : Cond.selects "RetryStormModel" (⟨"RetryStormModel", "sends", "(I)V"⟩ : MethodName) ⟨"RetryStormModel", "sends", "(I)V"⟩ ∈ WS := WS_p2 (y := ⟨"RetryStormModel", "sends", "(I)V"⟩) (n := 10) 0 rfl
theorem we_X6_isOn : Cond.selects "RetryStormModel" (⟨"RetryStormModel", "isOn", "(I)Z"⟩ : MethodName) ⟨"RetryStormModel", "isOn", "(I)Z"⟩ ∈ WS := WS_p2 (y := ⟨"RetryStormModel", "isOn", "(I)Z"⟩) (n := 10) 1 rfl
theorem we_X6_fails : Cond.selects "RetryStormModel" (⟨"RetryStormModel", "fails", "(II)V"⟩ : MethodName) ⟨"RetryStormModel", "fails", "(II)V"⟩ ∈ WS := WS_p2 (y := ⟨"RetryStormModel", "fails", "(II)V"⟩) (n := 10) 2 rfl
theorem we_X6_delayOf : Cond.selects "RetryStormModel" (⟨"RetryStormModel", "delayOf", "(I)I"⟩ : MethodName) ⟨"RetryStormModel", "delayOf", "(I)I"⟩ ∈ WS := WS_p2 (y := ⟨"RetryStormModel", "delayOf", "(I)I"⟩) (n := 10) 3 rfl
theorem we_X6_draws : Cond.selects "RetryStormModel" (⟨"RetryStormModel", "draws", "()I"⟩ : MethodName) ⟨"RetryStormModel", "draws", "()I"⟩ ∈ WS := WS_p2 (y := ⟨"RetryStormModel", "draws", "()I"⟩) (n := 10) 4 rfl
theorem we_X6_dies : Cond.selects "RetryStormModel" (⟨"RetryStormModel", "dies", "(I)V"⟩ : MethodName) ⟨"RetryStormModel", "dies", "(I)V"⟩ ∈ WS := WS_p2 (y := ⟨"RetryStormModel", "dies", "(I)V"⟩) (n := 10) 5 rfl
theorem we_X6_pulls : Cond.selects "RetryStormModel" (⟨"RetryStormModel", "pulls", "(III)I"⟩ : MethodName) ⟨"RetryStormModel", "pulls", "(III)I"⟩ ∈ WS := WS_p2 (y := ⟨"RetryStormModel", "pulls", "(III)I"⟩) (n := 10) 6 rfl
theorem we_X6_loses : Cond.selects "RetryStormModel" (⟨"RetryStormModel", "loses", "(II)V"⟩ : MethodName) ⟨"RetryStormModel", "loses", "(II)V"⟩ ∈ WS := WS_p2 (y := ⟨"RetryStormModel", "loses", "(II)V"⟩) (n := 10) 7 rfl
theorem we_X6_slot : Cond.selects "RetryStormModel" (⟨"RetryStormModel", "slot", "(I)I"⟩ : MethodName) ⟨"RetryStormModel", "slot", "(I)I"⟩ ∈ WS := WS_p2 (y := ⟨"RetryStormModel", "slot", "(I)I"⟩) (n := 10) 8 rfl
theorem we_X6_leaves : Cond.selects "RetryStormModel" (⟨"RetryStormModel", "leaves", "(IZ)V"⟩ : MethodName) ⟨"RetryStormModel", "leaves", "(IZ)V"⟩ ∈ WS := WS_p2 (y := ⟨"RetryStormModel", "leaves", "(IZ)V"⟩) (n := 10) 9 rfl
theorem we_X6_placeOf : Cond.selects "RetryStormModel" (⟨"RetryStormModel", "placeOf", "(I)I"⟩ : MethodName) ⟨"RetryStormModel", "placeOf", "(I)I"⟩ ∈ WS := WS_p2 (y := ⟨"RetryStormModel", "placeOf", "(I)I"⟩) (n := 10) 10 rfl
theorem we_X6_freeSlot : Cond.selects "RetryStormModel" (⟨"RetryStormModel", "freeSlot", "()I"⟩ : MethodName) ⟨"RetryStormModel", "freeSlot", "()I"⟩ ∈ WS := WS_p2 (y := ⟨"RetryStormModel", "freeSlot", "()I"⟩) (n := 10) 11 rfl
theorem we_X6_joins : Cond.selects "RetryStormModel" (⟨"RetryStormModel", "joins", "(III)V"⟩ : MethodName) ⟨"RetryStormModel", "joins", "(III)V"⟩ ∈ WS := WS_p2 (y := ⟨"RetryStormModel", "joins", "(III)V"⟩) (n := 10) 12 rfl
theorem we_X6_gathers : Cond.selects "RetryStormModel" (⟨"RetryStormModel", "gathers", "(I)I"⟩ : MethodName) ⟨"RetryStormModel", "gathers", "(I)I"⟩ ∈ WS := WS_p2 (y := ⟨"RetryStormModel", "gathers", "(I)I"⟩) (n := 10) 13 rfl
theorem we_X6_takesBack : Cond.selects "RetryStormModel" (⟨"RetryStormModel", "takesBack", "(I)V"⟩ : MethodName) ⟨"RetryStormModel", "takesBack", "(I)V"⟩ ∈ WS := WS_p2 (y := ⟨"RetryStormModel", "takesBack", "(I)V"⟩) (n := 10) 14 rfl
theorem we_X6_left : Cond.selects "RetryStormModel" (⟨"RetryStormModel", "left", "(I)I"⟩ : MethodName) ⟨"RetryStormModel", "left", "(I)I"⟩ ∈ WS := WS_p2 (y := ⟨"RetryStormModel", "left", "(I)I"⟩) (n := 10) 15 rfl
theorem we_X6_takesFront : Cond.selects "RetryStormModel" (⟨"RetryStormModel", "takesFront", "(I)V"⟩ : MethodName) ⟨"RetryStormModel", "takesFront", "(I)V"⟩ ∈ WS := WS_p3 (y := ⟨"RetryStormModel", "takesFront", "(I)V"⟩) (n := 10) 0 rfl
theorem we_X6_chosen : Cond.selects "RetryStormModel" (⟨"RetryStormModel", "chosen", "()I"⟩ : MethodName) ⟨"RetryStormModel", "chosen", "()I"⟩ ∈ WS := WS_p3 (y := ⟨"RetryStormModel", "chosen", "()I"⟩) (n := 10) 1 rfl
theorem we_X6_works : Cond.selects "RetryStormModel" (⟨"RetryStormModel", "works", "()V"⟩ : MethodName) ⟨"RetryStormModel", "works", "()V"⟩ ∈ WS := WS_p3 (y := ⟨"RetryStormModel", "works", "()V"⟩) (n := 10) 2 rfl
theorem we_X6_finishesBack : Cond.selects "RetryStormModel" (⟨"RetryStormModel", "finishesBack", "(I)V"⟩ : MethodName) ⟨"RetryStormModel", "finishesBack", "(I)V"⟩ ∈ WS := WS_p3 (y := ⟨"RetryStormModel", "finishesBack", "(I)V"⟩) (n := 10) 3 rfl
theorem we_X6_answers : Cond.selects "RetryStormModel" (⟨"RetryStormModel", "answers", "(I)V"⟩ : MethodName) ⟨"RetryStormModel", "answers", "(I)V"⟩ ∈ WS := WS_p3 (y := ⟨"RetryStormModel", "answers", "(I)V"⟩) (n := 10) 4 rfl
theorem we_X6_finishesFront : Cond.selects "RetryStormModel" (⟨"RetryStormModel", "finishesFront", "(I)V"⟩ : MethodName) ⟨"RetryStormModel", "finishesFront", "(I)V"⟩ ∈ WS := WS_p3 (y := ⟨"RetryStormModel", "finishesFront", "(I)V"⟩) (n := 10) 5 rfl
theorem we_X6_abandons : Cond.selects "RetryStormModel" (⟨"RetryStormModel", "abandons", "(I)V"⟩ : MethodName) ⟨"RetryStormModel", "abandons", "(I)V"⟩ ∈ WS := WS_p3 (y := ⟨"RetryStormModel", "abandons", "(I)V"⟩) (n := 10) 6 rfl
theorem we_X6_cancels : Cond.selects "RetryStormModel" (⟨"RetryStormModel", "cancels", "(I)V"⟩ : MethodName) ⟨"RetryStormModel", "cancels", "(I)V"⟩ ∈ WS := WS_p3 (y := ⟨"RetryStormModel", "cancels", "(I)V"⟩) (n := 10) 7 rfl
theorem we_X6_tries : Cond.selects "RetryStormModel" (⟨"RetryStormModel", "tries", "(II)I"⟩ : MethodName) ⟨"RetryStormModel", "tries", "(II)I"⟩ ∈ WS := WS_p3 (y := ⟨"RetryStormModel", "tries", "(II)I"⟩) (n := 10) 8 rfl
theorem we_X6_waiting : Cond.selects "RetryStormModel" (⟨"RetryStormModel", "waiting", "()I"⟩ : MethodName) ⟨"RetryStormModel", "waiting", "()I"⟩ ∈ WS := WS_p3 (y := ⟨"RetryStormModel", "waiting", "()I"⟩) (n := 10) 9 rfl
theorem we_X6_busy : Cond.selects "RetryStormModel" (⟨"RetryStormModel", "busy", "(I)I"⟩ : MethodName) ⟨"RetryStormModel", "busy", "(I)I"⟩ ∈ WS := WS_p3 (y := ⟨"RetryStormModel", "busy", "(I)I"⟩) (n := 10) 10 rfl
theorem we_X6_pending : Cond.selects "RetryStormModel" (⟨"RetryStormModel", "pending", "()I"⟩ : MethodName) ⟨"RetryStormModel", "pending", "()I"⟩ ∈ WS := WS_p3 (y := ⟨"RetryStormModel", "pending", "()I"⟩) (n := 10) 11 rfl
theorem we_X6_propertyOf : Cond.selects "RetryStormModel" (⟨"RetryStormModel", "propertyOf", "(II)I"⟩ : MethodName) ⟨"RetryStormModel", "propertyOf", "(II)I"⟩ ∈ WS := WS_p3 (y := ⟨"RetryStormModel", "propertyOf", "(II)I"⟩) (n := 10) 12 rfl
theorem we_X6_ownerOf : Cond.selects "RetryStormModel" (⟨"RetryStormModel", "ownerOf", "(I)I"⟩ : MethodName) ⟨"RetryStormModel", "ownerOf", "(I)I"⟩ ∈ WS := WS_p3 (y := ⟨"RetryStormModel", "ownerOf", "(I)I"⟩) (n := 10) 13 rfl
theorem we_X6_past : Cond.selects "RetryStormModel" (⟨"RetryStormModel", "past", "(II)I"⟩ : MethodName) ⟨"RetryStormModel", "past", "(II)I"⟩ ∈ WS := WS_p3 (y := ⟨"RetryStormModel", "past", "(II)I"⟩) (n := 10) 14 rfl
theorem we_X6_known : Cond.selects "RetryStormModel" (⟨"RetryStormModel", "known", "()I"⟩ : MethodName) ⟨"RetryStormModel", "known", "()I"⟩ ∈ WS := WS_p3 (y := ⟨"RetryStormModel", "known", "()I"⟩) (n := 10) 15 rfl
theorem we_X6_mixedClient : Cond.selects "RetryStormModel" (⟨"RetryStormModel", "mixedClient", "(JI)J"⟩ : MethodName) ⟨"RetryStormModel", "mixedClient", "(JI)J"⟩ ∈ WS := WS_p4 (y := ⟨"RetryStormModel", "mixedClient", "(JI)J"⟩) (n := 10) 0 rfl
end
section
/-! the context of a walk in one hypothesis; rows over it; combinators of the decompiled functions -/
abbrev rmL (d : Nat) : Room := { frames := d, cells := 0, slots := 0, locals := 40 * d }
def Cx (p : Program) (s : State) (m : MethodId) (args : Array Value) (meth : Method) (c : Code) (own : String) (cc : ByteArray) (nL : Nat) (ret : Option FieldType) (D : va_G) (ty : List (ClassId × FieldType)) : Prop :=
  p.tables.exec = Jvm.exec ∧ c.code = cc ∧ c.maxLocals = nL ∧ s.vm.findClass own = some m.cls ∧ (∀ w ∈ WS, w.before args s = true) ∧ va_K D vwCl ty s ∧ meth.sig.returnType = ret ∧ meth.locks = false
/-- a name for a value -/
def nm {α β : Sort _} (e : α) (k : α → β) : β := k e
/-- a part that may fail -/
def ob {α β : Type} (o : Option α) (k : α → Option β) : Option β := o.bind k
theorem ob_some {α β : Type} {o : Option α} {k : α → Option β} {q : β} (h : ob o k = some q) : ∃ a, o = some a ∧ k a = some q := by
  cases o with
  | none => cases h
  | some a => exact ⟨a, rfl, h⟩
theorem ob_eq {α β : Type} {a : α} {k : α → Option β} : ob (some a) k = k a := rfl
/-- a loop, with so much fuel -/
def iter {α β : Type} (F : (α → Option β) → α → Option β) : Nat → α → Option β
  | 0 => fun _ => none
  | n + 1 => F (iter F n)
theorem iter_ind {α β : Type} {F : (α → Option β) → α → Option β} {q : β} (P : α → Prop) (step : ∀ K, (∀ x, K x = some q → P x) → ∀ x, F K x = some q → P x) : ∀ n x, iter F n x = some q → P x
  | 0, x, h => by cases h
  | n + 1, x, h => step (iter F n) (iter_ind P step n) x h
def FU : Nat := 1000
section XR
variable {p : Program} {l : Launch} {e : Env} {R : Room} {s : State} {m : MethodId} {args : Array Value} {below : List Frame} {meth : Method} {c : Code} {H : Heap} {locs : List Loc} {cells slots : Nat} {Q : State → Prop} {own : String} {cc : ByteArray} {nL : Nat} {ret : Option FieldType} {D : va_G} {ty : List (ClassId × FieldType)} {pc : Nat} {ls : Array Slot} {rest : List Value} {A : Nat → Prop} {H0 : Heap} {ws : va_W} {lv lv' : List (Nat × Value)} {ρ : Type} {X Y : Option ρ} {q : ρ}

theorem x_iconst (C : Cx p s m args meth c own cc nL ret D ty) {n : Int} {v : Int32} (hdg : decode cc pc = .ok (.iconst n, 1)) (hv : Int32.ofInt n = v) (kk : W p l e R s m args below meth c H locs cells slots Q (F0 m (pc + 1) ls (.int v :: rest))) : W p l e R s m args below meth c H locs cells slots Q (F0 m pc ls (rest)) := lv_iconst C.1 C.2.1 hdg hv kk
theorem x_bipush (C : Cx p s m args meth c own cc nL ret D ty) {n : Int} {v : Int32} (hdg : decode cc pc = .ok (.bipush n, 2)) (hv : (Int8.ofInt n).toInt32 = v) (kk : W p l e R s m args below meth c H locs cells slots Q (F0 m (pc + 2) ls (.int v :: rest))) : W p l e R s m args below meth c H locs cells slots Q (F0 m pc ls (rest)) := lv_bipush C.1 C.2.1 hdg hv kk
theorem x_sipush (C : Cx p s m args meth c own cc nL ret D ty) {n : Int} {v : Int32} (hdg : decode cc pc = .ok (.sipush n, 3)) (hv : (Int16.ofInt n).toInt32 = v) (kk : W p l e R s m args below meth c H locs cells slots Q (F0 m (pc + 3) ls (.int v :: rest))) : W p l e R s m args below meth c H locs cells slots Q (F0 m pc ls (rest)) := lv_sipush C.1 C.2.1 hdg hv kk
theorem x_lconst (C : Cx p s m args meth c own cc nL ret D ty) {n : Fin 2} {v : Int64} (hdg : decode cc pc = .ok (.lconst n, 1)) (hv : Int64.ofNat (n : Nat) = v) (kk : W p l e R s m args below meth c H locs cells slots Q (F0 m (pc + 1) ls (.long v :: rest))) : W p l e R s m args below meth c H locs cells slots Q (F0 m pc ls (rest)) := lv_lconst C.1 C.2.1 hdg hv kk
theorem x_ldc (C : Cx p s m args meth c own cc nL ret D ty) {v : Int32} {idx : Nat} (hw : Cond.constant own idx v ∈ WS) (hdg : decode cc pc = .ok (.ldc idx, 2)) (kk : W p l e R s m args below meth c H locs cells slots Q (F0 m (pc + 2) ls (.int v :: rest))) : W p l e R s m args below meth c H locs cells slots Q (F0 m pc ls (rest)) := lv_ldc C.1 C.2.1 C.2.2.2.1 (C.2.2.2.2.1 _ hw) hdg kk
theorem x_ldc2 (C : Cx p s m args meth c own cc nL ret D ty) {v : Int64} {idx : Nat} (hw : Cond.constantLong own idx v ∈ WS) (hdg : decode cc pc = .ok (.ldc2_w idx, 3)) (kk : W p l e R s m args below meth c H locs cells slots Q (F0 m (pc + 3) ls (.long v :: rest))) : W p l e R s m args below meth c H locs cells slots Q (F0 m pc ls (rest)) := lv_ldc2 C.1 C.2.1 C.2.2.2.1 (C.2.2.2.2.1 _ hw) hdg kk
theorem x_iload_n (C : Cx p s m args meth c own cc nL ret D ty) {k : Fin 4} {i : Nat} {x : Int32} (hdg : decode cc pc = .ok (.iload_n k, 1)) (hi : (k : Nat) = i) (hl : lv_has ls nL lv) (j : Nat) (hj : lv[j]? = some (i, .int x)) (kk : W p l e R s m args below meth c H locs cells slots Q (F0 m (pc + 1) ls (.int x :: rest))) : W p l e R s m args below meth c H locs cells slots Q (F0 m pc ls (rest)) := lv_iload_n C.1 C.2.1 hdg hi (lv_at hl j hj) kk
theorem x_iload (C : Cx p s m args meth c own cc nL ret D ty) {i : Nat} {x : Int32} (hdg : decode cc pc = .ok (.iload i, 2)) (hl : lv_has ls nL lv) (j : Nat) (hj : lv[j]? = some (i, .int x)) (kk : W p l e R s m args below meth c H locs cells slots Q (F0 m (pc + 2) ls (.int x :: rest))) : W p l e R s m args below meth c H locs cells slots Q (F0 m pc ls (rest)) := lv_iload C.1 C.2.1 hdg (lv_at hl j hj) kk
theorem x_lload_n (C : Cx p s m args meth c own cc nL ret D ty) {k : Fin 4} {i : Nat} {x : Int64} (hdg : decode cc pc = .ok (.lload_n k, 1)) (hi : (k : Nat) = i) (hl : lv_has ls nL lv) (j : Nat) (hj : lv[j]? = some (i, .long x)) (kk : W p l e R s m args below meth c H locs cells slots Q (F0 m (pc + 1) ls (.long x :: rest))) : W p l e R s m args below meth c H locs cells slots Q (F0 m pc ls (rest)) := lv_lload_n C.1 C.2.1 hdg hi (lv_at hl j hj) kk
theorem x_lload (C : Cx p s m args meth c own cc nL ret D ty) {i : Nat} {x : Int64} (hdg : decode cc pc = .ok (.lload i, 2)) (hl : lv_has ls nL lv) (j : Nat) (hj : lv[j]? = some (i, .long x)) (kk : W p l e R s m args below meth c H locs cells slots Q (F0 m (pc + 2) ls (.long x :: rest))) : W p l e R s m args below meth c H locs cells slots Q (F0 m pc ls (rest)) := lv_lload C.1 C.2.1 hdg (lv_at hl j hj) kk
theorem x_aload_n (C : Cx p s m args meth c own cc nL ret D ty) {k : Fin 4} {i : Nat} {x : Nat} (hdg : decode cc pc = .ok (.aload_n k, 1)) (hi : (k : Nat) = i) (hl : lv_has ls nL lv) (j : Nat) (hj : lv[j]? = some (i, .ref x)) (kk : W p l e R s m args below meth c H locs cells slots Q (F0 m (pc + 1) ls (.ref x :: rest))) : W p l e R s m args below meth c H locs cells slots Q (F0 m pc ls (rest)) := lv_aload_n C.1 C.2.1 hdg hi (lv_at hl j hj) kk
theorem x_aload (C : Cx p s m args meth c own cc nL ret D ty) {i : Nat} {x : Nat} (hdg : decode cc pc = .ok (.aload i, 2)) (hl : lv_has ls nL lv) (j : Nat) (hj : lv[j]? = some (i, .ref x)) (kk : W p l e R s m args below meth c H locs cells slots Q (F0 m (pc + 2) ls (.ref x :: rest))) : W p l e R s m args below meth c H locs cells slots Q (F0 m pc ls (rest)) := lv_aload C.1 C.2.1 hdg (lv_at hl j hj) kk
theorem x_istore_n (C : Cx p s m args meth c own cc nL ret D ty) {k : Fin 4} {i : Nat} {x : Int32} (hdg : decode cc pc = .ok (.istore_n k, 1)) (hi : (k : Nat) = i) (h : lv_has ls nL lv) (hn : i < nL) (hl : (i, Value.int x) :: lv.filter (fun q => !(q.1 == i) && !(q.1 + 1 == i && q.2.category == 2)) = lv') (kk : ∀ ls' : Array Slot, lv_has ls' nL lv' → W p l e R s m args below meth c H locs cells slots Q (F0 m (pc + 1) ls' rest)) : W p l e R s m args below meth c H locs cells slots Q (F0 m pc ls (.int x :: rest)) := lv_istore_n C.1 C.2.1 hdg hi h hn hl kk
theorem x_istore (C : Cx p s m args meth c own cc nL ret D ty) {i : Nat} {x : Int32} (hdg : decode cc pc = .ok (.istore i, 2)) (h : lv_has ls nL lv) (hn : i < nL) (hl : (i, Value.int x) :: lv.filter (fun q => !(q.1 == i) && !(q.1 + 1 == i && q.2.category == 2)) = lv') (kk : ∀ ls' : Array Slot, lv_has ls' nL lv' → W p l e R s m args below meth c H locs cells slots Q (F0 m (pc + 2) ls' rest)) : W p l e R s m args below meth c H locs cells slots Q (F0 m pc ls (.int x :: rest)) := lv_istore C.1 C.2.1 hdg h hn hl kk
theorem x_astore_n (C : Cx p s m args meth c own cc nL ret D ty) {k : Fin 4} {i : Nat} {x : Nat} (hdg : decode cc pc = .ok (.astore_n k, 1)) (hi : (k : Nat) = i) (h : lv_has ls nL lv) (hn : i < nL) (hl : (i, Value.ref x) :: lv.filter (fun q => !(q.1 == i) && !(q.1 + 1 == i && q.2.category == 2)) = lv') (kk : ∀ ls' : Array Slot, lv_has ls' nL lv' → W p l e R s m args below meth c H locs cells slots Q (F0 m (pc + 1) ls' rest)) : W p l e R s m args below meth c H locs cells slots Q (F0 m pc ls (.ref x :: rest)) := lv_astore_n C.1 C.2.1 hdg hi h hn hl kk
theorem x_astore (C : Cx p s m args meth c own cc nL ret D ty) {i : Nat} {x : Nat} (hdg : decode cc pc = .ok (.astore i, 2)) (h : lv_has ls nL lv) (hn : i < nL) (hl : (i, Value.ref x) :: lv.filter (fun q => !(q.1 == i) && !(q.1 + 1 == i && q.2.category == 2)) = lv') (kk : ∀ ls' : Array Slot, lv_has ls' nL lv' → W p l e R s m args below meth c H locs cells slots Q (F0 m (pc + 2) ls' rest)) : W p l e R s m args below meth c H locs cells slots Q (F0 m pc ls (.ref x :: rest)) := lv_astore C.1 C.2.1 hdg h hn hl kk
theorem x_lstore_n (C : Cx p s m args meth c own cc nL ret D ty) {k : Fin 4} {i : Nat} {x : Int64} (hdg : decode cc pc = .ok (.lstore_n k, 1)) (hi : (k : Nat) = i) (h : lv_has ls nL lv) (hn : i + 1 < nL) (hl : (i, Value.long x) :: lv.filter (fun q => !(q.1 == i) && (!(q.1 == i + 1) && !(q.1 + 1 == i && q.2.category == 2))) = lv') (kk : ∀ ls' : Array Slot, lv_has ls' nL lv' → W p l e R s m args below meth c H locs cells slots Q (F0 m (pc + 1) ls' rest)) : W p l e R s m args below meth c H locs cells slots Q (F0 m pc ls (.long x :: rest)) := lv_lstore_n C.1 C.2.1 hdg hi h hn hl kk
theorem x_lstore (C : Cx p s m args meth c own cc nL ret D ty) {i : Nat} {x : Int64} (hdg : decode cc pc = .ok (.lstore i, 2)) (h : lv_has ls nL lv) (hn : i + 1 < nL) (hl : (i, Value.long x) :: lv.filter (fun q => !(q.1 == i) && (!(q.1 == i + 1) && !(q.1 + 1 == i && q.2.category == 2))) = lv') (kk : ∀ ls' : Array Slot, lv_has ls' nL lv' → W p l e R s m args below meth c H locs cells slots Q (F0 m (pc + 2) ls' rest)) : W p l e R s m args below meth c H locs cells slots Q (F0 m pc ls (.long x :: rest)) := lv_lstore C.1 C.2.1 hdg h hn hl kk
theorem x_iinc (C : Cx p s m args meth c own cc nL ret D ty) {i k : Nat} {n : Int} {x v : Int32} (hdg : decode cc pc = .ok (.iinc i n, 3)) (h : lv_has ls nL lv) (hk : lv[k]? = some (i, .int x)) (hv : x + Int32.ofInt n = v) (hn : i < nL) (hl : (i, Value.int v) :: lv.filter (fun q => !(q.1 == i) && !(q.1 + 1 == i && q.2.category == 2)) = lv') (kk : ∀ ls' : Array Slot, lv_has ls' nL lv' → W p l e R s m args below meth c H locs cells slots Q (F0 m (pc + 3) ls' rest)) : W p l e R s m args below meth c H locs cells slots Q (F0 m pc ls rest) := lv_iinc C.1 C.2.1 hdg h hk hv hn hl kk
theorem x_iadd (C : Cx p s m args meth c own cc nL ret D ty) {x y : Int32} (hdg : decode cc pc = .ok (.iadd, 1)) (kk : W p l e R s m args below meth c H locs cells slots Q (F0 m (pc + 1) ls (.int (x + y) :: rest))) : W p l e R s m args below meth c H locs cells slots Q (F0 m pc ls (.int y :: .int x :: rest)) := lv_iadd C.1 C.2.1 hdg kk
theorem x_isub (C : Cx p s m args meth c own cc nL ret D ty) {x y : Int32} (hdg : decode cc pc = .ok (.isub, 1)) (kk : W p l e R s m args below meth c H locs cells slots Q (F0 m (pc + 1) ls (.int (x - y) :: rest))) : W p l e R s m args below meth c H locs cells slots Q (F0 m pc ls (.int y :: .int x :: rest)) := lv_isub C.1 C.2.1 hdg kk
theorem x_imul (C : Cx p s m args meth c own cc nL ret D ty) {x y : Int32} (hdg : decode cc pc = .ok (.imul, 1)) (kk : W p l e R s m args below meth c H locs cells slots Q (F0 m (pc + 1) ls (.int (x * y) :: rest))) : W p l e R s m args below meth c H locs cells slots Q (F0 m pc ls (.int y :: .int x :: rest)) := lv_imul C.1 C.2.1 hdg kk
theorem x_iand (C : Cx p s m args meth c own cc nL ret D ty) {x y : Int32} (hdg : decode cc pc = .ok (.iand, 1)) (kk : W p l e R s m args below meth c H locs cells slots Q (F0 m (pc + 1) ls (.int (x &&& y) :: rest))) : W p l e R s m args below meth c H locs cells slots Q (F0 m pc ls (.int y :: .int x :: rest)) := lv_iand C.1 C.2.1 hdg kk
theorem x_ixor (C : Cx p s m args meth c own cc nL ret D ty) {x y : Int32} (hdg : decode cc pc = .ok (.ixor, 1)) (kk : W p l e R s m args below meth c H locs cells slots Q (F0 m (pc + 1) ls (.int (x ^^^ y) :: rest))) : W p l e R s m args below meth c H locs cells slots Q (F0 m pc ls (.int y :: .int x :: rest)) := lv_ixor C.1 C.2.1 hdg kk
theorem x_ishl (C : Cx p s m args meth c own cc nL ret D ty) {x y : Int32} (hdg : decode cc pc = .ok (.ishl, 1)) (kk : W p l e R s m args below meth c H locs cells slots Q (F0 m (pc + 1) ls (.int (x <<< (y &&& 31)) :: rest))) : W p l e R s m args below meth c H locs cells slots Q (F0 m pc ls (.int y :: .int x :: rest)) := lv_ishl C.1 C.2.1 hdg kk
theorem x_iushr (C : Cx p s m args meth c own cc nL ret D ty) {x y : Int32} (hdg : decode cc pc = .ok (.iushr, 1)) (kk : W p l e R s m args below meth c H locs cells slots Q (F0 m (pc + 1) ls (.int (x.toUInt32 >>> (y.toUInt32 &&& Int32.toUInt32 31)).toInt32 :: rest))) : W p l e R s m args below meth c H locs cells slots Q (F0 m pc ls (.int y :: .int x :: rest)) := lv_iushr C.1 C.2.1 hdg rfl kk
theorem x_ladd (C : Cx p s m args meth c own cc nL ret D ty) {x y : Int64} (hdg : decode cc pc = .ok (.ladd, 1)) (kk : W p l e R s m args below meth c H locs cells slots Q (F0 m (pc + 1) ls (.long (x + y) :: rest))) : W p l e R s m args below meth c H locs cells slots Q (F0 m pc ls (.long y :: .long x :: rest)) := lv_ladd C.1 C.2.1 hdg kk
theorem x_lmul (C : Cx p s m args meth c own cc nL ret D ty) {x y : Int64} (hdg : decode cc pc = .ok (.lmul, 1)) (kk : W p l e R s m args below meth c H locs cells slots Q (F0 m (pc + 1) ls (.long (x * y) :: rest))) : W p l e R s m args below meth c H locs cells slots Q (F0 m pc ls (.long y :: .long x :: rest)) := lv_lmul C.1 C.2.1 hdg kk
theorem x_i2l (C : Cx p s m args meth c own cc nL ret D ty) {x : Int32} (hdg : decode cc pc = .ok (.i2l, 1)) (kk : W p l e R s m args below meth c H locs cells slots Q (F0 m (pc + 1) ls (.long x.toInt64 :: rest))) : W p l e R s m args below meth c H locs cells slots Q (F0 m pc ls (.int x :: rest)) := lv_i2l C.1 C.2.1 hdg rfl kk
theorem x_l2i (C : Cx p s m args meth c own cc nL ret D ty) {x : Int64} (hdg : decode cc pc = .ok (.l2i, 1)) (kk : W p l e R s m args below meth c H locs cells slots Q (F0 m (pc + 1) ls (.int x.toInt32 :: rest))) : W p l e R s m args below meth c H locs cells slots Q (F0 m pc ls (.long x :: rest)) := lv_l2i C.1 C.2.1 hdg rfl kk
theorem x_lcmp (C : Cx p s m args meth c own cc nL ret D ty) {x y : Int64} (hdg : decode cc pc = .ok (.lcmp, 1)) (kk : W p l e R s m args below meth c H locs cells slots Q (F0 m (pc + 1) ls (.int (lg_cmp x y) :: rest))) : W p l e R s m args below meth c H locs cells slots Q (F0 m pc ls (.long y :: .long x :: rest)) := W.lcmp C.1 C.2.1 hdg kk
theorem x_dup (C : Cx p s m args meth c own cc nL ret D ty) {va : Value} (hdg : decode cc pc = .ok (.dup, 1)) (hva : va.category = 1) (kk : W p l e R s m args below meth c H locs cells slots Q (F0 m (pc + 1) ls (va :: va :: rest))) : W p l e R s m args below meth c H locs cells slots Q (F0 m pc ls (va :: rest)) := lv_dup C.1 C.2.1 hdg hva kk
theorem x_pop (C : Cx p s m args meth c own cc nL ret D ty) {va : Value} (hdg : decode cc pc = .ok (.pop, 1)) (hva : va.category = 1) (kk : W p l e R s m args below meth c H locs cells slots Q (F0 m (pc + 1) ls (rest))) : W p l e R s m args below meth c H locs cells slots Q (F0 m pc ls (va :: rest)) := lv_pop C.1 C.2.1 hdg hva kk
theorem x_dup2 (C : Cx p s m args meth c own cc nL ret D ty) {va vb : Value} (hdg : decode cc pc = .ok (.dup2, 1)) (hva : va.category = 1) (hvb : vb.category = 1) (kk : W p l e R s m args below meth c H locs cells slots Q (F0 m (pc + 1) ls (va :: vb :: va :: vb :: rest))) : W p l e R s m args below meth c H locs cells slots Q (F0 m pc ls (va :: vb :: rest)) := lv_dup2_11 C.1 C.2.1 hdg hva hvb kk
theorem x_idiv (C : Cx p s m args meth c own cc nL ret D ty) {x y : Int32} (h : (if y = 0 then none else X) = some q) (hdg : decode cc pc = .ok (.idiv, 1)) (kk : X = some q → W p l e R s m args below meth c H locs cells slots Q (F0 m (pc + 1) ls (.int (x / y) :: rest))) : W p l e R s m args below meth c H locs cells slots Q (F0 m pc ls (.int y :: .int x :: rest)) := by
  by_cases hc : y = 0
  · rw [if_pos hc] at h; cases h
  · rw [if_neg hc] at h; exact lv_idiv C.1 C.2.1 hdg hc (kk h)
theorem x_idivK (C : Cx p s m args meth c own cc nL ret D ty) {x y : Int32} (hc : ¬ y = 0) (hdg : decode cc pc = .ok (.idiv, 1)) (kk : W p l e R s m args below meth c H locs cells slots Q (F0 m (pc + 1) ls (.int (x / y) :: rest))) : W p l e R s m args below meth c H locs cells slots Q (F0 m pc ls (.int y :: .int x :: rest)) := lv_idiv C.1 C.2.1 hdg hc kk
theorem x_irem (C : Cx p s m args meth c own cc nL ret D ty) {x y : Int32} (h : (if y = 0 then none else X) = some q) (hdg : decode cc pc = .ok (.irem, 1)) (kk : X = some q → W p l e R s m args below meth c H locs cells slots Q (F0 m (pc + 1) ls (.int (x - x / y * y) :: rest))) : W p l e R s m args below meth c H locs cells slots Q (F0 m pc ls (.int y :: .int x :: rest)) := by
  by_cases hc : y = 0
  · rw [if_pos hc] at h; cases h
  · rw [if_neg hc] at h; exact lv_irem C.1 C.2.1 hdg hc (kk h)
theorem x_iremK (C : Cx p s m args meth c own cc nL ret D ty) {x y : Int32} (hc : ¬ y = 0) (hdg : decode cc pc = .ok (.irem, 1)) (kk : W p l e R s m args below meth c H locs cells slots Q (F0 m (pc + 1) ls (.int (x - x / y * y) :: rest))) : W p l e R s m args below meth c H locs cells slots Q (F0 m pc ls (.int y :: .int x :: rest)) := lv_irem C.1 C.2.1 hdg hc kk
theorem x_ldiv (C : Cx p s m args meth c own cc nL ret D ty) {x y : Int64} (h : (if y = 0 then none else X) = some q) (hdg : decode cc pc = .ok (.ldiv, 1)) (kk : X = some q → W p l e R s m args below meth c H locs cells slots Q (F0 m (pc + 1) ls (.long (x / y) :: rest))) : W p l e R s m args below meth c H locs cells slots Q (F0 m pc ls (.long y :: .long x :: rest)) := by
  by_cases hc : y = 0
  · rw [if_pos hc] at h; cases h
  · rw [if_neg hc] at h; exact lv_ldiv C.1 C.2.1 hdg hc (kk h)
theorem x_ldivK (C : Cx p s m args meth c own cc nL ret D ty) {x y : Int64} (hc : ¬ y = 0) (hdg : decode cc pc = .ok (.ldiv, 1)) (kk : W p l e R s m args below meth c H locs cells slots Q (F0 m (pc + 1) ls (.long (x / y) :: rest))) : W p l e R s m args below meth c H locs cells slots Q (F0 m pc ls (.long y :: .long x :: rest)) := lv_ldiv C.1 C.2.1 hdg hc kk
theorem x_icmp_eq (C : Cx p s m args meth c own cc nL ret D ty) {x y : Int32} {off : Int} {tgt : Nat} (h : (if x = y then X else Y) = some q) (hdg : decode cc pc = .ok (.if_icmp .eq off, 3)) (ht : (pc : Int) + off = (tgt : Int)) (kt : X = some q → W p l e R s m args below meth c H locs cells slots Q (F0 m tgt ls rest)) (kf : Y = some q → W p l e R s m args below meth c H locs cells slots Q (F0 m (pc + 3) ls rest)) : W p l e R s m args below meth c H locs cells slots Q (F0 m pc ls (.int y :: .int x :: rest)) := lv_icmp_eq C.1 C.2.1 hdg ht (fun hc => kt ((if_pos hc).symm.trans h)) (fun hc => kf ((if_neg hc).symm.trans h))
theorem x_if_eq (C : Cx p s m args meth c own cc nL ret D ty) {x : Int32} {off : Int} {tgt : Nat} (h : (if x = 0 then X else Y) = some q) (hdg : decode cc pc = .ok (.ifCond .eq off, 3)) (ht : (pc : Int) + off = (tgt : Int)) (kt : X = some q → W p l e R s m args below meth c H locs cells slots Q (F0 m tgt ls rest)) (kf : Y = some q → W p l e R s m args below meth c H locs cells slots Q (F0 m (pc + 3) ls rest)) : W p l e R s m args below meth c H locs cells slots Q (F0 m pc ls (.int x :: rest)) := lv_if_eq C.1 C.2.1 hdg ht (fun hc => kt ((if_pos hc).symm.trans h)) (fun hc => kf ((if_neg hc).symm.trans h))
theorem x_icmp_ne (C : Cx p s m args meth c own cc nL ret D ty) {x y : Int32} {off : Int} {tgt : Nat} (h : (if x = y then X else Y) = some q) (hdg : decode cc pc = .ok (.if_icmp .ne off, 3)) (ht : (pc : Int) + off = (tgt : Int)) (kt : Y = some q → W p l e R s m args below meth c H locs cells slots Q (F0 m tgt ls rest)) (kf : X = some q → W p l e R s m args below meth c H locs cells slots Q (F0 m (pc + 3) ls rest)) : W p l e R s m args below meth c H locs cells slots Q (F0 m pc ls (.int y :: .int x :: rest)) := lv_icmp_ne C.1 C.2.1 hdg ht (fun hc => kt ((if_neg hc).symm.trans h)) (fun hc => kf ((if_pos hc).symm.trans h))
theorem x_if_ne (C : Cx p s m args meth c own cc nL ret D ty) {x : Int32} {off : Int} {tgt : Nat} (h : (if x = 0 then X else Y) = some q) (hdg : decode cc pc = .ok (.ifCond .ne off, 3)) (ht : (pc : Int) + off = (tgt : Int)) (kt : Y = some q → W p l e R s m args below meth c H locs cells slots Q (F0 m tgt ls rest)) (kf : X = some q → W p l e R s m args below meth c H locs cells slots Q (F0 m (pc + 3) ls rest)) : W p l e R s m args below meth c H locs cells slots Q (F0 m pc ls (.int x :: rest)) := lv_if_ne C.1 C.2.1 hdg ht (fun hc => kt ((if_neg hc).symm.trans h)) (fun hc => kf ((if_pos hc).symm.trans h))
theorem x_icmp_lt (C : Cx p s m args meth c own cc nL ret D ty) {x y : Int32} {off : Int} {tgt : Nat} (h : (if x < y then X else Y) = some q) (hdg : decode cc pc = .ok (.if_icmp .lt off, 3)) (ht : (pc : Int) + off = (tgt : Int)) (kt : X = some q → W p l e R s m args below meth c H locs cells slots Q (F0 m tgt ls rest)) (kf : Y = some q → W p l e R s m args below meth c H locs cells slots Q (F0 m (pc + 3) ls rest)) : W p l e R s m args below meth c H locs cells slots Q (F0 m pc ls (.int y :: .int x :: rest)) := lv_icmp_lt C.1 C.2.1 hdg ht (fun hc => kt ((if_pos hc).symm.trans h)) (fun hc => kf ((if_neg hc).symm.trans h))
theorem x_if_lt (C : Cx p s m args meth c own cc nL ret D ty) {x : Int32} {off : Int} {tgt : Nat} (h : (if x < 0 then X else Y) = some q) (hdg : decode cc pc = .ok (.ifCond .lt off, 3)) (ht : (pc : Int) + off = (tgt : Int)) (kt : X = some q → W p l e R s m args below meth c H locs cells slots Q (F0 m tgt ls rest)) (kf : Y = some q → W p l e R s m args below meth c H locs cells slots Q (F0 m (pc + 3) ls rest)) : W p l e R s m args below meth c H locs cells slots Q (F0 m pc ls (.int x :: rest)) := lv_if_lt C.1 C.2.1 hdg ht (fun hc => kt ((if_pos hc).symm.trans h)) (fun hc => kf ((if_neg hc).symm.trans h))
theorem x_icmp_ge (C : Cx p s m args meth c own cc nL ret D ty) {x y : Int32} {off : Int} {tgt : Nat} (h : (if y ≤ x then X else Y) = some q) (hdg : decode cc pc = .ok (.if_icmp .ge off, 3)) (ht : (pc : Int) + off = (tgt : Int)) (kt : X = some q → W p l e R s m args below meth c H locs cells slots Q (F0 m tgt ls rest)) (kf : Y = some q → W p l e R s m args below meth c H locs cells slots Q (F0 m (pc + 3) ls rest)) : W p l e R s m args below meth c H locs cells slots Q (F0 m pc ls (.int y :: .int x :: rest)) := lv_icmp_ge C.1 C.2.1 hdg ht (fun hc => kt ((if_pos hc).symm.trans h)) (fun hc => kf ((if_neg hc).symm.trans h))
theorem x_if_ge (C : Cx p s m args meth c own cc nL ret D ty) {x : Int32} {off : Int} {tgt : Nat} (h : (if 0 ≤ x then X else Y) = some q) (hdg : decode cc pc = .ok (.ifCond .ge off, 3)) (ht : (pc : Int) + off = (tgt : Int)) (kt : X = some q → W p l e R s m args below meth c H locs cells slots Q (F0 m tgt ls rest)) (kf : Y = some q → W p l e R s m args below meth c H locs cells slots Q (F0 m (pc + 3) ls rest)) : W p l e R s m args below meth c H locs cells slots Q (F0 m pc ls (.int x :: rest)) := lv_if_ge C.1 C.2.1 hdg ht (fun hc => kt ((if_pos hc).symm.trans h)) (fun hc => kf ((if_neg hc).symm.trans h))
theorem x_icmp_gt (C : Cx p s m args meth c own cc nL ret D ty) {x y : Int32} {off : Int} {tgt : Nat} (h : (if y < x then X else Y) = some q) (hdg : decode cc pc = .ok (.if_icmp .gt off, 3)) (ht : (pc : Int) + off = (tgt : Int)) (kt : X = some q → W p l e R s m args below meth c H locs cells slots Q (F0 m tgt ls rest)) (kf : Y = some q → W p l e R s m args below meth c H locs cells slots Q (F0 m (pc + 3) ls rest)) : W p l e R s m args below meth c H locs cells slots Q (F0 m pc ls (.int y :: .int x :: rest)) := lv_icmp_gt C.1 C.2.1 hdg ht (fun hc => kt ((if_pos hc).symm.trans h)) (fun hc => kf ((if_neg hc).symm.trans h))
theorem x_if_gt (C : Cx p s m args meth c own cc nL ret D ty) {x : Int32} {off : Int} {tgt : Nat} (h : (if 0 < x then X else Y) = some q) (hdg : decode cc pc = .ok (.ifCond .gt off, 3)) (ht : (pc : Int) + off = (tgt : Int)) (kt : X = some q → W p l e R s m args below meth c H locs cells slots Q (F0 m tgt ls rest)) (kf : Y = some q → W p l e R s m args below meth c H locs cells slots Q (F0 m (pc + 3) ls rest)) : W p l e R s m args below meth c H locs cells slots Q (F0 m pc ls (.int x :: rest)) := lv_if_gt C.1 C.2.1 hdg ht (fun hc => kt ((if_pos hc).symm.trans h)) (fun hc => kf ((if_neg hc).symm.trans h))
theorem x_icmp_le (C : Cx p s m args meth c own cc nL ret D ty) {x y : Int32} {off : Int} {tgt : Nat} (h : (if x ≤ y then X else Y) = some q) (hdg : decode cc pc = .ok (.if_icmp .le off, 3)) (ht : (pc : Int) + off = (tgt : Int)) (kt : X = some q → W p l e R s m args below meth c H locs cells slots Q (F0 m tgt ls rest)) (kf : Y = some q → W p l e R s m args below meth c H locs cells slots Q (F0 m (pc + 3) ls rest)) : W p l e R s m args below meth c H locs cells slots Q (F0 m pc ls (.int y :: .int x :: rest)) := lv_icmp_le C.1 C.2.1 hdg ht (fun hc => kt ((if_pos hc).symm.trans h)) (fun hc => kf ((if_neg hc).symm.trans h))
theorem x_if_le (C : Cx p s m args meth c own cc nL ret D ty) {x : Int32} {off : Int} {tgt : Nat} (h : (if x ≤ 0 then X else Y) = some q) (hdg : decode cc pc = .ok (.ifCond .le off, 3)) (ht : (pc : Int) + off = (tgt : Int)) (kt : X = some q → W p l e R s m args below meth c H locs cells slots Q (F0 m tgt ls rest)) (kf : Y = some q → W p l e R s m args below meth c H locs cells slots Q (F0 m (pc + 3) ls rest)) : W p l e R s m args below meth c H locs cells slots Q (F0 m pc ls (.int x :: rest)) := lv_if_le C.1 C.2.1 hdg ht (fun hc => kt ((if_pos hc).symm.trans h)) (fun hc => kf ((if_neg hc).symm.trans h))
theorem x_goto (C : Cx p s m args meth c own cc nL ret D ty) {off : Int} {tgt : Nat} (hdg : decode cc pc = .ok (.goto off, 3)) (ht : (pc : Int) + off = (tgt : Int)) (kk : W p l e R s m args below meth c H locs cells slots Q (F0 m tgt ls rest)) : W p l e R s m args below meth c H locs cells slots Q (F0 m pc ls rest) := lv_goto C.1 C.2.1 hdg ht kk
theorem x_switch (C : Cx p s m args meth c own cc nL ret D ty) {dflt lo hi : Int} {offs : Array Int} {len : Nat} {x : Int32} {tgt : Nat} (hdg : decode cc pc = .ok (.tableswitch dflt lo hi offs, len)) (h : x.toInt < lo ∨ hi < x.toInt) (ht : (pc : Int) + dflt = (tgt : Int)) (k : W p l e R s m args below meth c H locs cells slots Q (F0 m tgt ls rest)) : W p l e R s m args below meth c H locs cells slots Q (F0 m pc ls (.int x :: rest)) := lv_tableOut C.1 C.2.1 hdg h ht k
theorem x_nmi {x : Int32} {k : Int32 → Option ρ} (h : nm x k = some q) (kk : ∀ v : Int32, k v = some q → W p l e R s m args below meth c H locs cells slots Q (F0 m pc ls (.int v :: rest))) : W p l e R s m args below meth c H locs cells slots Q (F0 m pc ls (.int x :: rest)) := kk x h
end XR
end
section
/-! contracts with one answer and one world behind; calls; fields and arrays -/
abbrev okI (i : Int32) (n : Nat) : Prop := ¬ (i < 0 ∨ n ≤ i.toNatClampNeg)
def leastL : List Int32 := [0, 0, 1, 1, 1, 1, 1, 0, 1, 0, 0, 0]
def mostL : List Int32 := [50, 50, 60, 6, 40, 16, 64, 3, 12, 12, 20, 10]
def firstL : List Int32 := [0, 0, 20, 3, 10, 2, 16, 0, 2, 0, 20, 10]
def tabI (t : List Int32) : Nat → Int32 := fun j => t.getD j 0
def tabF (t : List Int32) : Nat → Value := fun j => .int (t.getD j 0)
/-- a static table of twelve numbers that nobody writes -/
def ZT (n : String) (t : List Int32) (A : Nat → Prop) (U : State) (H : Heap) : Prop := ∃ a : Nat, va_Z "RetryStorm" n "[I" (.ref a) A U H ∧ va_T .int a 12 (tabF t) A U H
def ZZ (A : Nat → Prop) (U : State) (H : Heap) : Prop := ZT "LEAST" leastL A U H ∧ ZT "MOST" mostL A U H ∧ ZT "AT_FIRST" firstL A U H
theorem ZT.moved {n : String} {t : List Int32} {A : Nat → Prop} {u U : State} {H : Heap} (hvm : u.vm.Alike U.vm) (h : ZT n t A u H) : ZT n t A U H := by
  obtain ⟨a, h1, h2⟩ := h
  exact ⟨a, h1.moved hvm, h2.moved hvm⟩
theorem ZT.kept {n : String} {t : List Int32} {A : Nat → Prop} {U : State} {H H1 : Heap} (h : ZT n t A U H) (hq : ∀ a : Nat, a < H.size → ¬ A a → H1[a]? = H[a]?) : ZT n t A U H1 := by
  obtain ⟨a, h1, h2⟩ := h
  exact ⟨a, h1.kept hq, h2.kept hq⟩
theorem ZT.narrow {n : String} {t : List Int32} {A B : Nat → Prop} {U : State} {H : Heap} (h : ZT n t A U H) (hAB : ∀ q, B q → A q) : ZT n t B U H := by
  obtain ⟨a, h1, h2⟩ := h
  exact ⟨a, h1.narrow hAB, h2.narrow hAB⟩
theorem ZZ.moved {A : Nat → Prop} {u U : State} {H : Heap} (hvm : u.vm.Alike U.vm) (h : ZZ A u H) : ZZ A U H := ⟨h.1.moved hvm, h.2.1.moved hvm, h.2.2.moved hvm⟩
theorem ZZ.kept {A : Nat → Prop} {U : State} {H H1 : Heap} (h : ZZ A U H) (hq : ∀ a : Nat, a < H.size → ¬ A a → H1[a]? = H[a]?) : ZZ A U H1 := ⟨h.1.kept hq, h.2.1.kept hq, h.2.2.kept hq⟩
theorem ZZ.narrow {A B : Nat → Prop} {U : State} {H : Heap} (h : ZZ A U H) (hAB : ∀ q, B q → A q) : ZZ B U H := ⟨h.1.narrow hAB, h.2.1.narrow hAB, h.2.2.narrow hAB⟩
def cP (D : va_G) (ty : List (ClassId × FieldType)) (z : Bool) (w : va_W) (sz : Nat) (U : State) : Prop := U.heap.size = sz ∧ va_P D vwCl w U.heap ∧ va_K D vwCl ty U ∧ va_D (fun _ => True) w ∧ (z = true → ZZ (va_A w sz) U U.heap)
def cQ (D : va_G) (ty : List (ClassId × FieldType)) (w w1 : va_W) (sz : Nat) (t : State) : Prop := va_P D vwCl w1 t.heap ∧ va_K D vwCl ty t ∧ va_D (va_A w sz) w1
def Qd (D : va_G) (ty : List (ClassId × FieldType)) (w : va_W) (sz : Nat) (v : Option Value) (w1 : va_W) : Array Value → State → Outcome → State → Prop := fun _ st oc t => oc = .returned v ∧ cQ D ty w w1 sz t ∧ va_F (va_A w sz) st t
def Mc (l : Launch) (D : va_G) (ty : List (ClassId × FieldType)) (z : Bool) (y : MethodName) (cc : ByteArray) (nL : Nat) (ret : Option FieldType) (d : Nat) (as : List Value) (w : va_W) (v : Option Value) (w1 : va_W) : Prop :=
  ∀ sz : Nat, Met l y (.code y cc nL ret :: WS) (rmL d) (va_Pc as (cP D ty z w sz)) (Qd D ty w sz v w1) 0 0 (va_A w sz)
theorem cP_blind {D : va_G} {ty : List (ClassId × FieldType)} {z : Bool} {w : va_W} {sz : Nat} {as : List Value} : FrameBlind (va_Pc as (cP D ty z w sz)) := by
  intro a U g mk q
  obtain ⟨q0, q1, qP, qK, qD, qz⟩ := q
  exact ⟨q0, q1, qP, va_K.moved (u := U) (U := U.calling g mk a) (Vm.Alike.refl U.vm) qK, qD, fun h => ZZ.moved (u := U) (U := U.calling g mk a) (Vm.Alike.refl U.vm) (qz h)⟩
section XC
variable {p : Program} {l : Launch} {e : Env} {R : Room} {s : State} {m : MethodId} {args : Array Value} {below : List Frame} {meth : Method} {c : Code} {H : Heap} {locs : List Loc} {cells slots : Nat} {Q : State → Prop} {own : String} {cc : ByteArray} {nL : Nat} {ret : Option FieldType} {D : va_G} {ty : List (ClassId × FieldType)} {pc : Nat} {ls : Array Slot} {rest : List Value} {A : Nat → Prop} {H0 : Heap} {ws : va_W} {lv lv' : List (Nat × Value)} {ρ : Type} {X Y : Option ρ} {q : ρ}
variable {z : Bool} {y : MethodName} {bytes : ByteArray} {maxL n index d : Nat} {rt : Option FieldType} {w w1 : va_W} {v : Option Value} {st As : List Value} {b : Addr}
theorem x_callB (C : Cx p s m args meth c own cc nL ret D ty) (hw1 : Cond.methodLink own index y ∈ WS) (hw4 : Cond.initialized y.cls ∈ WS) (hw5 : Cond.code y bytes maxL rt ∈ WS)
    (hd : y.cls ≠ "java/lang/invoke/MethodHandle" ∧ y.cls ≠ "java/lang/invoke/VarHandle" ∧ (parseMethodDescriptor y.desc).map (fun d => d.parameters.length) = some n) (hR : d + 1 ≤ R.frames ∧ 8 + (maxL + 11) + 40 * d ≤ R.locals) :
    CallB R s args own index y bytes maxL rt (.code y bytes maxL rt :: WS) (rmL d) 0 0 n := by
  have hW := C.2.2.2.2.1
  refine ⟨rfl, rfl, hR.1, hR.2, fun w0 h0 a' U hU => ?_, List.mem_cons_self, hW _ hw5, hW _ hw4, ⟨hd.1, hd.2.1⟩, fun sig h => ?_, hW _ hw1⟩
  · have h1 : w0 ∈ WS := by
      rcases List.mem_cons.mp h0 with rfl | h
      · exact hw5
      · exact h
    exact word_at hU (WS_good _ h1) (hW _ h1)
  · have h2 := hd.2.2
    rw [h] at h2
    exact (Option.some.inj h2).symm
theorem x_free (hD : va_D A w) (hS : va_S A s.heap H locs) (hA : ∀ q, s.heap.size ≤ q → A q) : ∀ q, va_A w H.size q → A q := by
  intro q h
  rcases h with ⟨k, e, h⟩ | h
  · exact hD.2 k (q, e) h
  · exact hA q (Nat.le_trans hS.1 h)
theorem x_pre (C : Cx p s m args meth c own cc nL ret D ty) (hz : z = true → ZZ A s s.heap) (hP : va_P D vwCl w H) (hD : va_D A w) (hS : va_S A s.heap H locs) (hA : ∀ q, s.heap.size ≤ q → A q) (U : State) (hU : U.heap = H) (hW : s.WarmedH U.vm) : cP D ty z w H.size U := by
  have hF := x_free hD hS hA
  refine ⟨by rw [hU], by rw [hU]; exact hP, va_K.moved hW.alike C.2.2.2.2.2.1, hD.weaken (fun _ _ _ _ => trivial), fun h => ?_⟩
  rw [hU]
  exact (((hz h).moved hW.alike).kept (fun a h1 h2 => hS.2.1 a h1 h2)).narrow hF
theorem x_end (hD : va_D A w) (hS : va_S A s.heap H locs) (hA : ∀ q, s.heap.size ≤ q → A q) {g : JFrame} {a : Array Value}
    (hr : va_Run p l e R s m args below meth c H locs cells slots 0 0 g rest (Qd D ty w H.size v w1 a) (va_A w H.size))
    (kk : ∀ (H1 : Heap) (locs1 : List Loc), va_P D vwCl w1 H1 → va_D A w1 → va_S A s.heap H1 locs1 → W p l e R s m args below meth c H1 locs1 cells slots Q { g with pc := g.pc + 3, stack := v.toList ++ rest }) : W p l e R s m args below meth c H locs cells slots Q g := by
  have hF := x_free hD hS hA
  intro T hT X
  obtain ⟨v', st₀, t, T', L, h0, X', hL, e1, e2, ⟨hv, ⟨qP, -, qD⟩, hz, hk⟩, stp⟩ := hr T hT X
  obtain rfl : v' = v := by injection hv
  rw [h0] at hz hk
  obtain ⟨t2, a1, b1⟩ := kk T'.heap (locs ++ L) (by rw [e1]; exact qP) (qD.weaken (fun _ _ _ h => hF _ h))
    ⟨Nat.le_trans hS.1 (by rw [e1]; exact hz), fun q h1 h2 => by rw [e1, hk q (Nat.lt_of_lt_of_le h1 hS.1) (fun z => h2 (hF q z))]; exact hS.2.1 q h1 h2, fun q hq => by
      rcases List.mem_append.mp hq with h | h
      · exact hS.2.2 q h
      · exact hF _ (hL q h)⟩ T' rfl X'
  exact ⟨t2, stp t2 a1, b1⟩
/-- a call of an instance method -/
theorem x_callV (C : Cx p s m args meth c own cc nL ret D ty) (hM : Mc l D ty z y bytes maxL rt d (.ref b :: As) w v w1) (hz : z = true → ZZ A s s.heap)
    (hw1 : Cond.methodLink own index y ∈ WS) (hw2 : Cond.instanceMethod y ∈ WS) (hw3 : Cond.selects y.cls y y ∈ WS) (hw4 : Cond.initialized y.cls ∈ WS) (hw5 : Cond.code y bytes maxL rt ∈ WS)
    (hd : y.cls ≠ "java/lang/invoke/MethodHandle" ∧ y.cls ≠ "java/lang/invoke/VarHandle" ∧ (parseMethodDescriptor y.desc).map (fun d => d.parameters.length) = some n) (hn : As.length = n)
    (hP : va_P D vwCl w H) (hD : va_D A w) (hS : va_S A s.heap H locs) (hA : ∀ q, s.heap.size ≤ q → A q)
    (q0 ci : Nat) {fs : List Value} {r : vw_C} (hrecv : w[q0]? = some (b, .inr (ci, fs))) (hci : vwCl[ci]? = some r) (hcn : r.1 = y.cls)
    (hl : ls.size = nL) (hdg : decode cc pc = .ok (.invokevirtual index, 3)) (hst : st = As.reverse ++ .ref b :: rest) (hcat : (rest.map fun v => v.category).sum ≤ 8)
    (hR : d + 1 ≤ R.frames ∧ 8 + (maxL + 11) + 40 * d ≤ R.locals) (hf : cells ≤ R.cells ∧ slots ≤ R.slots)
    (kk : ∀ (H1 : Heap) (locs1 : List Loc), va_P D vwCl w1 H1 → va_D A w1 → va_S A s.heap H1 locs1 → W p l e R s m args below meth c H1 locs1 cells slots Q (F0 m (pc + 3) ls (v.toList ++ rest))) : W p l e R s m args below meth c H locs cells slots Q (F0 m pc ls st) := by
  subst hst
  have hrv := va_recv C.2.2.2.2.2.1 hP (ci := ci) (q0 := q0) hci hrecv
  rw [hcn] at hrv
  refine x_end (ty := ty) hD hS hA (g := F0 m pc ls (As.reverse ++ .ref b :: rest)) (a := (Value.ref b :: As).toArray) ?_ kk
  exact va_runV (g := F0 m pc ls (As.reverse ++ .ref b :: rest)) ⟨C.1, C.2.1, C.2.2.1, C.2.2.2.1, C.2.2.2.2.1⟩ (hM H.size) ⟨x_callB C hw1 hw4 hw5 hd hR, C.2.2.2.2.1 _ hw2, C.2.2.2.2.1 _ hw3⟩
    ⟨cP_blind, hrv, fun U hU hW => ⟨rfl, x_pre C hz hP hD hS hA U hU hW⟩⟩ rfl hn hl rfl (lv_room hcat) hdg hf
/-- a call of a static method -/
theorem x_callS (C : Cx p s m args meth c own cc nL ret D ty) (hM : Mc l D ty z y bytes maxL rt d As w v w1) (hz : z = true → ZZ A s s.heap)
    (hw1 : Cond.methodLink own index y ∈ WS) (hw2 : Cond.static y ∈ WS) (hw4 : Cond.initialized y.cls ∈ WS) (hw5 : Cond.code y bytes maxL rt ∈ WS)
    (hd : y.cls ≠ "java/lang/invoke/MethodHandle" ∧ y.cls ≠ "java/lang/invoke/VarHandle" ∧ (parseMethodDescriptor y.desc).map (fun d => d.parameters.length) = some n) (hn : As.length = n)
    (hP : va_P D vwCl w H) (hD : va_D A w) (hS : va_S A s.heap H locs) (hA : ∀ q, s.heap.size ≤ q → A q)
    (hl : ls.size = nL) (hdg : decode cc pc = .ok (.invokestatic index, 3)) (hst : st = As.reverse ++ rest) (hcat : (rest.map fun v => v.category).sum ≤ 8)
    (hR : d + 1 ≤ R.frames ∧ 8 + (maxL + 11) + 40 * d ≤ R.locals) (hf : cells ≤ R.cells ∧ slots ≤ R.slots)
    (kk : ∀ (H1 : Heap) (locs1 : List Loc), va_P D vwCl w1 H1 → va_D A w1 → va_S A s.heap H1 locs1 → W p l e R s m args below meth c H1 locs1 cells slots Q (F0 m (pc + 3) ls (v.toList ++ rest))) : W p l e R s m args below meth c H locs cells slots Q (F0 m pc ls st) := by
  subst hst
  refine x_end (ty := ty) hD hS hA (g := F0 m pc ls (As.reverse ++ rest)) (a := As.toArray) ?_ kk
  exact va_runS (g := F0 m pc ls (As.reverse ++ rest)) ⟨C.1, C.2.1, C.2.2.1, C.2.2.2.1, C.2.2.2.2.1⟩ (hM H.size) ⟨x_callB C hw1 hw4 hw5 hd hR, C.2.2.2.2.1 _ hw2⟩
    ⟨cP_blind, fun U hU hW => ⟨rfl, x_pre C hz hP hD hS hA U hU hW⟩⟩ rfl hn hl rfl (lv_room hcat) hdg hf
/-- as Met.ofW, for a method that no entry runs in place of its bytecode -/
theorem Met.ofWF {l : Launch} {y : MethodName} {ws ws' : List Cond} {rm : Room} {Pc : Array Value → State → Prop} {Qc : Array Value → State → Outcome → State → Prop} {mc ms : Nat} {free : Addr → Prop} {cc : ByteArray} {maxL : Nat} {ret : Option FieldType}
    (hy : plainFor y = true) (hw : ws = Cond.code y cc maxL ret :: ws')
    (body : ∀ p e s m args below meth c s₁, BodyLoose p l y (headSpec ws rm) cc maxL ret e s m args below meth c s₁ → c.maxLocals = maxL → Pc args s →
      W p l e (headSpec ws rm).room s m args below meth c s.heap [] 0 0 (MQ below Qc args s mc ms free) (entryFrame m args maxL)) : Met l y ws rm Pc Qc mc ms free := by
  refine MetFree.of_bodySF (code := cc) (maxLocals := maxL) (ret := ret) hy ?_ ?_
  · intro args s m h hn
    obtain ⟨meth, c, h1, h2, h3, h4, h5, h6, -, -⟩ := Cond.code_spec hn (atoms_spec (ws := ws) h _ (by rw [hw]; exact List.mem_cons_self))
    exact ⟨meth, c, h1, h2, h3, h4, h5, h6⟩
  · intro p e s m args below meth c s₁ B hml hP _
    have hh0 : s₁.heap = s.heap := by rw [B.state]; rfl
    obtain ⟨t, a1, o, b1, b2, b3⟩ := body p e s m args below meth c s₁ B hml hP s₁ hh0 (Stand.of_body B)
    exact ⟨t, o, a1, b1, b2, ⟨b3.1, b3.2⟩⟩
/-- a method's body, from its entry -/
theorem Mc_of {as : List Value} (own : String) (hy : plainFor y = true) (hown : y.cls = own) (hwc : Cond.code y cc nL ret ∈ WS) (hlen : (lg_sl as).length ≤ nL)
    (body : ∀ (p : Program) (e : Env) (s : State) (m : MethodId) (args : Array Value) (below : List Frame) (meth : Method) (c : Code) (A : Nat → Prop) (Q : State → Prop) (ls : Array Slot),
      Cx p s m args meth c own cc nL ret D ty → (∀ q, s.heap.size ≤ q → A q) → (z = true → ZZ A s s.heap) → va_P D vwCl w s.heap → va_D A w → va_S A s.heap s.heap [] → lv_has ls nL (lv_args 0 as) →
      (∀ {H : Heap} {locs : List Loc} {g : JFrame}, (∀ free, (∀ q ∈ locs, free q.base) → ∀ Qc : Array Value → State → Outcome → State → Prop, (∀ t : State, t.heap = H → s.WarmedH t.vm → Qc args s (.returned v) t) → W p l e (rmL d) s m args below meth c H locs 0 0 (MQ below Qc args s 0 0 free) g) → va_P D vwCl w1 H → va_D A w1 → va_S A s.heap H locs → W p l e (rmL d) s m args below meth c H locs 0 0 Q g) →
      W p l e (rmL d) s m args below meth c s.heap [] 0 0 Q (F0 m 0 ls [])) : Mc l D ty z y cc nL ret d as w v w1 := by
  intro sz
  refine Met.ofWF (cc := cc) (maxL := nL) (ret := ret) hy rfl ?_
  intro p e s m args below meth c s₁ B hml hv
  obtain ⟨rfl, hsz, hP, hK, hD0, hz⟩ := hv
  have hts := atoms_spec (ws := .code y cc nL ret :: WS) B.pre
  have hfc : s.vm.findClass own = some m.cls := by rw [← hown]; exact findClass_of_methodNamed B.named
  subst hsz
  have hD := hD0.self (sz := s.heap.size)
  have hl := lv_entry as (n := nL) hlen
  rw [lg_entry_eq]
  refine body p e s m as.toArray below meth c (va_A w s.heap.size) _ _ ⟨B.exec, B.bytes, hml, hfc, fun w0 h0 => hts _ (List.mem_cons_of_mem _ h0), hK, B.returns, B.notSynchronized⟩ (fun q h => Or.inr h) hz hP hD va_S.rf hl ?_
  intro H locs g hw hP1 hD1 hS1
  refine hw _ hS1.2.2 _ (fun t ht hW => ⟨rfl, ⟨by rw [ht]; exact hP1, va_K.moved hW.alike hK, hD1⟩, hS1.F ht⟩)
/-- fields -/
theorem x_get (C : Cx p s m args meth c own cc nL ret D ty) {Cn : String} {T : u_T} {N ci a : Nat} {fs : List Value} {v : Value} (hin : ∀ w ∈ u_ws Cn T N, w ∈ WS) (hP : va_P D vwCl ws H) (q0 : Nat) (he : ws[q0]? = some (a, .inr (ci, fs))) (hc : vwCl[ci]? = some (Cn, T, N)) (k : Nat) (hk : k < N) (hw : Cond.fieldLink own index (T k).1 (T k).2.1 (T k).2.2.1 ∈ WS) (hv : fs[k]? = some v) (hdg : decode cc pc = .ok (.getfield index, 3))
    (kk : W p l e R s m args below meth c H locs cells slots Q (F0 m (pc + 3) ls (v :: rest))) : W p l e R s m args below meth c H locs cells slots Q (F0 m pc ls (.ref a :: rest)) :=
  va_get C.1 C.2.1 C.2.2.2.2.1 hin C.2.2.2.1 C.2.2.2.2.2.1 hP q0 he hc k hk (C.2.2.2.2.1 _ hw) (fun _ h => h) hv hdg kk
theorem x_put (C : Cx p s m args meth c own cc nL ret D ty) {Cn : String} {T : u_T} {N ci a : Nat} {fs : List Value} {v : Value} {ft : FieldType} {ws' : va_W} (hin : ∀ w ∈ u_ws Cn T N, w ∈ WS) (t0 : Nat → FieldType) (ht0 : ∀ k, k < N → parseFieldDescriptor (T k).2.2.1 = some (t0 k)) (hnm : ∀ a, a < N → ∀ b, b < N → a ≠ b → (T a).2.1 ≠ (T b).2.1) (hP : va_P D vwCl ws H) (hD : va_D A ws) (hS : va_S A H0 H locs) (q0 : Nat) (he : ws[q0]? = some (a, .inr (ci, fs))) (hc : vwCl[ci]? = some (Cn, T, N)) (k : Nat) (hk : k < N) (hw : Cond.fieldLink own index (T k).1 (T k).2.1 (T k).2.2.1 ∈ WS) (hfin : (T k).2.2.2 = false) (hd : parseFieldDescriptor (T k).2.2.1 = some ft) (hn : narrow ft v = v) (hfit : fits ft v = true) (hl : k < fs.length) (hset : ws.set q0 (a, .inr (ci, fs.set k v)) = ws') (hdg : decode cc pc = .ok (.putfield index, 3))
    (kk : ∀ (H1 : Heap) (locs1 : List Loc), va_P D vwCl ws' H1 → va_D A ws' → va_S A H0 H1 locs1 → W p l e R s m args below meth c H1 locs1 cells slots Q (F0 m (pc + 3) ls rest)) : W p l e R s m args below meth c H locs cells slots Q (F0 m pc ls (v :: .ref a :: rest)) := by
  subst hset
  exact va_put C.1 C.2.1 C.2.2.2.2.1 hin t0 ht0 hnm C.2.2.2.1 C.2.2.2.2.2.1 hP hD hS q0 he hc k hk (C.2.2.2.2.1 _ hw) (fun _ h => h) hfin hd hn hfit hl hdg kk
/-- arrays of ints -/
theorem x_ialdK (C : Cx p s m args meth c own cc nL ret D ty) {a t0 : Nat} {cA : ClassId} {n : Nat} {f : Nat → Int32} {i : Int32} (hin : okI i n) (hP : va_P D vwCl ws H) (q0 : Nat) (ha : ws[q0]? = some (a, .inl (cA, n, .inl f))) (ht : ty[t0]? = some (cA, .int)) (hdg : decode cc pc = .ok (.iaload, 1))
    (kk : W p l e R s m args below meth c H locs cells slots Q (F0 m (pc + 1) ls (.int (f i.toNatClampNeg) :: rest))) : W p l e R s m args below meth c H locs cells slots Q (F0 m pc ls (.int i :: .ref a :: rest)) :=
  va_iald C.1 C.2.1 C.2.2.2.2.2.1 hP q0 t0 ha ht hin hdg kk
theorem x_iald (C : Cx p s m args meth c own cc nL ret D ty) {a t0 : Nat} {cA : ClassId} {n : Nat} {f : Nat → Int32} {i : Int32} (h : (if okI i n then X else none) = some q) (hP : va_P D vwCl ws H) (q0 : Nat) (ha : ws[q0]? = some (a, .inl (cA, n, .inl f))) (ht : ty[t0]? = some (cA, .int)) (hdg : decode cc pc = .ok (.iaload, 1))
    (kk : X = some q → W p l e R s m args below meth c H locs cells slots Q (F0 m (pc + 1) ls (.int (f i.toNatClampNeg) :: rest))) : W p l e R s m args below meth c H locs cells slots Q (F0 m pc ls (.int i :: .ref a :: rest)) := by
  by_cases hc : okI i n
  · exact x_ialdK C hc hP q0 ha ht hdg (kk ((if_pos hc).symm.trans h))
  · rw [if_neg hc] at h; cases h
theorem x_iastK (C : Cx p s m args meth c own cc nL ret D ty) {a t0 : Nat} {cA : ClassId} {n : Nat} {f : Nat → Int32} {i x : Int32} {ws' : va_W} (hin : okI i n) (hP : va_P D vwCl ws H) (hD : va_D A ws) (hS : va_S A H0 H locs) (q0 : Nat) (ha : ws[q0]? = some (a, .inl (cA, n, .inl f))) (ht : ty[t0]? = some (cA, .int)) (hset : ws.set q0 (a, .inl (cA, n, .inl (upd f i.toNatClampNeg x))) = ws') (hdg : decode cc pc = .ok (.iastore, 1))
    (kk : ∀ (H1 : Heap) (locs1 : List Loc), va_P D vwCl ws' H1 → va_D A ws' → va_S A H0 H1 locs1 → W p l e R s m args below meth c H1 locs1 cells slots Q (F0 m (pc + 1) ls rest)) : W p l e R s m args below meth c H locs cells slots Q (F0 m pc ls (.int x :: .int i :: .ref a :: rest)) := by
  subst hset
  exact va_iast C.1 C.2.1 C.2.2.2.2.2.1 hP hD hS q0 t0 ha ht hin hdg kk
theorem x_iast (C : Cx p s m args meth c own cc nL ret D ty) {a t0 : Nat} {cA : ClassId} {n : Nat} {f : Nat → Int32} {i x : Int32} {ws' : va_W} (h : (if okI i n then X else none) = some q) (hP : va_P D vwCl ws H) (hD : va_D A ws) (hS : va_S A H0 H locs) (q0 : Nat) (ha : ws[q0]? = some (a, .inl (cA, n, .inl f))) (ht : ty[t0]? = some (cA, .int)) (hset : ws.set q0 (a, .inl (cA, n, .inl (upd f i.toNatClampNeg x))) = ws') (hdg : decode cc pc = .ok (.iastore, 1))
    (kk : X = some q → ∀ (H1 : Heap) (locs1 : List Loc), va_P D vwCl ws' H1 → va_D A ws' → va_S A H0 H1 locs1 → W p l e R s m args below meth c H1 locs1 cells slots Q (F0 m (pc + 1) ls rest)) : W p l e R s m args below meth c H locs cells slots Q (F0 m pc ls (.int x :: .int i :: .ref a :: rest)) := by
  by_cases hc : okI i n
  · exact x_iastK C hc hP hD hS q0 ha ht hset hdg (kk ((if_pos hc).symm.trans h))
  · rw [if_neg hc] at h; cases h
theorem x_alen (C : Cx p s m args meth c own cc nL ret D ty) {a t0 : Nat} {cA : ClassId} {x : vp_A} {ft : FieldType} {v : Int32} (hP : va_P D vwCl ws H) (q0 : Nat) (ha : ws[q0]? = some (a, .inl (cA, x))) (ht : ty[t0]? = some (cA, ft)) (hv : Int32.ofNat x.1 = v) (hdg : decode cc pc = .ok (.arraylength, 1))
    (kk : W p l e R s m args below meth c H locs cells slots Q (F0 m (pc + 1) ls (.int v :: rest))) : W p l e R s m args below meth c H locs cells slots Q (F0 m pc ls (.ref a :: rest)) :=
  va_alen C.1 C.2.1 C.2.2.2.2.2.1 hP q0 t0 ha ht hv hdg kk
/-- Math.max, Math.min, System.arraycopy -/
theorem x_max (C : Cx p s m args meth c own cc nL ret D ty) (hl : ls.size = nL) (hw1 : Cond.methodLink own index Lib.Math.max.name ∈ WS) (hw2 : Cond.static Lib.Math.max.name ∈ WS) (hw3 : Cond.initialized "java/lang/Math" ∈ WS) (hw4 : Cond.code Lib.Math.max.name Lib.Math.max.code 2 (some .int) ∈ WS) (hfr : 1 ≤ R.frames) (hlo : (rest.map fun v => v.category).sum + 13 ≤ R.locals) (hf : cells ≤ R.cells ∧ slots ≤ R.slots) {x y : Int32} (hdg : decode cc pc = .ok (.invokestatic index, 3))
    (kk : W p l e R s m args below meth c H locs cells slots Q (F0 m (pc + 3) ls (.int (if x < y then y else x) :: rest))) : W p l e R s m args below meth c H locs cells slots Q (F0 m pc ls (.int y :: .int x :: rest)) :=
  va_mmax C.1 C.2.1 (C.2.2.1.trans hl.symm) C.2.2.2.1 (C.2.2.2.2.1 _ hw1) (C.2.2.2.2.1 _ hw2) (C.2.2.2.2.1 _ hw3) (C.2.2.2.2.1 _ hw4) hfr hlo hf.1 hf.2 hdg kk
theorem x_min (C : Cx p s m args meth c own cc nL ret D ty) (hl : ls.size = nL) (hw1 : Cond.methodLink own index Lib.Math.min.name ∈ WS) (hw2 : Cond.static Lib.Math.min.name ∈ WS) (hw3 : Cond.initialized "java/lang/Math" ∈ WS) (hw4 : Cond.code Lib.Math.min.name Lib.Math.min.code 2 (some .int) ∈ WS) (hfr : 1 ≤ R.frames) (hlo : (rest.map fun v => v.category).sum + 13 ≤ R.locals) (hf : cells ≤ R.cells ∧ slots ≤ R.slots) {x y : Int32} (hdg : decode cc pc = .ok (.invokestatic index, 3))
    (kk : W p l e R s m args below meth c H locs cells slots Q (F0 m (pc + 3) ls (.int (if y < x then y else x) :: rest))) : W p l e R s m args below meth c H locs cells slots Q (F0 m pc ls (.int y :: .int x :: rest)) :=
  va_mmin C.1 C.2.1 (C.2.2.1.trans hl.symm) C.2.2.2.1 (C.2.2.2.2.1 _ hw1) (C.2.2.2.2.1 _ hw2) (C.2.2.2.2.1 _ hw3) (C.2.2.2.2.1 _ hw4) hfr hlo hf.1 hf.2 hdg kk
abbrev okC (sp dp k : Int32) (n0 n1 : Nat) : Prop := ¬ sp < 0 ∧ ¬ dp < 0 ∧ ¬ k < 0 ∧ sp.toNatClampNeg + k.toNatClampNeg ≤ n0 ∧ dp.toNatClampNeg + k.toNatClampNeg ≤ n1
theorem x_acopy (C : Cx p s m args meth c own cc nL ret D ty) {sp dp k : Int32} {a a0 n0 n1 t0 t1 : Nat} {c0 c1 : ClassId} {f g : Nat → Int32} {ws' : va_W} (h : (if okC sp dp k n0 n1 then X else none) = some q) (hl : ls.size = nL) (hw1 : Cond.methodLink own index arraycopyName ∈ WS) (hw2 : Cond.native arraycopyName ∈ WS) (hw3 : Cond.static arraycopyName ∈ WS) (hw4 : Cond.initialized "java/lang/System" ∈ WS)
    (hP : va_P D vwCl ws H) (hD : va_D A ws) (hS : va_S A H0 H locs) (q0 q1 : Nat) (ha0 : ws[q0]? = some (a0, .inl (c0, n0, .inl f))) (ha1 : ws[q1]? = some (a, .inl (c1, n1, .inl g))) (ht0 : ty[t0]? = some (c0, .int)) (ht1 : ty[t1]? = some (c1, .int)) (hset : ws.set q1 (a, .inl (c1, n1, .inl (va_cpy f g sp.toNatClampNeg dp.toNatClampNeg k.toNatClampNeg))) = ws')
    (hfr : 1 ≤ R.frames) (hlo : (rest.map fun v => v.category).sum + (nativeFrameWords "java/lang/System" "arraycopy" 5 + 11) ≤ R.locals) (hdg : decode cc pc = .ok (.invokestatic index, 3))
    (kk : X = some q → ∀ (H1 : Heap) (locs1 : List Loc), va_P D vwCl ws' H1 → va_D A ws' → va_S A H0 H1 locs1 → W p l e R s m args below meth c H1 locs1 cells slots Q (F0 m (pc + 3) ls rest)) : W p l e R s m args below meth c H locs cells slots Q (F0 m pc ls (.int k :: .int dp :: .ref a :: .int sp :: .ref a0 :: rest)) := by
  by_cases hc : okC sp dp k n0 n1
  · subst hset
    exact va_copyi C.1 C.2.1 (C.2.2.1.trans hl.symm) C.2.2.2.1 (C.2.2.2.2.1 _ hw1) (C.2.2.2.2.1 _ hw2) (C.2.2.2.2.1 _ hw3) (C.2.2.2.2.1 _ hw4) C.2.2.2.2.2.1 hP hD hS q0 q1 t0 t1 ha0 ha1 ht0 ht1 rfl hc.1 hc.2.1 hc.2.2.1 hc.2.2.2.1 hc.2.2.2.2 (fun _ _ => rfl) hfr hlo hdg (kk ((if_pos hc).symm.trans h))
  · rw [if_neg hc] at h; cases h
/-- the ends -/
theorem x_iret (C : Cx p s m args meth c own cc nL (some .int) D ty) {x : Int32} {pc : Nat} {ls : Array Slot} (hdg : decode cc pc = .ok (.ireturn, 1)) : ∀ free : Addr → Prop, (∀ q ∈ locs, free q.base) → ∀ Qc : Array Value → State → Outcome → State → Prop, (∀ t : State, t.heap = H → s.WarmedH t.vm → Qc args s (.returned (some (.int x))) t) → W p l e R s m args below meth c H locs 0 0 (MQ below Qc args s 0 0 free) (F0 m pc ls [.int x]) :=
  fun _ hf _ hq => W.iret (hlocks := C.2.2.2.2.2.2.2) C.1 C.2.1 C.2.2.2.2.2.2.1 hq hf hdg
theorem x_zret (C : Cx p s m args meth c own cc nL (some .boolean) D ty) {x : Int32} {pc : Nat} {ls : Array Slot} (hx : x = 0 ∨ x = 1) (hdg : decode cc pc = .ok (.ireturn, 1)) : ∀ free : Addr → Prop, (∀ q ∈ locs, free q.base) → ∀ Qc : Array Value → State → Outcome → State → Prop, (∀ t : State, t.heap = H → s.WarmedH t.vm → Qc args s (.returned (some (.int x))) t) → W p l e R s m args below meth c H locs 0 0 (MQ below Qc args s 0 0 free) (F0 m pc ls [.int x]) :=
  fun _ hf _ hq => W.zret (hlocks := C.2.2.2.2.2.2.2) C.1 C.2.1 C.2.2.2.2.2.2.1 (by rcases hx with rfl | rfl <;> decide +kernel) hq hf hdg
theorem x_lret (C : Cx p s m args meth c own cc nL (some .long) D ty) {x : Int64} {pc : Nat} {ls : Array Slot} (hdg : decode cc pc = .ok (.lreturn, 1)) : ∀ free : Addr → Prop, (∀ q ∈ locs, free q.base) → ∀ Qc : Array Value → State → Outcome → State → Prop, (∀ t : State, t.heap = H → s.WarmedH t.vm → Qc args s (.returned (some (.long x))) t) → W p l e R s m args below meth c H locs 0 0 (MQ below Qc args s 0 0 free) (F0 m pc ls [.long x]) :=
  fun _ hf _ hq => W.lret (hlocks := C.2.2.2.2.2.2.2) C.1 C.2.1 C.2.2.2.2.2.2.1 hq hf hdg
theorem x_vret (C : Cx p s m args meth c own cc nL none D ty) {pc : Nat} {ls : Array Slot} (hdg : decode cc pc = .ok (.return_, 1)) : ∀ free : Addr → Prop, (∀ q ∈ locs, free q.base) → ∀ Qc : Array Value → State → Outcome → State → Prop, (∀ t : State, t.heap = H → s.WarmedH t.vm → Qc args s (.returned none) t) → W p l e R s m args below meth c H locs 0 0 (MQ below Qc args s 0 0 free) (F0 m pc ls []) :=
  fun _ hf _ hq => W.vret (hlocks := C.2.2.2.2.2.2.2) C.1 C.2.1 C.2.2.2.2.2.2.1 hq hf hdg
end XC
end
section
/-! the rows that name the world behind a write; the fields' words; the worlds -/
abbrev tyL (cI cS : ClassId) : List (ClassId × FieldType) := [(cI, .int), (cS, .object "RetryStorm$State")]
theorem x_ifc {ρ : Type} {X Y : Option ρ} {q : ρ} {x v : Int32} (h : (if x = v then X else Y) = some q) : (x = v ∧ X = some q) ∨ (¬ x = v ∧ Y = some q) := by
  by_cases hc : x = v
  · exact Or.inl ⟨hc, (if_pos hc).symm.trans h⟩
  · exact Or.inr ⟨hc, (if_neg hc).symm.trans h⟩
theorem x_ifn {ρ : Type} {X : Option ρ} {q : ρ} {c : Prop} [Decidable c] (h : (if c then X else none) = some q) : c ∧ X = some q := by
  by_cases hc : c
  · exact ⟨hc, (if_pos hc).symm.trans h⟩
  · rw [if_neg hc] at h; cases h
theorem x_tne {x : Int32} {v : Int32} {n : Int} (hv : v.toInt = n) (h : ¬ x = v) : x.toInt ≠ n := fun q => h (Int32.toInt_inj.mp (q.trans hv.symm))
section XM
variable {p : Program} {l : Launch} {e : Env} {R : Room} {s : State} {m : MethodId} {args : Array Value} {below : List Frame} {meth : Method} {c : Code} {H : Heap} {locs : List Loc} {cells slots : Nat} {Q : State → Prop} {own : String} {cc : ByteArray} {nL : Nat} {ret : Option FieldType} {D : va_G} {ty : List (ClassId × FieldType)} {pc index : Nat} {ls : Array Slot} {rest : List Value} {A : Nat → Prop} {H0 : Heap} {ws : va_W} {ρ : Type} {X Y : Option ρ} {q : ρ} {σ : Type}
theorem x_nml {x : Int64} {k : Int64 → Option ρ} (h : nm x k = some q) (kk : ∀ v : Int64, k v = some q → W p l e R s m args below meth c H locs cells slots Q (F0 m pc ls (.long v :: rest))) : W p l e R s m args below meth c H locs cells slots Q (F0 m pc ls (.long x :: rest)) := kk x h
theorem x_tabIn (C : Cx p s m args meth c own cc nL ret D ty) {dflt lo hi : Int} {offs : Array Int} {len : Nat} {x : Int32} {off : Int} {tgt : Nat} (hdg : decode cc pc = .ok (.tableswitch dflt lo hi offs, len)) (h1 : ¬ x.toInt < lo) (h2 : ¬ hi < x.toInt) (ho : offs[(x.toInt - lo).toNat]? = some off) (ht : (pc : Int) + off = (tgt : Int)) (k : W p l e R s m args below meth c H locs cells slots Q (F0 m tgt ls rest)) : W p l e R s m args below meth c H locs cells slots Q (F0 m pc ls (.int x :: rest)) := lv_tableIn C.1 C.2.1 hdg h1 h2 ho ht k
theorem x_nmS (wf : σ → va_W) {E : σ} {k : σ → Option ρ} {G : Prop} (h : nm E k = some q) (hP : va_P D vwCl (wf E) H) (hD : va_D A (wf E)) (kk : ∀ S1 : σ, k S1 = some q → va_P D vwCl (wf S1) H → va_D A (wf S1) → G) : G := kk E h hP hD
theorem x_putM (wf : σ → va_W) {E : σ} {kx : σ → Option ρ} (C : Cx p s m args meth c own cc nL ret D ty) (h : nm E kx = some q) {Cn : String} {T : u_T} {N ci a : Nat} {fs : List Value} {v : Value} (hin : ∀ w ∈ u_ws Cn T N, w ∈ WS) (t0 : Nat → FieldType) (ht0 : ∀ k, k < N → parseFieldDescriptor (T k).2.2.1 = some (t0 k)) (hnm : ∀ a, a < N → ∀ b, b < N → a ≠ b → (T a).2.1 ≠ (T b).2.1) (hP : va_P D vwCl ws H) (hD : va_D A ws) (hS : va_S A H0 H locs) (q0 : Nat) (he : ws[q0]? = some (a, .inr (ci, fs))) (hc : vwCl[ci]? = some (Cn, T, N)) (k : Nat) (hk : k < N) (hw : Cond.fieldLink own index (T k).1 (T k).2.1 (T k).2.2.1 ∈ WS) (hfin : (T k).2.2.2 = false) {ft : FieldType} (hd : parseFieldDescriptor (T k).2.2.1 = some ft) (hn : narrow ft v = v) (hfit : fits ft v = true) (hl : k < fs.length) (hset : ws.set q0 (a, .inr (ci, fs.set k v)) = wf E) (hdg : decode cc pc = .ok (.putfield index, 3))
    (kk : ∀ S1 : σ, kx S1 = some q → ∀ (H1 : Heap) (locs1 : List Loc), va_P D vwCl (wf S1) H1 → va_D A (wf S1) → va_S A H0 H1 locs1 → W p l e R s m args below meth c H1 locs1 cells slots Q (F0 m (pc + 3) ls rest)) : W p l e R s m args below meth c H locs cells slots Q (F0 m pc ls (v :: .ref a :: rest)) :=
  x_put C hin t0 ht0 hnm hP hD hS q0 he hc k hk hw hfin hd hn hfit hl hset hdg (kk E h)
theorem x_iastMK (wf : σ → va_W) {E : σ} {kx : σ → Option ρ} (C : Cx p s m args meth c own cc nL ret D ty) (h : nm E kx = some q) {a t0 : Nat} {cA : ClassId} {n : Nat} {f : Nat → Int32} {i x : Int32} (hin : okI i n) (hP : va_P D vwCl ws H) (hD : va_D A ws) (hS : va_S A H0 H locs) (q0 : Nat) (ha : ws[q0]? = some (a, .inl (cA, n, .inl f))) (ht : ty[t0]? = some (cA, .int)) (hset : ws.set q0 (a, .inl (cA, n, .inl (upd f i.toNatClampNeg x))) = wf E) (hdg : decode cc pc = .ok (.iastore, 1))
    (kk : ∀ S1 : σ, kx S1 = some q → ∀ (H1 : Heap) (locs1 : List Loc), va_P D vwCl (wf S1) H1 → va_D A (wf S1) → va_S A H0 H1 locs1 → W p l e R s m args below meth c H1 locs1 cells slots Q (F0 m (pc + 1) ls rest)) : W p l e R s m args below meth c H locs cells slots Q (F0 m pc ls (.int x :: .int i :: .ref a :: rest)) :=
  x_iastK C hin hP hD hS q0 ha ht hset hdg (kk E h)
theorem x_iastM (wf : σ → va_W) {E : σ} {kx : σ → Option ρ} (C : Cx p s m args meth c own cc nL ret D ty) {a t0 : Nat} {cA : ClassId} {n : Nat} {f : Nat → Int32} {i x : Int32} (h : (if okI i n then nm E kx else none) = some q) (hP : va_P D vwCl ws H) (hD : va_D A ws) (hS : va_S A H0 H locs) (q0 : Nat) (ha : ws[q0]? = some (a, .inl (cA, n, .inl f))) (ht : ty[t0]? = some (cA, .int)) (hset : ws.set q0 (a, .inl (cA, n, .inl (upd f i.toNatClampNeg x))) = wf E) (hdg : decode cc pc = .ok (.iastore, 1))
    (kk : ∀ S1 : σ, kx S1 = some q → ∀ (H1 : Heap) (locs1 : List Loc), va_P D vwCl (wf S1) H1 → va_D A (wf S1) → va_S A H0 H1 locs1 → W p l e R s m args below meth c H1 locs1 cells slots Q (F0 m (pc + 1) ls rest)) : W p l e R s m args below meth c H locs cells slots Q (F0 m pc ls (.int x :: .int i :: .ref a :: rest)) :=
  x_iast C h hP hD hS q0 ha ht hset hdg (kk E)
theorem x_acopyM (wf : σ → va_W) {E : σ} {kx : σ → Option ρ} (C : Cx p s m args meth c own cc nL ret D ty) {sp dp k : Int32} {a a0 n0 n1 t0 t1 : Nat} {c0 c1 : ClassId} {f g : Nat → Int32} (h : (if okC sp dp k n0 n1 then nm E kx else none) = some q) (hl : ls.size = nL) (hw1 : Cond.methodLink own index arraycopyName ∈ WS) (hw2 : Cond.native arraycopyName ∈ WS) (hw3 : Cond.static arraycopyName ∈ WS) (hw4 : Cond.initialized "java/lang/System" ∈ WS)
    (hP : va_P D vwCl ws H) (hD : va_D A ws) (hS : va_S A H0 H locs) (q0 q1 : Nat) (ha0 : ws[q0]? = some (a0, .inl (c0, n0, .inl f))) (ha1 : ws[q1]? = some (a, .inl (c1, n1, .inl g))) (ht0 : ty[t0]? = some (c0, .int)) (ht1 : ty[t1]? = some (c1, .int)) (hset : ws.set q1 (a, .inl (c1, n1, .inl (va_cpy f g sp.toNatClampNeg dp.toNatClampNeg k.toNatClampNeg))) = wf E)
    (hfr : 1 ≤ R.frames) (hlo : (rest.map fun v => v.category).sum + (nativeFrameWords "java/lang/System" "arraycopy" 5 + 11) ≤ R.locals) (hdg : decode cc pc = .ok (.invokestatic index, 3))
    (kk : ∀ S1 : σ, kx S1 = some q → ∀ (H1 : Heap) (locs1 : List Loc), va_P D vwCl (wf S1) H1 → va_D A (wf S1) → va_S A H0 H1 locs1 → W p l e R s m args below meth c H1 locs1 cells slots Q (F0 m (pc + 3) ls rest)) : W p l e R s m args below meth c H locs cells slots Q (F0 m pc ls (.int k :: .int dp :: .ref a :: .int sp :: .ref a0 :: rest)) :=
  x_acopy C h hl hw1 hw2 hw3 hw4 hP hD hS q0 q1 ha0 ha1 ht0 ht1 hset hfr hlo hdg (kk E)
end XM
/-- a table's number of rows in use, and its cells -/
abbrev TV : Type := Int32 × (Nat → Int32)
def wT (cI : ClassId) (t c : Nat) (w : Int32) (n : Nat) (S : TV) : va_W := [(t, .inr (1, [.int w, .ref c, .int S.1])), (c, .inl (cI, n, .inl S.2))]
def wTT (cI : ClassId) (t c : Nat) (w : Int32) (n : Nat) (t2 c2 : Nat) (w2 : Int32) (n2 : Nat) (S : TV × TV) : va_W := [(t, .inr (1, [.int w, .ref c, .int S.1.1])), (c, .inl (cI, n, .inl S.1.2)), (t2, .inr (1, [.int w2, .ref c2, .int S.2.1])), (c2, .inl (cI, n2, .inl S.2.2))]
def wI (cI : ClassId) (a n : Nat) (S : Nat → Int32) : va_W := [(a, .inl (cI, n, .inl S))]
theorem inX2 : ∀ w ∈ u_ws RX2 TX2 18, w ∈ WS := by
  intro w hw
  obtain ⟨k, hk, rfl⟩ := List.mem_map.mp hw
  have hk := List.mem_range.mp hk
  match k, hk with
  | 0, _ => exact wl_X2_clients
  | 1, _ => exact wl_X2_tallies
  | 2, _ => exact wl_X2_surges
  | 3, _ => exact wl_X2_servers
  | 4, _ => exact wl_X2_switches
  | 5, _ => exact wl_X2_requests
  | 6, _ => exact wl_X2_queue
  | 7, _ => exact wl_X2_workers
  | 8, _ => exact wl_X2_backQueue
  | 9, _ => exact wl_X2_backWorkers
  | 10, _ => exact wl_X2_history
  | 11, _ => exact wl_X2_discipline
  | 12, _ => exact wl_X2_clock
  | 13, _ => exact wl_X2_seed
  | 14, _ => exact wl_X2_numbers
  | 15, _ => exact wl_X2_good
  | 16, _ => exact wl_X2_wasted
  | 17, _ => exact wl_X2_longest
  | k + 18, hk => exact absurd hk (by omega)
theorem inX3 : ∀ w ∈ u_ws RX3 TX3 3, w ∈ WS := by
  intro w hw
  obtain ⟨k, hk, rfl⟩ := List.mem_map.mp hw
  have hk := List.mem_range.mp hk
  match k, hk with
  | 0, _ => exact wl_X3_width
  | 1, _ => exact wl_X3_cells
  | 2, _ => exact wl_X3_size
  | k + 3, hk => exact absurd hk (by omega)
theorem inX5 : ∀ w ∈ u_ws RX5 TX5 4, w ∈ WS := by
  intro w hw
  obtain ⟨k, hk, rfl⟩ := List.mem_map.mp hw
  have hk := List.mem_range.mp hk
  match k, hk with
  | 0, _ => exact wl_X5_state
  | 1, _ => exact wl_X5_trial
  | 2, _ => exact wl_X5_recorded
  | 3, _ => exact wl_X5_records
  | k + 4, hk => exact absurd hk (by omega)
theorem inX6 : ∀ w ∈ u_ws RX6 TX6 10, w ∈ WS := by
  intro w hw
  obtain ⟨k, hk, rfl⟩ := List.mem_map.mp hw
  have hk := List.mem_range.mp hk
  match k, hk with
  | 0, _ => exact wl_X6_page
  | 1, _ => exact wl_X6_remembered
  | 2, _ => exact wl_X6_lows
  | 3, _ => exact wl_X6_highs
  | 4, _ => exact wl_X6_firsts
  | 5, _ => exact wl_X6_now
  | 6, _ => exact wl_X6_successes
  | 7, _ => exact wl_X6_sent
  | 8, _ => exact wl_X6_wasted
  | 9, _ => exact wl_X6_some
  | k + 10, hk => exact absurd hk (by omega)
theorem x_tabO0_12 {x : Int32} (h0 : ¬ x = 0) (h1 : ¬ x = 1) (h2 : ¬ x = 2) (h3 : ¬ x = 3) (h4 : ¬ x = 4) (h5 : ¬ x = 5) (h6 : ¬ x = 6) (h7 : ¬ x = 7) (h8 : ¬ x = 8) (h9 : ¬ x = 9) (h10 : ¬ x = 10) (h11 : ¬ x = 11) (h12 : ¬ x = 12) : x.toInt < 0 ∨ 12 < x.toInt := by
  have := fun (v : Int32) (n : Int) (hv : v.toInt = n) (h : ¬ x = v) => x_tne hv h
  have g0 := x_tne (n := 0) (by decide) h0
  have g1 := x_tne (n := 1) (by decide) h1
  have g2 := x_tne (n := 2) (by decide) h2
  have g3 := x_tne (n := 3) (by decide) h3
  have g4 := x_tne (n := 4) (by decide) h4
  have g5 := x_tne (n := 5) (by decide) h5
  have g6 := x_tne (n := 6) (by decide) h6
  have g7 := x_tne (n := 7) (by decide) h7
  have g8 := x_tne (n := 8) (by decide) h8
  have g9 := x_tne (n := 9) (by decide) h9
  have g10 := x_tne (n := 10) (by decide) h10
  have g11 := x_tne (n := 11) (by decide) h11
  have g12 := x_tne (n := 12) (by decide) h12
  omega
theorem x_tabO0_3 {x : Int32} (h0 : ¬ x = 0) (h1 : ¬ x = 1) (h2 : ¬ x = 2) (h3 : ¬ x = 3) : x.toInt < 0 ∨ 3 < x.toInt := by
  have := fun (v : Int32) (n : Int) (hv : v.toInt = n) (h : ¬ x = v) => x_tne hv h
  have g0 := x_tne (n := 0) (by decide) h0
  have g1 := x_tne (n := 1) (by decide) h1
  have g2 := x_tne (n := 2) (by decide) h2
  have g3 := x_tne (n := 3) (by decide) h3
  omega
theorem x_tabO0_4 {x : Int32} (h0 : ¬ x = 0) (h1 : ¬ x = 1) (h2 : ¬ x = 2) (h3 : ¬ x = 3) (h4 : ¬ x = 4) : x.toInt < 0 ∨ 4 < x.toInt := by
  have := fun (v : Int32) (n : Int) (hv : v.toInt = n) (h : ¬ x = v) => x_tne hv h
  have g0 := x_tne (n := 0) (by decide) h0
  have g1 := x_tne (n := 1) (by decide) h1
  have g2 := x_tne (n := 2) (by decide) h2
  have g3 := x_tne (n := 3) (by decide) h3
  have g4 := x_tne (n := 4) (by decide) h4
  omega
theorem x_tabO0_2 {x : Int32} (h0 : ¬ x = 0) (h1 : ¬ x = 1) (h2 : ¬ x = 2) : x.toInt < 0 ∨ 2 < x.toInt := by
  have := fun (v : Int32) (n : Int) (hv : v.toInt = n) (h : ¬ x = v) => x_tne hv h
  have g0 := x_tne (n := 0) (by decide) h0
  have g1 := x_tne (n := 1) (by decide) h1
  have g2 := x_tne (n := 2) (by decide) h2
  omega
theorem x_tabO1_3 {x : Int32} (h1 : ¬ x = 1) (h2 : ¬ x = 2) (h3 : ¬ x = 3) : x.toInt < 1 ∨ 3 < x.toInt := by
  have := fun (v : Int32) (n : Int) (hv : v.toInt = n) (h : ¬ x = v) => x_tne hv h
  have g1 := x_tne (n := 1) (by decide) h1
  have g2 := x_tne (n := 2) (by decide) h2
  have g3 := x_tne (n := 3) (by decide) h3
  omega
theorem x_tabO0_21 {x : Int32} (h0 : ¬ x = 0) (h1 : ¬ x = 1) (h2 : ¬ x = 2) (h3 : ¬ x = 3) (h4 : ¬ x = 4) (h5 : ¬ x = 5) (h6 : ¬ x = 6) (h7 : ¬ x = 7) (h8 : ¬ x = 8) (h9 : ¬ x = 9) (h10 : ¬ x = 10) (h11 : ¬ x = 11) (h12 : ¬ x = 12) (h13 : ¬ x = 13) (h14 : ¬ x = 14) (h15 : ¬ x = 15) (h16 : ¬ x = 16) (h17 : ¬ x = 17) (h18 : ¬ x = 18) (h19 : ¬ x = 19) (h20 : ¬ x = 20) (h21 : ¬ x = 21) : x.toInt < 0 ∨ 21 < x.toInt := by
  have := fun (v : Int32) (n : Int) (hv : v.toInt = n) (h : ¬ x = v) => x_tne hv h
  have g0 := x_tne (n := 0) (by decide) h0
  have g1 := x_tne (n := 1) (by decide) h1
  have g2 := x_tne (n := 2) (by decide) h2
  have g3 := x_tne (n := 3) (by decide) h3
  have g4 := x_tne (n := 4) (by decide) h4
  have g5 := x_tne (n := 5) (by decide) h5
  have g6 := x_tne (n := 6) (by decide) h6
  have g7 := x_tne (n := 7) (by decide) h7
  have g8 := x_tne (n := 8) (by decide) h8
  have g9 := x_tne (n := 9) (by decide) h9
  have g10 := x_tne (n := 10) (by decide) h10
  have g11 := x_tne (n := 11) (by decide) h11
  have g12 := x_tne (n := 12) (by decide) h12
  have g13 := x_tne (n := 13) (by decide) h13
  have g14 := x_tne (n := 14) (by decide) h14
  have g15 := x_tne (n := 15) (by decide) h15
  have g16 := x_tne (n := 16) (by decide) h16
  have g17 := x_tne (n := 17) (by decide) h17
  have g18 := x_tne (n := 18) (by decide) h18
  have g19 := x_tne (n := 19) (by decide) h19
  have g20 := x_tne (n := 20) (by decide) h20
  have g21 := x_tne (n := 21) (by decide) h21
  omega
theorem x_tabO2_4 {x : Int32} (h2 : ¬ x = 2) (h3 : ¬ x = 3) (h4 : ¬ x = 4) : x.toInt < 2 ∨ 4 < x.toInt := by
  have := fun (v : Int32) (n : Int) (hv : v.toInt = n) (h : ¬ x = v) => x_tne hv h
  have g2 := x_tne (n := 2) (by decide) h2
  have g3 := x_tne (n := 3) (by decide) h3
  have g4 := x_tne (n := 4) (by decide) h4
  omega
end
section
/-! the frame: a contract over a world holds over a larger one -/
theorem va_P_mem {D : va_G} {cl : List vw_C} {w : va_W} {H : Heap} : va_P D cl w H ↔ ∀ q ∈ w, va_at D cl q H := by
  constructor
  · intro h q hq
    obtain ⟨k, hk⟩ := List.getElem?_of_mem hq
    exact h k q hk
  · intro h k q hk
    exact h q (List.mem_of_getElem? hk)
theorem va_D_nd {A : Nat → Prop} {w : va_W} : va_D A w ↔ (w.map Prod.fst).Nodup ∧ ∀ q ∈ w, A q.1 := by
  constructor
  · intro h
    refine ⟨?_, fun q hq => ?_⟩
    · refine List.nodup_iff_pairwise_ne.mpr (List.pairwise_iff_getElem.mpr fun i j hi hj hij e => ?_)
      rw [List.length_map] at hi hj
      have h1 := h.1 i j w[i] w[j] (List.getElem?_eq_getElem hi) (List.getElem?_eq_getElem hj) (by simpa using e)
      omega
    · obtain ⟨k, hk⟩ := List.getElem?_of_mem hq
      exact h.2 k q hk
  · intro h
    refine ⟨fun i j p q hi hj e => ?_, fun k q hk => h.2 q (List.mem_of_getElem? hk)⟩
    have hn := List.pairwise_iff_getElem.mp (List.nodup_iff_pairwise_ne.mp h.1)
    obtain ⟨hi', ei⟩ := List.getElem?_eq_some_iff.mp hi
    obtain ⟨hj', ej⟩ := List.getElem?_eq_some_iff.mp hj
    rcases Nat.lt_trichotomy i j with q1 | q1 | q1
    · refine absurd ?_ (hn i j (by rw [List.length_map]; exact hi') (by rw [List.length_map]; exact hj') q1)
      rw [List.getElem_map, List.getElem_map, ei, ej]
      exact e
    · exact q1
    · refine absurd ?_ (hn j i (by rw [List.length_map]; exact hj') (by rw [List.length_map]; exact hi') q1)
      rw [List.getElem_map, List.getElem_map, ei, ej]
      exact e.symm
theorem va_A_mem {w : va_W} {sz q : Nat} : va_A w sz q ↔ q ∈ w.map Prod.fst ∨ sz ≤ q := by
  constructor
  · rintro (⟨k, e, h⟩ | h)
    · exact Or.inl (List.mem_map.mpr ⟨_, List.mem_of_getElem? h, rfl⟩)
    · exact Or.inr h
  · rintro (h | h)
    · obtain ⟨p, h1, h2⟩ := List.mem_map.mp h
      obtain ⟨k, hk⟩ := List.getElem?_of_mem h1
      exact Or.inl ⟨k, p.2, by rw [hk, ← h2]⟩
    · exact Or.inr h
theorem Met.conseq {l : Launch} {y : MethodName} {ws : List Cond} {rm : Room} {Pc Pc' : Array Value → State → Prop} {Qc Qc' : Array Value → State → Outcome → State → Prop} {mc ms : Nat} {free free' : Addr → Prop} (h : Met l y ws rm Pc Qc mc ms free) (hp : ∀ a s, Pc' a s → Pc a s) (hq : ∀ a s o t, Pc' a s → Qc a s o t → Qc' a s o t) (hf : ∀ q, free q → free' q) : Met l y ws rm Pc' Qc' mc ms free' := by
  intro p e h1 h2 h3 s m args below h4 h5 h6 h7
  obtain ⟨n, o, a1, a2, a3, a4, L, a5, a6⟩ := h p e h1 h2 h3 s m args below h4 h5 (hp _ _ h6) h7
  exact ⟨n, o, a1, a2, a3, hq _ _ _ _ h6 a4, L, a5, fun q hL => hf _ (a6 q hL)⟩
theorem Mc.frame {l : Launch} {D : va_G} {ty : List (ClassId × FieldType)} {z : Bool} {y : MethodName} {cc : ByteArray} {nL : Nat} {ret : Option FieldType} {d : Nat} {as : List Value} {wc wc1 w w1 fr : va_W} {v : Option Value} (h : Mc l D ty z y cc nL ret d as wc v wc1) (hw : w.Perm (wc ++ fr)) (hw1 : w1.Perm (wc1 ++ fr)) (hadr : wc1.map Prod.fst = wc.map Prod.fst) : Mc l D ty z y cc nL ret d as w v w1 := by
  intro sz
  have hAA : ∀ q, va_A wc sz q → va_A w sz q := fun q hq => by
    rcases va_A_mem.mp hq with hq | hq
    · exact va_A_mem.mpr (Or.inl ((hw.map Prod.fst).mem_iff.mpr (by rw [List.map_append]; exact List.mem_append_left _ hq)))
    · exact va_A_mem.mpr (Or.inr hq)
  have hfst : (w1.map Prod.fst).Perm (w.map Prod.fst) := by
    refine (hw1.map Prod.fst).trans (List.Perm.trans ?_ (hw.map Prod.fst).symm)
    rw [List.map_append, List.map_append, hadr]
  refine (h sz).conseq ?_ ?_ hAA
  · rintro a s ⟨h1, h2, h3, h4, h5, h6⟩
    have h5' := va_D_nd.mp h5
    refine ⟨h1, h2, va_P_mem.mpr fun q hq => va_P_mem.mp h3 q (hw.mem_iff.mpr (List.mem_append_left _ hq)), h4, va_D_nd.mpr ⟨?_, fun _ _ => trivial⟩, fun hz => (h6 hz).narrow hAA⟩
    have := ((hw.map Prod.fst).nodup_iff.mp h5'.1)
    rw [List.map_append] at this
    exact (List.nodup_append.mp this).1
  · rintro a s o t ⟨-, h2, h3, h4, h5, -⟩ ⟨q1, ⟨q2, q3, -⟩, q5⟩
    have h5' := va_D_nd.mp h5
    have hnd := ((hw.map Prod.fst).nodup_iff.mp h5'.1)
    rw [List.map_append] at hnd
    refine ⟨q1, ⟨va_P_mem.mpr fun q hq => ?_, q3, va_D_nd.mpr ⟨hfst.nodup_iff.mpr h5'.1, fun q hq => va_A_mem.mpr (Or.inl (hfst.mem_iff.mp (List.mem_map.mpr ⟨q, hq, rfl⟩)))⟩⟩, q5.1, fun q hq1 hq2 => q5.2 q hq1 (fun z => hq2 (hAA q z))⟩
    rcases List.mem_append.mp (hw1.mem_iff.mp hq) with hq | hq
    · exact va_P_mem.mp q2 q hq
    · have ha := va_P_mem.mp h3 q (hw.mem_iff.mpr (List.mem_append_right _ hq))
      refine ha.kept (q5.2 q.1 ha.lt fun z => ?_)
      rcases va_A_mem.mp z with z | z
      · exact (List.nodup_append.mp hnd).2.2 _ z _ (List.mem_map.mpr ⟨q, hq, rfl⟩) rfl
      · have := ha.lt; omega
theorem Mc.mid {l : Launch} {D : va_G} {ty : List (ClassId × FieldType)} {z : Bool} {y : MethodName} {cc : ByteArray} {nL : Nat} {ret : Option FieldType} {d : Nat} {as : List Value} {wc wc1 : va_W} {v : Option Value} (h : Mc l D ty z y cc nL ret d as wc v wc1) (hadr : wc1.map Prod.fst = wc.map Prod.fst) (pre post : va_W) : Mc l D ty z y cc nL ret d as (pre ++ (wc ++ post)) v (pre ++ (wc1 ++ post)) :=
  h.frame (fr := pre ++ post) (List.perm_append_comm_assoc _ _ _) (List.perm_append_comm_assoc _ _ _) hadr
theorem Mc.mid2 {l : Launch} {D : va_G} {ty : List (ClassId × FieldType)} {z : Bool} {y : MethodName} {cc : ByteArray} {nL : Nat} {ret : Option FieldType} {d : Nat} {as : List Value} {wa wa1 wb wb1 : va_W} {v : Option Value} (h : Mc l D ty z y cc nL ret d as (wa ++ wb) v (wa1 ++ wb1)) (hadr : (wa1 ++ wb1).map Prod.fst = (wa ++ wb).map Prod.fst) (pre mid post : va_W) : Mc l D ty z y cc nL ret d as (pre ++ (wa ++ (mid ++ (wb ++ post)))) v (pre ++ (wa1 ++ (mid ++ (wb1 ++ post)))) := by
  have key : ∀ a b : va_W, (pre ++ (a ++ (mid ++ (b ++ post)))).Perm ((a ++ b) ++ (pre ++ (mid ++ post))) := fun a b => by
    refine (List.perm_append_comm_assoc _ _ _).trans ?_
    rw [List.append_assoc]
    refine List.Perm.append_left a ?_
    refine (List.Perm.append_left pre (List.perm_append_comm_assoc mid b post)).trans ?_
    exact List.perm_append_comm_assoc _ _ _
  exact h.frame (fr := pre ++ (mid ++ post)) (key wa wb) (key wa1 wb1) hadr
end
section
theorem dJ9_floorMod_7cf53_0 : decode cJ9_floorMod_7cf53 0 = .ok (.iload_n 0, 1) := by decide +kernel
theorem dJ9_floorMod_7cf53_1 : decode cJ9_floorMod_7cf53 1 = .ok (.iload_n 1, 1) := by decide +kernel
theorem dJ9_floorMod_7cf53_2 : decode cJ9_floorMod_7cf53 2 = .ok (.irem, 1) := by decide +kernel
theorem dJ9_floorMod_7cf53_3 : decode cJ9_floorMod_7cf53 3 = .ok (.istore_n 2, 1) := by decide +kernel
theorem dJ9_floorMod_7cf53_4 : decode cJ9_floorMod_7cf53 4 = .ok (.iload_n 0, 1) := by decide +kernel
theorem dJ9_floorMod_7cf53_5 : decode cJ9_floorMod_7cf53 5 = .ok (.iload_n 1, 1) := by decide +kernel
theorem dJ9_floorMod_7cf53_6 : decode cJ9_floorMod_7cf53 6 = .ok (.ixor, 1) := by decide +kernel
theorem dJ9_floorMod_7cf53_7 : decode cJ9_floorMod_7cf53 7 = .ok (.ifCond .ge 11, 3) := by decide +kernel
theorem dJ9_floorMod_7cf53_10 : decode cJ9_floorMod_7cf53 10 = .ok (.iload_n 2, 1) := by decide +kernel
theorem dJ9_floorMod_7cf53_11 : decode cJ9_floorMod_7cf53 11 = .ok (.ifCond .eq 7, 3) := by decide +kernel
theorem dJ9_floorMod_7cf53_14 : decode cJ9_floorMod_7cf53 14 = .ok (.iload_n 2, 1) := by decide +kernel
theorem dJ9_floorMod_7cf53_15 : decode cJ9_floorMod_7cf53 15 = .ok (.iload_n 1, 1) := by decide +kernel
theorem dJ9_floorMod_7cf53_16 : decode cJ9_floorMod_7cf53 16 = .ok (.iadd, 1) := by decide +kernel
theorem dJ9_floorMod_7cf53_17 : decode cJ9_floorMod_7cf53 17 = .ok (.ireturn, 1) := by decide +kernel
theorem dJ9_floorMod_7cf53_18 : decode cJ9_floorMod_7cf53 18 = .ok (.iload_n 2, 1) := by decide +kernel
theorem dJ9_floorMod_7cf53_19 : decode cJ9_floorMod_7cf53 19 = .ok (.ireturn, 1) := by decide +kernel
def bfJ9_floorMod_7cf53_18 (p1 : Int32) (p2 : Int32) (x2 : Int32) : Option (Int32) :=
  some x2
def fJ9_floorMod_7cf53 (p1 : Int32) (p2 : Int32) : Option (Int32) :=
  (if p2 = 0 then none else nm ((p1 - p1 / p2 * p2)) fun v2 => (if 0 ≤ (p1 ^^^ p2) then bfJ9_floorMod_7cf53_18 p1 p2  v2 else (if v2 = 0 then bfJ9_floorMod_7cf53_18 p1 p2  v2 else some (v2 + p2))))
set_option maxHeartbeats 4000000 in
set_option maxRecDepth 100000 in
theorem kJ9_floorMod_7cf53 (l : Launch) (D : va_G) (cI cS : ClassId) (ws : va_W) (p1 : Int32) (p2 : Int32) {q : Int32} (h : fJ9_floorMod_7cf53 p1 p2 = some q) : Mc l D (tyL cI cS) false yJ9_floorMod_7cf53 cJ9_floorMod_7cf53 3 (some .int) 1 [.int p1, .int p2] (ws) (some (.int q)) (ws) := by
  refine Mc_of RJ9 (by decide +kernel) rfl wc_J9_floorMod_7cf53 (Nat.le_of_ble_eq_true rfl) ?_
  intro p e s m args below meth c A Q ls C hA hz hP hD hS hl RET
  have RETh : ∀ {pc : Nat} {ls : Array Slot} {H : Heap} {locs : List Loc} {x : Int32} , decode cJ9_floorMod_7cf53 pc = .ok (.ireturn, 1) → some x = some q → va_P D vwCl (ws) H → va_D A (ws) → va_S A s.heap H locs → W p l e (rmL 1) s m args below meth c H locs 0 0 Q (F0 m pc ls [.int x]) := by
    intro pc ls H locs x hd h hP hD hS; cases h; exact RET (x_iret C hd) hP hD hS
  have B18 : ∀ (x2 : Int32), bfJ9_floorMod_7cf53_18 p1 p2 x2 = some q → ∀ (H : Heap) (locs : List Loc) (ls : Array Slot), va_P D vwCl (ws) H → va_D A (ws) → va_S A s.heap H locs → lv_has ls 3 [(2, .int x2)] → W p l e (rmL 1) s m args below meth c H locs 0 0 Q (F0 m 18 ls []) := by
    intro x2 h H locs ls hP hD hS hl
    refine x_iload_n C dJ9_floorMod_7cf53_18 rfl hl 0 rfl ?_
    exact RETh dJ9_floorMod_7cf53_19 h hP hD hS
  refine x_iload_n C dJ9_floorMod_7cf53_0 rfl hl 0 rfl ?_
  refine x_iload_n C dJ9_floorMod_7cf53_1 rfl hl 1 rfl ?_
  refine x_irem C h dJ9_floorMod_7cf53_2 (fun h => ?_)
  refine x_nmi h (fun v2 h => ?_)
  refine x_istore_n (lv' := [(2, .int v2), (0, .int p1), (1, .int p2)]) C dJ9_floorMod_7cf53_3 rfl hl (by decide) rfl (fun ls hl => ?_)
  refine x_iload_n C dJ9_floorMod_7cf53_4 rfl hl 1 rfl ?_
  refine x_iload_n C dJ9_floorMod_7cf53_5 rfl hl 2 rfl ?_
  refine x_ixor C dJ9_floorMod_7cf53_6 ?_
  refine x_if_ge (tgt := 18) C h dJ9_floorMod_7cf53_7 (by decide) (fun h => ?_) (fun h => ?_)
  · exact B18 _ h _ _ _ hP hD hS (lv_sub hl [0] rfl)
  · refine x_iload_n C dJ9_floorMod_7cf53_10 rfl hl 0 rfl ?_
    refine x_if_eq (tgt := 18) C h dJ9_floorMod_7cf53_11 (by decide) (fun h => ?_) (fun h => ?_)
    · exact B18 _ h _ _ _ hP hD hS (lv_sub hl [0] rfl)
    · refine x_iload_n C dJ9_floorMod_7cf53_14 rfl hl 0 rfl ?_
      refine x_iload_n C dJ9_floorMod_7cf53_15 rfl hl 2 rfl ?_
      refine x_iadd C dJ9_floorMod_7cf53_16 ?_
      exact RETh dJ9_floorMod_7cf53_17 h hP hD hS
theorem dJ7_rangeCheck_23922_0 : decode cJ7_rangeCheck_23922 0 = .ok (.iload_n 1, 1) := by decide +kernel
theorem dJ7_rangeCheck_23922_1 : decode cJ7_rangeCheck_23922 1 = .ok (.iload_n 2, 1) := by decide +kernel
theorem dJ7_rangeCheck_23922_2 : decode cJ7_rangeCheck_23922 2 = .ok (.if_icmp .le 44, 3) := by decide +kernel
theorem dJ7_rangeCheck_23922_5 : decode cJ7_rangeCheck_23922 5 = .ok (.new 43, 3) := by decide +kernel
theorem dJ7_rangeCheck_23922_46 : decode cJ7_rangeCheck_23922 46 = .ok (.iload_n 1, 1) := by decide +kernel
theorem dJ7_rangeCheck_23922_47 : decode cJ7_rangeCheck_23922 47 = .ok (.ifCond .ge 12, 3) := by decide +kernel
theorem dJ7_rangeCheck_23922_50 : decode cJ7_rangeCheck_23922 50 = .ok (.new 68, 3) := by decide +kernel
theorem dJ7_rangeCheck_23922_59 : decode cJ7_rangeCheck_23922 59 = .ok (.iload_n 2, 1) := by decide +kernel
theorem dJ7_rangeCheck_23922_60 : decode cJ7_rangeCheck_23922 60 = .ok (.iload_n 0, 1) := by decide +kernel
theorem dJ7_rangeCheck_23922_61 : decode cJ7_rangeCheck_23922 61 = .ok (.if_icmp .le 12, 3) := by decide +kernel
theorem dJ7_rangeCheck_23922_64 : decode cJ7_rangeCheck_23922 64 = .ok (.new 68, 3) := by decide +kernel
theorem dJ7_rangeCheck_23922_73 : decode cJ7_rangeCheck_23922 73 = .ok (.return_, 1) := by decide +kernel
def fJ7_rangeCheck_23922 (p1 : Int32) (p2 : Int32) (p3 : Int32) : Option (Unit) :=
  (if p2 ≤ p3 then (if 0 ≤ p2 then (if p3 ≤ p1 then some () else none) else none) else none)
set_option maxHeartbeats 4000000 in
set_option maxRecDepth 100000 in
theorem kJ7_rangeCheck_23922 (l : Launch) (D : va_G) (cI cS : ClassId) (ws : va_W) (p1 : Int32) (p2 : Int32) (p3 : Int32) {q : Unit} (h : fJ7_rangeCheck_23922 p1 p2 p3 = some q) : Mc l D (tyL cI cS) false yJ7_rangeCheck_23922 cJ7_rangeCheck_23922 3 none 1 [.int p1, .int p2, .int p3] (ws) none (ws) := by
  refine Mc_of RJ7 (by decide +kernel) rfl wc_J7_rangeCheck_23922 (Nat.le_of_ble_eq_true rfl) ?_
  intro p e s m args below meth c A Q ls C hA hz hP hD hS hl RET
  have RETh : ∀ {pc : Nat} {ls : Array Slot} {H : Heap} {locs : List Loc} , decode cJ7_rangeCheck_23922 pc = .ok (.return_, 1) → some () = some q → va_P D vwCl (ws) H → va_D A (ws) → va_S A s.heap H locs → W p l e (rmL 1) s m args below meth c H locs 0 0 Q (F0 m pc ls []) := by
    intro pc ls H locs hd h hP hD hS; cases h; exact RET (x_vret C hd) hP hD hS
  refine x_iload_n C dJ7_rangeCheck_23922_0 rfl hl 1 rfl ?_
  refine x_iload_n C dJ7_rangeCheck_23922_1 rfl hl 2 rfl ?_
  refine x_icmp_le (tgt := 46) C h dJ7_rangeCheck_23922_2 (by decide) (fun h => ?_) (fun h => ?_)
  · refine x_iload_n C dJ7_rangeCheck_23922_46 rfl hl 1 rfl ?_
    refine x_if_ge (tgt := 59) C h dJ7_rangeCheck_23922_47 (by decide) (fun h => ?_) (fun h => ?_)
    · refine x_iload_n C dJ7_rangeCheck_23922_59 rfl hl 2 rfl ?_
      refine x_iload_n C dJ7_rangeCheck_23922_60 rfl hl 0 rfl ?_
      refine x_icmp_le (tgt := 73) C h dJ7_rangeCheck_23922_61 (by decide) (fun h => ?_) (fun h => ?_)
      · exact RETh dJ7_rangeCheck_23922_73 h hP hD hS
      · cases h
    · cases h
  · cases h
theorem dJ7_fill_fda19_0 : decode cJ7_fill_fda19 0 = .ok (.aload_n 0, 1) := by decide +kernel
theorem dJ7_fill_fda19_1 : decode cJ7_fill_fda19 1 = .ok (.arraylength, 1) := by decide +kernel
theorem dJ7_fill_fda19_2 : decode cJ7_fill_fda19 2 = .ok (.iload_n 1, 1) := by decide +kernel
theorem dJ7_fill_fda19_3 : decode cJ7_fill_fda19 3 = .ok (.iload_n 2, 1) := by decide +kernel
theorem dJ7_fill_fda19_4 : decode cJ7_fill_fda19 4 = .ok (.invokestatic 13, 3) := by decide +kernel
theorem dJ7_fill_fda19_7 : decode cJ7_fill_fda19 7 = .ok (.iload_n 1, 1) := by decide +kernel
theorem dJ7_fill_fda19_8 : decode cJ7_fill_fda19 8 = .ok (.istore 4, 2) := by decide +kernel
theorem dJ7_fill_fda19_10 : decode cJ7_fill_fda19 10 = .ok (.iload 4, 2) := by decide +kernel
theorem dJ7_fill_fda19_12 : decode cJ7_fill_fda19 12 = .ok (.iload_n 2, 1) := by decide +kernel
theorem dJ7_fill_fda19_13 : decode cJ7_fill_fda19 13 = .ok (.if_icmp .ge 14, 3) := by decide +kernel
theorem dJ7_fill_fda19_16 : decode cJ7_fill_fda19 16 = .ok (.aload_n 0, 1) := by decide +kernel
theorem dJ7_fill_fda19_17 : decode cJ7_fill_fda19 17 = .ok (.iload 4, 2) := by decide +kernel
theorem dJ7_fill_fda19_19 : decode cJ7_fill_fda19 19 = .ok (.iload_n 3, 1) := by decide +kernel
theorem dJ7_fill_fda19_20 : decode cJ7_fill_fda19 20 = .ok (.iastore, 1) := by decide +kernel
theorem dJ7_fill_fda19_21 : decode cJ7_fill_fda19 21 = .ok (.iinc 4 1, 3) := by decide +kernel
theorem dJ7_fill_fda19_24 : decode cJ7_fill_fda19 24 = .ok (.goto (-14), 3) := by decide +kernel
theorem dJ7_fill_fda19_27 : decode cJ7_fill_fda19 27 = .ok (.return_, 1) := by decide +kernel
def bfJ7_fill_fda19_10 (nN : Nat) (p2 : Int32) (p3 : Int32) (p4 : Int32) (K10 : Int32 × (Nat → Int32) → Option (Nat → Int32)) (x : Int32 × (Nat → Int32)) : Option (Nat → Int32) :=
  match x with
  | (x4, S) => (if p3 ≤ x4 then some S else (if okI x4 nN then nm (upd S (x4).toNatClampNeg p4) fun S3 => K10 ((x4 + (1 : Int32)), S3) else none))
def fJ7_fill_fda19 (nN : Nat) (p2 : Int32) (p3 : Int32) (p4 : Int32) (S : Nat → Int32) : Option (Nat → Int32) :=
  ob (fJ7_rangeCheck_23922 (nI nN) p2 p3) fun u4 => iter (bfJ7_fill_fda19_10 nN p2 p3 p4) FU (p2, S)
set_option maxHeartbeats 4000000 in
set_option maxRecDepth 100000 in
theorem kJ7_fill_fda19 (l : Launch) (D : va_G) (cI cS : ClassId) (aA : Nat) (nN : Nat) (p2 : Int32) (p3 : Int32) (p4 : Int32) (S : Nat → Int32) {q : Nat → Int32} (h : fJ7_fill_fda19 nN p2 p3 p4 S = some q) : Mc l D (tyL cI cS) false yJ7_fill_fda19 cJ7_fill_fda19 5 none 2 [.ref aA, .int p2, .int p3, .int p4] (wI cI aA nN S) none (wI cI aA nN q) := by
  refine Mc_of RJ7 (by decide +kernel) rfl wc_J7_fill_fda19 (Nat.le_of_ble_eq_true rfl) ?_
  intro p e s m args below meth c A Q ls C hA hz hP hD hS hl RET
  have RETh : ∀ {pc : Nat} {ls : Array Slot} {H : Heap} {locs : List Loc} {S1 : Nat → Int32}, decode cJ7_fill_fda19 pc = .ok (.return_, 1) → some S1 = some q → va_P D vwCl (wI cI aA nN S1) H → va_D A (wI cI aA nN S1) → va_S A s.heap H locs → W p l e (rmL 2) s m args below meth c H locs 0 0 Q (F0 m pc ls []) := by
    intro pc ls H locs S1 hd h hP hD hS; cases h; exact RET (x_vret C hd) hP hD hS
  have B10 : ∀ (n : Nat) (x : Int32 × (Nat → Int32)), iter (bfJ7_fill_fda19_10 nN p2 p3 p4) n x = some q → (match x with | (x4, S) => ∀ (H : Heap) (locs : List Loc) (ls : Array Slot), va_P D vwCl (wI cI aA nN S) H → va_D A (wI cI aA nN S) → va_S A s.heap H locs → lv_has ls 5 [(0, .ref aA), (2, .int p3), (3, .int p4), (4, .int x4)] → W p l e (rmL 2) s m args below meth c H locs 0 0 Q (F0 m 10 ls [])) := by
    refine iter_ind (fun x : Int32 × (Nat → Int32) => (match x with | (x4, S) => ∀ (H : Heap) (locs : List Loc) (ls : Array Slot), va_P D vwCl (wI cI aA nN S) H → va_D A (wI cI aA nN S) → va_S A s.heap H locs → lv_has ls 5 [(0, .ref aA), (2, .int p3), (3, .int p4), (4, .int x4)] → W p l e (rmL 2) s m args below meth c H locs 0 0 Q (F0 m 10 ls []))) ?_
    intro K10 ih10 x h
    obtain ⟨x4, S⟩ := x
    intro H locs ls hP hD hS hl
    refine x_iload C dJ7_fill_fda19_10 hl 3 rfl ?_
    refine x_iload_n C dJ7_fill_fda19_12 rfl hl 1 rfl ?_
    refine x_icmp_ge (tgt := 27) C h dJ7_fill_fda19_13 (by decide) (fun h => ?_) (fun h => ?_)
    · exact RETh dJ7_fill_fda19_27 h hP hD hS
    · refine x_aload_n C dJ7_fill_fda19_16 rfl hl 0 rfl ?_
      refine x_iload C dJ7_fill_fda19_17 hl 3 rfl ?_
      refine x_iload_n C dJ7_fill_fda19_19 rfl hl 2 rfl ?_
      refine x_iastM (wI cI aA nN) C h hP hD hS 0 rfl (t0 := 0) rfl rfl dJ7_fill_fda19_20 (fun S3 h H locs hP hD hS => ?_)
      refine x_iinc (v := (x4 + (1 : Int32))) (lv' := [(4, .int (x4 + (1 : Int32))), (0, .ref aA), (2, .int p3), (3, .int p4)]) C dJ7_fill_fda19_21 hl (k := 3) rfl rfl (by decide) rfl (fun ls hl => ?_)
      refine x_goto (tgt := 10) C dJ7_fill_fda19_24 (by decide) ?_
      exact ih10 _ h _ _ _ hP hD hS (lv_sub hl [1, 2, 3, 0] rfl)
  refine x_aload_n C dJ7_fill_fda19_0 rfl hl 0 rfl ?_
  refine x_alen C hP 0 rfl (t0 := 0) rfl rfl dJ7_fill_fda19_1 ?_
  refine x_iload_n C dJ7_fill_fda19_2 rfl hl 1 rfl ?_
  refine x_iload_n C dJ7_fill_fda19_3 rfl hl 2 rfl ?_
  obtain ⟨u4, hu4, h⟩ := ob_some h
  refine x_callS (As := [.int _, .int _, .int _]) (n := 3) C (kJ7_rangeCheck_23922 l D cI cS _ _ _ _ hu4) (fun hh => nomatch hh) wm_J7_13 wt_J7_rangeCheck_23922 wz_J7 wc_J7_rangeCheck_23922 (by decide +kernel) rfl hP hD hS hA hl.1 dJ7_fill_fda19_4 rfl (Nat.le_of_ble_eq_true rfl) ⟨Nat.le_of_ble_eq_true rfl, Nat.le_of_ble_eq_true rfl⟩ ⟨Nat.zero_le _, Nat.zero_le _⟩ (fun H locs hP hD hS => ?_)
  refine x_iload_n C dJ7_fill_fda19_7 rfl hl 1 rfl ?_
  refine x_istore (lv' := [(4, .int p2), (0, .ref aA), (1, .int p2), (2, .int p3), (3, .int p4)]) C dJ7_fill_fda19_8 hl (by decide) rfl (fun ls hl => ?_)
  exact B10 FU _ h _ _ _ hP hD hS (lv_sub hl [1, 3, 4, 0] rfl)
theorem dX3_size_0 : decode cX3_size 0 = .ok (.aload_n 0, 1) := by decide +kernel
theorem dX3_size_1 : decode cX3_size 1 = .ok (.getfield 25, 3) := by decide +kernel
theorem dX3_size_4 : decode cX3_size 4 = .ok (.ireturn, 1) := by decide +kernel
def fX3_size (wW : Int32) (nN : Nat) (S : TV) : Option (Int32) :=
  some S.1
set_option maxHeartbeats 4000000 in
set_option maxRecDepth 100000 in
theorem kX3_size (l : Launch) (D : va_G) (cI cS : ClassId) (tA tC : Nat) (wW : Int32) (nN : Nat) (S : TV) {q : Int32} (h : fX3_size wW nN S = some q) : Mc l D (tyL cI cS) false yX3_size cX3_size 1 (some .int) 1 [.ref tA] (wT cI tA tC wW nN S) (some (.int q)) (wT cI tA tC wW nN S) := by
  refine Mc_of RX3 (by decide +kernel) rfl wc_X3_size (Nat.le_of_ble_eq_true rfl) ?_
  intro p e s m args below meth c A Q ls C hA hz hP hD hS hl RET
  have RETh : ∀ {pc : Nat} {ls : Array Slot} {H : Heap} {locs : List Loc} {x : Int32} , decode cX3_size pc = .ok (.ireturn, 1) → some x = some q → va_P D vwCl (wT cI tA tC wW nN S) H → va_D A (wT cI tA tC wW nN S) → va_S A s.heap H locs → W p l e (rmL 1) s m args below meth c H locs 0 0 Q (F0 m pc ls [.int x]) := by
    intro pc ls H locs x hd h hP hD hS; cases h; exact RET (x_iret C hd) hP hD hS
  refine x_aload_n C dX3_size_0 rfl hl 0 rfl ?_
  refine x_get C inX3 hP 0 rfl rfl 2 (by decide) wf_X3_25 rfl dX3_size_1 ?_
  exact RETh dX3_size_4 h hP hD hS
theorem dX3_get_0 : decode cX3_get 0 = .ok (.iload_n 1, 1) := by decide +kernel
theorem dX3_get_1 : decode cX3_get 1 = .ok (.ifCond .lt 23, 3) := by decide +kernel
theorem dX3_get_4 : decode cX3_get 4 = .ok (.iload_n 1, 1) := by decide +kernel
theorem dX3_get_5 : decode cX3_get 5 = .ok (.aload_n 0, 1) := by decide +kernel
theorem dX3_get_6 : decode cX3_get 6 = .ok (.getfield 25, 3) := by decide +kernel
theorem dX3_get_9 : decode cX3_get 9 = .ok (.if_icmp .ge 15, 3) := by decide +kernel
theorem dX3_get_12 : decode cX3_get 12 = .ok (.iload_n 2, 1) := by decide +kernel
theorem dX3_get_13 : decode cX3_get 13 = .ok (.ifCond .lt 11, 3) := by decide +kernel
theorem dX3_get_16 : decode cX3_get 16 = .ok (.iload_n 2, 1) := by decide +kernel
theorem dX3_get_17 : decode cX3_get 17 = .ok (.aload_n 0, 1) := by decide +kernel
theorem dX3_get_18 : decode cX3_get 18 = .ok (.getfield 9, 3) := by decide +kernel
theorem dX3_get_21 : decode cX3_get 21 = .ok (.if_icmp .lt 6, 3) := by decide +kernel
theorem dX3_get_24 : decode cX3_get 24 = .ok (.bipush (-9), 2) := by decide +kernel
theorem dX3_get_26 : decode cX3_get 26 = .ok (.ireturn, 1) := by decide +kernel
theorem dX3_get_27 : decode cX3_get 27 = .ok (.iload_n 1, 1) := by decide +kernel
theorem dX3_get_28 : decode cX3_get 28 = .ok (.aload_n 0, 1) := by decide +kernel
theorem dX3_get_29 : decode cX3_get 29 = .ok (.getfield 9, 3) := by decide +kernel
theorem dX3_get_32 : decode cX3_get 32 = .ok (.imul, 1) := by decide +kernel
theorem dX3_get_33 : decode cX3_get 33 = .ok (.iload_n 2, 1) := by decide +kernel
theorem dX3_get_34 : decode cX3_get 34 = .ok (.iadd, 1) := by decide +kernel
theorem dX3_get_35 : decode cX3_get 35 = .ok (.istore_n 3, 1) := by decide +kernel
theorem dX3_get_36 : decode cX3_get 36 = .ok (.iload_n 3, 1) := by decide +kernel
theorem dX3_get_37 : decode cX3_get 37 = .ok (.ifCond .lt 21, 3) := by decide +kernel
theorem dX3_get_40 : decode cX3_get 40 = .ok (.iload_n 3, 1) := by decide +kernel
theorem dX3_get_41 : decode cX3_get 41 = .ok (.aload_n 0, 1) := by decide +kernel
theorem dX3_get_42 : decode cX3_get 42 = .ok (.getfield 21, 3) := by decide +kernel
theorem dX3_get_45 : decode cX3_get 45 = .ok (.arraylength, 1) := by decide +kernel
theorem dX3_get_46 : decode cX3_get 46 = .ok (.if_icmp .ge 12, 3) := by decide +kernel
theorem dX3_get_49 : decode cX3_get 49 = .ok (.aload_n 0, 1) := by decide +kernel
theorem dX3_get_50 : decode cX3_get 50 = .ok (.getfield 21, 3) := by decide +kernel
theorem dX3_get_53 : decode cX3_get 53 = .ok (.iload_n 3, 1) := by decide +kernel
theorem dX3_get_54 : decode cX3_get 54 = .ok (.iaload, 1) := by decide +kernel
theorem dX3_get_55 : decode cX3_get 55 = .ok (.goto 5, 3) := by decide +kernel
theorem dX3_get_58 : decode cX3_get 58 = .ok (.bipush (-9), 2) := by decide +kernel
theorem dX3_get_60 : decode cX3_get 60 = .ok (.ireturn, 1) := by decide +kernel
def bfX3_get_60 (wW : Int32) (nN : Nat) (p1 : Int32) (p2 : Int32) (S : TV) (s0 : Int32) : Option (Int32) :=
  some s0
def bfX3_get_58 (wW : Int32) (nN : Nat) (p1 : Int32) (p2 : Int32) (S : TV) : Option (Int32) :=
  bfX3_get_60 wW nN p1 p2 S  ((-9 : Int32))
def bfX3_get_24 (wW : Int32) (nN : Nat) (p1 : Int32) (p2 : Int32) (S : TV) : Option (Int32) :=
  some (-9 : Int32)
def fX3_get (wW : Int32) (nN : Nat) (p1 : Int32) (p2 : Int32) (S : TV) : Option (Int32) :=
  (if p1 < 0 then bfX3_get_24 wW nN p1 p2 S else (if S.1 ≤ p1 then bfX3_get_24 wW nN p1 p2 S else (if p2 < 0 then bfX3_get_24 wW nN p1 p2 S else (if p2 < wW then nm (((p1 * wW) + p2)) fun v2 => (if v2 < 0 then bfX3_get_58 wW nN p1 p2 S else (if (nI nN) ≤ v2 then bfX3_get_58 wW nN p1 p2 S else (if okI v2 nN then bfX3_get_60 wW nN p1 p2 S  ((S.2 (v2).toNatClampNeg)) else none))) else bfX3_get_24 wW nN p1 p2 S))))
set_option maxHeartbeats 4000000 in
set_option maxRecDepth 100000 in
theorem kX3_get (l : Launch) (D : va_G) (cI cS : ClassId) (tA tC : Nat) (wW : Int32) (nN : Nat) (p1 : Int32) (p2 : Int32) (S : TV) {q : Int32} (h : fX3_get wW nN p1 p2 S = some q) : Mc l D (tyL cI cS) false yX3_get cX3_get 4 (some .int) 1 [.ref tA, .int p1, .int p2] (wT cI tA tC wW nN S) (some (.int q)) (wT cI tA tC wW nN S) := by
  refine Mc_of RX3 (by decide +kernel) rfl wc_X3_get (Nat.le_of_ble_eq_true rfl) ?_
  intro p e s m args below meth c A Q ls C hA hz hP hD hS hl RET
  have RETh : ∀ {pc : Nat} {ls : Array Slot} {H : Heap} {locs : List Loc} {x : Int32} , decode cX3_get pc = .ok (.ireturn, 1) → some x = some q → va_P D vwCl (wT cI tA tC wW nN S) H → va_D A (wT cI tA tC wW nN S) → va_S A s.heap H locs → W p l e (rmL 1) s m args below meth c H locs 0 0 Q (F0 m pc ls [.int x]) := by
    intro pc ls H locs x hd h hP hD hS; cases h; exact RET (x_iret C hd) hP hD hS
  have B60 : ∀ (s0 : Int32), bfX3_get_60 wW nN p1 p2 S s0 = some q → ∀ (H : Heap) (locs : List Loc) (ls : Array Slot), va_P D vwCl (wT cI tA tC wW nN S) H → va_D A (wT cI tA tC wW nN S) → va_S A s.heap H locs → lv_has ls 4 [] → W p l e (rmL 1) s m args below meth c H locs 0 0 Q (F0 m 60 ls [.int s0]) := by
    intro s0 h H locs ls hP hD hS hl
    exact RETh dX3_get_60 h hP hD hS
  have B58 : bfX3_get_58 wW nN p1 p2 S = some q → ∀ (H : Heap) (locs : List Loc) (ls : Array Slot), va_P D vwCl (wT cI tA tC wW nN S) H → va_D A (wT cI tA tC wW nN S) → va_S A s.heap H locs → lv_has ls 4 [] → W p l e (rmL 1) s m args below meth c H locs 0 0 Q (F0 m 58 ls []) := by
    intro  h H locs ls hP hD hS hl
    refine x_bipush (v := (-9 : Int32)) C dX3_get_58 (by decide) ?_
    exact B60 _ h _ _ _ hP hD hS hl
  have B24 : bfX3_get_24 wW nN p1 p2 S = some q → ∀ (H : Heap) (locs : List Loc) (ls : Array Slot), va_P D vwCl (wT cI tA tC wW nN S) H → va_D A (wT cI tA tC wW nN S) → va_S A s.heap H locs → lv_has ls 4 [] → W p l e (rmL 1) s m args below meth c H locs 0 0 Q (F0 m 24 ls []) := by
    intro  h H locs ls hP hD hS hl
    refine x_bipush (v := (-9 : Int32)) C dX3_get_24 (by decide) ?_
    exact RETh dX3_get_26 h hP hD hS
  refine x_iload_n C dX3_get_0 rfl hl 1 rfl ?_
  refine x_if_lt (tgt := 24) C h dX3_get_1 (by decide) (fun h => ?_) (fun h => ?_)
  · exact B24  h _ _ _ hP hD hS (lv_sub hl [] rfl)
  · refine x_iload_n C dX3_get_4 rfl hl 1 rfl ?_
    refine x_aload_n C dX3_get_5 rfl hl 0 rfl ?_
    refine x_get C inX3 hP 0 rfl rfl 2 (by decide) wf_X3_25 rfl dX3_get_6 ?_
    refine x_icmp_ge (tgt := 24) C h dX3_get_9 (by decide) (fun h => ?_) (fun h => ?_)
    · exact B24  h _ _ _ hP hD hS (lv_sub hl [] rfl)
    · refine x_iload_n C dX3_get_12 rfl hl 2 rfl ?_
      refine x_if_lt (tgt := 24) C h dX3_get_13 (by decide) (fun h => ?_) (fun h => ?_)
      · exact B24  h _ _ _ hP hD hS (lv_sub hl [] rfl)
      · refine x_iload_n C dX3_get_16 rfl hl 2 rfl ?_
        refine x_aload_n C dX3_get_17 rfl hl 0 rfl ?_
        refine x_get C inX3 hP 0 rfl rfl 0 (by decide) wf_X3_9 rfl dX3_get_18 ?_
        refine x_icmp_lt (tgt := 27) C h dX3_get_21 (by decide) (fun h => ?_) (fun h => ?_)
        · refine x_iload_n C dX3_get_27 rfl hl 1 rfl ?_
          refine x_aload_n C dX3_get_28 rfl hl 0 rfl ?_
          refine x_get C inX3 hP 0 rfl rfl 0 (by decide) wf_X3_9 rfl dX3_get_29 ?_
          refine x_imul C dX3_get_32 ?_
          refine x_iload_n C dX3_get_33 rfl hl 2 rfl ?_
          refine x_iadd C dX3_get_34 ?_
          refine x_nmi h (fun v2 h => ?_)
          refine x_istore_n (lv' := [(3, .int v2), (0, .ref tA), (1, .int p1), (2, .int p2)]) C dX3_get_35 rfl hl (by decide) rfl (fun ls hl => ?_)
          refine x_iload_n C dX3_get_36 rfl hl 0 rfl ?_
          refine x_if_lt (tgt := 58) C h dX3_get_37 (by decide) (fun h => ?_) (fun h => ?_)
          · exact B58  h _ _ _ hP hD hS (lv_sub hl [] rfl)
          · refine x_iload_n C dX3_get_40 rfl hl 0 rfl ?_
            refine x_aload_n C dX3_get_41 rfl hl 1 rfl ?_
            refine x_get C inX3 hP 0 rfl rfl 1 (by decide) wf_X3_21 rfl dX3_get_42 ?_
            refine x_alen C hP 1 rfl (t0 := 0) rfl rfl dX3_get_45 ?_
            refine x_icmp_ge (tgt := 58) C h dX3_get_46 (by decide) (fun h => ?_) (fun h => ?_)
            · exact B58  h _ _ _ hP hD hS (lv_sub hl [] rfl)
            · refine x_aload_n C dX3_get_49 rfl hl 1 rfl ?_
              refine x_get C inX3 hP 0 rfl rfl 1 (by decide) wf_X3_21 rfl dX3_get_50 ?_
              refine x_iload_n C dX3_get_53 rfl hl 0 rfl ?_
              refine x_iald C h hP 1 rfl (t0 := 0) rfl dX3_get_54 (fun h => ?_)
              refine x_goto (tgt := 60) C dX3_get_55 (by decide) ?_
              exact B60 _ h _ _ _ hP hD hS (lv_sub hl [] rfl)
        · exact B24  h _ _ _ hP hD hS (lv_sub hl [] rfl)
theorem dX3_put_0 : decode cX3_put 0 = .ok (.iload_n 1, 1) := by decide +kernel
theorem dX3_put_1 : decode cX3_put 1 = .ok (.ifCond .lt 23, 3) := by decide +kernel
theorem dX3_put_4 : decode cX3_put 4 = .ok (.iload_n 1, 1) := by decide +kernel
theorem dX3_put_5 : decode cX3_put 5 = .ok (.aload_n 0, 1) := by decide +kernel
theorem dX3_put_6 : decode cX3_put 6 = .ok (.getfield 25, 3) := by decide +kernel
theorem dX3_put_9 : decode cX3_put 9 = .ok (.if_icmp .ge 15, 3) := by decide +kernel
theorem dX3_put_12 : decode cX3_put 12 = .ok (.iload_n 2, 1) := by decide +kernel
theorem dX3_put_13 : decode cX3_put 13 = .ok (.ifCond .lt 11, 3) := by decide +kernel
theorem dX3_put_16 : decode cX3_put 16 = .ok (.iload_n 2, 1) := by decide +kernel
theorem dX3_put_17 : decode cX3_put 17 = .ok (.aload_n 0, 1) := by decide +kernel
theorem dX3_put_18 : decode cX3_put 18 = .ok (.getfield 9, 3) := by decide +kernel
theorem dX3_put_21 : decode cX3_put 21 = .ok (.if_icmp .lt 4, 3) := by decide +kernel
theorem dX3_put_24 : decode cX3_put 24 = .ok (.return_, 1) := by decide +kernel
theorem dX3_put_25 : decode cX3_put 25 = .ok (.iload_n 1, 1) := by decide +kernel
theorem dX3_put_26 : decode cX3_put 26 = .ok (.aload_n 0, 1) := by decide +kernel
theorem dX3_put_27 : decode cX3_put 27 = .ok (.getfield 9, 3) := by decide +kernel
theorem dX3_put_30 : decode cX3_put 30 = .ok (.imul, 1) := by decide +kernel
theorem dX3_put_31 : decode cX3_put 31 = .ok (.iload_n 2, 1) := by decide +kernel
theorem dX3_put_32 : decode cX3_put 32 = .ok (.iadd, 1) := by decide +kernel
theorem dX3_put_33 : decode cX3_put 33 = .ok (.istore 4, 2) := by decide +kernel
theorem dX3_put_35 : decode cX3_put 35 = .ok (.iload 4, 2) := by decide +kernel
theorem dX3_put_37 : decode cX3_put 37 = .ok (.ifCond .lt 21, 3) := by decide +kernel
theorem dX3_put_40 : decode cX3_put 40 = .ok (.iload 4, 2) := by decide +kernel
theorem dX3_put_42 : decode cX3_put 42 = .ok (.aload_n 0, 1) := by decide +kernel
theorem dX3_put_43 : decode cX3_put 43 = .ok (.getfield 21, 3) := by decide +kernel
theorem dX3_put_46 : decode cX3_put 46 = .ok (.arraylength, 1) := by decide +kernel
theorem dX3_put_47 : decode cX3_put 47 = .ok (.if_icmp .ge 11, 3) := by decide +kernel
theorem dX3_put_50 : decode cX3_put 50 = .ok (.aload_n 0, 1) := by decide +kernel
theorem dX3_put_51 : decode cX3_put 51 = .ok (.getfield 21, 3) := by decide +kernel
theorem dX3_put_54 : decode cX3_put 54 = .ok (.iload 4, 2) := by decide +kernel
theorem dX3_put_56 : decode cX3_put 56 = .ok (.iload_n 3, 1) := by decide +kernel
theorem dX3_put_57 : decode cX3_put 57 = .ok (.iastore, 1) := by decide +kernel
theorem dX3_put_58 : decode cX3_put 58 = .ok (.return_, 1) := by decide +kernel
def bfX3_put_58 (wW : Int32) (nN : Nat) (p1 : Int32) (p2 : Int32) (p3 : Int32) (S : TV) : Option (TV) :=
  some S
def bfX3_put_24 (wW : Int32) (nN : Nat) (p1 : Int32) (p2 : Int32) (p3 : Int32) (S : TV) : Option (TV) :=
  some S
def fX3_put (wW : Int32) (nN : Nat) (p1 : Int32) (p2 : Int32) (p3 : Int32) (S : TV) : Option (TV) :=
  (if p1 < 0 then bfX3_put_24 wW nN p1 p2 p3  S else (if S.1 ≤ p1 then bfX3_put_24 wW nN p1 p2 p3  S else (if p2 < 0 then bfX3_put_24 wW nN p1 p2 p3  S else (if p2 < wW then nm (((p1 * wW) + p2)) fun v3 => (if v3 < 0 then bfX3_put_58 wW nN p1 p2 p3  S else (if (nI nN) ≤ v3 then bfX3_put_58 wW nN p1 p2 p3  S else (if okI v3 nN then nm (S.1, upd S.2 (v3).toNatClampNeg p3) fun S4 => bfX3_put_58 wW nN p1 p2 p3  S4 else none))) else bfX3_put_24 wW nN p1 p2 p3  S))))
set_option maxHeartbeats 4000000 in
set_option maxRecDepth 100000 in
theorem kX3_put (l : Launch) (D : va_G) (cI cS : ClassId) (tA tC : Nat) (wW : Int32) (nN : Nat) (p1 : Int32) (p2 : Int32) (p3 : Int32) (S : TV) {q : TV} (h : fX3_put wW nN p1 p2 p3 S = some q) : Mc l D (tyL cI cS) false yX3_put cX3_put 5 none 1 [.ref tA, .int p1, .int p2, .int p3] (wT cI tA tC wW nN S) none (wT cI tA tC wW nN q) := by
  refine Mc_of RX3 (by decide +kernel) rfl wc_X3_put (Nat.le_of_ble_eq_true rfl) ?_
  intro p e s m args below meth c A Q ls C hA hz hP hD hS hl RET
  have RETh : ∀ {pc : Nat} {ls : Array Slot} {H : Heap} {locs : List Loc} {S1 : TV}, decode cX3_put pc = .ok (.return_, 1) → some S1 = some q → va_P D vwCl (wT cI tA tC wW nN S1) H → va_D A (wT cI tA tC wW nN S1) → va_S A s.heap H locs → W p l e (rmL 1) s m args below meth c H locs 0 0 Q (F0 m pc ls []) := by
    intro pc ls H locs S1 hd h hP hD hS; cases h; exact RET (x_vret C hd) hP hD hS
  have B58 : ∀ (S : TV), bfX3_put_58 wW nN p1 p2 p3 S = some q → ∀ (H : Heap) (locs : List Loc) (ls : Array Slot), va_P D vwCl (wT cI tA tC wW nN S) H → va_D A (wT cI tA tC wW nN S) → va_S A s.heap H locs → lv_has ls 5 [] → W p l e (rmL 1) s m args below meth c H locs 0 0 Q (F0 m 58 ls []) := by
    intro S h H locs ls hP hD hS hl
    exact RETh dX3_put_58 h hP hD hS
  have B24 : ∀ (S : TV), bfX3_put_24 wW nN p1 p2 p3 S = some q → ∀ (H : Heap) (locs : List Loc) (ls : Array Slot), va_P D vwCl (wT cI tA tC wW nN S) H → va_D A (wT cI tA tC wW nN S) → va_S A s.heap H locs → lv_has ls 5 [] → W p l e (rmL 1) s m args below meth c H locs 0 0 Q (F0 m 24 ls []) := by
    intro S h H locs ls hP hD hS hl
    exact RETh dX3_put_24 h hP hD hS
  refine x_iload_n C dX3_put_0 rfl hl 1 rfl ?_
  refine x_if_lt (tgt := 24) C h dX3_put_1 (by decide) (fun h => ?_) (fun h => ?_)
  · exact B24 _ h _ _ _ hP hD hS (lv_sub hl [] rfl)
  · refine x_iload_n C dX3_put_4 rfl hl 1 rfl ?_
    refine x_aload_n C dX3_put_5 rfl hl 0 rfl ?_
    refine x_get C inX3 hP 0 rfl rfl 2 (by decide) wf_X3_25 rfl dX3_put_6 ?_
    refine x_icmp_ge (tgt := 24) C h dX3_put_9 (by decide) (fun h => ?_) (fun h => ?_)
    · exact B24 _ h _ _ _ hP hD hS (lv_sub hl [] rfl)
    · refine x_iload_n C dX3_put_12 rfl hl 2 rfl ?_
      refine x_if_lt (tgt := 24) C h dX3_put_13 (by decide) (fun h => ?_) (fun h => ?_)
      · exact B24 _ h _ _ _ hP hD hS (lv_sub hl [] rfl)
      · refine x_iload_n C dX3_put_16 rfl hl 2 rfl ?_
        refine x_aload_n C dX3_put_17 rfl hl 0 rfl ?_
        refine x_get C inX3 hP 0 rfl rfl 0 (by decide) wf_X3_9 rfl dX3_put_18 ?_
        refine x_icmp_lt (tgt := 25) C h dX3_put_21 (by decide) (fun h => ?_) (fun h => ?_)
        · refine x_iload_n C dX3_put_25 rfl hl 1 rfl ?_
          refine x_aload_n C dX3_put_26 rfl hl 0 rfl ?_
          refine x_get C inX3 hP 0 rfl rfl 0 (by decide) wf_X3_9 rfl dX3_put_27 ?_
          refine x_imul C dX3_put_30 ?_
          refine x_iload_n C dX3_put_31 rfl hl 2 rfl ?_
          refine x_iadd C dX3_put_32 ?_
          refine x_nmi h (fun v3 h => ?_)
          refine x_istore (lv' := [(4, .int v3), (0, .ref tA), (1, .int p1), (2, .int p2), (3, .int p3)]) C dX3_put_33 hl (by decide) rfl (fun ls hl => ?_)
          refine x_iload C dX3_put_35 hl 0 rfl ?_
          refine x_if_lt (tgt := 58) C h dX3_put_37 (by decide) (fun h => ?_) (fun h => ?_)
          · exact B58 _ h _ _ _ hP hD hS (lv_sub hl [] rfl)
          · refine x_iload C dX3_put_40 hl 0 rfl ?_
            refine x_aload_n C dX3_put_42 rfl hl 1 rfl ?_
            refine x_get C inX3 hP 0 rfl rfl 1 (by decide) wf_X3_21 rfl dX3_put_43 ?_
            refine x_alen C hP 1 rfl (t0 := 0) rfl rfl dX3_put_46 ?_
            refine x_icmp_ge (tgt := 58) C h dX3_put_47 (by decide) (fun h => ?_) (fun h => ?_)
            · exact B58 _ h _ _ _ hP hD hS (lv_sub hl [] rfl)
            · refine x_aload_n C dX3_put_50 rfl hl 1 rfl ?_
              refine x_get C inX3 hP 0 rfl rfl 1 (by decide) wf_X3_21 rfl dX3_put_51 ?_
              refine x_iload C dX3_put_54 hl 0 rfl ?_
              refine x_iload_n C dX3_put_56 rfl hl 4 rfl ?_
              refine x_iastM (wT cI tA tC wW nN) C h hP hD hS 1 rfl (t0 := 0) rfl rfl dX3_put_57 (fun S4 h H locs hP hD hS => ?_)
              exact B58 _ h _ _ _ hP hD hS (lv_sub hl [] rfl)
        · exact B24 _ h _ _ _ hP hD hS (lv_sub hl [] rfl)
theorem dX3_add_0 : decode cX3_add 0 = .ok (.aload_n 0, 1) := by decide +kernel
theorem dX3_add_1 : decode cX3_add 1 = .ok (.iload_n 1, 1) := by decide +kernel
theorem dX3_add_2 : decode cX3_add 2 = .ok (.iload_n 2, 1) := by decide +kernel
theorem dX3_add_3 : decode cX3_add 3 = .ok (.aload_n 0, 1) := by decide +kernel
theorem dX3_add_4 : decode cX3_add 4 = .ok (.iload_n 1, 1) := by decide +kernel
theorem dX3_add_5 : decode cX3_add 5 = .ok (.iload_n 2, 1) := by decide +kernel
theorem dX3_add_6 : decode cX3_add 6 = .ok (.invokevirtual 28, 3) := by decide +kernel
theorem dX3_add_9 : decode cX3_add 9 = .ok (.iload_n 3, 1) := by decide +kernel
theorem dX3_add_10 : decode cX3_add 10 = .ok (.iadd, 1) := by decide +kernel
theorem dX3_add_11 : decode cX3_add 11 = .ok (.invokevirtual 31, 3) := by decide +kernel
theorem dX3_add_14 : decode cX3_add 14 = .ok (.return_, 1) := by decide +kernel
def fX3_add (wW : Int32) (nN : Nat) (p1 : Int32) (p2 : Int32) (p3 : Int32) (S : TV) : Option (TV) :=
  ob (fX3_get wW nN p1 p2 S) fun u3 => ob (fX3_put wW nN p1 p2 ((u3 + p3)) S) fun u4 => some u4
set_option maxHeartbeats 4000000 in
set_option maxRecDepth 100000 in
theorem kX3_add (l : Launch) (D : va_G) (cI cS : ClassId) (tA tC : Nat) (wW : Int32) (nN : Nat) (p1 : Int32) (p2 : Int32) (p3 : Int32) (S : TV) {q : TV} (h : fX3_add wW nN p1 p2 p3 S = some q) : Mc l D (tyL cI cS) false yX3_add cX3_add 4 none 2 [.ref tA, .int p1, .int p2, .int p3] (wT cI tA tC wW nN S) none (wT cI tA tC wW nN q) := by
  refine Mc_of RX3 (by decide +kernel) rfl wc_X3_add (Nat.le_of_ble_eq_true rfl) ?_
  intro p e s m args below meth c A Q ls C hA hz hP hD hS hl RET
  have RETh : ∀ {pc : Nat} {ls : Array Slot} {H : Heap} {locs : List Loc} {S1 : TV}, decode cX3_add pc = .ok (.return_, 1) → some S1 = some q → va_P D vwCl (wT cI tA tC wW nN S1) H → va_D A (wT cI tA tC wW nN S1) → va_S A s.heap H locs → W p l e (rmL 2) s m args below meth c H locs 0 0 Q (F0 m pc ls []) := by
    intro pc ls H locs S1 hd h hP hD hS; cases h; exact RET (x_vret C hd) hP hD hS
  refine x_aload_n C dX3_add_0 rfl hl 0 rfl ?_
  refine x_iload_n C dX3_add_1 rfl hl 1 rfl ?_
  refine x_iload_n C dX3_add_2 rfl hl 2 rfl ?_
  refine x_aload_n C dX3_add_3 rfl hl 0 rfl ?_
  refine x_iload_n C dX3_add_4 rfl hl 1 rfl ?_
  refine x_iload_n C dX3_add_5 rfl hl 2 rfl ?_
  obtain ⟨u3, hu3, h⟩ := ob_some h
  refine x_callV (As := [.int _, .int _]) (n := 2) C (kX3_get l D cI cS tA tC wW nN _ _ _ hu3) (fun hh => nomatch hh) wm_X3_28 wi_X3_get we_X3_get wz_X3 wc_X3_get (by decide +kernel) rfl hP hD hS hA 0 1 rfl rfl rfl hl.1 dX3_add_6 rfl (Nat.le_of_ble_eq_true rfl) ⟨Nat.le_of_ble_eq_true rfl, Nat.le_of_ble_eq_true rfl⟩ ⟨Nat.zero_le _, Nat.zero_le _⟩ (fun H locs hP hD hS => ?_)
  refine x_iload_n C dX3_add_9 rfl hl 3 rfl ?_
  refine x_iadd C dX3_add_10 ?_
  obtain ⟨u4, hu4, h⟩ := ob_some h
  refine x_callV (As := [.int _, .int _, .int _]) (n := 3) C (kX3_put l D cI cS tA tC wW nN _ _ _ _ hu4) (fun hh => nomatch hh) wm_X3_31 wi_X3_put we_X3_put wz_X3 wc_X3_put (by decide +kernel) rfl hP hD hS hA 0 1 rfl rfl rfl hl.1 dX3_add_11 rfl (Nat.le_of_ble_eq_true rfl) ⟨Nat.le_of_ble_eq_true rfl, Nat.le_of_ble_eq_true rfl⟩ ⟨Nat.zero_le _, Nat.zero_le _⟩ (fun H locs hP hD hS => ?_)
  exact RETh dX3_add_14 h hP hD hS
theorem dX3_putInAll_0 : decode cX3_putInAll 0 = .ok (.iconst 0, 1) := by decide +kernel
theorem dX3_putInAll_1 : decode cX3_putInAll 1 = .ok (.istore_n 3, 1) := by decide +kernel
theorem dX3_putInAll_2 : decode cX3_putInAll 2 = .ok (.iload_n 3, 1) := by decide +kernel
theorem dX3_putInAll_3 : decode cX3_putInAll 3 = .ok (.aload_n 0, 1) := by decide +kernel
theorem dX3_putInAll_4 : decode cX3_putInAll 4 = .ok (.getfield 25, 3) := by decide +kernel
theorem dX3_putInAll_7 : decode cX3_putInAll 7 = .ok (.if_icmp .ge 16, 3) := by decide +kernel
theorem dX3_putInAll_10 : decode cX3_putInAll 10 = .ok (.aload_n 0, 1) := by decide +kernel
theorem dX3_putInAll_11 : decode cX3_putInAll 11 = .ok (.iload_n 3, 1) := by decide +kernel
theorem dX3_putInAll_12 : decode cX3_putInAll 12 = .ok (.iload_n 1, 1) := by decide +kernel
theorem dX3_putInAll_13 : decode cX3_putInAll 13 = .ok (.iload_n 2, 1) := by decide +kernel
theorem dX3_putInAll_14 : decode cX3_putInAll 14 = .ok (.invokevirtual 31, 3) := by decide +kernel
theorem dX3_putInAll_17 : decode cX3_putInAll 17 = .ok (.iinc 3 1, 3) := by decide +kernel
theorem dX3_putInAll_20 : decode cX3_putInAll 20 = .ok (.goto (-18), 3) := by decide +kernel
theorem dX3_putInAll_23 : decode cX3_putInAll 23 = .ok (.return_, 1) := by decide +kernel
def bfX3_putInAll_2 (wW : Int32) (nN : Nat) (p1 : Int32) (p2 : Int32) (K2 : Int32 × (TV) → Option (TV)) (x : Int32 × (TV)) : Option (TV) :=
  match x with
  | (x3, S) => (if S.1 ≤ x3 then some S else ob (fX3_put wW nN x3 p1 p2 S) fun u2 => K2 ((x3 + (1 : Int32)), u2))
def fX3_putInAll (wW : Int32) (nN : Nat) (p1 : Int32) (p2 : Int32) (S : TV) : Option (TV) :=
  iter (bfX3_putInAll_2 wW nN p1 p2) FU ((0 : Int32), S)
set_option maxHeartbeats 4000000 in
set_option maxRecDepth 100000 in
theorem kX3_putInAll (l : Launch) (D : va_G) (cI cS : ClassId) (tA tC : Nat) (wW : Int32) (nN : Nat) (p1 : Int32) (p2 : Int32) (S : TV) {q : TV} (h : fX3_putInAll wW nN p1 p2 S = some q) : Mc l D (tyL cI cS) false yX3_putInAll cX3_putInAll 4 none 2 [.ref tA, .int p1, .int p2] (wT cI tA tC wW nN S) none (wT cI tA tC wW nN q) := by
  refine Mc_of RX3 (by decide +kernel) rfl wc_X3_putInAll (Nat.le_of_ble_eq_true rfl) ?_
  intro p e s m args below meth c A Q ls C hA hz hP hD hS hl RET
  have RETh : ∀ {pc : Nat} {ls : Array Slot} {H : Heap} {locs : List Loc} {S1 : TV}, decode cX3_putInAll pc = .ok (.return_, 1) → some S1 = some q → va_P D vwCl (wT cI tA tC wW nN S1) H → va_D A (wT cI tA tC wW nN S1) → va_S A s.heap H locs → W p l e (rmL 2) s m args below meth c H locs 0 0 Q (F0 m pc ls []) := by
    intro pc ls H locs S1 hd h hP hD hS; cases h; exact RET (x_vret C hd) hP hD hS
  have B2 : ∀ (n : Nat) (x : Int32 × (TV)), iter (bfX3_putInAll_2 wW nN p1 p2) n x = some q → (match x with | (x3, S) => ∀ (H : Heap) (locs : List Loc) (ls : Array Slot), va_P D vwCl (wT cI tA tC wW nN S) H → va_D A (wT cI tA tC wW nN S) → va_S A s.heap H locs → lv_has ls 4 [(0, .ref tA), (1, .int p1), (2, .int p2), (3, .int x3)] → W p l e (rmL 2) s m args below meth c H locs 0 0 Q (F0 m 2 ls [])) := by
    refine iter_ind (fun x : Int32 × (TV) => (match x with | (x3, S) => ∀ (H : Heap) (locs : List Loc) (ls : Array Slot), va_P D vwCl (wT cI tA tC wW nN S) H → va_D A (wT cI tA tC wW nN S) → va_S A s.heap H locs → lv_has ls 4 [(0, .ref tA), (1, .int p1), (2, .int p2), (3, .int x3)] → W p l e (rmL 2) s m args below meth c H locs 0 0 Q (F0 m 2 ls []))) ?_
    intro K2 ih2 x h
    obtain ⟨x3, S⟩ := x
    intro H locs ls hP hD hS hl
    refine x_iload_n C dX3_putInAll_2 rfl hl 3 rfl ?_
    refine x_aload_n C dX3_putInAll_3 rfl hl 0 rfl ?_
    refine x_get C inX3 hP 0 rfl rfl 2 (by decide) wf_X3_25 rfl dX3_putInAll_4 ?_
    refine x_icmp_ge (tgt := 23) C h dX3_putInAll_7 (by decide) (fun h => ?_) (fun h => ?_)
    · exact RETh dX3_putInAll_23 h hP hD hS
    · refine x_aload_n C dX3_putInAll_10 rfl hl 0 rfl ?_
      refine x_iload_n C dX3_putInAll_11 rfl hl 3 rfl ?_
      refine x_iload_n C dX3_putInAll_12 rfl hl 1 rfl ?_
      refine x_iload_n C dX3_putInAll_13 rfl hl 2 rfl ?_
      obtain ⟨u2, hu2, h⟩ := ob_some h
      refine x_callV (As := [.int _, .int _, .int _]) (n := 3) C (kX3_put l D cI cS tA tC wW nN _ _ _ _ hu2) (fun hh => nomatch hh) wm_X3_31 wi_X3_put we_X3_put wz_X3 wc_X3_put (by decide +kernel) rfl hP hD hS hA 0 1 rfl rfl rfl hl.1 dX3_putInAll_14 rfl (Nat.le_of_ble_eq_true rfl) ⟨Nat.le_of_ble_eq_true rfl, Nat.le_of_ble_eq_true rfl⟩ ⟨Nat.zero_le _, Nat.zero_le _⟩ (fun H locs hP hD hS => ?_)
      refine x_iinc (v := (x3 + (1 : Int32))) (lv' := [(3, .int (x3 + (1 : Int32))), (0, .ref tA), (1, .int p1), (2, .int p2)]) C dX3_putInAll_17 hl (k := 3) rfl rfl (by decide) rfl (fun ls hl => ?_)
      refine x_goto (tgt := 2) C dX3_putInAll_20 (by decide) ?_
      exact ih2 _ h _ _ _ hP hD hS (lv_sub hl [1, 2, 3, 0] rfl)
  refine x_iconst (v := (0 : Int32)) C dX3_putInAll_0 (by decide) ?_
  refine x_istore_n (lv' := [(3, .int (0 : Int32)), (0, .ref tA), (1, .int p1), (2, .int p2)]) C dX3_putInAll_1 rfl hl (by decide) rfl (fun ls hl => ?_)
  exact B2 FU _ h _ _ _ hP hD hS (lv_sub hl [1, 2, 3, 0] rfl)
theorem dX3_find_0 : decode cX3_find 0 = .ok (.iconst 0, 1) := by decide +kernel
theorem dX3_find_1 : decode cX3_find 1 = .ok (.istore_n 3, 1) := by decide +kernel
theorem dX3_find_2 : decode cX3_find 2 = .ok (.iload_n 3, 1) := by decide +kernel
theorem dX3_find_3 : decode cX3_find 3 = .ok (.aload_n 0, 1) := by decide +kernel
theorem dX3_find_4 : decode cX3_find 4 = .ok (.getfield 25, 3) := by decide +kernel
theorem dX3_find_7 : decode cX3_find 7 = .ok (.if_icmp .ge 21, 3) := by decide +kernel
theorem dX3_find_10 : decode cX3_find 10 = .ok (.aload_n 0, 1) := by decide +kernel
theorem dX3_find_11 : decode cX3_find 11 = .ok (.iload_n 3, 1) := by decide +kernel
theorem dX3_find_12 : decode cX3_find 12 = .ok (.iload_n 1, 1) := by decide +kernel
theorem dX3_find_13 : decode cX3_find 13 = .ok (.invokevirtual 28, 3) := by decide +kernel
theorem dX3_find_16 : decode cX3_find 16 = .ok (.iload_n 2, 1) := by decide +kernel
theorem dX3_find_17 : decode cX3_find 17 = .ok (.if_icmp .ne 5, 3) := by decide +kernel
theorem dX3_find_20 : decode cX3_find 20 = .ok (.iload_n 3, 1) := by decide +kernel
theorem dX3_find_21 : decode cX3_find 21 = .ok (.ireturn, 1) := by decide +kernel
theorem dX3_find_22 : decode cX3_find 22 = .ok (.iinc 3 1, 3) := by decide +kernel
theorem dX3_find_25 : decode cX3_find 25 = .ok (.goto (-23), 3) := by decide +kernel
theorem dX3_find_28 : decode cX3_find 28 = .ok (.bipush (-9), 2) := by decide +kernel
theorem dX3_find_30 : decode cX3_find 30 = .ok (.ireturn, 1) := by decide +kernel
def bfX3_find_2 (wW : Int32) (nN : Nat) (p1 : Int32) (p2 : Int32) (S : TV) (K2 : Int32 → Option (Int32)) (x3 : Int32) : Option (Int32) :=
  (if S.1 ≤ x3 then some (-9 : Int32) else ob (fX3_get wW nN x3 p1 S) fun u2 => (if u2 = p2 then some x3 else K2 ((x3 + (1 : Int32)))))
def fX3_find (wW : Int32) (nN : Nat) (p1 : Int32) (p2 : Int32) (S : TV) : Option (Int32) :=
  iter (bfX3_find_2 wW nN p1 p2 S) FU ((0 : Int32))
set_option maxHeartbeats 4000000 in
set_option maxRecDepth 100000 in
theorem kX3_find (l : Launch) (D : va_G) (cI cS : ClassId) (tA tC : Nat) (wW : Int32) (nN : Nat) (p1 : Int32) (p2 : Int32) (S : TV) {q : Int32} (h : fX3_find wW nN p1 p2 S = some q) : Mc l D (tyL cI cS) false yX3_find cX3_find 4 (some .int) 2 [.ref tA, .int p1, .int p2] (wT cI tA tC wW nN S) (some (.int q)) (wT cI tA tC wW nN S) := by
  refine Mc_of RX3 (by decide +kernel) rfl wc_X3_find (Nat.le_of_ble_eq_true rfl) ?_
  intro p e s m args below meth c A Q ls C hA hz hP hD hS hl RET
  have RETh : ∀ {pc : Nat} {ls : Array Slot} {H : Heap} {locs : List Loc} {x : Int32} , decode cX3_find pc = .ok (.ireturn, 1) → some x = some q → va_P D vwCl (wT cI tA tC wW nN S) H → va_D A (wT cI tA tC wW nN S) → va_S A s.heap H locs → W p l e (rmL 2) s m args below meth c H locs 0 0 Q (F0 m pc ls [.int x]) := by
    intro pc ls H locs x hd h hP hD hS; cases h; exact RET (x_iret C hd) hP hD hS
  have B2 : ∀ (n : Nat) (x : Int32), iter (bfX3_find_2 wW nN p1 p2 S) n x = some q → (fun (x3 : Int32) => ∀ (H : Heap) (locs : List Loc) (ls : Array Slot), va_P D vwCl (wT cI tA tC wW nN S) H → va_D A (wT cI tA tC wW nN S) → va_S A s.heap H locs → lv_has ls 4 [(0, .ref tA), (1, .int p1), (2, .int p2), (3, .int x3)] → W p l e (rmL 2) s m args below meth c H locs 0 0 Q (F0 m 2 ls [])) x := by
    refine iter_ind (fun x : Int32 => (fun (x3 : Int32) => ∀ (H : Heap) (locs : List Loc) (ls : Array Slot), va_P D vwCl (wT cI tA tC wW nN S) H → va_D A (wT cI tA tC wW nN S) → va_S A s.heap H locs → lv_has ls 4 [(0, .ref tA), (1, .int p1), (2, .int p2), (3, .int x3)] → W p l e (rmL 2) s m args below meth c H locs 0 0 Q (F0 m 2 ls [])) x) ?_
    intro K2 ih2 x h
    obtain ⟨x3, rfl⟩ : ∃ y, y = x := ⟨_, rfl⟩
    intro H locs ls hP hD hS hl
    refine x_iload_n C dX3_find_2 rfl hl 3 rfl ?_
    refine x_aload_n C dX3_find_3 rfl hl 0 rfl ?_
    refine x_get C inX3 hP 0 rfl rfl 2 (by decide) wf_X3_25 rfl dX3_find_4 ?_
    refine x_icmp_ge (tgt := 28) C h dX3_find_7 (by decide) (fun h => ?_) (fun h => ?_)
    · refine x_bipush (v := (-9 : Int32)) C dX3_find_28 (by decide) ?_
      exact RETh dX3_find_30 h hP hD hS
    · refine x_aload_n C dX3_find_10 rfl hl 0 rfl ?_
      refine x_iload_n C dX3_find_11 rfl hl 3 rfl ?_
      refine x_iload_n C dX3_find_12 rfl hl 1 rfl ?_
      obtain ⟨u2, hu2, h⟩ := ob_some h
      refine x_callV (As := [.int _, .int _]) (n := 2) C (kX3_get l D cI cS tA tC wW nN _ _ _ hu2) (fun hh => nomatch hh) wm_X3_28 wi_X3_get we_X3_get wz_X3 wc_X3_get (by decide +kernel) rfl hP hD hS hA 0 1 rfl rfl rfl hl.1 dX3_find_13 rfl (Nat.le_of_ble_eq_true rfl) ⟨Nat.le_of_ble_eq_true rfl, Nat.le_of_ble_eq_true rfl⟩ ⟨Nat.zero_le _, Nat.zero_le _⟩ (fun H locs hP hD hS => ?_)
      refine x_iload_n C dX3_find_16 rfl hl 2 rfl ?_
      refine x_icmp_ne (tgt := 22) C h dX3_find_17 (by decide) (fun h => ?_) (fun h => ?_)
      · refine x_iinc (v := (x3 + (1 : Int32))) (lv' := [(3, .int (x3 + (1 : Int32))), (0, .ref tA), (1, .int p1), (2, .int p2)]) C dX3_find_22 hl (k := 3) rfl rfl (by decide) rfl (fun ls hl => ?_)
        refine x_goto (tgt := 2) C dX3_find_25 (by decide) ?_
        exact ih2 _ h _ _ _ hP hD hS (lv_sub hl [1, 2, 3, 0] rfl)
      · refine x_iload_n C dX3_find_20 rfl hl 3 rfl ?_
        exact RETh dX3_find_21 h hP hD hS
  refine x_iconst (v := (0 : Int32)) C dX3_find_0 (by decide) ?_
  refine x_istore_n (lv' := [(3, .int (0 : Int32)), (0, .ref tA), (1, .int p1), (2, .int p2)]) C dX3_find_1 rfl hl (by decide) rfl (fun ls hl => ?_)
  exact B2 FU _ h _ _ _ hP hD hS (lv_sub hl [1, 2, 3, 0] rfl)
theorem dX3_rowsWith_0 : decode cX3_rowsWith 0 = .ok (.iconst 0, 1) := by decide +kernel
theorem dX3_rowsWith_1 : decode cX3_rowsWith 1 = .ok (.istore_n 3, 1) := by decide +kernel
theorem dX3_rowsWith_2 : decode cX3_rowsWith 2 = .ok (.iconst 0, 1) := by decide +kernel
theorem dX3_rowsWith_3 : decode cX3_rowsWith 3 = .ok (.istore 4, 2) := by decide +kernel
theorem dX3_rowsWith_5 : decode cX3_rowsWith 5 = .ok (.iload 4, 2) := by decide +kernel
theorem dX3_rowsWith_7 : decode cX3_rowsWith 7 = .ok (.aload_n 0, 1) := by decide +kernel
theorem dX3_rowsWith_8 : decode cX3_rowsWith 8 = .ok (.getfield 25, 3) := by decide +kernel
theorem dX3_rowsWith_11 : decode cX3_rowsWith 11 = .ok (.if_icmp .ge 28, 3) := by decide +kernel
theorem dX3_rowsWith_14 : decode cX3_rowsWith 14 = .ok (.iload_n 3, 1) := by decide +kernel
theorem dX3_rowsWith_15 : decode cX3_rowsWith 15 = .ok (.aload_n 0, 1) := by decide +kernel
theorem dX3_rowsWith_16 : decode cX3_rowsWith 16 = .ok (.iload 4, 2) := by decide +kernel
theorem dX3_rowsWith_18 : decode cX3_rowsWith 18 = .ok (.iload_n 1, 1) := by decide +kernel
theorem dX3_rowsWith_19 : decode cX3_rowsWith 19 = .ok (.invokevirtual 28, 3) := by decide +kernel
theorem dX3_rowsWith_22 : decode cX3_rowsWith 22 = .ok (.iload_n 2, 1) := by decide +kernel
theorem dX3_rowsWith_23 : decode cX3_rowsWith 23 = .ok (.if_icmp .ne 7, 3) := by decide +kernel
theorem dX3_rowsWith_26 : decode cX3_rowsWith 26 = .ok (.iconst 1, 1) := by decide +kernel
theorem dX3_rowsWith_27 : decode cX3_rowsWith 27 = .ok (.goto 4, 3) := by decide +kernel
theorem dX3_rowsWith_30 : decode cX3_rowsWith 30 = .ok (.iconst 0, 1) := by decide +kernel
theorem dX3_rowsWith_31 : decode cX3_rowsWith 31 = .ok (.iadd, 1) := by decide +kernel
theorem dX3_rowsWith_32 : decode cX3_rowsWith 32 = .ok (.istore_n 3, 1) := by decide +kernel
theorem dX3_rowsWith_33 : decode cX3_rowsWith 33 = .ok (.iinc 4 1, 3) := by decide +kernel
theorem dX3_rowsWith_36 : decode cX3_rowsWith 36 = .ok (.goto (-31), 3) := by decide +kernel
theorem dX3_rowsWith_39 : decode cX3_rowsWith 39 = .ok (.iload_n 3, 1) := by decide +kernel
theorem dX3_rowsWith_40 : decode cX3_rowsWith 40 = .ok (.ireturn, 1) := by decide +kernel
def bfX3_rowsWith_31 (wW : Int32) (nN : Nat) (p1 : Int32) (p2 : Int32) (S : TV) (K5 : Int32 × Int32 → Option (Int32)) (x4 : Int32) (s0 : Int32) (s1 : Int32) : Option (Int32) :=
  nm ((s0 + s1)) fun v3 => K5 (v3, (x4 + (1 : Int32)))
def bfX3_rowsWith_5 (wW : Int32) (nN : Nat) (p1 : Int32) (p2 : Int32) (S : TV) (K5 : Int32 × Int32 → Option (Int32)) (x : Int32 × Int32) : Option (Int32) :=
  match x with
  | (x3, x4) => (if S.1 ≤ x4 then some x3 else ob (fX3_get wW nN x4 p1 S) fun u4 => (if u4 = p2 then bfX3_rowsWith_31 wW nN p1 p2 S K5 x4 x3 ((1 : Int32)) else bfX3_rowsWith_31 wW nN p1 p2 S K5 x4 x3 ((0 : Int32))))
def fX3_rowsWith (wW : Int32) (nN : Nat) (p1 : Int32) (p2 : Int32) (S : TV) : Option (Int32) :=
  iter (bfX3_rowsWith_5 wW nN p1 p2 S) FU ((0 : Int32), (0 : Int32))
set_option maxHeartbeats 4000000 in
set_option maxRecDepth 100000 in
theorem kX3_rowsWith (l : Launch) (D : va_G) (cI cS : ClassId) (tA tC : Nat) (wW : Int32) (nN : Nat) (p1 : Int32) (p2 : Int32) (S : TV) {q : Int32} (h : fX3_rowsWith wW nN p1 p2 S = some q) : Mc l D (tyL cI cS) false yX3_rowsWith cX3_rowsWith 5 (some .int) 2 [.ref tA, .int p1, .int p2] (wT cI tA tC wW nN S) (some (.int q)) (wT cI tA tC wW nN S) := by
  refine Mc_of RX3 (by decide +kernel) rfl wc_X3_rowsWith (Nat.le_of_ble_eq_true rfl) ?_
  intro p e s m args below meth c A Q ls C hA hz hP hD hS hl RET
  have RETh : ∀ {pc : Nat} {ls : Array Slot} {H : Heap} {locs : List Loc} {x : Int32} , decode cX3_rowsWith pc = .ok (.ireturn, 1) → some x = some q → va_P D vwCl (wT cI tA tC wW nN S) H → va_D A (wT cI tA tC wW nN S) → va_S A s.heap H locs → W p l e (rmL 2) s m args below meth c H locs 0 0 Q (F0 m pc ls [.int x]) := by
    intro pc ls H locs x hd h hP hD hS; cases h; exact RET (x_iret C hd) hP hD hS
  have B31 : ∀ (K5 : Int32 × Int32 → Option (Int32)) (ih5 : ∀ x, K5 x = some q → (match x with | (x3, x4) => ∀ (H : Heap) (locs : List Loc) (ls : Array Slot), va_P D vwCl (wT cI tA tC wW nN S) H → va_D A (wT cI tA tC wW nN S) → va_S A s.heap H locs → lv_has ls 5 [(0, .ref tA), (1, .int p1), (2, .int p2), (3, .int x3), (4, .int x4)] → W p l e (rmL 2) s m args below meth c H locs 0 0 Q (F0 m 5 ls []))) (x4 : Int32) (s0 : Int32) (s1 : Int32), bfX3_rowsWith_31 wW nN p1 p2 S K5 x4 s0 s1 = some q → ∀ (H : Heap) (locs : List Loc) (ls : Array Slot), va_P D vwCl (wT cI tA tC wW nN S) H → va_D A (wT cI tA tC wW nN S) → va_S A s.heap H locs → lv_has ls 5 [(0, .ref tA), (1, .int p1), (2, .int p2), (4, .int x4)] → W p l e (rmL 2) s m args below meth c H locs 0 0 Q (F0 m 31 ls [.int s1, .int s0]) := by
    intro K5 ih5 x4 s0 s1 h H locs ls hP hD hS hl
    refine x_iadd C dX3_rowsWith_31 ?_
    refine x_nmi h (fun v3 h => ?_)
    refine x_istore_n (lv' := [(3, .int v3), (0, .ref tA), (1, .int p1), (2, .int p2), (4, .int x4)]) C dX3_rowsWith_32 rfl hl (by decide) rfl (fun ls hl => ?_)
    refine x_iinc (v := (x4 + (1 : Int32))) (lv' := [(4, .int (x4 + (1 : Int32))), (3, .int v3), (0, .ref tA), (1, .int p1), (2, .int p2)]) C dX3_rowsWith_33 hl (k := 4) rfl rfl (by decide) rfl (fun ls hl => ?_)
    refine x_goto (tgt := 5) C dX3_rowsWith_36 (by decide) ?_
    exact ih5 _ h _ _ _ hP hD hS (lv_sub hl [2, 3, 4, 1, 0] rfl)
  have B5 : ∀ (n : Nat) (x : Int32 × Int32), iter (bfX3_rowsWith_5 wW nN p1 p2 S) n x = some q → (match x with | (x3, x4) => ∀ (H : Heap) (locs : List Loc) (ls : Array Slot), va_P D vwCl (wT cI tA tC wW nN S) H → va_D A (wT cI tA tC wW nN S) → va_S A s.heap H locs → lv_has ls 5 [(0, .ref tA), (1, .int p1), (2, .int p2), (3, .int x3), (4, .int x4)] → W p l e (rmL 2) s m args below meth c H locs 0 0 Q (F0 m 5 ls [])) := by
    refine iter_ind (fun x : Int32 × Int32 => (match x with | (x3, x4) => ∀ (H : Heap) (locs : List Loc) (ls : Array Slot), va_P D vwCl (wT cI tA tC wW nN S) H → va_D A (wT cI tA tC wW nN S) → va_S A s.heap H locs → lv_has ls 5 [(0, .ref tA), (1, .int p1), (2, .int p2), (3, .int x3), (4, .int x4)] → W p l e (rmL 2) s m args below meth c H locs 0 0 Q (F0 m 5 ls []))) ?_
    intro K5 ih5 x h
    obtain ⟨x3, x4⟩ := x
    intro H locs ls hP hD hS hl
    refine x_iload C dX3_rowsWith_5 hl 4 rfl ?_
    refine x_aload_n C dX3_rowsWith_7 rfl hl 0 rfl ?_
    refine x_get C inX3 hP 0 rfl rfl 2 (by decide) wf_X3_25 rfl dX3_rowsWith_8 ?_
    refine x_icmp_ge (tgt := 39) C h dX3_rowsWith_11 (by decide) (fun h => ?_) (fun h => ?_)
    · refine x_iload_n C dX3_rowsWith_39 rfl hl 3 rfl ?_
      exact RETh dX3_rowsWith_40 h hP hD hS
    · refine x_iload_n C dX3_rowsWith_14 rfl hl 3 rfl ?_
      refine x_aload_n C dX3_rowsWith_15 rfl hl 0 rfl ?_
      refine x_iload C dX3_rowsWith_16 hl 4 rfl ?_
      refine x_iload_n C dX3_rowsWith_18 rfl hl 1 rfl ?_
      obtain ⟨u4, hu4, h⟩ := ob_some h
      refine x_callV (As := [.int _, .int _]) (n := 2) C (kX3_get l D cI cS tA tC wW nN _ _ _ hu4) (fun hh => nomatch hh) wm_X3_28 wi_X3_get we_X3_get wz_X3 wc_X3_get (by decide +kernel) rfl hP hD hS hA 0 1 rfl rfl rfl hl.1 dX3_rowsWith_19 rfl (Nat.le_of_ble_eq_true rfl) ⟨Nat.le_of_ble_eq_true rfl, Nat.le_of_ble_eq_true rfl⟩ ⟨Nat.zero_le _, Nat.zero_le _⟩ (fun H locs hP hD hS => ?_)
      refine x_iload_n C dX3_rowsWith_22 rfl hl 2 rfl ?_
      refine x_icmp_ne (tgt := 30) C h dX3_rowsWith_23 (by decide) (fun h => ?_) (fun h => ?_)
      · refine x_iconst (v := (0 : Int32)) C dX3_rowsWith_30 (by decide) ?_
        exact B31 K5 ih5 _ _ _ h _ _ _ hP hD hS (lv_sub hl [0, 1, 2, 4] rfl)
      · refine x_iconst (v := (1 : Int32)) C dX3_rowsWith_26 (by decide) ?_
        refine x_goto (tgt := 31) C dX3_rowsWith_27 (by decide) ?_
        exact B31 K5 ih5 _ _ _ h _ _ _ hP hD hS (lv_sub hl [0, 1, 2, 4] rfl)
  refine x_iconst (v := (0 : Int32)) C dX3_rowsWith_0 (by decide) ?_
  refine x_istore_n (lv' := [(3, .int (0 : Int32)), (0, .ref tA), (1, .int p1), (2, .int p2)]) C dX3_rowsWith_1 rfl hl (by decide) rfl (fun ls hl => ?_)
  refine x_iconst (v := (0 : Int32)) C dX3_rowsWith_2 (by decide) ?_
  refine x_istore (lv' := [(4, .int (0 : Int32)), (3, .int (0 : Int32)), (0, .ref tA), (1, .int p1), (2, .int p2)]) C dX3_rowsWith_3 hl (by decide) rfl (fun ls hl => ?_)
  exact B5 FU _ h _ _ _ hP hD hS (lv_sub hl [2, 3, 4, 1, 0] rfl)
theorem dX3_sumOf_0 : decode cX3_sumOf 0 = .ok (.iconst 0, 1) := by decide +kernel
theorem dX3_sumOf_1 : decode cX3_sumOf 1 = .ok (.istore_n 2, 1) := by decide +kernel
theorem dX3_sumOf_2 : decode cX3_sumOf 2 = .ok (.iconst 0, 1) := by decide +kernel
theorem dX3_sumOf_3 : decode cX3_sumOf 3 = .ok (.istore_n 3, 1) := by decide +kernel
theorem dX3_sumOf_4 : decode cX3_sumOf 4 = .ok (.iload_n 3, 1) := by decide +kernel
theorem dX3_sumOf_5 : decode cX3_sumOf 5 = .ok (.aload_n 0, 1) := by decide +kernel
theorem dX3_sumOf_6 : decode cX3_sumOf 6 = .ok (.getfield 25, 3) := by decide +kernel
theorem dX3_sumOf_9 : decode cX3_sumOf 9 = .ok (.if_icmp .ge 18, 3) := by decide +kernel
theorem dX3_sumOf_12 : decode cX3_sumOf 12 = .ok (.iload_n 2, 1) := by decide +kernel
theorem dX3_sumOf_13 : decode cX3_sumOf 13 = .ok (.aload_n 0, 1) := by decide +kernel
theorem dX3_sumOf_14 : decode cX3_sumOf 14 = .ok (.iload_n 3, 1) := by decide +kernel
theorem dX3_sumOf_15 : decode cX3_sumOf 15 = .ok (.iload_n 1, 1) := by decide +kernel
theorem dX3_sumOf_16 : decode cX3_sumOf 16 = .ok (.invokevirtual 28, 3) := by decide +kernel
theorem dX3_sumOf_19 : decode cX3_sumOf 19 = .ok (.iadd, 1) := by decide +kernel
theorem dX3_sumOf_20 : decode cX3_sumOf 20 = .ok (.istore_n 2, 1) := by decide +kernel
theorem dX3_sumOf_21 : decode cX3_sumOf 21 = .ok (.iinc 3 1, 3) := by decide +kernel
theorem dX3_sumOf_24 : decode cX3_sumOf 24 = .ok (.goto (-20), 3) := by decide +kernel
theorem dX3_sumOf_27 : decode cX3_sumOf 27 = .ok (.iload_n 2, 1) := by decide +kernel
theorem dX3_sumOf_28 : decode cX3_sumOf 28 = .ok (.ireturn, 1) := by decide +kernel
def bfX3_sumOf_4 (wW : Int32) (nN : Nat) (p1 : Int32) (S : TV) (K4 : Int32 × Int32 → Option (Int32)) (x : Int32 × Int32) : Option (Int32) :=
  match x with
  | (x2, x3) => (if S.1 ≤ x3 then some x2 else ob (fX3_get wW nN x3 p1 S) fun u3 => nm ((x2 + u3)) fun v4 => K4 (v4, (x3 + (1 : Int32))))
def fX3_sumOf (wW : Int32) (nN : Nat) (p1 : Int32) (S : TV) : Option (Int32) :=
  iter (bfX3_sumOf_4 wW nN p1 S) FU ((0 : Int32), (0 : Int32))
set_option maxHeartbeats 4000000 in
set_option maxRecDepth 100000 in
theorem kX3_sumOf (l : Launch) (D : va_G) (cI cS : ClassId) (tA tC : Nat) (wW : Int32) (nN : Nat) (p1 : Int32) (S : TV) {q : Int32} (h : fX3_sumOf wW nN p1 S = some q) : Mc l D (tyL cI cS) false yX3_sumOf cX3_sumOf 4 (some .int) 2 [.ref tA, .int p1] (wT cI tA tC wW nN S) (some (.int q)) (wT cI tA tC wW nN S) := by
  refine Mc_of RX3 (by decide +kernel) rfl wc_X3_sumOf (Nat.le_of_ble_eq_true rfl) ?_
  intro p e s m args below meth c A Q ls C hA hz hP hD hS hl RET
  have RETh : ∀ {pc : Nat} {ls : Array Slot} {H : Heap} {locs : List Loc} {x : Int32} , decode cX3_sumOf pc = .ok (.ireturn, 1) → some x = some q → va_P D vwCl (wT cI tA tC wW nN S) H → va_D A (wT cI tA tC wW nN S) → va_S A s.heap H locs → W p l e (rmL 2) s m args below meth c H locs 0 0 Q (F0 m pc ls [.int x]) := by
    intro pc ls H locs x hd h hP hD hS; cases h; exact RET (x_iret C hd) hP hD hS
  have B4 : ∀ (n : Nat) (x : Int32 × Int32), iter (bfX3_sumOf_4 wW nN p1 S) n x = some q → (match x with | (x2, x3) => ∀ (H : Heap) (locs : List Loc) (ls : Array Slot), va_P D vwCl (wT cI tA tC wW nN S) H → va_D A (wT cI tA tC wW nN S) → va_S A s.heap H locs → lv_has ls 4 [(0, .ref tA), (1, .int p1), (2, .int x2), (3, .int x3)] → W p l e (rmL 2) s m args below meth c H locs 0 0 Q (F0 m 4 ls [])) := by
    refine iter_ind (fun x : Int32 × Int32 => (match x with | (x2, x3) => ∀ (H : Heap) (locs : List Loc) (ls : Array Slot), va_P D vwCl (wT cI tA tC wW nN S) H → va_D A (wT cI tA tC wW nN S) → va_S A s.heap H locs → lv_has ls 4 [(0, .ref tA), (1, .int p1), (2, .int x2), (3, .int x3)] → W p l e (rmL 2) s m args below meth c H locs 0 0 Q (F0 m 4 ls []))) ?_
    intro K4 ih4 x h
    obtain ⟨x2, x3⟩ := x
    intro H locs ls hP hD hS hl
    refine x_iload_n C dX3_sumOf_4 rfl hl 3 rfl ?_
    refine x_aload_n C dX3_sumOf_5 rfl hl 0 rfl ?_
    refine x_get C inX3 hP 0 rfl rfl 2 (by decide) wf_X3_25 rfl dX3_sumOf_6 ?_
    refine x_icmp_ge (tgt := 27) C h dX3_sumOf_9 (by decide) (fun h => ?_) (fun h => ?_)
    · refine x_iload_n C dX3_sumOf_27 rfl hl 2 rfl ?_
      exact RETh dX3_sumOf_28 h hP hD hS
    · refine x_iload_n C dX3_sumOf_12 rfl hl 2 rfl ?_
      refine x_aload_n C dX3_sumOf_13 rfl hl 0 rfl ?_
      refine x_iload_n C dX3_sumOf_14 rfl hl 3 rfl ?_
      refine x_iload_n C dX3_sumOf_15 rfl hl 1 rfl ?_
      obtain ⟨u3, hu3, h⟩ := ob_some h
      refine x_callV (As := [.int _, .int _]) (n := 2) C (kX3_get l D cI cS tA tC wW nN _ _ _ hu3) (fun hh => nomatch hh) wm_X3_28 wi_X3_get we_X3_get wz_X3 wc_X3_get (by decide +kernel) rfl hP hD hS hA 0 1 rfl rfl rfl hl.1 dX3_sumOf_16 rfl (Nat.le_of_ble_eq_true rfl) ⟨Nat.le_of_ble_eq_true rfl, Nat.le_of_ble_eq_true rfl⟩ ⟨Nat.zero_le _, Nat.zero_le _⟩ (fun H locs hP hD hS => ?_)
      refine x_iadd C dX3_sumOf_19 ?_
      refine x_nmi h (fun v4 h => ?_)
      refine x_istore_n (lv' := [(2, .int v4), (0, .ref tA), (1, .int p1), (3, .int x3)]) C dX3_sumOf_20 rfl hl (by decide) rfl (fun ls hl => ?_)
      refine x_iinc (v := (x3 + (1 : Int32))) (lv' := [(3, .int (x3 + (1 : Int32))), (2, .int v4), (0, .ref tA), (1, .int p1)]) C dX3_sumOf_21 hl (k := 3) rfl rfl (by decide) rfl (fun ls hl => ?_)
      refine x_goto (tgt := 4) C dX3_sumOf_24 (by decide) ?_
      exact ih4 _ h _ _ _ hP hD hS (lv_sub hl [2, 3, 1, 0] rfl)
  refine x_iconst (v := (0 : Int32)) C dX3_sumOf_0 (by decide) ?_
  refine x_istore_n (lv' := [(2, .int (0 : Int32)), (0, .ref tA), (1, .int p1)]) C dX3_sumOf_1 rfl hl (by decide) rfl (fun ls hl => ?_)
  refine x_iconst (v := (0 : Int32)) C dX3_sumOf_2 (by decide) ?_
  refine x_istore_n (lv' := [(3, .int (0 : Int32)), (2, .int (0 : Int32)), (0, .ref tA), (1, .int p1)]) C dX3_sumOf_3 rfl hl (by decide) rfl (fun ls hl => ?_)
  exact B4 FU _ h _ _ _ hP hD hS (lv_sub hl [2, 3, 1, 0] rfl)
theorem dX3_drop_0 : decode cX3_drop 0 = .ok (.iload_n 1, 1) := by decide +kernel
theorem dX3_drop_1 : decode cX3_drop 1 = .ok (.ifCond .lt 11, 3) := by decide +kernel
theorem dX3_drop_4 : decode cX3_drop 4 = .ok (.iload_n 1, 1) := by decide +kernel
theorem dX3_drop_5 : decode cX3_drop 5 = .ok (.aload_n 0, 1) := by decide +kernel
theorem dX3_drop_6 : decode cX3_drop 6 = .ok (.getfield 25, 3) := by decide +kernel
theorem dX3_drop_9 : decode cX3_drop 9 = .ok (.if_icmp .lt 4, 3) := by decide +kernel
theorem dX3_drop_12 : decode cX3_drop 12 = .ok (.return_, 1) := by decide +kernel
theorem dX3_drop_13 : decode cX3_drop 13 = .ok (.iload_n 1, 1) := by decide +kernel
theorem dX3_drop_14 : decode cX3_drop 14 = .ok (.aload_n 0, 1) := by decide +kernel
theorem dX3_drop_15 : decode cX3_drop 15 = .ok (.getfield 9, 3) := by decide +kernel
theorem dX3_drop_18 : decode cX3_drop 18 = .ok (.imul, 1) := by decide +kernel
theorem dX3_drop_19 : decode cX3_drop 19 = .ok (.istore_n 2, 1) := by decide +kernel
theorem dX3_drop_20 : decode cX3_drop 20 = .ok (.iload_n 2, 1) := by decide +kernel
theorem dX3_drop_21 : decode cX3_drop 21 = .ok (.aload_n 0, 1) := by decide +kernel
theorem dX3_drop_22 : decode cX3_drop 22 = .ok (.getfield 9, 3) := by decide +kernel
theorem dX3_drop_25 : decode cX3_drop 25 = .ok (.iadd, 1) := by decide +kernel
theorem dX3_drop_26 : decode cX3_drop 26 = .ok (.istore_n 3, 1) := by decide +kernel
theorem dX3_drop_27 : decode cX3_drop 27 = .ok (.aload_n 0, 1) := by decide +kernel
theorem dX3_drop_28 : decode cX3_drop 28 = .ok (.getfield 25, 3) := by decide +kernel
theorem dX3_drop_31 : decode cX3_drop 31 = .ok (.aload_n 0, 1) := by decide +kernel
theorem dX3_drop_32 : decode cX3_drop 32 = .ok (.getfield 9, 3) := by decide +kernel
theorem dX3_drop_35 : decode cX3_drop 35 = .ok (.imul, 1) := by decide +kernel
theorem dX3_drop_36 : decode cX3_drop 36 = .ok (.iload_n 3, 1) := by decide +kernel
theorem dX3_drop_37 : decode cX3_drop 37 = .ok (.isub, 1) := by decide +kernel
theorem dX3_drop_38 : decode cX3_drop 38 = .ok (.istore 4, 2) := by decide +kernel
theorem dX3_drop_40 : decode cX3_drop 40 = .ok (.iload_n 2, 1) := by decide +kernel
theorem dX3_drop_41 : decode cX3_drop 41 = .ok (.ifCond .lt 35, 3) := by decide +kernel
theorem dX3_drop_44 : decode cX3_drop 44 = .ok (.iload 4, 2) := by decide +kernel
theorem dX3_drop_46 : decode cX3_drop 46 = .ok (.ifCond .lt 30, 3) := by decide +kernel
theorem dX3_drop_49 : decode cX3_drop 49 = .ok (.iload_n 3, 1) := by decide +kernel
theorem dX3_drop_50 : decode cX3_drop 50 = .ok (.iload 4, 2) := by decide +kernel
theorem dX3_drop_52 : decode cX3_drop 52 = .ok (.iadd, 1) := by decide +kernel
theorem dX3_drop_53 : decode cX3_drop 53 = .ok (.aload_n 0, 1) := by decide +kernel
theorem dX3_drop_54 : decode cX3_drop 54 = .ok (.getfield 21, 3) := by decide +kernel
theorem dX3_drop_57 : decode cX3_drop 57 = .ok (.arraylength, 1) := by decide +kernel
theorem dX3_drop_58 : decode cX3_drop 58 = .ok (.if_icmp .gt 18, 3) := by decide +kernel
theorem dX3_drop_61 : decode cX3_drop 61 = .ok (.aload_n 0, 1) := by decide +kernel
theorem dX3_drop_62 : decode cX3_drop 62 = .ok (.getfield 21, 3) := by decide +kernel
theorem dX3_drop_65 : decode cX3_drop 65 = .ok (.iload_n 3, 1) := by decide +kernel
theorem dX3_drop_66 : decode cX3_drop 66 = .ok (.aload_n 0, 1) := by decide +kernel
theorem dX3_drop_67 : decode cX3_drop 67 = .ok (.getfield 21, 3) := by decide +kernel
theorem dX3_drop_70 : decode cX3_drop 70 = .ok (.iload_n 2, 1) := by decide +kernel
theorem dX3_drop_71 : decode cX3_drop 71 = .ok (.iload 4, 2) := by decide +kernel
theorem dX3_drop_73 : decode cX3_drop 73 = .ok (.invokestatic 41, 3) := by decide +kernel
theorem dX3_drop_76 : decode cX3_drop 76 = .ok (.aload_n 0, 1) := by decide +kernel
theorem dX3_drop_77 : decode cX3_drop 77 = .ok (.dup, 1) := by decide +kernel
theorem dX3_drop_78 : decode cX3_drop 78 = .ok (.getfield 25, 3) := by decide +kernel
theorem dX3_drop_81 : decode cX3_drop 81 = .ok (.iconst 1, 1) := by decide +kernel
theorem dX3_drop_82 : decode cX3_drop 82 = .ok (.isub, 1) := by decide +kernel
theorem dX3_drop_83 : decode cX3_drop 83 = .ok (.putfield 25, 3) := by decide +kernel
theorem dX3_drop_86 : decode cX3_drop 86 = .ok (.return_, 1) := by decide +kernel
def bfX3_drop_76 (wW : Int32) (nN : Nat) (p1 : Int32) (S : TV) : Option (TV) :=
  nm ((S.1 - (1 : Int32)), S.2) fun S6 => some S6
def bfX3_drop_12 (wW : Int32) (nN : Nat) (p1 : Int32) (S : TV) : Option (TV) :=
  some S
def fX3_drop (wW : Int32) (nN : Nat) (p1 : Int32) (S : TV) : Option (TV) :=
  (if p1 < 0 then bfX3_drop_12 wW nN p1  S else (if p1 < S.1 then nm ((p1 * wW)) fun v7 => nm ((v7 + wW)) fun v8 => nm (((S.1 * wW) - v8)) fun v9 => (if v7 < 0 then bfX3_drop_76 wW nN p1  S else (if v9 < 0 then bfX3_drop_76 wW nN p1  S else (if (nI nN) < (v8 + v9) then bfX3_drop_76 wW nN p1  S else (if okC v8 v7 v9 nN nN then nm (S.1, va_cpy S.2 S.2 (v8).toNatClampNeg (v7).toNatClampNeg (v9).toNatClampNeg) fun S10 => bfX3_drop_76 wW nN p1  S10 else none)))) else bfX3_drop_12 wW nN p1  S))
set_option maxHeartbeats 4000000 in
set_option maxRecDepth 100000 in
theorem kX3_drop (l : Launch) (D : va_G) (cI cS : ClassId) (tA tC : Nat) (wW : Int32) (nN : Nat) (p1 : Int32) (S : TV) {q : TV} (h : fX3_drop wW nN p1 S = some q) : Mc l D (tyL cI cS) false yX3_drop cX3_drop 5 none 1 [.ref tA, .int p1] (wT cI tA tC wW nN S) none (wT cI tA tC wW nN q) := by
  refine Mc_of RX3 (by decide +kernel) rfl wc_X3_drop (Nat.le_of_ble_eq_true rfl) ?_
  intro p e s m args below meth c A Q ls C hA hz hP hD hS hl RET
  have RETh : ∀ {pc : Nat} {ls : Array Slot} {H : Heap} {locs : List Loc} {S1 : TV}, decode cX3_drop pc = .ok (.return_, 1) → some S1 = some q → va_P D vwCl (wT cI tA tC wW nN S1) H → va_D A (wT cI tA tC wW nN S1) → va_S A s.heap H locs → W p l e (rmL 1) s m args below meth c H locs 0 0 Q (F0 m pc ls []) := by
    intro pc ls H locs S1 hd h hP hD hS; cases h; exact RET (x_vret C hd) hP hD hS
  have B76 : ∀ (S : TV), bfX3_drop_76 wW nN p1 S = some q → ∀ (H : Heap) (locs : List Loc) (ls : Array Slot), va_P D vwCl (wT cI tA tC wW nN S) H → va_D A (wT cI tA tC wW nN S) → va_S A s.heap H locs → lv_has ls 5 [(0, .ref tA)] → W p l e (rmL 1) s m args below meth c H locs 0 0 Q (F0 m 76 ls []) := by
    intro S h H locs ls hP hD hS hl
    refine x_aload_n C dX3_drop_76 rfl hl 0 rfl ?_
    refine x_dup C dX3_drop_77 rfl ?_
    refine x_get C inX3 hP 0 rfl rfl 2 (by decide) wf_X3_25 rfl dX3_drop_78 ?_
    refine x_iconst (v := (1 : Int32)) C dX3_drop_81 (by decide) ?_
    refine x_isub C dX3_drop_82 ?_
    refine x_putM (wT cI tA tC wW nN) C h inX3 tyX3 tyX3_ok nmX3 hP hD hS 0 rfl rfl 2 (by decide) wf_X3_25 rfl (ft := .int) (by decide +kernel) rfl rfl (Nat.le_of_ble_eq_true rfl) rfl dX3_drop_83 (fun S6 h H locs hP hD hS => ?_)
    exact RETh dX3_drop_86 h hP hD hS
  have B12 : ∀ (S : TV), bfX3_drop_12 wW nN p1 S = some q → ∀ (H : Heap) (locs : List Loc) (ls : Array Slot), va_P D vwCl (wT cI tA tC wW nN S) H → va_D A (wT cI tA tC wW nN S) → va_S A s.heap H locs → lv_has ls 5 [] → W p l e (rmL 1) s m args below meth c H locs 0 0 Q (F0 m 12 ls []) := by
    intro S h H locs ls hP hD hS hl
    exact RETh dX3_drop_12 h hP hD hS
  refine x_iload_n C dX3_drop_0 rfl hl 1 rfl ?_
  refine x_if_lt (tgt := 12) C h dX3_drop_1 (by decide) (fun h => ?_) (fun h => ?_)
  · exact B12 _ h _ _ _ hP hD hS (lv_sub hl [] rfl)
  · refine x_iload_n C dX3_drop_4 rfl hl 1 rfl ?_
    refine x_aload_n C dX3_drop_5 rfl hl 0 rfl ?_
    refine x_get C inX3 hP 0 rfl rfl 2 (by decide) wf_X3_25 rfl dX3_drop_6 ?_
    refine x_icmp_lt (tgt := 13) C h dX3_drop_9 (by decide) (fun h => ?_) (fun h => ?_)
    · refine x_iload_n C dX3_drop_13 rfl hl 1 rfl ?_
      refine x_aload_n C dX3_drop_14 rfl hl 0 rfl ?_
      refine x_get C inX3 hP 0 rfl rfl 0 (by decide) wf_X3_9 rfl dX3_drop_15 ?_
      refine x_imul C dX3_drop_18 ?_
      refine x_nmi h (fun v7 h => ?_)
      refine x_istore_n (lv' := [(2, .int v7), (0, .ref tA), (1, .int p1)]) C dX3_drop_19 rfl hl (by decide) rfl (fun ls hl => ?_)
      refine x_iload_n C dX3_drop_20 rfl hl 0 rfl ?_
      refine x_aload_n C dX3_drop_21 rfl hl 1 rfl ?_
      refine x_get C inX3 hP 0 rfl rfl 0 (by decide) wf_X3_9 rfl dX3_drop_22 ?_
      refine x_iadd C dX3_drop_25 ?_
      refine x_nmi h (fun v8 h => ?_)
      refine x_istore_n (lv' := [(3, .int v8), (2, .int v7), (0, .ref tA), (1, .int p1)]) C dX3_drop_26 rfl hl (by decide) rfl (fun ls hl => ?_)
      refine x_aload_n C dX3_drop_27 rfl hl 2 rfl ?_
      refine x_get C inX3 hP 0 rfl rfl 2 (by decide) wf_X3_25 rfl dX3_drop_28 ?_
      refine x_aload_n C dX3_drop_31 rfl hl 2 rfl ?_
      refine x_get C inX3 hP 0 rfl rfl 0 (by decide) wf_X3_9 rfl dX3_drop_32 ?_
      refine x_imul C dX3_drop_35 ?_
      refine x_iload_n C dX3_drop_36 rfl hl 0 rfl ?_
      refine x_isub C dX3_drop_37 ?_
      refine x_nmi h (fun v9 h => ?_)
      refine x_istore (lv' := [(4, .int v9), (3, .int v8), (2, .int v7), (0, .ref tA), (1, .int p1)]) C dX3_drop_38 hl (by decide) rfl (fun ls hl => ?_)
      refine x_iload_n C dX3_drop_40 rfl hl 2 rfl ?_
      refine x_if_lt (tgt := 76) C h dX3_drop_41 (by decide) (fun h => ?_) (fun h => ?_)
      · exact B76 _ h _ _ _ hP hD hS (lv_sub hl [3] rfl)
      · refine x_iload C dX3_drop_44 hl 0 rfl ?_
        refine x_if_lt (tgt := 76) C h dX3_drop_46 (by decide) (fun h => ?_) (fun h => ?_)
        · exact B76 _ h _ _ _ hP hD hS (lv_sub hl [3] rfl)
        · refine x_iload_n C dX3_drop_49 rfl hl 1 rfl ?_
          refine x_iload C dX3_drop_50 hl 0 rfl ?_
          refine x_iadd C dX3_drop_52 ?_
          refine x_aload_n C dX3_drop_53 rfl hl 3 rfl ?_
          refine x_get C inX3 hP 0 rfl rfl 1 (by decide) wf_X3_21 rfl dX3_drop_54 ?_
          refine x_alen C hP 1 rfl (t0 := 0) rfl rfl dX3_drop_57 ?_
          refine x_icmp_gt (tgt := 76) C h dX3_drop_58 (by decide) (fun h => ?_) (fun h => ?_)
          · exact B76 _ h _ _ _ hP hD hS (lv_sub hl [3] rfl)
          · refine x_aload_n C dX3_drop_61 rfl hl 3 rfl ?_
            refine x_get C inX3 hP 0 rfl rfl 1 (by decide) wf_X3_21 rfl dX3_drop_62 ?_
            refine x_iload_n C dX3_drop_65 rfl hl 1 rfl ?_
            refine x_aload_n C dX3_drop_66 rfl hl 3 rfl ?_
            refine x_get C inX3 hP 0 rfl rfl 1 (by decide) wf_X3_21 rfl dX3_drop_67 ?_
            refine x_iload_n C dX3_drop_70 rfl hl 2 rfl ?_
            refine x_iload C dX3_drop_71 hl 0 rfl ?_
            refine x_acopyM (wT cI tA tC wW nN) C h hl.1 wm_X3_41 wn_arraycopy wt__java_lang_System_arraycopy wz_J10 hP hD hS 1 1 rfl rfl (t0 := 0) (t1 := 0) rfl rfl rfl (by decide) (Nat.le_of_ble_eq_true rfl) dX3_drop_73 (fun S10 h H locs hP hD hS => ?_)
            exact B76 _ h _ _ _ hP hD hS (lv_sub hl [3] rfl)
    · exact B12 _ h _ _ _ hP hD hS (lv_sub hl [] rfl)
/-- Arrays.fill over a table's cells -/
def fillT (n : Nat) (a b v : Int32) (S : TV) : Option TV := (fJ7_fill_fda19 n a b v S.2).map fun f => (S.1, f)
theorem kT_fill (l : Launch) (D : va_G) (cI cS : ClassId) (tA tC : Nat) (wW : Int32) (nN : Nat) (a b v : Int32) (S : TV) {q : TV} (h : fillT nN a b v S = some q) : Mc l D (tyL cI cS) false yJ7_fill_fda19 cJ7_fill_fda19 5 none 2 [.ref tC, .int a, .int b, .int v] (wT cI tA tC wW nN S) none (wT cI tA tC wW nN q) := by
  unfold fillT at h
  cases hf : fJ7_fill_fda19 nN a b v S.2 with
  | none => rw [hf] at h; cases h
  | some f =>
    rw [hf] at h
    cases h
    exact (kJ7_fill_fda19 l D cI cS tC nN a b v S.2 hf).mid rfl [(tA, .inr (1, [.int wW, .ref tC, .int S.1]))] []
theorem kTT_put (l : Launch) (D : va_G) (cI cS : ClassId) (tA tC tA2 tC2 : Nat) (wW : Int32) (nN : Nat) (wW2 : Int32) (nN2 : Nat) (a b v : Int32) (S : TV × TV) {q : TV} (h : fX3_put wW nN a b v S.1 = some q) : Mc l D (tyL cI cS) false yX3_put cX3_put 5 none 1 [.ref tA, .int a, .int b, .int v] (wTT cI tA tC wW nN tA2 tC2 wW2 nN2 S) none (wTT cI tA tC wW nN tA2 tC2 wW2 nN2 (q, S.2)) :=
  (kX3_put l D cI cS tA tC wW nN a b v S.1 h).mid rfl [] (wT cI tA2 tC2 wW2 nN2 S.2)
theorem kTT_get2 (l : Launch) (D : va_G) (cI cS : ClassId) (tA tC tA2 tC2 : Nat) (wW : Int32) (nN : Nat) (wW2 : Int32) (nN2 : Nat) (a b : Int32) (S : TV × TV) {q : Int32} (h : fX3_get wW2 nN2 a b S.2 = some q) : Mc l D (tyL cI cS) false yX3_get cX3_get 4 (some .int) 1 [.ref tA2, .int a, .int b] (wTT cI tA tC wW nN tA2 tC2 wW2 nN2 S) (some (.int q)) (wTT cI tA tC wW nN tA2 tC2 wW2 nN2 S) :=
  (kX3_get l D cI cS tA2 tC2 wW2 nN2 a b S.2 h).mid rfl (wT cI tA tC wW nN S.1) []
def putTT (w : Int32) (n : Nat) (a b v : Int32) (S : TV × TV) : Option (TV × TV) := (fX3_put w n a b v S.1).map fun f => (f, S.2)
theorem kTT_put' (l : Launch) (D : va_G) (cI cS : ClassId) (tA tC tA2 tC2 : Nat) (wW : Int32) (nN : Nat) (wW2 : Int32) (nN2 : Nat) (a b v : Int32) (S : TV × TV) {q : TV × TV} (h : putTT wW nN a b v S = some q) : Mc l D (tyL cI cS) false yX3_put cX3_put 5 none 1 [.ref tA, .int a, .int b, .int v] (wTT cI tA tC wW nN tA2 tC2 wW2 nN2 S) none (wTT cI tA tC wW nN tA2 tC2 wW2 nN2 q) := by
  unfold putTT at h
  cases hf : fX3_put wW nN a b v S.1 with
  | none => rw [hf] at h; cases h
  | some f => rw [hf] at h; cases h; exact kTT_put l D cI cS tA tC tA2 tC2 wW nN wW2 nN2 a b v S hf
theorem dX3_append_0 : decode cX3_append 0 = .ok (.aload_n 0, 1) := by decide +kernel
theorem dX3_append_1 : decode cX3_append 1 = .ok (.getfield 25, 3) := by decide +kernel
theorem dX3_append_4 : decode cX3_append 4 = .ok (.aload_n 0, 1) := by decide +kernel
theorem dX3_append_5 : decode cX3_append 5 = .ok (.getfield 9, 3) := by decide +kernel
theorem dX3_append_8 : decode cX3_append 8 = .ok (.imul, 1) := by decide +kernel
theorem dX3_append_9 : decode cX3_append 9 = .ok (.istore_n 1, 1) := by decide +kernel
theorem dX3_append_10 : decode cX3_append 10 = .ok (.iload_n 1, 1) := by decide +kernel
theorem dX3_append_11 : decode cX3_append 11 = .ok (.aload_n 0, 1) := by decide +kernel
theorem dX3_append_12 : decode cX3_append 12 = .ok (.getfield 9, 3) := by decide +kernel
theorem dX3_append_15 : decode cX3_append 15 = .ok (.iadd, 1) := by decide +kernel
theorem dX3_append_16 : decode cX3_append 16 = .ok (.istore_n 2, 1) := by decide +kernel
theorem dX3_append_17 : decode cX3_append 17 = .ok (.iload_n 1, 1) := by decide +kernel
theorem dX3_append_18 : decode cX3_append 18 = .ok (.ifCond .lt 17, 3) := by decide +kernel
theorem dX3_append_21 : decode cX3_append 21 = .ok (.iload_n 2, 1) := by decide +kernel
theorem dX3_append_22 : decode cX3_append 22 = .ok (.iload_n 1, 1) := by decide +kernel
theorem dX3_append_23 : decode cX3_append 23 = .ok (.if_icmp .lt 12, 3) := by decide +kernel
theorem dX3_append_26 : decode cX3_append 26 = .ok (.iload_n 2, 1) := by decide +kernel
theorem dX3_append_27 : decode cX3_append 27 = .ok (.aload_n 0, 1) := by decide +kernel
theorem dX3_append_28 : decode cX3_append 28 = .ok (.getfield 21, 3) := by decide +kernel
theorem dX3_append_31 : decode cX3_append 31 = .ok (.arraylength, 1) := by decide +kernel
theorem dX3_append_32 : decode cX3_append 32 = .ok (.if_icmp .le 6, 3) := by decide +kernel
theorem dX3_append_35 : decode cX3_append 35 = .ok (.bipush (-9), 2) := by decide +kernel
theorem dX3_append_37 : decode cX3_append 37 = .ok (.ireturn, 1) := by decide +kernel
theorem dX3_append_38 : decode cX3_append 38 = .ok (.aload_n 0, 1) := by decide +kernel
theorem dX3_append_39 : decode cX3_append 39 = .ok (.getfield 21, 3) := by decide +kernel
theorem dX3_append_42 : decode cX3_append 42 = .ok (.iload_n 1, 1) := by decide +kernel
theorem dX3_append_43 : decode cX3_append 43 = .ok (.iload_n 2, 1) := by decide +kernel
theorem dX3_append_44 : decode cX3_append 44 = .ok (.iconst 0, 1) := by decide +kernel
theorem dX3_append_45 : decode cX3_append 45 = .ok (.invokestatic 35, 3) := by decide +kernel
theorem dX3_append_48 : decode cX3_append 48 = .ok (.aload_n 0, 1) := by decide +kernel
theorem dX3_append_49 : decode cX3_append 49 = .ok (.dup, 1) := by decide +kernel
theorem dX3_append_50 : decode cX3_append 50 = .ok (.getfield 25, 3) := by decide +kernel
theorem dX3_append_53 : decode cX3_append 53 = .ok (.iconst 1, 1) := by decide +kernel
theorem dX3_append_54 : decode cX3_append 54 = .ok (.iadd, 1) := by decide +kernel
theorem dX3_append_55 : decode cX3_append 55 = .ok (.putfield 25, 3) := by decide +kernel
theorem dX3_append_58 : decode cX3_append 58 = .ok (.aload_n 0, 1) := by decide +kernel
theorem dX3_append_59 : decode cX3_append 59 = .ok (.getfield 25, 3) := by decide +kernel
theorem dX3_append_62 : decode cX3_append 62 = .ok (.iconst 1, 1) := by decide +kernel
theorem dX3_append_63 : decode cX3_append 63 = .ok (.isub, 1) := by decide +kernel
theorem dX3_append_64 : decode cX3_append 64 = .ok (.ireturn, 1) := by decide +kernel
def bfX3_append_35 (wW : Int32) (nN : Nat) (S : TV) : Option (Int32 × (TV)) :=
  some ((-9 : Int32), S)
def fX3_append (wW : Int32) (nN : Nat) (S : TV) : Option (Int32 × (TV)) :=
  nm ((S.1 * wW)) fun v5 => nm ((v5 + wW)) fun v6 => (if v5 < 0 then bfX3_append_35 wW nN  S else (if v6 < v5 then bfX3_append_35 wW nN  S else (if v6 ≤ (nI nN) then ob (fillT nN v5 v6 (0 : Int32) S) fun u7 => nm ((u7.1 + (1 : Int32)), u7.2) fun S8 => some ((S8.1 - (1 : Int32)), S8) else bfX3_append_35 wW nN  S)))
set_option maxHeartbeats 4000000 in
set_option maxRecDepth 100000 in
theorem kX3_append (l : Launch) (D : va_G) (cI cS : ClassId) (tA tC : Nat) (wW : Int32) (nN : Nat) (S : TV) {q : Int32 × (TV)} (h : fX3_append wW nN S = some q) : Mc l D (tyL cI cS) false yX3_append cX3_append 3 (some .int) 3 [.ref tA] (wT cI tA tC wW nN S) (some (.int q.1)) (wT cI tA tC wW nN q.2) := by
  refine Mc_of RX3 (by decide +kernel) rfl wc_X3_append (Nat.le_of_ble_eq_true rfl) ?_
  intro p e s m args below meth c A Q ls C hA hz hP hD hS hl RET
  have RETh : ∀ {pc : Nat} {ls : Array Slot} {H : Heap} {locs : List Loc} {x : Int32} {S1 : TV}, decode cX3_append pc = .ok (.ireturn, 1) → some (x, S1) = some q → va_P D vwCl (wT cI tA tC wW nN S1) H → va_D A (wT cI tA tC wW nN S1) → va_S A s.heap H locs → W p l e (rmL 3) s m args below meth c H locs 0 0 Q (F0 m pc ls [.int x]) := by
    intro pc ls H locs x S1 hd h hP hD hS; cases h; exact RET (x_iret C hd) hP hD hS
  have B35 : ∀ (S : TV), bfX3_append_35 wW nN S = some q → ∀ (H : Heap) (locs : List Loc) (ls : Array Slot), va_P D vwCl (wT cI tA tC wW nN S) H → va_D A (wT cI tA tC wW nN S) → va_S A s.heap H locs → lv_has ls 3 [] → W p l e (rmL 3) s m args below meth c H locs 0 0 Q (F0 m 35 ls []) := by
    intro S h H locs ls hP hD hS hl
    refine x_bipush (v := (-9 : Int32)) C dX3_append_35 (by decide) ?_
    exact RETh dX3_append_37 h hP hD hS
  refine x_aload_n C dX3_append_0 rfl hl 0 rfl ?_
  refine x_get C inX3 hP 0 rfl rfl 2 (by decide) wf_X3_25 rfl dX3_append_1 ?_
  refine x_aload_n C dX3_append_4 rfl hl 0 rfl ?_
  refine x_get C inX3 hP 0 rfl rfl 0 (by decide) wf_X3_9 rfl dX3_append_5 ?_
  refine x_imul C dX3_append_8 ?_
  refine x_nmi h (fun v5 h => ?_)
  refine x_istore_n (lv' := [(1, .int v5), (0, .ref tA)]) C dX3_append_9 rfl hl (by decide) rfl (fun ls hl => ?_)
  refine x_iload_n C dX3_append_10 rfl hl 0 rfl ?_
  refine x_aload_n C dX3_append_11 rfl hl 1 rfl ?_
  refine x_get C inX3 hP 0 rfl rfl 0 (by decide) wf_X3_9 rfl dX3_append_12 ?_
  refine x_iadd C dX3_append_15 ?_
  refine x_nmi h (fun v6 h => ?_)
  refine x_istore_n (lv' := [(2, .int v6), (1, .int v5), (0, .ref tA)]) C dX3_append_16 rfl hl (by decide) rfl (fun ls hl => ?_)
  refine x_iload_n C dX3_append_17 rfl hl 1 rfl ?_
  refine x_if_lt (tgt := 35) C h dX3_append_18 (by decide) (fun h => ?_) (fun h => ?_)
  · exact B35 _ h _ _ _ hP hD hS (lv_sub hl [] rfl)
  · refine x_iload_n C dX3_append_21 rfl hl 0 rfl ?_
    refine x_iload_n C dX3_append_22 rfl hl 1 rfl ?_
    refine x_icmp_lt (tgt := 35) C h dX3_append_23 (by decide) (fun h => ?_) (fun h => ?_)
    · exact B35 _ h _ _ _ hP hD hS (lv_sub hl [] rfl)
    · refine x_iload_n C dX3_append_26 rfl hl 0 rfl ?_
      refine x_aload_n C dX3_append_27 rfl hl 2 rfl ?_
      refine x_get C inX3 hP 0 rfl rfl 1 (by decide) wf_X3_21 rfl dX3_append_28 ?_
      refine x_alen C hP 1 rfl (t0 := 0) rfl rfl dX3_append_31 ?_
      refine x_icmp_le (tgt := 38) C h dX3_append_32 (by decide) (fun h => ?_) (fun h => ?_)
      · refine x_aload_n C dX3_append_38 rfl hl 2 rfl ?_
        refine x_get C inX3 hP 0 rfl rfl 1 (by decide) wf_X3_21 rfl dX3_append_39 ?_
        refine x_iload_n C dX3_append_42 rfl hl 1 rfl ?_
        refine x_iload_n C dX3_append_43 rfl hl 0 rfl ?_
        refine x_iconst (v := (0 : Int32)) C dX3_append_44 (by decide) ?_
        obtain ⟨u7, hu7, h⟩ := ob_some h
        refine x_callS (As := [.ref _, .int _, .int _, .int _]) (n := 4) C (kT_fill l D cI cS tA tC wW nN _ _ _ _ hu7) (fun hh => nomatch hh) wm_X3_35 wt_J7_fill_fda19 wz_J7 wc_J7_fill_fda19 (by decide +kernel) rfl hP hD hS hA hl.1 dX3_append_45 rfl (Nat.le_of_ble_eq_true rfl) ⟨Nat.le_of_ble_eq_true rfl, Nat.le_of_ble_eq_true rfl⟩ ⟨Nat.zero_le _, Nat.zero_le _⟩ (fun H locs hP hD hS => ?_)
        refine x_aload_n C dX3_append_48 rfl hl 2 rfl ?_
        refine x_dup C dX3_append_49 rfl ?_
        refine x_get C inX3 hP 0 rfl rfl 2 (by decide) wf_X3_25 rfl dX3_append_50 ?_
        refine x_iconst (v := (1 : Int32)) C dX3_append_53 (by decide) ?_
        refine x_iadd C dX3_append_54 ?_
        refine x_putM (wT cI tA tC wW nN) C h inX3 tyX3 tyX3_ok nmX3 hP hD hS 0 rfl rfl 2 (by decide) wf_X3_25 rfl (ft := .int) (by decide +kernel) rfl rfl (Nat.le_of_ble_eq_true rfl) rfl dX3_append_55 (fun S8 h H locs hP hD hS => ?_)
        refine x_aload_n C dX3_append_58 rfl hl 2 rfl ?_
        refine x_get C inX3 hP 0 rfl rfl 2 (by decide) wf_X3_25 rfl dX3_append_59 ?_
        refine x_iconst (v := (1 : Int32)) C dX3_append_62 (by decide) ?_
        refine x_isub C dX3_append_63 ?_
        exact RETh dX3_append_64 h hP hD hS
      · exact B35 _ h _ _ _ hP hD hS (lv_sub hl [] rfl)
theorem dX3_copyRow_0 : decode cX3_copyRow 0 = .ok (.iconst 0, 1) := by decide +kernel
theorem dX3_copyRow_1 : decode cX3_copyRow 1 = .ok (.istore 4, 2) := by decide +kernel
theorem dX3_copyRow_3 : decode cX3_copyRow 3 = .ok (.iload 4, 2) := by decide +kernel
theorem dX3_copyRow_5 : decode cX3_copyRow 5 = .ok (.aload_n 0, 1) := by decide +kernel
theorem dX3_copyRow_6 : decode cX3_copyRow 6 = .ok (.getfield 9, 3) := by decide +kernel
theorem dX3_copyRow_9 : decode cX3_copyRow 9 = .ok (.if_icmp .ge 23, 3) := by decide +kernel
theorem dX3_copyRow_12 : decode cX3_copyRow 12 = .ok (.aload_n 0, 1) := by decide +kernel
theorem dX3_copyRow_13 : decode cX3_copyRow 13 = .ok (.iload_n 1, 1) := by decide +kernel
theorem dX3_copyRow_14 : decode cX3_copyRow 14 = .ok (.iload 4, 2) := by decide +kernel
theorem dX3_copyRow_16 : decode cX3_copyRow 16 = .ok (.aload_n 2, 1) := by decide +kernel
theorem dX3_copyRow_17 : decode cX3_copyRow 17 = .ok (.iload_n 3, 1) := by decide +kernel
theorem dX3_copyRow_18 : decode cX3_copyRow 18 = .ok (.iload 4, 2) := by decide +kernel
theorem dX3_copyRow_20 : decode cX3_copyRow 20 = .ok (.invokevirtual 28, 3) := by decide +kernel
theorem dX3_copyRow_23 : decode cX3_copyRow 23 = .ok (.invokevirtual 31, 3) := by decide +kernel
theorem dX3_copyRow_26 : decode cX3_copyRow 26 = .ok (.iinc 4 1, 3) := by decide +kernel
theorem dX3_copyRow_29 : decode cX3_copyRow 29 = .ok (.goto (-26), 3) := by decide +kernel
theorem dX3_copyRow_32 : decode cX3_copyRow 32 = .ok (.return_, 1) := by decide +kernel
def bfX3_copyRow_3 (wW : Int32) (nN : Nat) (wW2 : Int32) (nN2 : Nat) (p1 : Int32) (p3 : Int32) (K3 : Int32 × (TV × TV) → Option (TV × TV)) (x : Int32 × (TV × TV)) : Option (TV × TV) :=
  match x with
  | (x4, S) => (if wW ≤ x4 then some S else ob (fX3_get wW2 nN2 p3 x4 S.2) fun u3 => ob (putTT wW nN p1 x4 u3 S) fun u4 => K3 ((x4 + (1 : Int32)), u4))
def fX3_copyRow (wW : Int32) (nN : Nat) (wW2 : Int32) (nN2 : Nat) (p1 : Int32) (p3 : Int32) (S : TV × TV) : Option (TV × TV) :=
  iter (bfX3_copyRow_3 wW nN wW2 nN2 p1 p3) FU ((0 : Int32), S)
set_option maxHeartbeats 4000000 in
set_option maxRecDepth 100000 in
theorem kX3_copyRow (l : Launch) (D : va_G) (cI cS : ClassId) (tA tC tA2 tC2 : Nat) (wW : Int32) (nN : Nat) (wW2 : Int32) (nN2 : Nat) (p1 : Int32) (p3 : Int32) (S : TV × TV) {q : TV × TV} (h : fX3_copyRow wW nN wW2 nN2 p1 p3 S = some q) : Mc l D (tyL cI cS) false yX3_copyRow cX3_copyRow 5 none 2 [.ref tA, .int p1, .ref tA2, .int p3] (wTT cI tA tC wW nN tA2 tC2 wW2 nN2 S) none (wTT cI tA tC wW nN tA2 tC2 wW2 nN2 q) := by
  refine Mc_of RX3 (by decide +kernel) rfl wc_X3_copyRow (Nat.le_of_ble_eq_true rfl) ?_
  intro p e s m args below meth c A Q ls C hA hz hP hD hS hl RET
  have RETh : ∀ {pc : Nat} {ls : Array Slot} {H : Heap} {locs : List Loc} {S1 : TV × TV}, decode cX3_copyRow pc = .ok (.return_, 1) → some S1 = some q → va_P D vwCl (wTT cI tA tC wW nN tA2 tC2 wW2 nN2 S1) H → va_D A (wTT cI tA tC wW nN tA2 tC2 wW2 nN2 S1) → va_S A s.heap H locs → W p l e (rmL 2) s m args below meth c H locs 0 0 Q (F0 m pc ls []) := by
    intro pc ls H locs S1 hd h hP hD hS; cases h; exact RET (x_vret C hd) hP hD hS
  have B3 : ∀ (n : Nat) (x : Int32 × (TV × TV)), iter (bfX3_copyRow_3 wW nN wW2 nN2 p1 p3) n x = some q → (match x with | (x4, S) => ∀ (H : Heap) (locs : List Loc) (ls : Array Slot), va_P D vwCl (wTT cI tA tC wW nN tA2 tC2 wW2 nN2 S) H → va_D A (wTT cI tA tC wW nN tA2 tC2 wW2 nN2 S) → va_S A s.heap H locs → lv_has ls 5 [(0, .ref tA), (1, .int p1), (2, .ref tA2), (3, .int p3), (4, .int x4)] → W p l e (rmL 2) s m args below meth c H locs 0 0 Q (F0 m 3 ls [])) := by
    refine iter_ind (fun x : Int32 × (TV × TV) => (match x with | (x4, S) => ∀ (H : Heap) (locs : List Loc) (ls : Array Slot), va_P D vwCl (wTT cI tA tC wW nN tA2 tC2 wW2 nN2 S) H → va_D A (wTT cI tA tC wW nN tA2 tC2 wW2 nN2 S) → va_S A s.heap H locs → lv_has ls 5 [(0, .ref tA), (1, .int p1), (2, .ref tA2), (3, .int p3), (4, .int x4)] → W p l e (rmL 2) s m args below meth c H locs 0 0 Q (F0 m 3 ls []))) ?_
    intro K3 ih3 x h
    obtain ⟨x4, S⟩ := x
    intro H locs ls hP hD hS hl
    refine x_iload C dX3_copyRow_3 hl 4 rfl ?_
    refine x_aload_n C dX3_copyRow_5 rfl hl 0 rfl ?_
    refine x_get C inX3 hP 0 rfl rfl 0 (by decide) wf_X3_9 rfl dX3_copyRow_6 ?_
    refine x_icmp_ge (tgt := 32) C h dX3_copyRow_9 (by decide) (fun h => ?_) (fun h => ?_)
    · exact RETh dX3_copyRow_32 h hP hD hS
    · refine x_aload_n C dX3_copyRow_12 rfl hl 0 rfl ?_
      refine x_iload_n C dX3_copyRow_13 rfl hl 1 rfl ?_
      refine x_iload C dX3_copyRow_14 hl 4 rfl ?_
      refine x_aload_n C dX3_copyRow_16 rfl hl 2 rfl ?_
      refine x_iload_n C dX3_copyRow_17 rfl hl 3 rfl ?_
      refine x_iload C dX3_copyRow_18 hl 4 rfl ?_
      obtain ⟨u3, hu3, h⟩ := ob_some h
      refine x_callV (As := [.int _, .int _]) (n := 2) C (kTT_get2 l D cI cS tA tC tA2 tC2 wW nN wW2 nN2 _ _ _ hu3) (fun hh => nomatch hh) wm_X3_28 wi_X3_get we_X3_get wz_X3 wc_X3_get (by decide +kernel) rfl hP hD hS hA 2 1 rfl rfl rfl hl.1 dX3_copyRow_20 rfl (Nat.le_of_ble_eq_true rfl) ⟨Nat.le_of_ble_eq_true rfl, Nat.le_of_ble_eq_true rfl⟩ ⟨Nat.zero_le _, Nat.zero_le _⟩ (fun H locs hP hD hS => ?_)
      obtain ⟨u4, hu4, h⟩ := ob_some h
      refine x_callV (As := [.int _, .int _, .int _]) (n := 3) C (kTT_put' l D cI cS tA tC tA2 tC2 wW nN wW2 nN2 _ _ _ _ hu4) (fun hh => nomatch hh) wm_X3_31 wi_X3_put we_X3_put wz_X3 wc_X3_put (by decide +kernel) rfl hP hD hS hA 0 1 rfl rfl rfl hl.1 dX3_copyRow_23 rfl (Nat.le_of_ble_eq_true rfl) ⟨Nat.le_of_ble_eq_true rfl, Nat.le_of_ble_eq_true rfl⟩ ⟨Nat.zero_le _, Nat.zero_le _⟩ (fun H locs hP hD hS => ?_)
      refine x_iinc (v := (x4 + (1 : Int32))) (lv' := [(4, .int (x4 + (1 : Int32))), (0, .ref tA), (1, .int p1), (2, .ref tA2), (3, .int p3)]) C dX3_copyRow_26 hl (k := 4) rfl rfl (by decide) rfl (fun ls hl => ?_)
      refine x_goto (tgt := 3) C dX3_copyRow_29 (by decide) ?_
      exact ih3 _ h _ _ _ hP hD hS (lv_sub hl [1, 2, 3, 4, 0] rfl)
  refine x_iconst (v := (0 : Int32)) C dX3_copyRow_0 (by decide) ?_
  refine x_istore (lv' := [(4, .int (0 : Int32)), (0, .ref tA), (1, .int p1), (2, .ref tA2), (3, .int p3)]) C dX3_copyRow_1 hl (by decide) rfl (fun ls hl => ?_)
  exact B3 FU _ h _ _ _ hP hD hS (lv_sub hl [1, 2, 3, 4, 0] rfl)
theorem dX3_copyFrom_0 : decode cX3_copyFrom 0 = .ok (.aload_n 1, 1) := by decide +kernel
theorem dX3_copyFrom_1 : decode cX3_copyFrom 1 = .ok (.getfield 21, 3) := by decide +kernel
theorem dX3_copyFrom_4 : decode cX3_copyFrom 4 = .ok (.iconst 0, 1) := by decide +kernel
theorem dX3_copyFrom_5 : decode cX3_copyFrom 5 = .ok (.aload_n 0, 1) := by decide +kernel
theorem dX3_copyFrom_6 : decode cX3_copyFrom 6 = .ok (.getfield 21, 3) := by decide +kernel
theorem dX3_copyFrom_9 : decode cX3_copyFrom 9 = .ok (.iconst 0, 1) := by decide +kernel
theorem dX3_copyFrom_10 : decode cX3_copyFrom 10 = .ok (.aload_n 1, 1) := by decide +kernel
theorem dX3_copyFrom_11 : decode cX3_copyFrom 11 = .ok (.getfield 21, 3) := by decide +kernel
theorem dX3_copyFrom_14 : decode cX3_copyFrom 14 = .ok (.arraylength, 1) := by decide +kernel
theorem dX3_copyFrom_15 : decode cX3_copyFrom 15 = .ok (.aload_n 0, 1) := by decide +kernel
theorem dX3_copyFrom_16 : decode cX3_copyFrom 16 = .ok (.getfield 21, 3) := by decide +kernel
theorem dX3_copyFrom_19 : decode cX3_copyFrom 19 = .ok (.arraylength, 1) := by decide +kernel
theorem dX3_copyFrom_20 : decode cX3_copyFrom 20 = .ok (.invokestatic 47, 3) := by decide +kernel
theorem dX3_copyFrom_23 : decode cX3_copyFrom 23 = .ok (.invokestatic 41, 3) := by decide +kernel
theorem dX3_copyFrom_26 : decode cX3_copyFrom 26 = .ok (.aload_n 0, 1) := by decide +kernel
theorem dX3_copyFrom_27 : decode cX3_copyFrom 27 = .ok (.aload_n 1, 1) := by decide +kernel
theorem dX3_copyFrom_28 : decode cX3_copyFrom 28 = .ok (.getfield 25, 3) := by decide +kernel
theorem dX3_copyFrom_31 : decode cX3_copyFrom 31 = .ok (.putfield 25, 3) := by decide +kernel
theorem dX3_copyFrom_34 : decode cX3_copyFrom 34 = .ok (.return_, 1) := by decide +kernel
def fX3_copyFrom (wW : Int32) (nN : Nat) (wW2 : Int32) (nN2 : Nat) (S : TV × TV) : Option (TV × TV) :=
  (if okC (0 : Int32) (0 : Int32) (if (nI nN) < (nI nN2) then (nI nN) else (nI nN2)) nN2 nN then nm ((S.1.1, va_cpy S.2.2 S.1.2 ((0 : Int32)).toNatClampNeg ((0 : Int32)).toNatClampNeg ((if (nI nN) < (nI nN2) then (nI nN) else (nI nN2))).toNatClampNeg), S.2) fun S3 => nm ((S3.2.1, S3.1.2), S3.2) fun S4 => some S4 else none)
set_option maxHeartbeats 4000000 in
set_option maxRecDepth 100000 in
theorem kX3_copyFrom (l : Launch) (D : va_G) (cI cS : ClassId) (tA tC tA2 tC2 : Nat) (wW : Int32) (nN : Nat) (wW2 : Int32) (nN2 : Nat) (S : TV × TV) {q : TV × TV} (h : fX3_copyFrom wW nN wW2 nN2 S = some q) : Mc l D (tyL cI cS) false yX3_copyFrom cX3_copyFrom 2 none 2 [.ref tA, .ref tA2] (wTT cI tA tC wW nN tA2 tC2 wW2 nN2 S) none (wTT cI tA tC wW nN tA2 tC2 wW2 nN2 q) := by
  refine Mc_of RX3 (by decide +kernel) rfl wc_X3_copyFrom (Nat.le_of_ble_eq_true rfl) ?_
  intro p e s m args below meth c A Q ls C hA hz hP hD hS hl RET
  have RETh : ∀ {pc : Nat} {ls : Array Slot} {H : Heap} {locs : List Loc} {S1 : TV × TV}, decode cX3_copyFrom pc = .ok (.return_, 1) → some S1 = some q → va_P D vwCl (wTT cI tA tC wW nN tA2 tC2 wW2 nN2 S1) H → va_D A (wTT cI tA tC wW nN tA2 tC2 wW2 nN2 S1) → va_S A s.heap H locs → W p l e (rmL 2) s m args below meth c H locs 0 0 Q (F0 m pc ls []) := by
    intro pc ls H locs S1 hd h hP hD hS; cases h; exact RET (x_vret C hd) hP hD hS
  refine x_aload_n C dX3_copyFrom_0 rfl hl 1 rfl ?_
  refine x_get C inX3 hP 2 rfl rfl 1 (by decide) wf_X3_21 rfl dX3_copyFrom_1 ?_
  refine x_iconst (v := (0 : Int32)) C dX3_copyFrom_4 (by decide) ?_
  refine x_aload_n C dX3_copyFrom_5 rfl hl 0 rfl ?_
  refine x_get C inX3 hP 0 rfl rfl 1 (by decide) wf_X3_21 rfl dX3_copyFrom_6 ?_
  refine x_iconst (v := (0 : Int32)) C dX3_copyFrom_9 (by decide) ?_
  refine x_aload_n C dX3_copyFrom_10 rfl hl 1 rfl ?_
  refine x_get C inX3 hP 2 rfl rfl 1 (by decide) wf_X3_21 rfl dX3_copyFrom_11 ?_
  refine x_alen C hP 3 rfl (t0 := 0) rfl rfl dX3_copyFrom_14 ?_
  refine x_aload_n C dX3_copyFrom_15 rfl hl 0 rfl ?_
  refine x_get C inX3 hP 0 rfl rfl 1 (by decide) wf_X3_21 rfl dX3_copyFrom_16 ?_
  refine x_alen C hP 1 rfl (t0 := 0) rfl rfl dX3_copyFrom_19 ?_
  refine x_min C hl.1 wm_X3_47 wt_J9_min_7cf53 wz_J9 wc_J9_min_7cf53 (by decide) (Nat.le_of_ble_eq_true rfl) ⟨Nat.zero_le _, Nat.zero_le _⟩ dX3_copyFrom_20 ?_
  refine x_acopyM (wTT cI tA tC wW nN tA2 tC2 wW2 nN2) C h hl.1 wm_X3_41 wn_arraycopy wt__java_lang_System_arraycopy wz_J10 hP hD hS 3 1 rfl rfl (t0 := 0) (t1 := 0) rfl rfl rfl (by decide) (Nat.le_of_ble_eq_true rfl) dX3_copyFrom_23 (fun S3 h H locs hP hD hS => ?_)
  refine x_aload_n C dX3_copyFrom_26 rfl hl 0 rfl ?_
  refine x_aload_n C dX3_copyFrom_27 rfl hl 1 rfl ?_
  refine x_get C inX3 hP 2 rfl rfl 2 (by decide) wf_X3_25 rfl dX3_copyFrom_28 ?_
  refine x_putM (wTT cI tA tC wW nN tA2 tC2 wW2 nN2) C h inX3 tyX3 tyX3_ok nmX3 hP hD hS 0 rfl rfl 2 (by decide) wf_X3_25 rfl (ft := .int) (by decide +kernel) rfl rfl (Nat.le_of_ble_eq_true rfl) rfl dX3_copyFrom_31 (fun S4 h H locs hP hD hS => ?_)
  exact RETh dX3_copyFrom_34 h hP hD hS
end
section
/-! tables by rows and columns: what each method of Table does to them -/
abbrev Tb : Type := Nat × (Nat → Nat → Int32)
def tz (rows : Nat) (T : Tb) : Nat := min T.1 rows
theorem tz_le (rows : Nat) (T : Tb) : tz rows T ≤ rows := Nat.min_le_right _ _
def tflat (w : Nat) (f : Nat → Nat → Int32) : Nat → Int32 := fun j => f (j / w) (j % w)
def tv (w rows : Nat) (T : Tb) : TV := (nI (tz rows T), tflat w T.2)
def wB (cI : ClassId) (tA tC w rows : Nat) (T : Tb) : va_W := wT cI tA tC (nI w) (rows * w) (tv w rows T)
def tget (w rows : Nat) (T : Tb) (r c : Int32) : Int32 := if okI r (tz rows T) ∧ okI c w then T.2 r.toNatClampNeg c.toNatClampNeg else -9
def fup (f : Nat → Nat → Int32) (i j : Nat) (v : Int32) : Nat → Nat → Int32 := fun a b => if a = i ∧ b = j then v else f a b
def tput (w rows : Nat) (T : Tb) (r c v : Int32) : Tb := if okI r (tz rows T) ∧ okI c w then (T.1, fup T.2 r.toNatClampNeg c.toNatClampNeg v) else T
def tadd (w rows : Nat) (T : Tb) (r c v : Int32) : Tb := tput w rows T r c (tget w rows T r c + v)
def firstF (g : Nat → Bool) : Nat → Nat → Int32
  | 0, _ => -9
  | n + 1, i => if g i then nI i else firstF g n (i + 1)
def tfind (w rows : Nat) (T : Tb) (c v : Int32) : Int32 := firstF (fun i => decide (tget w rows T (nI i) c = v)) (tz rows T) 0
def sumF (g : Nat → Int32) : Nat → Int32
  | 0 => 0
  | n + 1 => sumF g n + g n
def trows (w rows : Nat) (T : Tb) (c v : Int32) : Int32 := sumF (fun i => if tget w rows T (nI i) c = v then 1 else 0) (tz rows T)
def tsum (w rows : Nat) (T : Tb) (c : Int32) : Int32 := sumF (fun i => tget w rows T (nI i) c) (tz rows T)
def tappend (rows : Nat) (T : Tb) : Int32 × Tb := if T.1 < rows then (nI T.1, (T.1 + 1, fun i j => if i = T.1 then 0 else T.2 i j)) else (-9, T)
def tdrop (rows : Nat) (T : Tb) (r : Int32) : Tb := if okI r (tz rows T) then (tz rows T - 1, fun i j => if r.toNatClampNeg ≤ i ∧ i + 1 < tz rows T then T.2 (i + 1) j else T.2 i j) else T
theorem okI_nI {i n : Nat} (h : i < n) (hn : n < 2 ^ 31) : okI (nI i) n := vp_in_nI h hn
theorem okI_of {x : Int32} {n : Nat} (h : okI x n) (hn : n < 2 ^ 31) : ∃ j : Nat, j < n ∧ x = nI j := vp_in_of h hn
theorem okI_neg {x : Int32} {n : Nat} (h : x < 0) : ¬ okI x n := fun q => q (Or.inl h)
theorem okI_ge {x : Int32} {n : Nat} (hn : n < 2 ^ 31) (h : nI n ≤ x) : ¬ okI x n := fun q => by
  obtain ⟨j, hj, rfl⟩ := okI_of q hn
  exact nI_ge hj hn h
theorem okI_iff {i n : Nat} (hi : i < 2 ^ 31) : okI (nI i) n ↔ i < n := by
  constructor
  · intro h
    have := h
    rw [okI, nI_clamp hi] at this
    omega
  · intro h
    rw [okI, nI_clamp hi]
    have := nI_pos hi
    intro q
    rcases q with q | q
    · exact this q
    · omega
theorem flat_ix {w : Nat} (f : Nat → Nat → Int32) {i j : Nat} (hj : j < w) : tflat w f (i * w + j) = f i j := by
  have hw : 0 < w := by omega
  unfold tflat
  rw [Nat.mul_comm i w, Nat.mul_add_div hw, Nat.div_eq_of_lt hj, Nat.mul_add_mod, Nat.mod_eq_of_lt hj, Nat.add_zero]
theorem flat_up {w : Nat} (f : Nat → Nat → Int32) {i j : Nat} (hj : j < w) (v : Int32) : upd (tflat w f) (i * w + j) v = tflat w (fup f i j v) := by
  have hw : 0 < w := by omega
  funext k
  unfold upd tflat fup
  by_cases h : k = i * w + j
  · subst h
    rw [if_pos rfl, if_pos]
    rw [Nat.mul_comm i w, Nat.mul_add_div hw, Nat.div_eq_of_lt hj, Nat.mul_add_mod, Nat.mod_eq_of_lt hj, Nat.add_zero]
    exact ⟨rfl, rfl⟩
  · rw [if_neg h, if_neg]
    rintro ⟨h1, h2⟩
    apply h
    have := Nat.div_add_mod k w
    rw [← this, h1, h2, Nat.mul_comm]
theorem cell_lt {w rows i j : Nat} (hi : i < rows) (hj : j < w) : i * w + j < rows * w := by
  have : (i + 1) * w ≤ rows * w := Nat.mul_le_mul_right w hi
  rw [Nat.succ_mul] at this
  omega
section TL
variable {w rows : Nat} (hw : 0 < w) (hw2 : w ≤ 14) (hr : rows ≤ 64)
theorem small_n (hw2 : w ≤ 14) (hr : rows ≤ 64) : rows * w ≤ 896 := by
  have := Nat.mul_le_mul hr hw2
  omega
theorem get_eq (hw2 : w ≤ 14) (hr : rows ≤ 64) (T : Tb) (r c : Int32) : fX3_get (nI w) (rows * w) r c (tv w rows T) = some (tget w rows T r c) := by
  have hn := small_n hw2 hr
  have hz := tz_le rows T
  unfold fX3_get bfX3_get_24 bfX3_get_58 bfX3_get_60 tget
  rcases pk_ix r (n := tz rows T) (by omega) with h | h | ⟨i, hi, rfl⟩
  · rw [if_pos h, if_neg (fun q => okI_neg h q.1)]
  · by_cases h0 : r < 0
    · rw [if_pos h0, if_neg (fun q => okI_neg h0 q.1)]
    · rw [if_neg h0, if_pos (show (tv w rows T).1 ≤ r from h), if_neg (fun q => okI_ge (by omega) h q.1)]
  · rw [if_neg (nI_pos (by omega)), if_neg (show ¬ (tv w rows T).1 ≤ nI i from nI_ge hi (by omega))]
    rcases pk_ix c (n := w) (by omega) with h | h | ⟨j, hj, rfl⟩
    · rw [if_pos h, if_neg (fun q => okI_neg h q.2)]
    · by_cases h0 : c < 0
      · rw [if_pos h0, if_neg (fun q => okI_neg h0 q.2)]
      · rw [if_neg h0, if_neg (Int32.not_lt.mpr h), if_neg (fun q => okI_ge (by omega) h q.2)]
    · have hc := cell_lt (show i < rows by omega) hj
      rw [if_neg (nI_pos (by omega)), if_pos (nI_lt hj (by omega)), nm, pk_mul, nI_add, if_neg (nI_pos (by omega)), if_neg (show ¬ nI (rows * w) ≤ nI (i * w + j) from nI_ge hc (by omega)), if_pos (okI_nI hc (by omega)), if_pos ⟨okI_nI hi (by omega), okI_nI hj (by omega)⟩, nI_clamp (by omega), nI_clamp (by omega), nI_clamp (by omega)]
      exact congrArg some (flat_ix T.2 hj)
theorem put_eq (hw2 : w ≤ 14) (hr : rows ≤ 64) (T : Tb) (r c v : Int32) : fX3_put (nI w) (rows * w) r c v (tv w rows T) = some (tv w rows (tput w rows T r c v)) := by
  have hn := small_n hw2 hr
  have hz := tz_le rows T
  unfold fX3_put bfX3_put_24 bfX3_put_58 tput
  rcases pk_ix r (n := tz rows T) (by omega) with h | h | ⟨i, hi, rfl⟩
  · rw [if_pos h, if_neg (fun q => okI_neg h q.1)]
  · by_cases h0 : r < 0
    · rw [if_pos h0, if_neg (fun q => okI_neg h0 q.1)]
    · rw [if_neg h0, if_pos (show (tv w rows T).1 ≤ r from h), if_neg (fun q => okI_ge (by omega) h q.1)]
  · rw [if_neg (nI_pos (by omega)), if_neg (show ¬ (tv w rows T).1 ≤ nI i from nI_ge hi (by omega))]
    rcases pk_ix c (n := w) (by omega) with h | h | ⟨j, hj, rfl⟩
    · rw [if_pos h, if_neg (fun q => okI_neg h q.2)]
    · by_cases h0 : c < 0
      · rw [if_pos h0, if_neg (fun q => okI_neg h0 q.2)]
      · rw [if_neg h0, if_neg (Int32.not_lt.mpr h), if_neg (fun q => okI_ge (by omega) h q.2)]
    · have hc := cell_lt (show i < rows by omega) hj
      rw [if_neg (nI_pos (by omega)), if_pos (nI_lt hj (by omega)), nm, pk_mul, nI_add, if_neg (nI_pos (by omega)), if_neg (show ¬ nI (rows * w) ≤ nI (i * w + j) from nI_ge hc (by omega)), if_pos (okI_nI hc (by omega)), if_pos ⟨okI_nI hi (by omega), okI_nI hj (by omega)⟩, nI_clamp (by omega), nI_clamp (by omega), nI_clamp (by omega), nm]
      show some ((tv w rows T).1, upd (tflat w T.2) (i * w + j) v) = _
      rw [flat_up T.2 hj]
      rfl
theorem add_eq (hw2 : w ≤ 14) (hr : rows ≤ 64) (T : Tb) (r c v : Int32) : fX3_add (nI w) (rows * w) r c v (tv w rows T) = some (tv w rows (tadd w rows T r c v)) := by
  unfold fX3_add
  rw [get_eq hw2 hr, ob_eq, put_eq hw2 hr, ob_eq]
  rfl
theorem find_go (hw2 : w ≤ 14) (hr : rows ≤ 64) (T : Tb) (c v : Int32) : ∀ (k i m : Nat), i + k = tz rows T → k < m → iter (bfX3_find_2 (nI w) (rows * w) c v (tv w rows T)) m (nI i) = some (firstF (fun i => decide (tget w rows T (nI i) c = v)) k i) := by
  have hz := tz_le rows T
  intro k
  induction k with
  | zero =>
    intro i m hi hm
    obtain ⟨m, rfl⟩ : ∃ m', m = m' + 1 := ⟨m - 1, by omega⟩
    show bfX3_find_2 _ _ _ _ _ _ _ = _
    rw [bfX3_find_2]
    rw [if_pos (show (tv w rows T).1 ≤ nI i from nI_le (by omega) (by omega))]
    rfl
  | succ k ih =>
    intro i m hi hm
    obtain ⟨m, rfl⟩ : ∃ m', m = m' + 1 := ⟨m - 1, by omega⟩
    show bfX3_find_2 _ _ _ _ _ _ _ = _
    rw [bfX3_find_2]
    rw [if_neg (show ¬ (tv w rows T).1 ≤ nI i from nI_ge (by omega) (by omega)), get_eq hw2 hr, ob_eq]
    unfold firstF
    by_cases h : tget w rows T (nI i) c = v
    · rw [if_pos h, if_pos (decide_eq_true h)]
    · rw [if_neg h, if_neg (by simpa using h), nI_1, ih (i + 1) m (by omega) (by omega)]
theorem find_eq (hw2 : w ≤ 14) (hr : rows ≤ 64) (T : Tb) (c v : Int32) : fX3_find (nI w) (rows * w) c v (tv w rows T) = some (tfind w rows T c v) := by
  have hz := tz_le rows T
  exact find_go hw2 hr T c v (tz rows T) 0 FU (by omega) (by unfold FU; omega)
theorem rows_go (hw2 : w ≤ 14) (hr : rows ≤ 64) (T : Tb) (c v : Int32) : ∀ (k i m : Nat), i + k = tz rows T → k < m → iter (bfX3_rowsWith_5 (nI w) (rows * w) c v (tv w rows T)) m (sumF (fun i => if tget w rows T (nI i) c = v then 1 else 0) i, nI i) = some (trows w rows T c v) := by
  have hz := tz_le rows T
  intro k
  induction k with
  | zero =>
    intro i m hi hm
    obtain ⟨m, rfl⟩ : ∃ m', m = m' + 1 := ⟨m - 1, by omega⟩
    show bfX3_rowsWith_5 _ _ _ _ _ _ _ = _
    rw [bfX3_rowsWith_5]
    rw [if_pos (show (tv w rows T).1 ≤ nI i from nI_le (by omega) (by omega))]
    unfold trows
    rw [← hi]
    rfl
  | succ k ih =>
    intro i m hi hm
    obtain ⟨m, rfl⟩ : ∃ m', m = m' + 1 := ⟨m - 1, by omega⟩
    show bfX3_rowsWith_5 _ _ _ _ _ _ _ = _
    rw [bfX3_rowsWith_5]
    unfold bfX3_rowsWith_31
    rw [if_neg (show ¬ (tv w rows T).1 ≤ nI i from nI_ge (by omega) (by omega)), get_eq hw2 hr, ob_eq]
    have hs := ih (i + 1) m (by omega) (by omega)
    by_cases h : tget w rows T (nI i) c = v
    · rw [if_pos h, nm, nI_1]
      rw [show sumF (fun i => if tget w rows T (nI i) c = v then (1 : Int32) else 0) (i + 1) = sumF (fun i => if tget w rows T (nI i) c = v then 1 else 0) i + 1 from by rw [sumF, if_pos h]] at hs
      exact hs
    · rw [if_neg h, nm, nI_1]
      rw [show sumF (fun i => if tget w rows T (nI i) c = v then (1 : Int32) else 0) (i + 1) = sumF (fun i => if tget w rows T (nI i) c = v then 1 else 0) i + 0 from by rw [sumF, if_neg h]] at hs
      exact hs
theorem rows_eq (hw2 : w ≤ 14) (hr : rows ≤ 64) (T : Tb) (c v : Int32) : fX3_rowsWith (nI w) (rows * w) c v (tv w rows T) = some (trows w rows T c v) := by
  have hz := tz_le rows T
  exact rows_go hw2 hr T c v (tz rows T) 0 FU (by omega) (by unfold FU; omega)
theorem sum_go (hw2 : w ≤ 14) (hr : rows ≤ 64) (T : Tb) (c : Int32) : ∀ (k i m : Nat), i + k = tz rows T → k < m → iter (bfX3_sumOf_4 (nI w) (rows * w) c (tv w rows T)) m (sumF (fun i => tget w rows T (nI i) c) i, nI i) = some (tsum w rows T c) := by
  have hz := tz_le rows T
  intro k
  induction k with
  | zero =>
    intro i m hi hm
    obtain ⟨m, rfl⟩ : ∃ m', m = m' + 1 := ⟨m - 1, by omega⟩
    show bfX3_sumOf_4 _ _ _ _ _ _ = _
    rw [bfX3_sumOf_4]
    rw [if_pos (show (tv w rows T).1 ≤ nI i from nI_le (by omega) (by omega))]
    unfold tsum
    rw [← hi]
    rfl
  | succ k ih =>
    intro i m hi hm
    obtain ⟨m, rfl⟩ : ∃ m', m = m' + 1 := ⟨m - 1, by omega⟩
    show bfX3_sumOf_4 _ _ _ _ _ _ = _
    rw [bfX3_sumOf_4]
    rw [if_neg (show ¬ (tv w rows T).1 ≤ nI i from nI_ge (by omega) (by omega)), get_eq hw2 hr, ob_eq, nm, nI_1]
    exact ih (i + 1) m (by omega) (by omega)
theorem sum_eq (hw2 : w ≤ 14) (hr : rows ≤ 64) (T : Tb) (c : Int32) : fX3_sumOf (nI w) (rows * w) c (tv w rows T) = some (tsum w rows T c) := by
  have hz := tz_le rows T
  exact sum_go hw2 hr T c (tz rows T) 0 FU (by omega) (by unfold FU; omega)
theorem fill_go {n : Nat} (hn : n < 2 ^ 31) (v : Int32) : ∀ (k a b m : Nat) (f : Nat → Int32), a + k = b → b ≤ n → k < m → iter (bfJ7_fill_fda19_10 n (nI a) (nI b) v) m (nI a, f) = some (fun j => if a ≤ j ∧ j < b then v else f j) ∧ ∀ a0, iter (bfJ7_fill_fda19_10 n a0 (nI b) v) m (nI a, f) = some (fun j => if a ≤ j ∧ j < b then v else f j) := by
  intro k
  induction k with
  | zero =>
    intro a b m f h1 h2 h3
    obtain ⟨m, rfl⟩ : ∃ m', m = m' + 1 := ⟨m - 1, by omega⟩
    have key : ∀ a0, iter (bfJ7_fill_fda19_10 n a0 (nI b) v) (m + 1) (nI a, f) = some (fun j => if a ≤ j ∧ j < b then v else f j) := by
      intro a0
      show bfJ7_fill_fda19_10 _ _ _ _ _ _ = _
      rw [bfJ7_fill_fda19_10]
      rw [if_pos (nI_le (by omega) (by omega))]
      refine congrArg some (funext fun j => ?_)
      rw [if_neg (by omega)]
    exact ⟨key _, key⟩
  | succ k ih =>
    intro a b m f h1 h2 h3
    obtain ⟨m, rfl⟩ : ∃ m', m = m' + 1 := ⟨m - 1, by omega⟩
    have key : ∀ a0, iter (bfJ7_fill_fda19_10 n a0 (nI b) v) (m + 1) (nI a, f) = some (fun j => if a ≤ j ∧ j < b then v else f j) := by
      intro a0
      show bfJ7_fill_fda19_10 _ _ _ _ _ _ = _
      rw [bfJ7_fill_fda19_10]
      rw [if_neg (nI_ge (by omega) (by omega)), if_pos (okI_nI (by omega) hn), nm, nI_1, nI_clamp (by omega), (ih (a + 1) b m (upd f a v) (by omega) h2 (by omega)).2 a0]
      refine congrArg some (funext fun j => ?_)
      unfold upd
      by_cases hj : j = a
      · subst hj
        rw [if_neg (by omega), if_pos rfl, if_pos (by omega)]
      · rw [if_neg hj]
        by_cases h : a + 1 ≤ j ∧ j < b
        · rw [if_pos h, if_pos (by omega)]
        · rw [if_neg h, if_neg (by omega)]
    exact ⟨key _, key⟩
theorem fill_eq {n a b : Nat} (hn : n < 1000) (hab : a ≤ b) (hb : b ≤ n) (v : Int32) (S : TV) : fillT n (nI a) (nI b) v S = some (S.1, fun j => if a ≤ j ∧ j < b then v else S.2 j) := by
  unfold fillT fJ7_fill_fda19 fJ7_rangeCheck_23922
  rw [if_pos (nI_le hab (by omega)), if_pos (nI_pos' (by omega)), if_pos (show nI b ≤ nI n from nI_le hb (by omega)), ob_eq, (fill_go (n := n) (by omega) v (b - a) a b FU S.2 (by omega) hb (by unfold FU; omega)).1]
  rfl
theorem append_eq (hw : 0 < w) (hw2 : w ≤ 14) (hr : rows ≤ 64) (T : Tb) : fX3_append (nI w) (rows * w) (tv w rows T) = some ((tappend rows T).1, tv w rows (tappend rows T).2) := by
  have hn := small_n hw2 hr
  have hz := tz_le rows T
  have hm : tz rows T * w ≤ rows * w := Nat.mul_le_mul_right w hz
  unfold fX3_append bfX3_append_35 tappend
  rw [nm, nm, show (tv w rows T).1 * nI w = nI (tz rows T * w) from pk_mul _ _, nI_add, if_neg (nI_pos (by omega)), if_neg (nI_nlt (by omega) (by omega))]
  by_cases h : T.1 < rows
  · have e : tz rows T = T.1 := Nat.min_eq_left (by omega)
    have hc : (T.1 + 1) * w ≤ rows * w := Nat.mul_le_mul_right w h
    rw [Nat.succ_mul] at hc
    rw [if_pos h, e, if_pos (show nI (T.1 * w + w) ≤ nI (rows * w) from nI_le hc (by omega)), fill_eq (by omega) (by omega) hc, ob_eq, nm]
    have e2 : tz rows (T.1 + 1, fun i j => if i = T.1 then (0 : Int32) else T.2 i j) = T.1 + 1 := Nat.min_eq_left (by omega)
    have e3 : (tv w rows T).1 + 1 = nI (T.1 + 1) := by
      show nI (tz rows T) + 1 = _
      rw [e, nI_1]
    refine congrArg some (Prod.ext ?_ (Prod.ext ?_ ?_))
    · show (tv w rows T).1 + 1 - 1 = nI T.1
      rw [e3]
      exact nI_pred T.1
    · show (tv w rows T).1 + 1 = nI (tz rows _)
      rw [e2, e3]
    · refine funext fun j => ?_
      show (if T.1 * w ≤ j ∧ j < T.1 * w + w then (0 : Int32) else tflat w T.2 j) = tflat w (fun i j => if i = T.1 then 0 else T.2 i j) j
      unfold tflat
      have hd : j / w = T.1 ↔ T.1 * w ≤ j ∧ j < T.1 * w + w := by
        constructor
        · intro q
          have h1 := Nat.div_add_mod j w
          have h2 := Nat.mod_lt j hw
          rw [q, Nat.mul_comm] at h1
          omega
        · rintro ⟨q1, q2⟩
          have h1 : T.1 ≤ j / w := (Nat.le_div_iff_mul_le hw).mpr q1
          have h2 : j / w < T.1 + 1 := (Nat.div_lt_iff_lt_mul hw).mpr (by rw [Nat.succ_mul]; exact q2)
          omega
      dsimp only
      by_cases q : j / w = T.1
      · rw [if_pos (hd.mp q), if_pos q]
      · rw [if_neg (fun z => q (hd.mpr z)), if_neg q]
  · have e : tz rows T = rows := Nat.min_eq_right (by omega)
    rw [if_neg h, if_neg (show ¬ nI (tz rows T * w + w) ≤ nI (rows * w) from nI_ge (by rw [e]; omega) (by rw [e]; omega))]
theorem drop_eq (hw : 0 < w) (hw2 : w ≤ 14) (hr : rows ≤ 64) (T : Tb) (r : Int32) : fX3_drop (nI w) (rows * w) r (tv w rows T) = some (tv w rows (tdrop rows T r)) := by
  have hn := small_n hw2 hr
  have hz := tz_le rows T
  unfold fX3_drop bfX3_drop_12 bfX3_drop_76 tdrop
  rcases pk_ix r (n := tz rows T) (by omega) with h | h | ⟨i, hi, rfl⟩
  · rw [if_pos h, if_neg (fun q => okI_neg h q)]
  · by_cases h0 : r < 0
    · rw [if_pos h0, if_neg (fun q => okI_neg h0 q)]
    · rw [if_neg h0, if_neg (show ¬ r < (tv w rows T).1 from Int32.not_lt.mpr h), if_neg (fun q => okI_ge (by omega) h q)]
  · have hm : tz rows T * w ≤ rows * w := Nat.mul_le_mul_right w hz
    have hi2 : (i + 1) * w ≤ tz rows T * w := Nat.mul_le_mul_right w hi
    rw [Nat.succ_mul] at hi2
    rw [if_neg (nI_pos (by omega)), if_pos (show nI i < (tv w rows T).1 from nI_lt hi (by omega)), if_pos (okI_nI hi (by omega)), nm, nm, nm, pk_mul, nI_add, show (tv w rows T).1 * nI w = nI (tz rows T * w) from pk_mul _ _, pk_sub hi2, if_neg (nI_pos (by omega)), if_neg (nI_pos (by omega)), nI_add, if_neg (show ¬ nI (rows * w) < nI (i * w + w + (tz rows T * w - (i * w + w))) from nI_nlt (by omega) (by omega))]
    rw [if_pos (by
      refine ⟨nI_pos (by omega), nI_pos (by omega), nI_pos (by omega), ?_, ?_⟩
      · rw [nI_clamp (by omega), nI_clamp (by omega)]; omega
      · rw [nI_clamp (by omega), nI_clamp (by omega)]; omega), nm, nm]
    have e2 : tz rows (tz rows T - 1, fun a j => if (nI i).toNatClampNeg ≤ a ∧ a + 1 < tz rows T then T.2 (a + 1) j else T.2 a j) = tz rows T - 1 := Nat.min_eq_left (by omega)
    refine congrArg some (Prod.ext ?_ ?_)
    · show (tv w rows T).1 - 1 = nI (tz rows _)
      rw [e2]
      show nI (tz rows T) - 1 = _
      obtain ⟨k, hk⟩ : ∃ k, tz rows T = k + 1 := ⟨tz rows T - 1, by omega⟩
      rw [hk]
      exact nI_pred k
    · refine funext fun j => ?_
      show va_cpy (tflat w T.2) (tflat w T.2) (nI (i * w + w)).toNatClampNeg (nI (i * w)).toNatClampNeg (nI (tz rows T * w - (i * w + w))).toNatClampNeg j = tflat w (fun a j => if (nI i).toNatClampNeg ≤ a ∧ a + 1 < tz rows T then T.2 (a + 1) j else T.2 a j) j
      rw [nI_clamp (by omega), nI_clamp (by omega), nI_clamp (by omega), nI_clamp (show i < 2 ^ 31 by omega)]
      unfold va_cpy tflat
      have hd : (i ≤ j / w ∧ j / w + 1 < tz rows T) ↔ (i * w ≤ j ∧ j < i * w + (tz rows T * w - (i * w + w))) := by
        have h1 : i ≤ j / w ↔ i * w ≤ j := Nat.le_div_iff_mul_le hw
        have h2 : j / w < tz rows T - 1 ↔ j < (tz rows T - 1) * w := Nat.div_lt_iff_lt_mul hw
        have h3 : (tz rows T - 1) * w = tz rows T * w - w := by rw [Nat.sub_mul, Nat.one_mul]
        rw [h3] at h2
        omega
      dsimp only
      by_cases q : i ≤ j / w ∧ j / w + 1 < tz rows T
      · rw [if_pos (hd.mp q), if_pos q]
        have e : i * w + w + (j - i * w) = j + w := by have := (hd.mp q).1; omega
        rw [e, Nat.add_div_right j hw, Nat.add_mod_right]
      · rw [if_neg (fun z => q (hd.mpr z)), if_neg q]
/-- one row, of another table with as many columns -/
def crow (w rows2 : Nat) (T2 : Tb) (r2 : Int32) (k : Nat) (rows : Nat) (T : Tb) (r : Int32) : Tb := if okI r (tz rows T) then (T.1, fun i j => if i = r.toNatClampNeg ∧ j < k then tget w rows2 T2 r2 (nI j) else T.2 i j) else T
def tcopyRow (w rows rows2 : Nat) (T T2 : Tb) (r r2 : Int32) : Tb := crow w rows2 T2 r2 w rows T r
theorem crow_step {rows2 : Nat} (hw2 : w ≤ 14) (hr : rows ≤ 64) (T T2 : Tb) (r r2 : Int32) {k : Nat} (hk : k < w) : tput w rows (crow w rows2 T2 r2 k rows T r) r (nI k) (tget w rows2 T2 r2 (nI k)) = crow w rows2 T2 r2 (k + 1) rows T r := by
  unfold crow tput
  by_cases h : okI r (tz rows T)
  · rw [if_pos h, if_pos h]
    have h2 : okI r (tz rows (T.1, fun i j => if i = r.toNatClampNeg ∧ j < k then tget w rows2 T2 r2 (nI j) else T.2 i j)) := h
    rw [if_pos ⟨h2, okI_nI hk (by omega)⟩, nI_clamp (by omega)]
    refine Prod.ext rfl (funext fun i => funext fun j => ?_)
    show fup _ _ _ _ i j = _
    unfold fup
    dsimp only
    by_cases h3 : i = r.toNatClampNeg ∧ j = k
    · rw [if_pos h3, if_pos ⟨h3.1, by omega⟩, h3.2]
    · rw [if_neg h3]
      by_cases h4 : i = r.toNatClampNeg ∧ j < k
      · rw [if_pos h4, if_pos ⟨h4.1, by omega⟩]
      · rw [if_neg h4, if_neg (fun q => h3 ⟨q.1, by have := fun z => h4 ⟨q.1, z⟩; omega⟩)]
  · rw [if_neg h, if_neg h, if_neg (fun q => h q.1)]
theorem copyRow_go {rows2 : Nat} (hw2 : w ≤ 14) (hr : rows ≤ 64) (hr2 : rows2 ≤ 64) (T T2 : Tb) (r r2 : Int32) : ∀ (n k m : Nat), k + n = w → n < m → iter (bfX3_copyRow_3 (nI w) (rows * w) (nI w) (rows2 * w) r r2) m (nI k, tv w rows (crow w rows2 T2 r2 k rows T r), tv w rows2 T2) = some (tv w rows (tcopyRow w rows rows2 T T2 r r2), tv w rows2 T2) := by
  intro n
  induction n with
  | zero =>
    intro k m hk hm
    obtain ⟨m, rfl⟩ : ∃ m', m = m' + 1 := ⟨m - 1, by omega⟩
    have hk2 : k = w := by omega
    subst hk2
    show bfX3_copyRow_3 _ _ _ _ _ _ _ _ = _
    rw [bfX3_copyRow_3]
    rw [if_pos (nI_le (by omega) (by omega))]
    rfl
  | succ n ih =>
    intro k m hk hm
    obtain ⟨m, rfl⟩ : ∃ m', m = m' + 1 := ⟨m - 1, by omega⟩
    show bfX3_copyRow_3 _ _ _ _ _ _ _ _ = _
    rw [bfX3_copyRow_3]
    rw [if_neg (nI_ge (by omega) (by omega)), get_eq hw2 hr2, ob_eq, putTT, put_eq hw2 hr, Option.map_some, ob_eq, crow_step hw2 hr T T2 r r2 (by omega)]
    rw [show ∀ x : Int32, x = nI k → x + 1 = nI (k + 1) from fun x hx => by rw [hx, nI_1]]
    · exact ih (k + 1) m (by omega) (by omega)
    · rfl
theorem copyRow_eq {rows2 : Nat} (hw2 : w ≤ 14) (hr : rows ≤ 64) (hr2 : rows2 ≤ 64) (T T2 : Tb) (r r2 : Int32) : fX3_copyRow (nI w) (rows * w) (nI w) (rows2 * w) r r2 (tv w rows T, tv w rows2 T2) = some (tv w rows (tcopyRow w rows rows2 T T2 r r2), tv w rows2 T2) := by
  have h := copyRow_go (rows2 := rows2) hw2 hr hr2 T T2 r r2 w 0 FU (by omega) (by unfold FU; omega)
  have e : crow w rows2 T2 r2 0 rows T r = T := by
    unfold crow
    split
    · exact Prod.ext rfl (funext fun i => funext fun j => by dsimp only; rw [if_neg (by omega)])
    · rfl
  rw [e] at h
  exact h
/-- a copy of a table of the same shape -/
theorem copyFrom_eq (hw2 : w ≤ 14) (hr : rows ≤ 64) (T T2 : Tb) : fX3_copyFrom (nI w) (rows * w) (nI w) (rows * w) (tv w rows T, tv w rows T2) = some ((nI (tz rows T2), fun j => if j < rows * w then tflat w T2.2 j else tflat w T.2 j), tv w rows T2) := by
  have hn := small_n hw2 hr
  unfold fX3_copyFrom
  have e : (if nI (rows * w) < nI (rows * w) then nI (rows * w) else nI (rows * w)) = nI (rows * w) := by split <;> rfl
  rw [e, if_pos (by
    refine ⟨by decide, by decide, nI_pos (by omega), ?_, ?_⟩
    · rw [nI_clamp (by omega)]; show 0 + _ ≤ _; omega
    · rw [nI_clamp (by omega)]; show 0 + _ ≤ _; omega), nm, nm]
  refine congrArg some (Prod.ext (Prod.ext rfl (funext fun j => ?_)) rfl)
  show va_cpy (tflat w T2.2) (tflat w T.2) 0 0 (nI (rows * w)).toNatClampNeg j = _
  rw [nI_clamp (by omega)]
  unfold va_cpy
  dsimp only
  by_cases h : j < rows * w
  · rw [if_pos (by omega), if_pos h, show 0 + (j - 0) = j from by omega]
  · rw [if_neg (by omega), if_neg h]
/-- all rows of a column -/
def tputAll (w rows : Nat) (T : Tb) (c v : Int32) : Nat → Tb
  | 0 => T
  | n + 1 => tput w rows (tputAll w rows T c v n) (nI n) c v
theorem tput_1 (T : Tb) (r c v : Int32) : (tput w rows T r c v).1 = T.1 := by unfold tput; split <;> rfl
theorem tputAll_1 (T : Tb) (c v : Int32) : ∀ n, (tputAll w rows T c v n).1 = T.1
  | 0 => rfl
  | n + 1 => (tput_1 _ _ _ _).trans (tputAll_1 T c v n)
theorem putAll_go (hw2 : w ≤ 14) (hr : rows ≤ 64) (T : Tb) (c v : Int32) : ∀ (n k m : Nat), k + n = tz rows T → n < m → iter (bfX3_putInAll_2 (nI w) (rows * w) c v) m (nI k, tv w rows (tputAll w rows T c v k)) = some (tv w rows (tputAll w rows T c v (tz rows T))) := by
  have hz := tz_le rows T
  have e : ∀ k, (tv w rows (tputAll w rows T c v k)).1 = nI (tz rows T) := fun k => by show nI (min _ _) = _; rw [tputAll_1]; rfl
  intro n
  induction n with
  | zero =>
    intro k m hk hm
    obtain ⟨m, rfl⟩ : ∃ m', m = m' + 1 := ⟨m - 1, by omega⟩
    show bfX3_putInAll_2 _ _ _ _ _ _ = _
    rw [bfX3_putInAll_2]
    rw [e, if_pos (nI_le (by omega) (by omega)), show k = tz rows T from by omega]
  | succ n ih =>
    intro k m hk hm
    obtain ⟨m, rfl⟩ : ∃ m', m = m' + 1 := ⟨m - 1, by omega⟩
    show bfX3_putInAll_2 _ _ _ _ _ _ = _
    rw [bfX3_putInAll_2]
    rw [e, if_neg (nI_ge (by omega) (by omega)), put_eq hw2 hr, ob_eq, nI_1]
    exact ih (k + 1) m (by omega) (by omega)
theorem putAll_eq (hw2 : w ≤ 14) (hr : rows ≤ 64) (T : Tb) (c v : Int32) : fX3_putInAll (nI w) (rows * w) c v (tv w rows T) = some (tv w rows (tputAll w rows T c v (tz rows T))) := by
  have hz := tz_le rows T
  exact putAll_go hw2 hr T c v (tz rows T) 0 FU (by omega) (by unfold FU; omega)
end TL
end
section
/-! a State: its eleven tables and its numbers (by the fields' numbers); each table's methods in its world -/
theorem arrV_congr {cI : ClassId} {n : Nat} {f g : Nat → Value} (h : ∀ j, j < n → f j = g j) : arrV cI n f = arrV cI n g := by
  unfold arrV
  have e : (fun j : Fin n => f j.val) = fun j : Fin n => g j.val := funext fun j => h j.val j.isLt
  rw [e]
theorem Mc.post {l : Launch} {D : va_G} {ty : List (ClassId × FieldType)} {z : Bool} {y : MethodName} {cc : ByteArray} {nL : Nat} {ret : Option FieldType} {d : Nat} {as : List Value} {w w1 w2 : va_W} {v : Option Value} (h : Mc l D ty z y cc nL ret d as w v w1) (hP : ∀ H, va_P D vwCl w1 H → va_P D vwCl w2 H) (hadr : w2.map Prod.fst = w1.map Prod.fst) : Mc l D ty z y cc nL ret d as w v w2 := by
  intro sz
  refine (h sz).conseq (fun _ _ h => h) ?_ (fun _ h => h)
  rintro a s o t - ⟨q1, ⟨q2, q3, q4⟩, q5⟩
  have q4' := va_D_nd.mp q4
  refine ⟨q1, ⟨hP _ q2, q3, va_D_nd.mpr ⟨by rw [hadr]; exact q4'.1, fun q hq => ?_⟩⟩, q5⟩
  have : q.1 ∈ w1.map Prod.fst := by rw [← hadr]; exact List.mem_map.mpr ⟨q, hq, rfl⟩
  obtain ⟨q', h1, h2⟩ := List.mem_map.mp this
  rw [← h2]
  exact q4'.2 q' h1
theorem wT_congr {D : va_G} {cI : ClassId} {tA tC n : Nat} {w sz : Int32} {f g : Nat → Int32} (h : ∀ j, j < n → f j = g j) (H : Heap) (hP : va_P D vwCl (wT cI tA tC w n (sz, f)) H) : va_P D vwCl (wT cI tA tC w n (sz, g)) H := by
  refine va_P_mem.mpr fun q hq => ?_
  have h' := va_P_mem.mp hP
  rcases List.mem_cons.mp hq with rfl | hq
  · exact h' _ List.mem_cons_self
  · obtain rfl := List.mem_singleton.mp hq
    have h2 := h' (tC, .inl (cI, n, .inl f)) (List.mem_cons_of_mem _ List.mem_cons_self)
    show H[tC]? = some (vp_cell cI (n, .inl g))
    rw [vp_cell_i, ← arrV_congr (fun j hj => congrArg Value.int (h j hj)), ← vp_cell_i]
    exact h2
theorem va_P_app {D : va_G} {a b : va_W} {H : Heap} : va_P D vwCl (a ++ b) H ↔ va_P D vwCl a H ∧ va_P D vwCl b H := by
  constructor
  · intro h
    exact ⟨va_P_mem.mpr fun q hq => va_P_mem.mp h q (List.mem_append_left _ hq), va_P_mem.mpr fun q hq => va_P_mem.mp h q (List.mem_append_right _ hq)⟩
  · rintro ⟨h1, h2⟩
    exact va_P_mem.mpr fun q hq => (List.mem_append.mp hq).elim (va_P_mem.mp h1 q) (va_P_mem.mp h2 q)
abbrev StS : Type := (Nat → Tb) × (Nat → Int32)
def tw : Nat → Nat := fun k => [12, 14, 3, 1, 1, 7, 6, 6, 1, 1, 4].getD k 1
def tr : Nat → Nat := fun k => [6, 6, 6, 4, 3, 16, 16, 4, 16, 4, 64].getD k 1
theorem tw_pos : ∀ k, k < 11 → 0 < tw k := by decide
theorem tw_le : ∀ k, k < 11 → tw k ≤ 14 := by decide
theorem tr_le : ∀ k, k < 11 → tr k ≤ 64 := by decide
def tbl (cI : ClassId) (aS : Nat → Nat) (k : Nat) (T : Tb) : va_W := wB cI (aS (2 * k + 1)) (aS (2 * k + 2)) (tw k) (tr k) T
def wS (cI : ClassId) (aS : Nat → Nat) (S : StS) : va_W := [(aS 0, .inr (0, [.ref (aS 1), .ref (aS 3), .ref (aS 5), .ref (aS 7), .ref (aS 9), .ref (aS 11), .ref (aS 13), .ref (aS 15), .ref (aS 17), .ref (aS 19), .ref (aS 21), .int (S.2 11), .int (S.2 12), .int (S.2 13), .int (S.2 14), .int (S.2 15), .int (S.2 16), .int (S.2 17)]))] ++ (tbl cI aS 0 (S.1 0) ++ (tbl cI aS 1 (S.1 1) ++ (tbl cI aS 2 (S.1 2) ++ (tbl cI aS 3 (S.1 3) ++ (tbl cI aS 4 (S.1 4) ++ (tbl cI aS 5 (S.1 5) ++ (tbl cI aS 6 (S.1 6) ++ (tbl cI aS 7 (S.1 7) ++ (tbl cI aS 8 (S.1 8) ++ (tbl cI aS 9 (S.1 9) ++ (tbl cI aS 10 (S.1 10))))))))))))
def sset (S : StS) (k : Nat) (T : Tb) : StS := (va_up S.1 k T, S.2)
theorem wS_split (cI : ClassId) (aS : Nat → Nat) (S : StS) (k : Nat) (hk : k < 11) : ∃ pre post : va_W, wS cI aS S = pre ++ (tbl cI aS k (S.1 k) ++ post) ∧ ∀ T, wS cI aS (sset S k T) = pre ++ (tbl cI aS k T ++ post) := by
  match k, hk with
  | 0, _ => exact ⟨[(aS 0, .inr (0, [.ref (aS 1), .ref (aS 3), .ref (aS 5), .ref (aS 7), .ref (aS 9), .ref (aS 11), .ref (aS 13), .ref (aS 15), .ref (aS 17), .ref (aS 19), .ref (aS 21), .int (S.2 11), .int (S.2 12), .int (S.2 13), .int (S.2 14), .int (S.2 15), .int (S.2 16), .int (S.2 17)]))], tbl cI aS 1 (S.1 1) ++ (tbl cI aS 2 (S.1 2) ++ (tbl cI aS 3 (S.1 3) ++ (tbl cI aS 4 (S.1 4) ++ (tbl cI aS 5 (S.1 5) ++ (tbl cI aS 6 (S.1 6) ++ (tbl cI aS 7 (S.1 7) ++ (tbl cI aS 8 (S.1 8) ++ (tbl cI aS 9 (S.1 9) ++ (tbl cI aS 10 (S.1 10)))))))))), rfl, fun _ => rfl⟩
  | 1, _ => exact ⟨[(aS 0, .inr (0, [.ref (aS 1), .ref (aS 3), .ref (aS 5), .ref (aS 7), .ref (aS 9), .ref (aS 11), .ref (aS 13), .ref (aS 15), .ref (aS 17), .ref (aS 19), .ref (aS 21), .int (S.2 11), .int (S.2 12), .int (S.2 13), .int (S.2 14), .int (S.2 15), .int (S.2 16), .int (S.2 17)]))] ++ (tbl cI aS 0 (S.1 0)), tbl cI aS 2 (S.1 2) ++ (tbl cI aS 3 (S.1 3) ++ (tbl cI aS 4 (S.1 4) ++ (tbl cI aS 5 (S.1 5) ++ (tbl cI aS 6 (S.1 6) ++ (tbl cI aS 7 (S.1 7) ++ (tbl cI aS 8 (S.1 8) ++ (tbl cI aS 9 (S.1 9) ++ (tbl cI aS 10 (S.1 10))))))))), rfl, fun _ => rfl⟩
  | 2, _ => exact ⟨[(aS 0, .inr (0, [.ref (aS 1), .ref (aS 3), .ref (aS 5), .ref (aS 7), .ref (aS 9), .ref (aS 11), .ref (aS 13), .ref (aS 15), .ref (aS 17), .ref (aS 19), .ref (aS 21), .int (S.2 11), .int (S.2 12), .int (S.2 13), .int (S.2 14), .int (S.2 15), .int (S.2 16), .int (S.2 17)]))] ++ (tbl cI aS 0 (S.1 0) ++ (tbl cI aS 1 (S.1 1))), tbl cI aS 3 (S.1 3) ++ (tbl cI aS 4 (S.1 4) ++ (tbl cI aS 5 (S.1 5) ++ (tbl cI aS 6 (S.1 6) ++ (tbl cI aS 7 (S.1 7) ++ (tbl cI aS 8 (S.1 8) ++ (tbl cI aS 9 (S.1 9) ++ (tbl cI aS 10 (S.1 10)))))))), rfl, fun _ => rfl⟩
  | 3, _ => exact ⟨[(aS 0, .inr (0, [.ref (aS 1), .ref (aS 3), .ref (aS 5), .ref (aS 7), .ref (aS 9), .ref (aS 11), .ref (aS 13), .ref (aS 15), .ref (aS 17), .ref (aS 19), .ref (aS 21), .int (S.2 11), .int (S.2 12), .int (S.2 13), .int (S.2 14), .int (S.2 15), .int (S.2 16), .int (S.2 17)]))] ++ (tbl cI aS 0 (S.1 0) ++ (tbl cI aS 1 (S.1 1) ++ (tbl cI aS 2 (S.1 2)))), tbl cI aS 4 (S.1 4) ++ (tbl cI aS 5 (S.1 5) ++ (tbl cI aS 6 (S.1 6) ++ (tbl cI aS 7 (S.1 7) ++ (tbl cI aS 8 (S.1 8) ++ (tbl cI aS 9 (S.1 9) ++ (tbl cI aS 10 (S.1 10))))))), rfl, fun _ => rfl⟩
  | 4, _ => exact ⟨[(aS 0, .inr (0, [.ref (aS 1), .ref (aS 3), .ref (aS 5), .ref (aS 7), .ref (aS 9), .ref (aS 11), .ref (aS 13), .ref (aS 15), .ref (aS 17), .ref (aS 19), .ref (aS 21), .int (S.2 11), .int (S.2 12), .int (S.2 13), .int (S.2 14), .int (S.2 15), .int (S.2 16), .int (S.2 17)]))] ++ (tbl cI aS 0 (S.1 0) ++ (tbl cI aS 1 (S.1 1) ++ (tbl cI aS 2 (S.1 2) ++ (tbl cI aS 3 (S.1 3))))), tbl cI aS 5 (S.1 5) ++ (tbl cI aS 6 (S.1 6) ++ (tbl cI aS 7 (S.1 7) ++ (tbl cI aS 8 (S.1 8) ++ (tbl cI aS 9 (S.1 9) ++ (tbl cI aS 10 (S.1 10)))))), rfl, fun _ => rfl⟩
  | 5, _ => exact ⟨[(aS 0, .inr (0, [.ref (aS 1), .ref (aS 3), .ref (aS 5), .ref (aS 7), .ref (aS 9), .ref (aS 11), .ref (aS 13), .ref (aS 15), .ref (aS 17), .ref (aS 19), .ref (aS 21), .int (S.2 11), .int (S.2 12), .int (S.2 13), .int (S.2 14), .int (S.2 15), .int (S.2 16), .int (S.2 17)]))] ++ (tbl cI aS 0 (S.1 0) ++ (tbl cI aS 1 (S.1 1) ++ (tbl cI aS 2 (S.1 2) ++ (tbl cI aS 3 (S.1 3) ++ (tbl cI aS 4 (S.1 4)))))), tbl cI aS 6 (S.1 6) ++ (tbl cI aS 7 (S.1 7) ++ (tbl cI aS 8 (S.1 8) ++ (tbl cI aS 9 (S.1 9) ++ (tbl cI aS 10 (S.1 10))))), rfl, fun _ => rfl⟩
  | 6, _ => exact ⟨[(aS 0, .inr (0, [.ref (aS 1), .ref (aS 3), .ref (aS 5), .ref (aS 7), .ref (aS 9), .ref (aS 11), .ref (aS 13), .ref (aS 15), .ref (aS 17), .ref (aS 19), .ref (aS 21), .int (S.2 11), .int (S.2 12), .int (S.2 13), .int (S.2 14), .int (S.2 15), .int (S.2 16), .int (S.2 17)]))] ++ (tbl cI aS 0 (S.1 0) ++ (tbl cI aS 1 (S.1 1) ++ (tbl cI aS 2 (S.1 2) ++ (tbl cI aS 3 (S.1 3) ++ (tbl cI aS 4 (S.1 4) ++ (tbl cI aS 5 (S.1 5))))))), tbl cI aS 7 (S.1 7) ++ (tbl cI aS 8 (S.1 8) ++ (tbl cI aS 9 (S.1 9) ++ (tbl cI aS 10 (S.1 10)))), rfl, fun _ => rfl⟩
  | 7, _ => exact ⟨[(aS 0, .inr (0, [.ref (aS 1), .ref (aS 3), .ref (aS 5), .ref (aS 7), .ref (aS 9), .ref (aS 11), .ref (aS 13), .ref (aS 15), .ref (aS 17), .ref (aS 19), .ref (aS 21), .int (S.2 11), .int (S.2 12), .int (S.2 13), .int (S.2 14), .int (S.2 15), .int (S.2 16), .int (S.2 17)]))] ++ (tbl cI aS 0 (S.1 0) ++ (tbl cI aS 1 (S.1 1) ++ (tbl cI aS 2 (S.1 2) ++ (tbl cI aS 3 (S.1 3) ++ (tbl cI aS 4 (S.1 4) ++ (tbl cI aS 5 (S.1 5) ++ (tbl cI aS 6 (S.1 6)))))))), tbl cI aS 8 (S.1 8) ++ (tbl cI aS 9 (S.1 9) ++ (tbl cI aS 10 (S.1 10))), rfl, fun _ => rfl⟩
  | 8, _ => exact ⟨[(aS 0, .inr (0, [.ref (aS 1), .ref (aS 3), .ref (aS 5), .ref (aS 7), .ref (aS 9), .ref (aS 11), .ref (aS 13), .ref (aS 15), .ref (aS 17), .ref (aS 19), .ref (aS 21), .int (S.2 11), .int (S.2 12), .int (S.2 13), .int (S.2 14), .int (S.2 15), .int (S.2 16), .int (S.2 17)]))] ++ (tbl cI aS 0 (S.1 0) ++ (tbl cI aS 1 (S.1 1) ++ (tbl cI aS 2 (S.1 2) ++ (tbl cI aS 3 (S.1 3) ++ (tbl cI aS 4 (S.1 4) ++ (tbl cI aS 5 (S.1 5) ++ (tbl cI aS 6 (S.1 6) ++ (tbl cI aS 7 (S.1 7))))))))), tbl cI aS 9 (S.1 9) ++ (tbl cI aS 10 (S.1 10)), rfl, fun _ => rfl⟩
  | 9, _ => exact ⟨[(aS 0, .inr (0, [.ref (aS 1), .ref (aS 3), .ref (aS 5), .ref (aS 7), .ref (aS 9), .ref (aS 11), .ref (aS 13), .ref (aS 15), .ref (aS 17), .ref (aS 19), .ref (aS 21), .int (S.2 11), .int (S.2 12), .int (S.2 13), .int (S.2 14), .int (S.2 15), .int (S.2 16), .int (S.2 17)]))] ++ (tbl cI aS 0 (S.1 0) ++ (tbl cI aS 1 (S.1 1) ++ (tbl cI aS 2 (S.1 2) ++ (tbl cI aS 3 (S.1 3) ++ (tbl cI aS 4 (S.1 4) ++ (tbl cI aS 5 (S.1 5) ++ (tbl cI aS 6 (S.1 6) ++ (tbl cI aS 7 (S.1 7) ++ (tbl cI aS 8 (S.1 8)))))))))), tbl cI aS 10 (S.1 10), rfl, fun _ => rfl⟩
  | 10, _ => exact ⟨[(aS 0, .inr (0, [.ref (aS 1), .ref (aS 3), .ref (aS 5), .ref (aS 7), .ref (aS 9), .ref (aS 11), .ref (aS 13), .ref (aS 15), .ref (aS 17), .ref (aS 19), .ref (aS 21), .int (S.2 11), .int (S.2 12), .int (S.2 13), .int (S.2 14), .int (S.2 15), .int (S.2 16), .int (S.2 17)]))] ++ (tbl cI aS 0 (S.1 0) ++ (tbl cI aS 1 (S.1 1) ++ (tbl cI aS 2 (S.1 2) ++ (tbl cI aS 3 (S.1 3) ++ (tbl cI aS 4 (S.1 4) ++ (tbl cI aS 5 (S.1 5) ++ (tbl cI aS 6 (S.1 6) ++ (tbl cI aS 7 (S.1 7) ++ (tbl cI aS 8 (S.1 8) ++ (tbl cI aS 9 (S.1 9))))))))))), [], rfl, fun _ => rfl⟩
  | k + 11, h => exact absurd h (by omega)
def ssize (k : Nat) (S : StS) : Int32 := nI (tz (tr k) (S.1 k))
def sget (k : Nat) (S : StS) (r c : Int32) : Int32 := tget (tw k) (tr k) (S.1 k) r c
def sput (k : Nat) (S : StS) (r c v : Int32) : StS := sset S k (tput (tw k) (tr k) (S.1 k) r c v)
def sadd (k : Nat) (S : StS) (r c v : Int32) : StS := sset S k (tadd (tw k) (tr k) (S.1 k) r c v)
def sfind (k : Nat) (S : StS) (c v : Int32) : Int32 := tfind (tw k) (tr k) (S.1 k) c v
def srows (k : Nat) (S : StS) (c v : Int32) : Int32 := trows (tw k) (tr k) (S.1 k) c v
def ssum (k : Nat) (S : StS) (c : Int32) : Int32 := tsum (tw k) (tr k) (S.1 k) c
def sappend (k : Nat) (S : StS) : Int32 × StS := ((tappend (tr k) (S.1 k)).1, sset S k (tappend (tr k) (S.1 k)).2)
def sdrop (k : Nat) (S : StS) (r : Int32) : StS := sset S k (tdrop (tr k) (S.1 k) r)
def scopyRow (S : StS) (r r2 : Int32) : StS := sset S 7 (tcopyRow 6 4 16 (S.1 7) (S.1 6) r r2)
theorem kS_size (l : Launch) (D : va_G) (cI cS : ClassId) (aS : Nat → Nat) (S : StS) (k : Nat) (hk : k < 11)  : Mc l D (tyL cI cS) false yX3_size cX3_size 1 (some .int) 1 [.ref (aS (2 * k + 1))] (wS cI aS S) (some (.int (ssize k S))) (wS cI aS S) := by
  obtain ⟨pre, post, e1, e2⟩ := wS_split cI aS S k hk
  rw [e1]
  exact (kX3_size l D cI cS (aS (2 * k + 1)) (aS (2 * k + 2)) (nI (tw k)) (tr k * tw k)  (tv (tw k) (tr k) (S.1 k)) (rfl)).mid rfl pre post
theorem kS_get (l : Launch) (D : va_G) (cI cS : ClassId) (aS : Nat → Nat) (S : StS) (k : Nat) (hk : k < 11) (r c : Int32) : Mc l D (tyL cI cS) false yX3_get cX3_get 4 (some .int) 1 [.ref (aS (2 * k + 1)), .int r, .int c] (wS cI aS S) (some (.int (sget k S r c))) (wS cI aS S) := by
  obtain ⟨pre, post, e1, e2⟩ := wS_split cI aS S k hk
  rw [e1]
  exact (kX3_get l D cI cS (aS (2 * k + 1)) (aS (2 * k + 2)) (nI (tw k)) (tr k * tw k) r c (tv (tw k) (tr k) (S.1 k)) (get_eq (tw_le k hk) (tr_le k hk) _ _ _)).mid rfl pre post
theorem kS_put (l : Launch) (D : va_G) (cI cS : ClassId) (aS : Nat → Nat) (S : StS) (k : Nat) (hk : k < 11) (r c v : Int32) : Mc l D (tyL cI cS) false yX3_put cX3_put 5 none 1 [.ref (aS (2 * k + 1)), .int r, .int c, .int v] (wS cI aS S) none (wS cI aS (sput k S r c v)) := by
  obtain ⟨pre, post, e1, e2⟩ := wS_split cI aS S k hk
  show Mc l D (tyL cI cS) false yX3_put cX3_put 5 none 1 [.ref (aS (2 * k + 1)), .int r, .int c, .int v] (wS cI aS S) none (wS cI aS (sset S k _))
  rw [e1, e2]
  exact (kX3_put l D cI cS (aS (2 * k + 1)) (aS (2 * k + 2)) (nI (tw k)) (tr k * tw k) r c v (tv (tw k) (tr k) (S.1 k)) (put_eq (tw_le k hk) (tr_le k hk) _ _ _ _)).mid rfl pre post
theorem kS_add (l : Launch) (D : va_G) (cI cS : ClassId) (aS : Nat → Nat) (S : StS) (k : Nat) (hk : k < 11) (r c v : Int32) : Mc l D (tyL cI cS) false yX3_add cX3_add 4 none 2 [.ref (aS (2 * k + 1)), .int r, .int c, .int v] (wS cI aS S) none (wS cI aS (sadd k S r c v)) := by
  obtain ⟨pre, post, e1, e2⟩ := wS_split cI aS S k hk
  show Mc l D (tyL cI cS) false yX3_add cX3_add 4 none 2 [.ref (aS (2 * k + 1)), .int r, .int c, .int v] (wS cI aS S) none (wS cI aS (sset S k _))
  rw [e1, e2]
  exact (kX3_add l D cI cS (aS (2 * k + 1)) (aS (2 * k + 2)) (nI (tw k)) (tr k * tw k) r c v (tv (tw k) (tr k) (S.1 k)) (add_eq (tw_le k hk) (tr_le k hk) _ _ _ _)).mid rfl pre post
theorem kS_find (l : Launch) (D : va_G) (cI cS : ClassId) (aS : Nat → Nat) (S : StS) (k : Nat) (hk : k < 11) (c v : Int32) : Mc l D (tyL cI cS) false yX3_find cX3_find 4 (some .int) 2 [.ref (aS (2 * k + 1)), .int c, .int v] (wS cI aS S) (some (.int (sfind k S c v))) (wS cI aS S) := by
  obtain ⟨pre, post, e1, e2⟩ := wS_split cI aS S k hk
  rw [e1]
  exact (kX3_find l D cI cS (aS (2 * k + 1)) (aS (2 * k + 2)) (nI (tw k)) (tr k * tw k) c v (tv (tw k) (tr k) (S.1 k)) (find_eq (tw_le k hk) (tr_le k hk) _ _ _)).mid rfl pre post
theorem kS_rowsWith (l : Launch) (D : va_G) (cI cS : ClassId) (aS : Nat → Nat) (S : StS) (k : Nat) (hk : k < 11) (c v : Int32) : Mc l D (tyL cI cS) false yX3_rowsWith cX3_rowsWith 5 (some .int) 2 [.ref (aS (2 * k + 1)), .int c, .int v] (wS cI aS S) (some (.int (srows k S c v))) (wS cI aS S) := by
  obtain ⟨pre, post, e1, e2⟩ := wS_split cI aS S k hk
  rw [e1]
  exact (kX3_rowsWith l D cI cS (aS (2 * k + 1)) (aS (2 * k + 2)) (nI (tw k)) (tr k * tw k) c v (tv (tw k) (tr k) (S.1 k)) (rows_eq (tw_le k hk) (tr_le k hk) _ _ _)).mid rfl pre post
theorem kS_sumOf (l : Launch) (D : va_G) (cI cS : ClassId) (aS : Nat → Nat) (S : StS) (k : Nat) (hk : k < 11) (c : Int32) : Mc l D (tyL cI cS) false yX3_sumOf cX3_sumOf 4 (some .int) 2 [.ref (aS (2 * k + 1)), .int c] (wS cI aS S) (some (.int (ssum k S c))) (wS cI aS S) := by
  obtain ⟨pre, post, e1, e2⟩ := wS_split cI aS S k hk
  rw [e1]
  exact (kX3_sumOf l D cI cS (aS (2 * k + 1)) (aS (2 * k + 2)) (nI (tw k)) (tr k * tw k) c (tv (tw k) (tr k) (S.1 k)) (sum_eq (tw_le k hk) (tr_le k hk) _ _)).mid rfl pre post
theorem kS_append (l : Launch) (D : va_G) (cI cS : ClassId) (aS : Nat → Nat) (S : StS) (k : Nat) (hk : k < 11)  : Mc l D (tyL cI cS) false yX3_append cX3_append 3 (some .int) 3 [.ref (aS (2 * k + 1))] (wS cI aS S) (some (.int (sappend k S).1)) (wS cI aS (sappend k S).2) := by
  obtain ⟨pre, post, e1, e2⟩ := wS_split cI aS S k hk
  show Mc l D (tyL cI cS) false yX3_append cX3_append 3 (some .int) 3 [.ref (aS (2 * k + 1))] (wS cI aS S) (some (.int (sappend k S).1)) (wS cI aS (sset S k _))
  rw [e1, e2]
  exact (kX3_append l D cI cS (aS (2 * k + 1)) (aS (2 * k + 2)) (nI (tw k)) (tr k * tw k)  (tv (tw k) (tr k) (S.1 k)) (append_eq (tw_pos k hk) (tw_le k hk) (tr_le k hk) _)).mid rfl pre post
theorem kS_drop (l : Launch) (D : va_G) (cI cS : ClassId) (aS : Nat → Nat) (S : StS) (k : Nat) (hk : k < 11) (r : Int32) : Mc l D (tyL cI cS) false yX3_drop cX3_drop 5 none 1 [.ref (aS (2 * k + 1)), .int r] (wS cI aS S) none (wS cI aS (sdrop k S r)) := by
  obtain ⟨pre, post, e1, e2⟩ := wS_split cI aS S k hk
  show Mc l D (tyL cI cS) false yX3_drop cX3_drop 5 none 1 [.ref (aS (2 * k + 1)), .int r] (wS cI aS S) none (wS cI aS (sset S k _))
  rw [e1, e2]
  exact (kX3_drop l D cI cS (aS (2 * k + 1)) (aS (2 * k + 2)) (nI (tw k)) (tr k * tw k) r (tv (tw k) (tr k) (S.1 k)) (drop_eq (tw_pos k hk) (tw_le k hk) (tr_le k hk) _ _)).mid rfl pre post
theorem kS_copyRow (l : Launch) (D : va_G) (cI cS : ClassId) (aS : Nat → Nat) (S : StS) (r r2 : Int32) : Mc l D (tyL cI cS) false yX3_copyRow cX3_copyRow 5 none 2 [.ref (aS 15), .int r, .ref (aS 13), .int r2] (wS cI aS S) none (wS cI aS (scopyRow S r r2)) := by
  have h := kX3_copyRow l D cI cS (aS 15) (aS 16) (aS 13) (aS 14) (nI 6) (4 * 6) (nI 6) (16 * 6) r r2 (tv 6 4 (S.1 7), tv 6 16 (S.1 6)) (copyRow_eq (by omega) (by omega) (by omega) (S.1 7) (S.1 6) r r2)
  have key : ∀ (T : Tb) (pre post : va_W), (pre ++ (tbl cI aS 6 (S.1 6) ++ (tbl cI aS 7 T ++ post))).Perm ((tbl cI aS 7 T ++ tbl cI aS 6 (S.1 6)) ++ (pre ++ post)) := fun T pre post => by
    refine (List.Perm.append_left pre (List.perm_append_comm_assoc _ _ _)).trans ?_
    refine (List.perm_append_comm_assoc _ _ _).trans ?_
    rw [List.append_assoc]
    refine List.Perm.append_left _ ?_
    exact List.perm_append_comm_assoc _ _ _
  refine Mc.frame (wc := tbl cI aS 7 (S.1 7) ++ tbl cI aS 6 (S.1 6)) (wc1 := tbl cI aS 7 (tcopyRow 6 4 16 (S.1 7) (S.1 6) r r2) ++ tbl cI aS 6 (S.1 6)) (fr := ([(aS 0, .inr (0, [.ref (aS 1), .ref (aS 3), .ref (aS 5), .ref (aS 7), .ref (aS 9), .ref (aS 11), .ref (aS 13), .ref (aS 15), .ref (aS 17), .ref (aS 19), .ref (aS 21), .int (S.2 11), .int (S.2 12), .int (S.2 13), .int (S.2 14), .int (S.2 15), .int (S.2 16), .int (S.2 17)]))] ++ (tbl cI aS 0 (S.1 0) ++ (tbl cI aS 1 (S.1 1) ++ (tbl cI aS 2 (S.1 2) ++ (tbl cI aS 3 (S.1 3) ++ (tbl cI aS 4 (S.1 4) ++ (tbl cI aS 5 (S.1 5)))))))) ++ (tbl cI aS 8 (S.1 8) ++ (tbl cI aS 9 (S.1 9) ++ (tbl cI aS 10 (S.1 10))))) h ?_ ?_ rfl
  · exact key (S.1 7) ([(aS 0, .inr (0, [.ref (aS 1), .ref (aS 3), .ref (aS 5), .ref (aS 7), .ref (aS 9), .ref (aS 11), .ref (aS 13), .ref (aS 15), .ref (aS 17), .ref (aS 19), .ref (aS 21), .int (S.2 11), .int (S.2 12), .int (S.2 13), .int (S.2 14), .int (S.2 15), .int (S.2 16), .int (S.2 17)]))] ++ (tbl cI aS 0 (S.1 0) ++ (tbl cI aS 1 (S.1 1) ++ (tbl cI aS 2 (S.1 2) ++ (tbl cI aS 3 (S.1 3) ++ (tbl cI aS 4 (S.1 4) ++ (tbl cI aS 5 (S.1 5)))))))) (tbl cI aS 8 (S.1 8) ++ (tbl cI aS 9 (S.1 9) ++ (tbl cI aS 10 (S.1 10))))
  · exact key (tcopyRow 6 4 16 (S.1 7) (S.1 6) r r2) ([(aS 0, .inr (0, [.ref (aS 1), .ref (aS 3), .ref (aS 5), .ref (aS 7), .ref (aS 9), .ref (aS 11), .ref (aS 13), .ref (aS 15), .ref (aS 17), .ref (aS 19), .ref (aS 21), .int (S.2 11), .int (S.2 12), .int (S.2 13), .int (S.2 14), .int (S.2 15), .int (S.2 16), .int (S.2 17)]))] ++ (tbl cI aS 0 (S.1 0) ++ (tbl cI aS 1 (S.1 1) ++ (tbl cI aS 2 (S.1 2) ++ (tbl cI aS 3 (S.1 3) ++ (tbl cI aS 4 (S.1 4) ++ (tbl cI aS 5 (S.1 5)))))))) (tbl cI aS 8 (S.1 8) ++ (tbl cI aS 9 (S.1 9) ++ (tbl cI aS 10 (S.1 10))))
/-- two States side by side -/
def wSS (cI : ClassId) (aS bS : Nat → Nat) (S : StS × StS) : va_W := wS cI aS S.1 ++ wS cI bS S.2
theorem kSS_copyFrom (l : Launch) (D : va_G) (cI cS : ClassId) (aS bS : Nat → Nat) (S : StS × StS) (k : Nat) (hk : k < 11) : Mc l D (tyL cI cS) false yX3_copyFrom cX3_copyFrom 2 none 2 [.ref (aS (2 * k + 1)), .ref (bS (2 * k + 1))] (wSS cI aS bS S) none (wSS cI aS bS (sset S.1 k (S.2.1 k), S.2)) := by
  have h := kX3_copyFrom l D cI cS (aS (2 * k + 1)) (aS (2 * k + 2)) (bS (2 * k + 1)) (bS (2 * k + 2)) (nI (tw k)) (tr k * tw k) (nI (tw k)) (tr k * tw k) (tv (tw k) (tr k) (S.1.1 k), tv (tw k) (tr k) (S.2.1 k)) (copyFrom_eq (tw_le k hk) (tr_le k hk) (S.1.1 k) (S.2.1 k))
  have h2 : Mc l D (tyL cI cS) false yX3_copyFrom cX3_copyFrom 2 none 2 [.ref (aS (2 * k + 1)), .ref (bS (2 * k + 1))] (tbl cI aS k (S.1.1 k) ++ tbl cI bS k (S.2.1 k)) none (tbl cI aS k (S.2.1 k) ++ tbl cI bS k (S.2.1 k)) := by
    refine h.post (fun H hP => ?_) rfl
    have hP := va_P_app.mp (show va_P D vwCl (wT cI (aS (2 * k + 1)) (aS (2 * k + 2)) (nI (tw k)) (tr k * tw k) (nI (tz (tr k) (S.2.1 k)), fun j => if j < tr k * tw k then tflat (tw k) (S.2.1 k).2 j else tflat (tw k) (S.1.1 k).2 j) ++ tbl cI bS k (S.2.1 k)) H from hP)
    exact va_P_app.mpr ⟨wT_congr (fun j hj => if_pos hj) H hP.1, hP.2⟩
  obtain ⟨pre, post, e1, e2⟩ := wS_split cI aS S.1 k hk
  obtain ⟨pre', post', e3, -⟩ := wS_split cI bS S.2 k hk
  have h3 := h2.mid2 rfl pre (post ++ pre') post'
  have e4 : wSS cI aS bS S = pre ++ (tbl cI aS k (S.1.1 k) ++ ((post ++ pre') ++ (tbl cI bS k (S.2.1 k) ++ post'))) := by
    unfold wSS
    rw [e1, e3]
    simp only [List.append_assoc]
  have e5 : wSS cI aS bS (sset S.1 k (S.2.1 k), S.2) = pre ++ (tbl cI aS k (S.2.1 k) ++ ((post ++ pre') ++ (tbl cI bS k (S.2.1 k) ++ post'))) := by
    unfold wSS
    rw [e2, e3]
    simp only [List.append_assoc]
  rw [e4, e5]
  exact h3
end
section
theorem dX0_draw_0 : decode cX0_draw 0 = .ok (.aload_n 0, 1) := by decide +kernel
theorem dX0_draw_1 : decode cX0_draw 1 = .ok (.aload_n 0, 1) := by decide +kernel
theorem dX0_draw_2 : decode cX0_draw 2 = .ok (.getfield 112, 3) := by decide +kernel
theorem dX0_draw_5 : decode cX0_draw 5 = .ok (.ldc 115, 2) := by decide +kernel
theorem dX0_draw_7 : decode cX0_draw 7 = .ok (.imul, 1) := by decide +kernel
theorem dX0_draw_8 : decode cX0_draw 8 = .ok (.sipush 12345, 3) := by decide +kernel
theorem dX0_draw_11 : decode cX0_draw 11 = .ok (.iadd, 1) := by decide +kernel
theorem dX0_draw_12 : decode cX0_draw 12 = .ok (.putfield 112, 3) := by decide +kernel
theorem dX0_draw_15 : decode cX0_draw 15 = .ok (.aload_n 0, 1) := by decide +kernel
theorem dX0_draw_16 : decode cX0_draw 16 = .ok (.getfield 112, 3) := by decide +kernel
theorem dX0_draw_19 : decode cX0_draw 19 = .ok (.bipush 16, 2) := by decide +kernel
theorem dX0_draw_21 : decode cX0_draw 21 = .ok (.iushr, 1) := by decide +kernel
theorem dX0_draw_22 : decode cX0_draw 22 = .ok (.sipush 32767, 3) := by decide +kernel
theorem dX0_draw_25 : decode cX0_draw 25 = .ok (.iand, 1) := by decide +kernel
theorem dX0_draw_26 : decode cX0_draw 26 = .ok (.ireturn, 1) := by decide +kernel
def fX0_draw  (S : StS) : Option (Int32 × (StS)) :=
  nm (S.1, upd S.2 13 (((S.2 13) * (1103515245 : Int32)) + (12345 : Int32))) fun S2 => some (((((S2.2 13)).toUInt32 >>> (((16 : Int32)).toUInt32 &&& Int32.toUInt32 31)).toInt32 &&& (32767 : Int32)), S2)
set_option maxHeartbeats 4000000 in
set_option maxRecDepth 100000 in
theorem kX0_draw (l : Launch) (D : va_G) (cI cS : ClassId) (aS : Nat → Nat)  (S : StS) {q : Int32 × (StS)} (h : fX0_draw  S = some q) : Mc l D (tyL cI cS) false yX0_draw cX0_draw 1 (some .int) 1 [.ref (aS 0)] (wS cI aS S) (some (.int q.1)) (wS cI aS q.2) := by
  refine Mc_of RX0 (by decide +kernel) rfl wc_X0_draw (Nat.le_of_ble_eq_true rfl) ?_
  intro p e s m args below meth c A Q ls C hA hz hP hD hS hl RET
  have RETh : ∀ {pc : Nat} {ls : Array Slot} {H : Heap} {locs : List Loc} {x : Int32} {S1 : StS}, decode cX0_draw pc = .ok (.ireturn, 1) → some (x, S1) = some q → va_P D vwCl (wS cI aS S1) H → va_D A (wS cI aS S1) → va_S A s.heap H locs → W p l e (rmL 1) s m args below meth c H locs 0 0 Q (F0 m pc ls [.int x]) := by
    intro pc ls H locs x S1 hd h hP hD hS; cases h; exact RET (x_iret C hd) hP hD hS
  refine x_aload_n C dX0_draw_0 rfl hl 0 rfl ?_
  refine x_aload_n C dX0_draw_1 rfl hl 0 rfl ?_
  refine x_get C inX2 hP 0 rfl rfl 13 (by decide) wf_X0_112 rfl dX0_draw_2 ?_
  refine x_ldc C wq_X0_115 dX0_draw_5 ?_
  refine x_imul C dX0_draw_7 ?_
  refine x_sipush (v := (12345 : Int32)) C dX0_draw_8 (by decide) ?_
  refine x_iadd C dX0_draw_11 ?_
  refine x_putM (wS cI aS) C h inX2 tyX2 tyX2_ok nmX2 hP hD hS 0 rfl rfl 13 (by decide) wf_X0_112 rfl (ft := .int) (by decide +kernel) rfl rfl (Nat.le_of_ble_eq_true rfl) rfl dX0_draw_12 (fun S2 h H locs hP hD hS => ?_)
  refine x_aload_n C dX0_draw_15 rfl hl 0 rfl ?_
  refine x_get C inX2 hP 0 rfl rfl 13 (by decide) wf_X0_112 rfl dX0_draw_16 ?_
  refine x_bipush (v := (16 : Int32)) C dX0_draw_19 (by decide) ?_
  refine x_iushr C dX0_draw_21 ?_
  refine x_sipush (v := (32767 : Int32)) C dX0_draw_22 (by decide) ?_
  refine x_iand C dX0_draw_25 ?_
  exact RETh dX0_draw_26 h hP hD hS
theorem dX0_delay_0 : decode cX0_delay 0 = .ok (.aload_n 0, 1) := by decide +kernel
theorem dX0_delay_1 : decode cX0_delay 1 = .ok (.getfield 37, 3) := by decide +kernel
theorem dX0_delay_4 : decode cX0_delay 4 = .ok (.iload_n 2, 1) := by decide +kernel
theorem dX0_delay_5 : decode cX0_delay 5 = .ok (.iconst 5, 1) := by decide +kernel
theorem dX0_delay_6 : decode cX0_delay 6 = .ok (.invokevirtual 41, 3) := by decide +kernel
theorem dX0_delay_9 : decode cX0_delay 9 = .ok (.istore_n 3, 1) := by decide +kernel
theorem dX0_delay_10 : decode cX0_delay 10 = .ok (.aload_n 0, 1) := by decide +kernel
theorem dX0_delay_11 : decode cX0_delay 11 = .ok (.getfield 37, 3) := by decide +kernel
theorem dX0_delay_14 : decode cX0_delay 14 = .ok (.iload_n 2, 1) := by decide +kernel
theorem dX0_delay_15 : decode cX0_delay 15 = .ok (.bipush 6, 2) := by decide +kernel
theorem dX0_delay_17 : decode cX0_delay 17 = .ok (.invokevirtual 41, 3) := by decide +kernel
theorem dX0_delay_20 : decode cX0_delay 20 = .ok (.istore 4, 2) := by decide +kernel
theorem dX0_delay_22 : decode cX0_delay 22 = .ok (.iconst 1, 1) := by decide +kernel
theorem dX0_delay_23 : decode cX0_delay 23 = .ok (.iload_n 3, 1) := by decide +kernel
theorem dX0_delay_24 : decode cX0_delay 24 = .ok (.aload_n 0, 1) := by decide +kernel
theorem dX0_delay_25 : decode cX0_delay 25 = .ok (.getfield 69, 3) := by decide +kernel
theorem dX0_delay_28 : decode cX0_delay 28 = .ok (.iload_n 1, 1) := by decide +kernel
theorem dX0_delay_29 : decode cX0_delay 29 = .ok (.iconst 3, 1) := by decide +kernel
theorem dX0_delay_30 : decode cX0_delay 30 = .ok (.invokevirtual 41, 3) := by decide +kernel
theorem dX0_delay_33 : decode cX0_delay 33 = .ok (.iconst 1, 1) := by decide +kernel
theorem dX0_delay_34 : decode cX0_delay 34 = .ok (.isub, 1) := by decide +kernel
theorem dX0_delay_35 : decode cX0_delay 35 = .ok (.ishl, 1) := by decide +kernel
theorem dX0_delay_36 : decode cX0_delay 36 = .ok (.iload 4, 2) := by decide +kernel
theorem dX0_delay_38 : decode cX0_delay 38 = .ok (.invokestatic 61, 3) := by decide +kernel
theorem dX0_delay_41 : decode cX0_delay 41 = .ok (.invokestatic 105, 3) := by decide +kernel
theorem dX0_delay_44 : decode cX0_delay 44 = .ok (.istore 5, 2) := by decide +kernel
theorem dX0_delay_46 : decode cX0_delay 46 = .ok (.aload_n 0, 1) := by decide +kernel
theorem dX0_delay_47 : decode cX0_delay 47 = .ok (.getfield 37, 3) := by decide +kernel
theorem dX0_delay_50 : decode cX0_delay 50 = .ok (.iload_n 2, 1) := by decide +kernel
theorem dX0_delay_51 : decode cX0_delay 51 = .ok (.bipush 7, 2) := by decide +kernel
theorem dX0_delay_53 : decode cX0_delay 53 = .ok (.invokevirtual 41, 3) := by decide +kernel
theorem dX0_delay_56 : decode cX0_delay 56 = .ok (.tableswitch 106 1 3 #[28, 38, 58], 28) := by decide +kernel
theorem dX0_delay_84 : decode cX0_delay 84 = .ok (.iconst 1, 1) := by decide +kernel
theorem dX0_delay_85 : decode cX0_delay 85 = .ok (.aload_n 0, 1) := by decide +kernel
theorem dX0_delay_86 : decode cX0_delay 86 = .ok (.invokestatic 108, 3) := by decide +kernel
theorem dX0_delay_89 : decode cX0_delay 89 = .ok (.iload 5, 2) := by decide +kernel
theorem dX0_delay_91 : decode cX0_delay 91 = .ok (.irem, 1) := by decide +kernel
theorem dX0_delay_92 : decode cX0_delay 92 = .ok (.iadd, 1) := by decide +kernel
theorem dX0_delay_93 : decode cX0_delay 93 = .ok (.ireturn, 1) := by decide +kernel
theorem dX0_delay_94 : decode cX0_delay 94 = .ok (.iload 5, 2) := by decide +kernel
theorem dX0_delay_96 : decode cX0_delay 96 = .ok (.iload 5, 2) := by decide +kernel
theorem dX0_delay_98 : decode cX0_delay 98 = .ok (.iconst 2, 1) := by decide +kernel
theorem dX0_delay_99 : decode cX0_delay 99 = .ok (.idiv, 1) := by decide +kernel
theorem dX0_delay_100 : decode cX0_delay 100 = .ok (.isub, 1) := by decide +kernel
theorem dX0_delay_101 : decode cX0_delay 101 = .ok (.aload_n 0, 1) := by decide +kernel
theorem dX0_delay_102 : decode cX0_delay 102 = .ok (.invokestatic 108, 3) := by decide +kernel
theorem dX0_delay_105 : decode cX0_delay 105 = .ok (.iload 5, 2) := by decide +kernel
theorem dX0_delay_107 : decode cX0_delay 107 = .ok (.iconst 2, 1) := by decide +kernel
theorem dX0_delay_108 : decode cX0_delay 108 = .ok (.idiv, 1) := by decide +kernel
theorem dX0_delay_109 : decode cX0_delay 109 = .ok (.iconst 1, 1) := by decide +kernel
theorem dX0_delay_110 : decode cX0_delay 110 = .ok (.iadd, 1) := by decide +kernel
theorem dX0_delay_111 : decode cX0_delay 111 = .ok (.irem, 1) := by decide +kernel
theorem dX0_delay_112 : decode cX0_delay 112 = .ok (.iadd, 1) := by decide +kernel
theorem dX0_delay_113 : decode cX0_delay 113 = .ok (.ireturn, 1) := by decide +kernel
theorem dX0_delay_114 : decode cX0_delay 114 = .ok (.aload_n 0, 1) := by decide +kernel
theorem dX0_delay_115 : decode cX0_delay 115 = .ok (.getfield 69, 3) := by decide +kernel
theorem dX0_delay_118 : decode cX0_delay 118 = .ok (.iload_n 1, 1) := by decide +kernel
theorem dX0_delay_119 : decode cX0_delay 119 = .ok (.bipush 6, 2) := by decide +kernel
theorem dX0_delay_121 : decode cX0_delay 121 = .ok (.invokevirtual 41, 3) := by decide +kernel
theorem dX0_delay_124 : decode cX0_delay 124 = .ok (.istore 6, 2) := by decide +kernel
theorem dX0_delay_126 : decode cX0_delay 126 = .ok (.iconst 0, 1) := by decide +kernel
theorem dX0_delay_127 : decode cX0_delay 127 = .ok (.iload 6, 2) := by decide +kernel
theorem dX0_delay_129 : decode cX0_delay 129 = .ok (.ifCond .ne 7, 3) := by decide +kernel
theorem dX0_delay_132 : decode cX0_delay 132 = .ok (.iload_n 3, 1) := by decide +kernel
theorem dX0_delay_133 : decode cX0_delay 133 = .ok (.goto 5, 3) := by decide +kernel
theorem dX0_delay_136 : decode cX0_delay 136 = .ok (.iload 6, 2) := by decide +kernel
theorem dX0_delay_138 : decode cX0_delay 138 = .ok (.invokestatic 105, 3) := by decide +kernel
theorem dX0_delay_141 : decode cX0_delay 141 = .ok (.istore 7, 2) := by decide +kernel
theorem dX0_delay_143 : decode cX0_delay 143 = .ok (.iload_n 3, 1) := by decide +kernel
theorem dX0_delay_144 : decode cX0_delay 144 = .ok (.aload_n 0, 1) := by decide +kernel
theorem dX0_delay_145 : decode cX0_delay 145 = .ok (.invokestatic 108, 3) := by decide +kernel
theorem dX0_delay_148 : decode cX0_delay 148 = .ok (.iconst 2, 1) := by decide +kernel
theorem dX0_delay_149 : decode cX0_delay 149 = .ok (.iload 7, 2) := by decide +kernel
theorem dX0_delay_151 : decode cX0_delay 151 = .ok (.imul, 1) := by decide +kernel
theorem dX0_delay_152 : decode cX0_delay 152 = .ok (.iconst 1, 1) := by decide +kernel
theorem dX0_delay_153 : decode cX0_delay 153 = .ok (.iadd, 1) := by decide +kernel
theorem dX0_delay_154 : decode cX0_delay 154 = .ok (.irem, 1) := by decide +kernel
theorem dX0_delay_155 : decode cX0_delay 155 = .ok (.iadd, 1) := by decide +kernel
theorem dX0_delay_156 : decode cX0_delay 156 = .ok (.iload 4, 2) := by decide +kernel
theorem dX0_delay_158 : decode cX0_delay 158 = .ok (.invokestatic 61, 3) := by decide +kernel
theorem dX0_delay_161 : decode cX0_delay 161 = .ok (.ireturn, 1) := by decide +kernel
theorem dX0_delay_162 : decode cX0_delay 162 = .ok (.iload 5, 2) := by decide +kernel
theorem dX0_delay_164 : decode cX0_delay 164 = .ok (.ireturn, 1) := by decide +kernel
def bfX0_delay_138 (p2 : Int32) (p3 : Int32) (x3 : Int32) (x4 : Int32) (s0 : Int32) (s1 : Int32) (S : StS) : Option (Int32 × (StS)) :=
  nm ((if s0 < s1 then s1 else s0)) fun v9 => ob (fX0_draw S) fun u10 => (if (((2 : Int32) * v9) + (1 : Int32)) = 0 then none else some ((if x4 < (x3 + (u10.1 - u10.1 / (((2 : Int32) * v9) + (1 : Int32)) * (((2 : Int32) * v9) + (1 : Int32)))) then x4 else (x3 + (u10.1 - u10.1 / (((2 : Int32) * v9) + (1 : Int32)) * (((2 : Int32) * v9) + (1 : Int32))))), u10.2))
def fX0_delay (p2 : Int32) (p3 : Int32) (S : StS) : Option (Int32 × (StS)) :=
  nm ((sget 0 S p3 (5 : Int32))) fun v11 => nm ((sget 0 S p3 (6 : Int32))) fun v12 => nm ((if (1 : Int32) < (if v12 < (v11 <<< (((sget 5 S p2 (3 : Int32)) - (1 : Int32)) &&& 31)) then v12 else (v11 <<< (((sget 5 S p2 (3 : Int32)) - (1 : Int32)) &&& 31))) then (if v12 < (v11 <<< (((sget 5 S p2 (3 : Int32)) - (1 : Int32)) &&& 31)) then v12 else (v11 <<< (((sget 5 S p2 (3 : Int32)) - (1 : Int32)) &&& 31))) else (1 : Int32))) fun v13 => (if (sget 0 S p3 (7 : Int32)) = (1 : Int32) then ob (fX0_draw S) fun u16 => (if v13 = 0 then none else some (((1 : Int32) + (u16.1 - u16.1 / v13 * v13)), u16.2)) else (if (sget 0 S p3 (7 : Int32)) = (2 : Int32) then ob (fX0_draw S) fun u15 => (if ((v13 / (2 : Int32)) + (1 : Int32)) = 0 then none else some (((v13 - (v13 / (2 : Int32))) + (u15.1 - u15.1 / ((v13 / (2 : Int32)) + (1 : Int32)) * ((v13 / (2 : Int32)) + (1 : Int32)))), u15.2)) else (if (sget 0 S p3 (7 : Int32)) = (3 : Int32) then nm ((sget 5 S p2 (6 : Int32))) fun v14 => (if v14 = 0 then bfX0_delay_138 p2 p3  v11 v12 ((0 : Int32)) v11 S else bfX0_delay_138 p2 p3  v11 v12 ((0 : Int32)) v14 S) else some (v13, S))))
set_option maxHeartbeats 4000000 in
set_option maxRecDepth 100000 in
theorem kX0_delay (l : Launch) (D : va_G) (cI cS : ClassId) (aS : Nat → Nat) (p2 : Int32) (p3 : Int32) (S : StS) {q : Int32 × (StS)} (h : fX0_delay p2 p3 S = some q) : Mc l D (tyL cI cS) false yX0_delay cX0_delay 8 (some .int) 2 [.ref (aS 0), .int p2, .int p3] (wS cI aS S) (some (.int q.1)) (wS cI aS q.2) := by
  refine Mc_of RX0 (by decide +kernel) rfl wc_X0_delay (Nat.le_of_ble_eq_true rfl) ?_
  intro p e s m args below meth c A Q ls C hA hz hP hD hS hl RET
  have RETh : ∀ {pc : Nat} {ls : Array Slot} {H : Heap} {locs : List Loc} {x : Int32} {S1 : StS}, decode cX0_delay pc = .ok (.ireturn, 1) → some (x, S1) = some q → va_P D vwCl (wS cI aS S1) H → va_D A (wS cI aS S1) → va_S A s.heap H locs → W p l e (rmL 2) s m args below meth c H locs 0 0 Q (F0 m pc ls [.int x]) := by
    intro pc ls H locs x S1 hd h hP hD hS; cases h; exact RET (x_iret C hd) hP hD hS
  have B138 : ∀ (x3 : Int32) (x4 : Int32) (s0 : Int32) (s1 : Int32) (S : StS), bfX0_delay_138 p2 p3 x3 x4 s0 s1 S = some q → ∀ (H : Heap) (locs : List Loc) (ls : Array Slot), va_P D vwCl (wS cI aS S) H → va_D A (wS cI aS S) → va_S A s.heap H locs → lv_has ls 8 [(0, .ref (aS 0)), (3, .int x3), (4, .int x4)] → W p l e (rmL 2) s m args below meth c H locs 0 0 Q (F0 m 138 ls [.int s1, .int s0]) := by
    intro x3 x4 s0 s1 S h H locs ls hP hD hS hl
    refine x_max C hl.1 wm_X0_105 wt_J9_max_7cf53 wz_J9 wc_J9_max_7cf53 (by decide) (Nat.le_of_ble_eq_true rfl) ⟨Nat.zero_le _, Nat.zero_le _⟩ dX0_delay_138 ?_
    refine x_nmi h (fun v9 h => ?_)
    refine x_istore (lv' := [(7, .int v9), (0, .ref (aS 0)), (3, .int x3), (4, .int x4)]) C dX0_delay_141 hl (by decide) rfl (fun ls hl => ?_)
    refine x_iload_n C dX0_delay_143 rfl hl 2 rfl ?_
    refine x_aload_n C dX0_delay_144 rfl hl 1 rfl ?_
    obtain ⟨u10, hu10, h⟩ := ob_some h
    refine x_callS (As := [.ref _]) (n := 1) C (kX0_draw l D cI cS aS _ hu10) (fun hh => nomatch hh) wm_X0_108 wt_X0_draw wz_X0 wc_X0_draw (by decide +kernel) rfl hP hD hS hA hl.1 dX0_delay_145 rfl (Nat.le_of_ble_eq_true rfl) ⟨Nat.le_of_ble_eq_true rfl, Nat.le_of_ble_eq_true rfl⟩ ⟨Nat.zero_le _, Nat.zero_le _⟩ (fun H locs hP hD hS => ?_)
    refine x_iconst (v := (2 : Int32)) C dX0_delay_148 (by decide) ?_
    refine x_iload C dX0_delay_149 hl 0 rfl ?_
    refine x_imul C dX0_delay_151 ?_
    refine x_iconst (v := (1 : Int32)) C dX0_delay_152 (by decide) ?_
    refine x_iadd C dX0_delay_153 ?_
    refine x_irem C h dX0_delay_154 (fun h => ?_)
    refine x_iadd C dX0_delay_155 ?_
    refine x_iload C dX0_delay_156 hl 3 rfl ?_
    refine x_min C hl.1 wm_X0_61 wt_J9_min_7cf53 wz_J9 wc_J9_min_7cf53 (by decide) (Nat.le_of_ble_eq_true rfl) ⟨Nat.zero_le _, Nat.zero_le _⟩ dX0_delay_158 ?_
    exact RETh dX0_delay_161 h hP hD hS
  refine x_aload_n C dX0_delay_0 rfl hl 0 rfl ?_
  refine x_get C inX2 hP 0 rfl rfl 0 (by decide) wf_X0_37 rfl dX0_delay_1 ?_
  refine x_iload_n C dX0_delay_4 rfl hl 2 rfl ?_
  refine x_iconst (v := (5 : Int32)) C dX0_delay_5 (by decide) ?_
  refine x_callV (As := [.int _, .int _]) (n := 2) C (kS_get l D cI cS aS _ 0 (by decide) _ _) (fun hh => nomatch hh) wm_X0_41 wi_X3_get we_X3_get wz_X3 wc_X3_get (by decide +kernel) rfl hP hD hS hA 1 1 rfl rfl rfl hl.1 dX0_delay_6 rfl (Nat.le_of_ble_eq_true rfl) ⟨Nat.le_of_ble_eq_true rfl, Nat.le_of_ble_eq_true rfl⟩ ⟨Nat.zero_le _, Nat.zero_le _⟩ (fun H locs hP hD hS => ?_)
  refine x_nmi h (fun v11 h => ?_)
  refine x_istore_n (lv' := [(3, .int v11), (0, .ref (aS 0)), (1, .int p2), (2, .int p3)]) C dX0_delay_9 rfl hl (by decide) rfl (fun ls hl => ?_)
  refine x_aload_n C dX0_delay_10 rfl hl 1 rfl ?_
  refine x_get C inX2 hP 0 rfl rfl 0 (by decide) wf_X0_37 rfl dX0_delay_11 ?_
  refine x_iload_n C dX0_delay_14 rfl hl 3 rfl ?_
  refine x_bipush (v := (6 : Int32)) C dX0_delay_15 (by decide) ?_
  refine x_callV (As := [.int _, .int _]) (n := 2) C (kS_get l D cI cS aS _ 0 (by decide) _ _) (fun hh => nomatch hh) wm_X0_41 wi_X3_get we_X3_get wz_X3 wc_X3_get (by decide +kernel) rfl hP hD hS hA 1 1 rfl rfl rfl hl.1 dX0_delay_17 rfl (Nat.le_of_ble_eq_true rfl) ⟨Nat.le_of_ble_eq_true rfl, Nat.le_of_ble_eq_true rfl⟩ ⟨Nat.zero_le _, Nat.zero_le _⟩ (fun H locs hP hD hS => ?_)
  refine x_nmi h (fun v12 h => ?_)
  refine x_istore (lv' := [(4, .int v12), (3, .int v11), (0, .ref (aS 0)), (1, .int p2), (2, .int p3)]) C dX0_delay_20 hl (by decide) rfl (fun ls hl => ?_)
  refine x_iconst (v := (1 : Int32)) C dX0_delay_22 (by decide) ?_
  refine x_iload_n C dX0_delay_23 rfl hl 1 rfl ?_
  refine x_aload_n C dX0_delay_24 rfl hl 2 rfl ?_
  refine x_get C inX2 hP 0 rfl rfl 5 (by decide) wf_X0_69 rfl dX0_delay_25 ?_
  refine x_iload_n C dX0_delay_28 rfl hl 3 rfl ?_
  refine x_iconst (v := (3 : Int32)) C dX0_delay_29 (by decide) ?_
  refine x_callV (As := [.int _, .int _]) (n := 2) C (kS_get l D cI cS aS _ 5 (by decide) _ _) (fun hh => nomatch hh) wm_X0_41 wi_X3_get we_X3_get wz_X3 wc_X3_get (by decide +kernel) rfl hP hD hS hA 11 1 rfl rfl rfl hl.1 dX0_delay_30 rfl (Nat.le_of_ble_eq_true rfl) ⟨Nat.le_of_ble_eq_true rfl, Nat.le_of_ble_eq_true rfl⟩ ⟨Nat.zero_le _, Nat.zero_le _⟩ (fun H locs hP hD hS => ?_)
  refine x_iconst (v := (1 : Int32)) C dX0_delay_33 (by decide) ?_
  refine x_isub C dX0_delay_34 ?_
  refine x_ishl C dX0_delay_35 ?_
  refine x_iload C dX0_delay_36 hl 0 rfl ?_
  refine x_min C hl.1 wm_X0_61 wt_J9_min_7cf53 wz_J9 wc_J9_min_7cf53 (by decide) (Nat.le_of_ble_eq_true rfl) ⟨Nat.zero_le _, Nat.zero_le _⟩ dX0_delay_38 ?_
  refine x_max C hl.1 wm_X0_105 wt_J9_max_7cf53 wz_J9 wc_J9_max_7cf53 (by decide) (Nat.le_of_ble_eq_true rfl) ⟨Nat.zero_le _, Nat.zero_le _⟩ dX0_delay_41 ?_
  refine x_nmi h (fun v13 h => ?_)
  refine x_istore (lv' := [(5, .int v13), (4, .int v12), (3, .int v11), (0, .ref (aS 0)), (1, .int p2), (2, .int p3)]) C dX0_delay_44 hl (by decide) rfl (fun ls hl => ?_)
  refine x_aload_n C dX0_delay_46 rfl hl 3 rfl ?_
  refine x_get C inX2 hP 0 rfl rfl 0 (by decide) wf_X0_37 rfl dX0_delay_47 ?_
  refine x_iload_n C dX0_delay_50 rfl hl 5 rfl ?_
  refine x_bipush (v := (7 : Int32)) C dX0_delay_51 (by decide) ?_
  refine x_callV (As := [.int _, .int _]) (n := 2) C (kS_get l D cI cS aS _ 0 (by decide) _ _) (fun hh => nomatch hh) wm_X0_41 wi_X3_get we_X3_get wz_X3 wc_X3_get (by decide +kernel) rfl hP hD hS hA 1 1 rfl rfl rfl hl.1 dX0_delay_53 rfl (Nat.le_of_ble_eq_true rfl) ⟨Nat.le_of_ble_eq_true rfl, Nat.le_of_ble_eq_true rfl⟩ ⟨Nat.zero_le _, Nat.zero_le _⟩ (fun H locs hP hD hS => ?_)
  rcases x_ifc h with ⟨hc, h⟩ | ⟨hc1, h⟩
  · refine x_tabIn (tgt := 84) C dX0_delay_56 (by rw [hc]; decide) (by rw [hc]; decide) (by rw [hc]; rfl) (by decide) ?_
    refine x_iconst (v := (1 : Int32)) C dX0_delay_84 (by decide) ?_
    refine x_aload_n C dX0_delay_85 rfl hl 3 rfl ?_
    obtain ⟨u16, hu16, h⟩ := ob_some h
    refine x_callS (As := [.ref _]) (n := 1) C (kX0_draw l D cI cS aS _ hu16) (fun hh => nomatch hh) wm_X0_108 wt_X0_draw wz_X0 wc_X0_draw (by decide +kernel) rfl hP hD hS hA hl.1 dX0_delay_86 rfl (Nat.le_of_ble_eq_true rfl) ⟨Nat.le_of_ble_eq_true rfl, Nat.le_of_ble_eq_true rfl⟩ ⟨Nat.zero_le _, Nat.zero_le _⟩ (fun H locs hP hD hS => ?_)
    refine x_iload C dX0_delay_89 hl 0 rfl ?_
    refine x_irem C h dX0_delay_91 (fun h => ?_)
    refine x_iadd C dX0_delay_92 ?_
    exact RETh dX0_delay_93 h hP hD hS
  ·
    rcases x_ifc h with ⟨hc, h⟩ | ⟨hc2, h⟩
    · refine x_tabIn (tgt := 94) C dX0_delay_56 (by rw [hc]; decide) (by rw [hc]; decide) (by rw [hc]; rfl) (by decide) ?_
      refine x_iload C dX0_delay_94 hl 0 rfl ?_
      refine x_iload C dX0_delay_96 hl 0 rfl ?_
      refine x_iconst (v := (2 : Int32)) C dX0_delay_98 (by decide) ?_
      refine x_idivK C (by decide) dX0_delay_99 ?_
      refine x_isub C dX0_delay_100 ?_
      refine x_aload_n C dX0_delay_101 rfl hl 3 rfl ?_
      obtain ⟨u15, hu15, h⟩ := ob_some h
      refine x_callS (As := [.ref _]) (n := 1) C (kX0_draw l D cI cS aS _ hu15) (fun hh => nomatch hh) wm_X0_108 wt_X0_draw wz_X0 wc_X0_draw (by decide +kernel) rfl hP hD hS hA hl.1 dX0_delay_102 rfl (Nat.le_of_ble_eq_true rfl) ⟨Nat.le_of_ble_eq_true rfl, Nat.le_of_ble_eq_true rfl⟩ ⟨Nat.zero_le _, Nat.zero_le _⟩ (fun H locs hP hD hS => ?_)
      refine x_iload C dX0_delay_105 hl 0 rfl ?_
      refine x_iconst (v := (2 : Int32)) C dX0_delay_107 (by decide) ?_
      refine x_idivK C (by decide) dX0_delay_108 ?_
      refine x_iconst (v := (1 : Int32)) C dX0_delay_109 (by decide) ?_
      refine x_iadd C dX0_delay_110 ?_
      refine x_irem C h dX0_delay_111 (fun h => ?_)
      refine x_iadd C dX0_delay_112 ?_
      exact RETh dX0_delay_113 h hP hD hS
    ·
      rcases x_ifc h with ⟨hc, h⟩ | ⟨hc3, h⟩
      · refine x_tabIn (tgt := 114) C dX0_delay_56 (by rw [hc]; decide) (by rw [hc]; decide) (by rw [hc]; rfl) (by decide) ?_
        refine x_aload_n C dX0_delay_114 rfl hl 3 rfl ?_
        refine x_get C inX2 hP 0 rfl rfl 5 (by decide) wf_X0_69 rfl dX0_delay_115 ?_
        refine x_iload_n C dX0_delay_118 rfl hl 4 rfl ?_
        refine x_bipush (v := (6 : Int32)) C dX0_delay_119 (by decide) ?_
        refine x_callV (As := [.int _, .int _]) (n := 2) C (kS_get l D cI cS aS _ 5 (by decide) _ _) (fun hh => nomatch hh) wm_X0_41 wi_X3_get we_X3_get wz_X3 wc_X3_get (by decide +kernel) rfl hP hD hS hA 11 1 rfl rfl rfl hl.1 dX0_delay_121 rfl (Nat.le_of_ble_eq_true rfl) ⟨Nat.le_of_ble_eq_true rfl, Nat.le_of_ble_eq_true rfl⟩ ⟨Nat.zero_le _, Nat.zero_le _⟩ (fun H locs hP hD hS => ?_)
        refine x_nmi h (fun v14 h => ?_)
        refine x_istore (lv' := [(6, .int v14), (5, .int v13), (4, .int v12), (3, .int v11), (0, .ref (aS 0)), (1, .int p2), (2, .int p3)]) C dX0_delay_124 hl (by decide) rfl (fun ls hl => ?_)
        refine x_iconst (v := (0 : Int32)) C dX0_delay_126 (by decide) ?_
        refine x_iload C dX0_delay_127 hl 0 rfl ?_
        refine x_if_ne (tgt := 136) C h dX0_delay_129 (by decide) (fun h => ?_) (fun h => ?_)
        · refine x_iload C dX0_delay_136 hl 0 rfl ?_
          exact B138 _ _ _ _ _ h _ _ _ hP hD hS (lv_sub hl [4, 3, 2] rfl)
        · refine x_iload_n C dX0_delay_132 rfl hl 3 rfl ?_
          refine x_goto (tgt := 138) C dX0_delay_133 (by decide) ?_
          exact B138 _ _ _ _ _ h _ _ _ hP hD hS (lv_sub hl [4, 3, 2] rfl)
      · refine x_switch (tgt := 162) C dX0_delay_56 (x_tabO1_3 hc1 hc2 hc3) (by decide) ?_
        refine x_iload C dX0_delay_162 hl 0 rfl ?_
        exact RETh dX0_delay_164 h hP hD hS
theorem dX0_fail_0 : decode cX0_fail 0 = .ok (.aload_n 0, 1) := by decide +kernel
theorem dX0_fail_1 : decode cX0_fail 1 = .ok (.getfield 69, 3) := by decide +kernel
theorem dX0_fail_4 : decode cX0_fail 4 = .ok (.iconst 0, 1) := by decide +kernel
theorem dX0_fail_5 : decode cX0_fail 5 = .ok (.iload_n 1, 1) := by decide +kernel
theorem dX0_fail_6 : decode cX0_fail 6 = .ok (.invokevirtual 79, 3) := by decide +kernel
theorem dX0_fail_9 : decode cX0_fail 9 = .ok (.istore_n 3, 1) := by decide +kernel
theorem dX0_fail_10 : decode cX0_fail 10 = .ok (.iload_n 3, 1) := by decide +kernel
theorem dX0_fail_11 : decode cX0_fail 11 = .ok (.bipush (-9), 2) := by decide +kernel
theorem dX0_fail_13 : decode cX0_fail 13 = .ok (.if_icmp .ne 4, 3) := by decide +kernel
theorem dX0_fail_16 : decode cX0_fail 16 = .ok (.return_, 1) := by decide +kernel
theorem dX0_fail_17 : decode cX0_fail 17 = .ok (.aload_n 0, 1) := by decide +kernel
theorem dX0_fail_18 : decode cX0_fail 18 = .ok (.getfield 69, 3) := by decide +kernel
theorem dX0_fail_21 : decode cX0_fail 21 = .ok (.iload_n 3, 1) := by decide +kernel
theorem dX0_fail_22 : decode cX0_fail 22 = .ok (.iconst 1, 1) := by decide +kernel
theorem dX0_fail_23 : decode cX0_fail 23 = .ok (.invokevirtual 41, 3) := by decide +kernel
theorem dX0_fail_26 : decode cX0_fail 26 = .ok (.istore 4, 2) := by decide +kernel
theorem dX0_fail_28 : decode cX0_fail 28 = .ok (.aload_n 0, 1) := by decide +kernel
theorem dX0_fail_29 : decode cX0_fail 29 = .ok (.getfield 54, 3) := by decide +kernel
theorem dX0_fail_32 : decode cX0_fail 32 = .ok (.iload 4, 2) := by decide +kernel
theorem dX0_fail_34 : decode cX0_fail 34 = .ok (.iload_n 2, 1) := by decide +kernel
theorem dX0_fail_35 : decode cX0_fail 35 = .ok (.iconst 1, 1) := by decide +kernel
theorem dX0_fail_36 : decode cX0_fail 36 = .ok (.invokevirtual 57, 3) := by decide +kernel
theorem dX0_fail_39 : decode cX0_fail 39 = .ok (.aload_n 0, 1) := by decide +kernel
theorem dX0_fail_40 : decode cX0_fail 40 = .ok (.getfield 69, 3) := by decide +kernel
theorem dX0_fail_43 : decode cX0_fail 43 = .ok (.iload_n 3, 1) := by decide +kernel
theorem dX0_fail_44 : decode cX0_fail 44 = .ok (.iconst 3, 1) := by decide +kernel
theorem dX0_fail_45 : decode cX0_fail 45 = .ok (.invokevirtual 41, 3) := by decide +kernel
theorem dX0_fail_48 : decode cX0_fail 48 = .ok (.aload_n 0, 1) := by decide +kernel
theorem dX0_fail_49 : decode cX0_fail 49 = .ok (.getfield 37, 3) := by decide +kernel
theorem dX0_fail_52 : decode cX0_fail 52 = .ok (.iload 4, 2) := by decide +kernel
theorem dX0_fail_54 : decode cX0_fail 54 = .ok (.iconst 3, 1) := by decide +kernel
theorem dX0_fail_55 : decode cX0_fail 55 = .ok (.invokevirtual 41, 3) := by decide +kernel
theorem dX0_fail_58 : decode cX0_fail 58 = .ok (.if_icmp .ge 23, 3) := by decide +kernel
theorem dX0_fail_61 : decode cX0_fail 61 = .ok (.aload_n 0, 1) := by decide +kernel
theorem dX0_fail_62 : decode cX0_fail 62 = .ok (.getfield 54, 3) := by decide +kernel
theorem dX0_fail_65 : decode cX0_fail 65 = .ok (.iload 4, 2) := by decide +kernel
theorem dX0_fail_67 : decode cX0_fail 67 = .ok (.bipush 7, 2) := by decide +kernel
theorem dX0_fail_69 : decode cX0_fail 69 = .ok (.invokevirtual 41, 3) := by decide +kernel
theorem dX0_fail_72 : decode cX0_fail 72 = .ok (.bipush 10, 2) := by decide +kernel
theorem dX0_fail_74 : decode cX0_fail 74 = .ok (.if_icmp .lt 7, 3) := by decide +kernel
theorem dX0_fail_77 : decode cX0_fail 77 = .ok (.iconst 1, 1) := by decide +kernel
theorem dX0_fail_78 : decode cX0_fail 78 = .ok (.goto 4, 3) := by decide +kernel
theorem dX0_fail_81 : decode cX0_fail 81 = .ok (.iconst 0, 1) := by decide +kernel
theorem dX0_fail_82 : decode cX0_fail 82 = .ok (.istore 5, 2) := by decide +kernel
theorem dX0_fail_84 : decode cX0_fail 84 = .ok (.iload 5, 2) := by decide +kernel
theorem dX0_fail_86 : decode cX0_fail 86 = .ok (.ifCond .eq 13, 3) := by decide +kernel
theorem dX0_fail_89 : decode cX0_fail 89 = .ok (.aload_n 0, 1) := by decide +kernel
theorem dX0_fail_90 : decode cX0_fail 90 = .ok (.iload_n 3, 1) := by decide +kernel
theorem dX0_fail_91 : decode cX0_fail 91 = .ok (.iload 4, 2) := by decide +kernel
theorem dX0_fail_93 : decode cX0_fail 93 = .ok (.invokestatic 101, 3) := by decide +kernel
theorem dX0_fail_96 : decode cX0_fail 96 = .ok (.goto 4, 3) := by decide +kernel
theorem dX0_fail_99 : decode cX0_fail 99 = .ok (.iconst 0, 1) := by decide +kernel
theorem dX0_fail_100 : decode cX0_fail 100 = .ok (.istore 6, 2) := by decide +kernel
theorem dX0_fail_102 : decode cX0_fail 102 = .ok (.aload_n 0, 1) := by decide +kernel
theorem dX0_fail_103 : decode cX0_fail 103 = .ok (.getfield 47, 3) := by decide +kernel
theorem dX0_fail_106 : decode cX0_fail 106 = .ok (.iload 6, 2) := by decide +kernel
theorem dX0_fail_108 : decode cX0_fail 108 = .ok (.iadd, 1) := by decide +kernel
theorem dX0_fail_109 : decode cX0_fail 109 = .ok (.istore 7, 2) := by decide +kernel
theorem dX0_fail_111 : decode cX0_fail 111 = .ok (.iload 5, 2) := by decide +kernel
theorem dX0_fail_113 : decode cX0_fail 113 = .ok (.ifCond .eq 17, 3) := by decide +kernel
theorem dX0_fail_116 : decode cX0_fail 116 = .ok (.iload 7, 2) := by decide +kernel
theorem dX0_fail_118 : decode cX0_fail 118 = .ok (.aload_n 0, 1) := by decide +kernel
theorem dX0_fail_119 : decode cX0_fail 119 = .ok (.getfield 69, 3) := by decide +kernel
theorem dX0_fail_122 : decode cX0_fail 122 = .ok (.iload_n 3, 1) := by decide +kernel
theorem dX0_fail_123 : decode cX0_fail 123 = .ok (.iconst 2, 1) := by decide +kernel
theorem dX0_fail_124 : decode cX0_fail 124 = .ok (.invokevirtual 41, 3) := by decide +kernel
theorem dX0_fail_127 : decode cX0_fail 127 = .ok (.if_icmp .lt 23, 3) := by decide +kernel
theorem dX0_fail_130 : decode cX0_fail 130 = .ok (.aload_n 0, 1) := by decide +kernel
theorem dX0_fail_131 : decode cX0_fail 131 = .ok (.getfield 54, 3) := by decide +kernel
theorem dX0_fail_134 : decode cX0_fail 134 = .ok (.iload 4, 2) := by decide +kernel
theorem dX0_fail_136 : decode cX0_fail 136 = .ok (.iconst 3, 1) := by decide +kernel
theorem dX0_fail_137 : decode cX0_fail 137 = .ok (.iconst 1, 1) := by decide +kernel
theorem dX0_fail_138 : decode cX0_fail 138 = .ok (.invokevirtual 57, 3) := by decide +kernel
theorem dX0_fail_141 : decode cX0_fail 141 = .ok (.aload_n 0, 1) := by decide +kernel
theorem dX0_fail_142 : decode cX0_fail 142 = .ok (.getfield 69, 3) := by decide +kernel
theorem dX0_fail_145 : decode cX0_fail 145 = .ok (.iload_n 3, 1) := by decide +kernel
theorem dX0_fail_146 : decode cX0_fail 146 = .ok (.invokevirtual 94, 3) := by decide +kernel
theorem dX0_fail_149 : decode cX0_fail 149 = .ok (.return_, 1) := by decide +kernel
theorem dX0_fail_150 : decode cX0_fail 150 = .ok (.aload_n 0, 1) := by decide +kernel
theorem dX0_fail_151 : decode cX0_fail 151 = .ok (.getfield 54, 3) := by decide +kernel
theorem dX0_fail_154 : decode cX0_fail 154 = .ok (.iload 4, 2) := by decide +kernel
theorem dX0_fail_156 : decode cX0_fail 156 = .ok (.bipush 7, 2) := by decide +kernel
theorem dX0_fail_158 : decode cX0_fail 158 = .ok (.bipush (-10), 2) := by decide +kernel
theorem dX0_fail_160 : decode cX0_fail 160 = .ok (.invokevirtual 57, 3) := by decide +kernel
theorem dX0_fail_163 : decode cX0_fail 163 = .ok (.aload_n 0, 1) := by decide +kernel
theorem dX0_fail_164 : decode cX0_fail 164 = .ok (.getfield 69, 3) := by decide +kernel
theorem dX0_fail_167 : decode cX0_fail 167 = .ok (.iload_n 3, 1) := by decide +kernel
theorem dX0_fail_168 : decode cX0_fail 168 = .ok (.iconst 4, 1) := by decide +kernel
theorem dX0_fail_169 : decode cX0_fail 169 = .ok (.iconst 1, 1) := by decide +kernel
theorem dX0_fail_170 : decode cX0_fail 170 = .ok (.invokevirtual 66, 3) := by decide +kernel
theorem dX0_fail_173 : decode cX0_fail 173 = .ok (.aload_n 0, 1) := by decide +kernel
theorem dX0_fail_174 : decode cX0_fail 174 = .ok (.getfield 69, 3) := by decide +kernel
theorem dX0_fail_177 : decode cX0_fail 177 = .ok (.iload_n 3, 1) := by decide +kernel
theorem dX0_fail_178 : decode cX0_fail 178 = .ok (.iconst 5, 1) := by decide +kernel
theorem dX0_fail_179 : decode cX0_fail 179 = .ok (.iload 7, 2) := by decide +kernel
theorem dX0_fail_181 : decode cX0_fail 181 = .ok (.invokevirtual 66, 3) := by decide +kernel
theorem dX0_fail_184 : decode cX0_fail 184 = .ok (.aload_n 0, 1) := by decide +kernel
theorem dX0_fail_185 : decode cX0_fail 185 = .ok (.getfield 69, 3) := by decide +kernel
theorem dX0_fail_188 : decode cX0_fail 188 = .ok (.iload_n 3, 1) := by decide +kernel
theorem dX0_fail_189 : decode cX0_fail 189 = .ok (.bipush 6, 2) := by decide +kernel
theorem dX0_fail_191 : decode cX0_fail 191 = .ok (.iload 6, 2) := by decide +kernel
theorem dX0_fail_193 : decode cX0_fail 193 = .ok (.invokevirtual 66, 3) := by decide +kernel
theorem dX0_fail_196 : decode cX0_fail 196 = .ok (.return_, 1) := by decide +kernel
def bfX0_fail_130 (p2 : Int32) (p3 : Int32) (x3 : Int32) (x4 : Int32) (S : StS) : Option (StS) :=
  nm (sadd 1 S x4 (3 : Int32) (1 : Int32)) fun S12 => nm (sdrop 5 S12 x3) fun S13 => some S13
def bfX0_fail_100 (p2 : Int32) (p3 : Int32) (x3 : Int32) (x4 : Int32) (x5 : Int32) (s0 : Int32) (S : StS) : Option (StS) :=
  nm (((S.2 12) + s0)) fun v14 => (if x5 = 0 then bfX0_fail_130 p2 p3  x3 x4 S else (if v14 < (sget 5 S x3 (2 : Int32)) then nm (sadd 1 S x4 (7 : Int32) (-10 : Int32)) fun S15 => nm (sput 5 S15 x3 (4 : Int32) (1 : Int32)) fun S16 => nm (sput 5 S16 x3 (5 : Int32) v14) fun S17 => nm (sput 5 S17 x3 (6 : Int32) s0) fun S18 => some S18 else bfX0_fail_130 p2 p3  x3 x4 S))
def bfX0_fail_82 (p2 : Int32) (p3 : Int32) (x3 : Int32) (x4 : Int32) (s0 : Int32) (S : StS) : Option (StS) :=
  (if s0 = 0 then bfX0_fail_100 p2 p3  x3 x4 s0 ((0 : Int32)) S else ob (fX0_delay x3 x4 S) fun u19 => bfX0_fail_100 p2 p3  x3 x4 s0 u19.1 u19.2)
def bfX0_fail_81 (p2 : Int32) (p3 : Int32) (x3 : Int32) (x4 : Int32) (S : StS) : Option (StS) :=
  bfX0_fail_82 p2 p3  x3 x4 ((0 : Int32)) S
def fX0_fail (p2 : Int32) (p3 : Int32) (S : StS) : Option (StS) :=
  nm ((sfind 5 S (0 : Int32) p2)) fun v20 => (if v20 = (-9 : Int32) then some S else nm ((sget 5 S v20 (1 : Int32))) fun v21 => nm (sadd 1 S v21 p3 (1 : Int32)) fun S22 => (if (sget 0 S22 v21 (3 : Int32)) ≤ (sget 5 S22 v20 (3 : Int32)) then bfX0_fail_81 p2 p3  v20 v21 S22 else (if (sget 1 S22 v21 (7 : Int32)) < (10 : Int32) then bfX0_fail_81 p2 p3  v20 v21 S22 else bfX0_fail_82 p2 p3  v20 v21 ((1 : Int32)) S22)))
set_option maxHeartbeats 4000000 in
set_option maxRecDepth 100000 in
theorem kX0_fail (l : Launch) (D : va_G) (cI cS : ClassId) (aS : Nat → Nat) (p2 : Int32) (p3 : Int32) (S : StS) {q : StS} (h : fX0_fail p2 p3 S = some q) : Mc l D (tyL cI cS) false yX0_fail cX0_fail 8 none 3 [.ref (aS 0), .int p2, .int p3] (wS cI aS S) none (wS cI aS q) := by
  refine Mc_of RX0 (by decide +kernel) rfl wc_X0_fail (Nat.le_of_ble_eq_true rfl) ?_
  intro p e s m args below meth c A Q ls C hA hz hP hD hS hl RET
  have RETh : ∀ {pc : Nat} {ls : Array Slot} {H : Heap} {locs : List Loc} {S1 : StS}, decode cX0_fail pc = .ok (.return_, 1) → some S1 = some q → va_P D vwCl (wS cI aS S1) H → va_D A (wS cI aS S1) → va_S A s.heap H locs → W p l e (rmL 3) s m args below meth c H locs 0 0 Q (F0 m pc ls []) := by
    intro pc ls H locs S1 hd h hP hD hS; cases h; exact RET (x_vret C hd) hP hD hS
  have B130 : ∀ (x3 : Int32) (x4 : Int32) (S : StS), bfX0_fail_130 p2 p3 x3 x4 S = some q → ∀ (H : Heap) (locs : List Loc) (ls : Array Slot), va_P D vwCl (wS cI aS S) H → va_D A (wS cI aS S) → va_S A s.heap H locs → lv_has ls 8 [(0, .ref (aS 0)), (3, .int x3), (4, .int x4)] → W p l e (rmL 3) s m args below meth c H locs 0 0 Q (F0 m 130 ls []) := by
    intro x3 x4 S h H locs ls hP hD hS hl
    refine x_aload_n C dX0_fail_130 rfl hl 0 rfl ?_
    refine x_get C inX2 hP 0 rfl rfl 1 (by decide) wf_X0_54 rfl dX0_fail_131 ?_
    refine x_iload C dX0_fail_134 hl 2 rfl ?_
    refine x_iconst (v := (3 : Int32)) C dX0_fail_136 (by decide) ?_
    refine x_iconst (v := (1 : Int32)) C dX0_fail_137 (by decide) ?_
    refine x_callV (As := [.int _, .int _, .int _]) (n := 3) C (kS_add l D cI cS aS _ 1 (by decide) _ _ _) (fun hh => nomatch hh) wm_X0_57 wi_X3_add we_X3_add wz_X3 wc_X3_add (by decide +kernel) rfl hP hD hS hA 3 1 rfl rfl rfl hl.1 dX0_fail_138 rfl (Nat.le_of_ble_eq_true rfl) ⟨Nat.le_of_ble_eq_true rfl, Nat.le_of_ble_eq_true rfl⟩ ⟨Nat.zero_le _, Nat.zero_le _⟩ (fun H locs hP hD hS => ?_)
    refine x_nmS (wS cI aS) h hP hD (fun S12 h hP hD => ?_)
    refine x_aload_n C dX0_fail_141 rfl hl 0 rfl ?_
    refine x_get C inX2 hP 0 rfl rfl 5 (by decide) wf_X0_69 rfl dX0_fail_142 ?_
    refine x_iload_n C dX0_fail_145 rfl hl 1 rfl ?_
    refine x_callV (As := [.int _]) (n := 1) C (kS_drop l D cI cS aS _ 5 (by decide) _) (fun hh => nomatch hh) wm_X0_94 wi_X3_drop we_X3_drop wz_X3 wc_X3_drop (by decide +kernel) rfl hP hD hS hA 11 1 rfl rfl rfl hl.1 dX0_fail_146 rfl (Nat.le_of_ble_eq_true rfl) ⟨Nat.le_of_ble_eq_true rfl, Nat.le_of_ble_eq_true rfl⟩ ⟨Nat.zero_le _, Nat.zero_le _⟩ (fun H locs hP hD hS => ?_)
    refine x_nmS (wS cI aS) h hP hD (fun S13 h hP hD => ?_)
    exact RETh dX0_fail_149 h hP hD hS
  have B100 : ∀ (x3 : Int32) (x4 : Int32) (x5 : Int32) (s0 : Int32) (S : StS), bfX0_fail_100 p2 p3 x3 x4 x5 s0 S = some q → ∀ (H : Heap) (locs : List Loc) (ls : Array Slot), va_P D vwCl (wS cI aS S) H → va_D A (wS cI aS S) → va_S A s.heap H locs → lv_has ls 8 [(0, .ref (aS 0)), (3, .int x3), (4, .int x4), (5, .int x5)] → W p l e (rmL 3) s m args below meth c H locs 0 0 Q (F0 m 100 ls [.int s0]) := by
    intro x3 x4 x5 s0 S h H locs ls hP hD hS hl
    refine x_istore (lv' := [(6, .int s0), (0, .ref (aS 0)), (3, .int x3), (4, .int x4), (5, .int x5)]) C dX0_fail_100 hl (by decide) rfl (fun ls hl => ?_)
    refine x_aload_n C dX0_fail_102 rfl hl 1 rfl ?_
    refine x_get C inX2 hP 0 rfl rfl 12 (by decide) wf_X0_47 rfl dX0_fail_103 ?_
    refine x_iload C dX0_fail_106 hl 0 rfl ?_
    refine x_iadd C dX0_fail_108 ?_
    refine x_nmi h (fun v14 h => ?_)
    refine x_istore (lv' := [(7, .int v14), (6, .int s0), (0, .ref (aS 0)), (3, .int x3), (4, .int x4), (5, .int x5)]) C dX0_fail_109 hl (by decide) rfl (fun ls hl => ?_)
    refine x_iload C dX0_fail_111 hl 5 rfl ?_
    refine x_if_eq (tgt := 130) C h dX0_fail_113 (by decide) (fun h => ?_) (fun h => ?_)
    · exact B130 _ _ _ h _ _ _ hP hD hS (lv_sub hl [2, 3, 4] rfl)
    · refine x_iload C dX0_fail_116 hl 0 rfl ?_
      refine x_aload_n C dX0_fail_118 rfl hl 2 rfl ?_
      refine x_get C inX2 hP 0 rfl rfl 5 (by decide) wf_X0_69 rfl dX0_fail_119 ?_
      refine x_iload_n C dX0_fail_122 rfl hl 3 rfl ?_
      refine x_iconst (v := (2 : Int32)) C dX0_fail_123 (by decide) ?_
      refine x_callV (As := [.int _, .int _]) (n := 2) C (kS_get l D cI cS aS _ 5 (by decide) _ _) (fun hh => nomatch hh) wm_X0_41 wi_X3_get we_X3_get wz_X3 wc_X3_get (by decide +kernel) rfl hP hD hS hA 11 1 rfl rfl rfl hl.1 dX0_fail_124 rfl (Nat.le_of_ble_eq_true rfl) ⟨Nat.le_of_ble_eq_true rfl, Nat.le_of_ble_eq_true rfl⟩ ⟨Nat.zero_le _, Nat.zero_le _⟩ (fun H locs hP hD hS => ?_)
      refine x_icmp_lt (tgt := 150) C h dX0_fail_127 (by decide) (fun h => ?_) (fun h => ?_)
      · refine x_aload_n C dX0_fail_150 rfl hl 2 rfl ?_
        refine x_get C inX2 hP 0 rfl rfl 1 (by decide) wf_X0_54 rfl dX0_fail_151 ?_
        refine x_iload C dX0_fail_154 hl 4 rfl ?_
        refine x_bipush (v := (7 : Int32)) C dX0_fail_156 (by decide) ?_
        refine x_bipush (v := (-10 : Int32)) C dX0_fail_158 (by decide) ?_
        refine x_callV (As := [.int _, .int _, .int _]) (n := 3) C (kS_add l D cI cS aS _ 1 (by decide) _ _ _) (fun hh => nomatch hh) wm_X0_57 wi_X3_add we_X3_add wz_X3 wc_X3_add (by decide +kernel) rfl hP hD hS hA 3 1 rfl rfl rfl hl.1 dX0_fail_160 rfl (Nat.le_of_ble_eq_true rfl) ⟨Nat.le_of_ble_eq_true rfl, Nat.le_of_ble_eq_true rfl⟩ ⟨Nat.zero_le _, Nat.zero_le _⟩ (fun H locs hP hD hS => ?_)
        refine x_nmS (wS cI aS) h hP hD (fun S15 h hP hD => ?_)
        refine x_aload_n C dX0_fail_163 rfl hl 2 rfl ?_
        refine x_get C inX2 hP 0 rfl rfl 5 (by decide) wf_X0_69 rfl dX0_fail_164 ?_
        refine x_iload_n C dX0_fail_167 rfl hl 3 rfl ?_
        refine x_iconst (v := (4 : Int32)) C dX0_fail_168 (by decide) ?_
        refine x_iconst (v := (1 : Int32)) C dX0_fail_169 (by decide) ?_
        refine x_callV (As := [.int _, .int _, .int _]) (n := 3) C (kS_put l D cI cS aS _ 5 (by decide) _ _ _) (fun hh => nomatch hh) wm_X0_66 wi_X3_put we_X3_put wz_X3 wc_X3_put (by decide +kernel) rfl hP hD hS hA 11 1 rfl rfl rfl hl.1 dX0_fail_170 rfl (Nat.le_of_ble_eq_true rfl) ⟨Nat.le_of_ble_eq_true rfl, Nat.le_of_ble_eq_true rfl⟩ ⟨Nat.zero_le _, Nat.zero_le _⟩ (fun H locs hP hD hS => ?_)
        refine x_nmS (wS cI aS) h hP hD (fun S16 h hP hD => ?_)
        refine x_aload_n C dX0_fail_173 rfl hl 2 rfl ?_
        refine x_get C inX2 hP 0 rfl rfl 5 (by decide) wf_X0_69 rfl dX0_fail_174 ?_
        refine x_iload_n C dX0_fail_177 rfl hl 3 rfl ?_
        refine x_iconst (v := (5 : Int32)) C dX0_fail_178 (by decide) ?_
        refine x_iload C dX0_fail_179 hl 0 rfl ?_
        refine x_callV (As := [.int _, .int _, .int _]) (n := 3) C (kS_put l D cI cS aS _ 5 (by decide) _ _ _) (fun hh => nomatch hh) wm_X0_66 wi_X3_put we_X3_put wz_X3 wc_X3_put (by decide +kernel) rfl hP hD hS hA 11 1 rfl rfl rfl hl.1 dX0_fail_181 rfl (Nat.le_of_ble_eq_true rfl) ⟨Nat.le_of_ble_eq_true rfl, Nat.le_of_ble_eq_true rfl⟩ ⟨Nat.zero_le _, Nat.zero_le _⟩ (fun H locs hP hD hS => ?_)
        refine x_nmS (wS cI aS) h hP hD (fun S17 h hP hD => ?_)
        refine x_aload_n C dX0_fail_184 rfl hl 2 rfl ?_
        refine x_get C inX2 hP 0 rfl rfl 5 (by decide) wf_X0_69 rfl dX0_fail_185 ?_
        refine x_iload_n C dX0_fail_188 rfl hl 3 rfl ?_
        refine x_bipush (v := (6 : Int32)) C dX0_fail_189 (by decide) ?_
        refine x_iload C dX0_fail_191 hl 1 rfl ?_
        refine x_callV (As := [.int _, .int _, .int _]) (n := 3) C (kS_put l D cI cS aS _ 5 (by decide) _ _ _) (fun hh => nomatch hh) wm_X0_66 wi_X3_put we_X3_put wz_X3 wc_X3_put (by decide +kernel) rfl hP hD hS hA 11 1 rfl rfl rfl hl.1 dX0_fail_193 rfl (Nat.le_of_ble_eq_true rfl) ⟨Nat.le_of_ble_eq_true rfl, Nat.le_of_ble_eq_true rfl⟩ ⟨Nat.zero_le _, Nat.zero_le _⟩ (fun H locs hP hD hS => ?_)
        refine x_nmS (wS cI aS) h hP hD (fun S18 h hP hD => ?_)
        exact RETh dX0_fail_196 h hP hD hS
      · exact B130 _ _ _ h _ _ _ hP hD hS (lv_sub hl [2, 3, 4] rfl)
  have B82 : ∀ (x3 : Int32) (x4 : Int32) (s0 : Int32) (S : StS), bfX0_fail_82 p2 p3 x3 x4 s0 S = some q → ∀ (H : Heap) (locs : List Loc) (ls : Array Slot), va_P D vwCl (wS cI aS S) H → va_D A (wS cI aS S) → va_S A s.heap H locs → lv_has ls 8 [(0, .ref (aS 0)), (3, .int x3), (4, .int x4)] → W p l e (rmL 3) s m args below meth c H locs 0 0 Q (F0 m 82 ls [.int s0]) := by
    intro x3 x4 s0 S h H locs ls hP hD hS hl
    refine x_istore (lv' := [(5, .int s0), (0, .ref (aS 0)), (3, .int x3), (4, .int x4)]) C dX0_fail_82 hl (by decide) rfl (fun ls hl => ?_)
    refine x_iload C dX0_fail_84 hl 0 rfl ?_
    refine x_if_eq (tgt := 99) C h dX0_fail_86 (by decide) (fun h => ?_) (fun h => ?_)
    · refine x_iconst (v := (0 : Int32)) C dX0_fail_99 (by decide) ?_
      exact B100 _ _ _ _ _ h _ _ _ hP hD hS (lv_sub hl [1, 2, 3, 0] rfl)
    · refine x_aload_n C dX0_fail_89 rfl hl 1 rfl ?_
      refine x_iload_n C dX0_fail_90 rfl hl 2 rfl ?_
      refine x_iload C dX0_fail_91 hl 3 rfl ?_
      obtain ⟨u19, hu19, h⟩ := ob_some h
      refine x_callS (As := [.ref _, .int _, .int _]) (n := 3) C (kX0_delay l D cI cS aS _ _ _ hu19) (fun hh => nomatch hh) wm_X0_101 wt_X0_delay wz_X0 wc_X0_delay (by decide +kernel) rfl hP hD hS hA hl.1 dX0_fail_93 rfl (Nat.le_of_ble_eq_true rfl) ⟨Nat.le_of_ble_eq_true rfl, Nat.le_of_ble_eq_true rfl⟩ ⟨Nat.zero_le _, Nat.zero_le _⟩ (fun H locs hP hD hS => ?_)
      refine x_goto (tgt := 100) C dX0_fail_96 (by decide) ?_
      exact B100 _ _ _ _ _ h _ _ _ hP hD hS (lv_sub hl [1, 2, 3, 0] rfl)
  have B81 : ∀ (x3 : Int32) (x4 : Int32) (S : StS), bfX0_fail_81 p2 p3 x3 x4 S = some q → ∀ (H : Heap) (locs : List Loc) (ls : Array Slot), va_P D vwCl (wS cI aS S) H → va_D A (wS cI aS S) → va_S A s.heap H locs → lv_has ls 8 [(0, .ref (aS 0)), (3, .int x3), (4, .int x4)] → W p l e (rmL 3) s m args below meth c H locs 0 0 Q (F0 m 81 ls []) := by
    intro x3 x4 S h H locs ls hP hD hS hl
    refine x_iconst (v := (0 : Int32)) C dX0_fail_81 (by decide) ?_
    exact B82 _ _ _ _ h _ _ _ hP hD hS hl
  refine x_aload_n C dX0_fail_0 rfl hl 0 rfl ?_
  refine x_get C inX2 hP 0 rfl rfl 5 (by decide) wf_X0_69 rfl dX0_fail_1 ?_
  refine x_iconst (v := (0 : Int32)) C dX0_fail_4 (by decide) ?_
  refine x_iload_n C dX0_fail_5 rfl hl 1 rfl ?_
  refine x_callV (As := [.int _, .int _]) (n := 2) C (kS_find l D cI cS aS _ 5 (by decide) _ _) (fun hh => nomatch hh) wm_X0_79 wi_X3_find we_X3_find wz_X3 wc_X3_find (by decide +kernel) rfl hP hD hS hA 11 1 rfl rfl rfl hl.1 dX0_fail_6 rfl (Nat.le_of_ble_eq_true rfl) ⟨Nat.le_of_ble_eq_true rfl, Nat.le_of_ble_eq_true rfl⟩ ⟨Nat.zero_le _, Nat.zero_le _⟩ (fun H locs hP hD hS => ?_)
  refine x_nmi h (fun v20 h => ?_)
  refine x_istore_n (lv' := [(3, .int v20), (0, .ref (aS 0)), (1, .int p2), (2, .int p3)]) C dX0_fail_9 rfl hl (by decide) rfl (fun ls hl => ?_)
  refine x_iload_n C dX0_fail_10 rfl hl 0 rfl ?_
  refine x_bipush (v := (-9 : Int32)) C dX0_fail_11 (by decide) ?_
  refine x_icmp_ne (tgt := 17) C h dX0_fail_13 (by decide) (fun h => ?_) (fun h => ?_)
  · refine x_aload_n C dX0_fail_17 rfl hl 1 rfl ?_
    refine x_get C inX2 hP 0 rfl rfl 5 (by decide) wf_X0_69 rfl dX0_fail_18 ?_
    refine x_iload_n C dX0_fail_21 rfl hl 0 rfl ?_
    refine x_iconst (v := (1 : Int32)) C dX0_fail_22 (by decide) ?_
    refine x_callV (As := [.int _, .int _]) (n := 2) C (kS_get l D cI cS aS _ 5 (by decide) _ _) (fun hh => nomatch hh) wm_X0_41 wi_X3_get we_X3_get wz_X3 wc_X3_get (by decide +kernel) rfl hP hD hS hA 11 1 rfl rfl rfl hl.1 dX0_fail_23 rfl (Nat.le_of_ble_eq_true rfl) ⟨Nat.le_of_ble_eq_true rfl, Nat.le_of_ble_eq_true rfl⟩ ⟨Nat.zero_le _, Nat.zero_le _⟩ (fun H locs hP hD hS => ?_)
    refine x_nmi h (fun v21 h => ?_)
    refine x_istore (lv' := [(4, .int v21), (3, .int v20), (0, .ref (aS 0)), (1, .int p2), (2, .int p3)]) C dX0_fail_26 hl (by decide) rfl (fun ls hl => ?_)
    refine x_aload_n C dX0_fail_28 rfl hl 2 rfl ?_
    refine x_get C inX2 hP 0 rfl rfl 1 (by decide) wf_X0_54 rfl dX0_fail_29 ?_
    refine x_iload C dX0_fail_32 hl 0 rfl ?_
    refine x_iload_n C dX0_fail_34 rfl hl 4 rfl ?_
    refine x_iconst (v := (1 : Int32)) C dX0_fail_35 (by decide) ?_
    refine x_callV (As := [.int _, .int _, .int _]) (n := 3) C (kS_add l D cI cS aS _ 1 (by decide) _ _ _) (fun hh => nomatch hh) wm_X0_57 wi_X3_add we_X3_add wz_X3 wc_X3_add (by decide +kernel) rfl hP hD hS hA 3 1 rfl rfl rfl hl.1 dX0_fail_36 rfl (Nat.le_of_ble_eq_true rfl) ⟨Nat.le_of_ble_eq_true rfl, Nat.le_of_ble_eq_true rfl⟩ ⟨Nat.zero_le _, Nat.zero_le _⟩ (fun H locs hP hD hS => ?_)
    refine x_nmS (wS cI aS) h hP hD (fun S22 h hP hD => ?_)
    refine x_aload_n C dX0_fail_39 rfl hl 2 rfl ?_
    refine x_get C inX2 hP 0 rfl rfl 5 (by decide) wf_X0_69 rfl dX0_fail_40 ?_
    refine x_iload_n C dX0_fail_43 rfl hl 1 rfl ?_
    refine x_iconst (v := (3 : Int32)) C dX0_fail_44 (by decide) ?_
    refine x_callV (As := [.int _, .int _]) (n := 2) C (kS_get l D cI cS aS _ 5 (by decide) _ _) (fun hh => nomatch hh) wm_X0_41 wi_X3_get we_X3_get wz_X3 wc_X3_get (by decide +kernel) rfl hP hD hS hA 11 1 rfl rfl rfl hl.1 dX0_fail_45 rfl (Nat.le_of_ble_eq_true rfl) ⟨Nat.le_of_ble_eq_true rfl, Nat.le_of_ble_eq_true rfl⟩ ⟨Nat.zero_le _, Nat.zero_le _⟩ (fun H locs hP hD hS => ?_)
    refine x_aload_n C dX0_fail_48 rfl hl 2 rfl ?_
    refine x_get C inX2 hP 0 rfl rfl 0 (by decide) wf_X0_37 rfl dX0_fail_49 ?_
    refine x_iload C dX0_fail_52 hl 0 rfl ?_
    refine x_iconst (v := (3 : Int32)) C dX0_fail_54 (by decide) ?_
    refine x_callV (As := [.int _, .int _]) (n := 2) C (kS_get l D cI cS aS _ 0 (by decide) _ _) (fun hh => nomatch hh) wm_X0_41 wi_X3_get we_X3_get wz_X3 wc_X3_get (by decide +kernel) rfl hP hD hS hA 1 1 rfl rfl rfl hl.1 dX0_fail_55 rfl (Nat.le_of_ble_eq_true rfl) ⟨Nat.le_of_ble_eq_true rfl, Nat.le_of_ble_eq_true rfl⟩ ⟨Nat.zero_le _, Nat.zero_le _⟩ (fun H locs hP hD hS => ?_)
    refine x_icmp_ge (tgt := 81) C h dX0_fail_58 (by decide) (fun h => ?_) (fun h => ?_)
    · exact B81 _ _ _ h _ _ _ hP hD hS (lv_sub hl [2, 1, 0] rfl)
    · refine x_aload_n C dX0_fail_61 rfl hl 2 rfl ?_
      refine x_get C inX2 hP 0 rfl rfl 1 (by decide) wf_X0_54 rfl dX0_fail_62 ?_
      refine x_iload C dX0_fail_65 hl 0 rfl ?_
      refine x_bipush (v := (7 : Int32)) C dX0_fail_67 (by decide) ?_
      refine x_callV (As := [.int _, .int _]) (n := 2) C (kS_get l D cI cS aS _ 1 (by decide) _ _) (fun hh => nomatch hh) wm_X0_41 wi_X3_get we_X3_get wz_X3 wc_X3_get (by decide +kernel) rfl hP hD hS hA 3 1 rfl rfl rfl hl.1 dX0_fail_69 rfl (Nat.le_of_ble_eq_true rfl) ⟨Nat.le_of_ble_eq_true rfl, Nat.le_of_ble_eq_true rfl⟩ ⟨Nat.zero_le _, Nat.zero_le _⟩ (fun H locs hP hD hS => ?_)
      refine x_bipush (v := (10 : Int32)) C dX0_fail_72 (by decide) ?_
      refine x_icmp_lt (tgt := 81) C h dX0_fail_74 (by decide) (fun h => ?_) (fun h => ?_)
      · exact B81 _ _ _ h _ _ _ hP hD hS (lv_sub hl [2, 1, 0] rfl)
      · refine x_iconst (v := (1 : Int32)) C dX0_fail_77 (by decide) ?_
        refine x_goto (tgt := 82) C dX0_fail_78 (by decide) ?_
        exact B82 _ _ _ _ h _ _ _ hP hD hS (lv_sub hl [2, 1, 0] rfl)
  · exact RETh dX0_fail_16 h hP hD hS
theorem dX1_waste_0 : decode cX1_waste 0 = .ok (.aload_n 0, 1) := by decide +kernel
theorem dX1_waste_1 : decode cX1_waste 1 = .ok (.getfield 59, 3) := by decide +kernel
theorem dX1_waste_4 : decode cX1_waste 4 = .ok (.iload_n 1, 1) := by decide +kernel
theorem dX1_waste_5 : decode cX1_waste 5 = .ok (.iconst 0, 1) := by decide +kernel
theorem dX1_waste_6 : decode cX1_waste 6 = .ok (.invokevirtual 15, 3) := by decide +kernel
theorem dX1_waste_9 : decode cX1_waste 9 = .ok (.istore_n 2, 1) := by decide +kernel
theorem dX1_waste_10 : decode cX1_waste 10 = .ok (.aload_n 0, 1) := by decide +kernel
theorem dX1_waste_11 : decode cX1_waste 11 = .ok (.dup, 1) := by decide +kernel
theorem dX1_waste_12 : decode cX1_waste 12 = .ok (.getfield 123, 3) := by decide +kernel
theorem dX1_waste_15 : decode cX1_waste 15 = .ok (.aload_n 0, 1) := by decide +kernel
theorem dX1_waste_16 : decode cX1_waste 16 = .ok (.getfield 59, 3) := by decide +kernel
theorem dX1_waste_19 : decode cX1_waste 19 = .ok (.iload_n 1, 1) := by decide +kernel
theorem dX1_waste_20 : decode cX1_waste 20 = .ok (.iconst 4, 1) := by decide +kernel
theorem dX1_waste_21 : decode cX1_waste 21 = .ok (.invokevirtual 15, 3) := by decide +kernel
theorem dX1_waste_24 : decode cX1_waste 24 = .ok (.iadd, 1) := by decide +kernel
theorem dX1_waste_25 : decode cX1_waste 25 = .ok (.putfield 123, 3) := by decide +kernel
theorem dX1_waste_28 : decode cX1_waste 28 = .ok (.aload_n 0, 1) := by decide +kernel
theorem dX1_waste_29 : decode cX1_waste 29 = .ok (.getfield 59, 3) := by decide +kernel
theorem dX1_waste_32 : decode cX1_waste 32 = .ok (.iload_n 1, 1) := by decide +kernel
theorem dX1_waste_33 : decode cX1_waste 33 = .ok (.iconst 0, 1) := by decide +kernel
theorem dX1_waste_34 : decode cX1_waste 34 = .ok (.bipush (-9), 2) := by decide +kernel
theorem dX1_waste_36 : decode cX1_waste 36 = .ok (.invokevirtual 28, 3) := by decide +kernel
theorem dX1_waste_39 : decode cX1_waste 39 = .ok (.iload_n 2, 1) := by decide +kernel
theorem dX1_waste_40 : decode cX1_waste 40 = .ok (.ireturn, 1) := by decide +kernel
def fX1_waste (p2 : Int32) (S : StS) : Option (Int32 × (StS)) :=
  nm ((sget 7 S p2 (0 : Int32))) fun v4 => nm (S.1, upd S.2 16 ((S.2 16) + (sget 7 S p2 (4 : Int32)))) fun S5 => nm (sput 7 S5 p2 (0 : Int32) (-9 : Int32)) fun S6 => some (v4, S6)
set_option maxHeartbeats 4000000 in
set_option maxRecDepth 100000 in
theorem kX1_waste (l : Launch) (D : va_G) (cI cS : ClassId) (aS : Nat → Nat) (p2 : Int32) (S : StS) {q : Int32 × (StS)} (h : fX1_waste p2 S = some q) : Mc l D (tyL cI cS) false yX1_waste cX1_waste 3 (some .int) 2 [.ref (aS 0), .int p2] (wS cI aS S) (some (.int q.1)) (wS cI aS q.2) := by
  refine Mc_of RX1 (by decide +kernel) rfl wc_X1_waste (Nat.le_of_ble_eq_true rfl) ?_
  intro p e s m args below meth c A Q ls C hA hz hP hD hS hl RET
  have RETh : ∀ {pc : Nat} {ls : Array Slot} {H : Heap} {locs : List Loc} {x : Int32} {S1 : StS}, decode cX1_waste pc = .ok (.ireturn, 1) → some (x, S1) = some q → va_P D vwCl (wS cI aS S1) H → va_D A (wS cI aS S1) → va_S A s.heap H locs → W p l e (rmL 2) s m args below meth c H locs 0 0 Q (F0 m pc ls [.int x]) := by
    intro pc ls H locs x S1 hd h hP hD hS; cases h; exact RET (x_iret C hd) hP hD hS
  refine x_aload_n C dX1_waste_0 rfl hl 0 rfl ?_
  refine x_get C inX2 hP 0 rfl rfl 7 (by decide) wf_X1_59 rfl dX1_waste_1 ?_
  refine x_iload_n C dX1_waste_4 rfl hl 1 rfl ?_
  refine x_iconst (v := (0 : Int32)) C dX1_waste_5 (by decide) ?_
  refine x_callV (As := [.int _, .int _]) (n := 2) C (kS_get l D cI cS aS _ 7 (by decide) _ _) (fun hh => nomatch hh) wm_X1_15 wi_X3_get we_X3_get wz_X3 wc_X3_get (by decide +kernel) rfl hP hD hS hA 15 1 rfl rfl rfl hl.1 dX1_waste_6 rfl (Nat.le_of_ble_eq_true rfl) ⟨Nat.le_of_ble_eq_true rfl, Nat.le_of_ble_eq_true rfl⟩ ⟨Nat.zero_le _, Nat.zero_le _⟩ (fun H locs hP hD hS => ?_)
  refine x_nmi h (fun v4 h => ?_)
  refine x_istore_n (lv' := [(2, .int v4), (0, .ref (aS 0)), (1, .int p2)]) C dX1_waste_9 rfl hl (by decide) rfl (fun ls hl => ?_)
  refine x_aload_n C dX1_waste_10 rfl hl 1 rfl ?_
  refine x_dup C dX1_waste_11 rfl ?_
  refine x_get C inX2 hP 0 rfl rfl 16 (by decide) wf_X1_123 rfl dX1_waste_12 ?_
  refine x_aload_n C dX1_waste_15 rfl hl 1 rfl ?_
  refine x_get C inX2 hP 0 rfl rfl 7 (by decide) wf_X1_59 rfl dX1_waste_16 ?_
  refine x_iload_n C dX1_waste_19 rfl hl 2 rfl ?_
  refine x_iconst (v := (4 : Int32)) C dX1_waste_20 (by decide) ?_
  refine x_callV (As := [.int _, .int _]) (n := 2) C (kS_get l D cI cS aS _ 7 (by decide) _ _) (fun hh => nomatch hh) wm_X1_15 wi_X3_get we_X3_get wz_X3 wc_X3_get (by decide +kernel) rfl hP hD hS hA 15 1 rfl rfl rfl hl.1 dX1_waste_21 rfl (Nat.le_of_ble_eq_true rfl) ⟨Nat.le_of_ble_eq_true rfl, Nat.le_of_ble_eq_true rfl⟩ ⟨Nat.zero_le _, Nat.zero_le _⟩ (fun H locs hP hD hS => ?_)
  refine x_iadd C dX1_waste_24 ?_
  refine x_putM (wS cI aS) C h inX2 tyX2 tyX2_ok nmX2 hP hD hS 0 rfl rfl 16 (by decide) wf_X1_123 rfl (ft := .int) (by decide +kernel) rfl rfl (Nat.le_of_ble_eq_true rfl) rfl dX1_waste_25 (fun S5 h H locs hP hD hS => ?_)
  refine x_aload_n C dX1_waste_28 rfl hl 1 rfl ?_
  refine x_get C inX2 hP 0 rfl rfl 7 (by decide) wf_X1_59 rfl dX1_waste_29 ?_
  refine x_iload_n C dX1_waste_32 rfl hl 2 rfl ?_
  refine x_iconst (v := (0 : Int32)) C dX1_waste_33 (by decide) ?_
  refine x_bipush (v := (-9 : Int32)) C dX1_waste_34 (by decide) ?_
  refine x_callV (As := [.int _, .int _, .int _]) (n := 3) C (kS_put l D cI cS aS _ 7 (by decide) _ _ _) (fun hh => nomatch hh) wm_X1_28 wi_X3_put we_X3_put wz_X3 wc_X3_put (by decide +kernel) rfl hP hD hS hA 15 1 rfl rfl rfl hl.1 dX1_waste_36 rfl (Nat.le_of_ble_eq_true rfl) ⟨Nat.le_of_ble_eq_true rfl, Nat.le_of_ble_eq_true rfl⟩ ⟨Nat.zero_le _, Nat.zero_le _⟩ (fun H locs hP hD hS => ?_)
  refine x_nmS (wS cI aS) h hP hD (fun S6 h hP hD => ?_)
  refine x_iload_n C dX1_waste_39 rfl hl 0 rfl ?_
  exact RETh dX1_waste_40 h hP hD hS
theorem dX1_abandon_0 : decode cX1_abandon 0 = .ok (.aload_n 0, 1) := by decide +kernel
theorem dX1_abandon_1 : decode cX1_abandon 1 = .ok (.getfield 21, 3) := by decide +kernel
theorem dX1_abandon_4 : decode cX1_abandon 4 = .ok (.iconst 0, 1) := by decide +kernel
theorem dX1_abandon_5 : decode cX1_abandon 5 = .ok (.iload_n 1, 1) := by decide +kernel
theorem dX1_abandon_6 : decode cX1_abandon 6 = .ok (.invokevirtual 114, 3) := by decide +kernel
theorem dX1_abandon_9 : decode cX1_abandon 9 = .ok (.istore_n 2, 1) := by decide +kernel
theorem dX1_abandon_10 : decode cX1_abandon 10 = .ok (.aload_n 0, 1) := by decide +kernel
theorem dX1_abandon_11 : decode cX1_abandon 11 = .ok (.getfield 59, 3) := by decide +kernel
theorem dX1_abandon_14 : decode cX1_abandon 14 = .ok (.iconst 0, 1) := by decide +kernel
theorem dX1_abandon_15 : decode cX1_abandon 15 = .ok (.iload_n 1, 1) := by decide +kernel
theorem dX1_abandon_16 : decode cX1_abandon 16 = .ok (.invokevirtual 114, 3) := by decide +kernel
theorem dX1_abandon_19 : decode cX1_abandon 19 = .ok (.istore_n 3, 1) := by decide +kernel
theorem dX1_abandon_20 : decode cX1_abandon 20 = .ok (.aload_n 0, 1) := by decide +kernel
theorem dX1_abandon_21 : decode cX1_abandon 21 = .ok (.getfield 101, 3) := by decide +kernel
theorem dX1_abandon_24 : decode cX1_abandon 24 = .ok (.iconst 2, 1) := by decide +kernel
theorem dX1_abandon_25 : decode cX1_abandon 25 = .ok (.iconst 0, 1) := by decide +kernel
theorem dX1_abandon_26 : decode cX1_abandon 26 = .ok (.invokevirtual 15, 3) := by decide +kernel
theorem dX1_abandon_29 : decode cX1_abandon 29 = .ok (.ifCond .ne 26, 3) := by decide +kernel
theorem dX1_abandon_32 : decode cX1_abandon 32 = .ok (.aload_n 0, 1) := by decide +kernel
theorem dX1_abandon_33 : decode cX1_abandon 33 = .ok (.getfield 21, 3) := by decide +kernel
theorem dX1_abandon_36 : decode cX1_abandon 36 = .ok (.iload_n 2, 1) := by decide +kernel
theorem dX1_abandon_37 : decode cX1_abandon 37 = .ok (.iconst 0, 1) := by decide +kernel
theorem dX1_abandon_38 : decode cX1_abandon 38 = .ok (.bipush (-8), 2) := by decide +kernel
theorem dX1_abandon_40 : decode cX1_abandon 40 = .ok (.invokevirtual 28, 3) := by decide +kernel
theorem dX1_abandon_43 : decode cX1_abandon 43 = .ok (.aload_n 0, 1) := by decide +kernel
theorem dX1_abandon_44 : decode cX1_abandon 44 = .ok (.getfield 59, 3) := by decide +kernel
theorem dX1_abandon_47 : decode cX1_abandon 47 = .ok (.iload_n 3, 1) := by decide +kernel
theorem dX1_abandon_48 : decode cX1_abandon 48 = .ok (.iconst 0, 1) := by decide +kernel
theorem dX1_abandon_49 : decode cX1_abandon 49 = .ok (.bipush (-8), 2) := by decide +kernel
theorem dX1_abandon_51 : decode cX1_abandon 51 = .ok (.invokevirtual 28, 3) := by decide +kernel
theorem dX1_abandon_54 : decode cX1_abandon 54 = .ok (.return_, 1) := by decide +kernel
theorem dX1_abandon_55 : decode cX1_abandon 55 = .ok (.aload_n 0, 1) := by decide +kernel
theorem dX1_abandon_56 : decode cX1_abandon 56 = .ok (.getfield 21, 3) := by decide +kernel
theorem dX1_abandon_59 : decode cX1_abandon 59 = .ok (.iload_n 2, 1) := by decide +kernel
theorem dX1_abandon_60 : decode cX1_abandon 60 = .ok (.invokevirtual 70, 3) := by decide +kernel
theorem dX1_abandon_63 : decode cX1_abandon 63 = .ok (.iload_n 3, 1) := by decide +kernel
theorem dX1_abandon_64 : decode cX1_abandon 64 = .ok (.bipush (-9), 2) := by decide +kernel
theorem dX1_abandon_66 : decode cX1_abandon 66 = .ok (.if_icmp .eq 44, 3) := by decide +kernel
theorem dX1_abandon_69 : decode cX1_abandon 69 = .ok (.aload_n 0, 1) := by decide +kernel
theorem dX1_abandon_70 : decode cX1_abandon 70 = .ok (.getfield 38, 3) := by decide +kernel
theorem dX1_abandon_73 : decode cX1_abandon 73 = .ok (.aload_n 0, 1) := by decide +kernel
theorem dX1_abandon_74 : decode cX1_abandon 74 = .ok (.getfield 38, 3) := by decide +kernel
theorem dX1_abandon_77 : decode cX1_abandon 77 = .ok (.iconst 0, 1) := by decide +kernel
theorem dX1_abandon_78 : decode cX1_abandon 78 = .ok (.iload_n 3, 1) := by decide +kernel
theorem dX1_abandon_79 : decode cX1_abandon 79 = .ok (.invokevirtual 114, 3) := by decide +kernel
theorem dX1_abandon_82 : decode cX1_abandon 82 = .ok (.invokevirtual 70, 3) := by decide +kernel
theorem dX1_abandon_85 : decode cX1_abandon 85 = .ok (.aload_n 0, 1) := by decide +kernel
theorem dX1_abandon_86 : decode cX1_abandon 86 = .ok (.getfield 44, 3) := by decide +kernel
theorem dX1_abandon_89 : decode cX1_abandon 89 = .ok (.aload_n 0, 1) := by decide +kernel
theorem dX1_abandon_90 : decode cX1_abandon 90 = .ok (.getfield 44, 3) := by decide +kernel
theorem dX1_abandon_93 : decode cX1_abandon 93 = .ok (.iconst 0, 1) := by decide +kernel
theorem dX1_abandon_94 : decode cX1_abandon 94 = .ok (.iload_n 3, 1) := by decide +kernel
theorem dX1_abandon_95 : decode cX1_abandon 95 = .ok (.invokevirtual 114, 3) := by decide +kernel
theorem dX1_abandon_98 : decode cX1_abandon 98 = .ok (.iconst 0, 1) := by decide +kernel
theorem dX1_abandon_99 : decode cX1_abandon 99 = .ok (.bipush (-9), 2) := by decide +kernel
theorem dX1_abandon_101 : decode cX1_abandon 101 = .ok (.invokevirtual 28, 3) := by decide +kernel
theorem dX1_abandon_104 : decode cX1_abandon 104 = .ok (.aload_n 0, 1) := by decide +kernel
theorem dX1_abandon_105 : decode cX1_abandon 105 = .ok (.iload_n 3, 1) := by decide +kernel
theorem dX1_abandon_106 : decode cX1_abandon 106 = .ok (.invokestatic 78, 3) := by decide +kernel
theorem dX1_abandon_109 : decode cX1_abandon 109 = .ok (.pop, 1) := by decide +kernel
theorem dX1_abandon_110 : decode cX1_abandon 110 = .ok (.return_, 1) := by decide +kernel
def bfX1_abandon_110 (p2 : Int32) (S : StS) : Option (StS) :=
  some S
def fX1_abandon (p2 : Int32) (S : StS) : Option (StS) :=
  nm ((sfind 6 S (0 : Int32) p2)) fun v9 => nm ((sfind 7 S (0 : Int32) p2)) fun v10 => (if (sget 4 S (2 : Int32) (0 : Int32)) = 0 then nm (sput 6 S v9 (0 : Int32) (-8 : Int32)) fun S15 => nm (sput 7 S15 v10 (0 : Int32) (-8 : Int32)) fun S16 => some S16 else nm (sdrop 6 S v9) fun S11 => (if v10 = (-9 : Int32) then bfX1_abandon_110 p2  S11 else nm (sdrop 8 S11 ((sfind 8 S11 (0 : Int32) v10))) fun S12 => nm (sput 9 S12 ((sfind 9 S12 (0 : Int32) v10)) (0 : Int32) (-9 : Int32)) fun S13 => ob (fX1_waste v10 S13) fun u14 => bfX1_abandon_110 p2  u14.2))
set_option maxHeartbeats 4000000 in
set_option maxRecDepth 100000 in
theorem kX1_abandon (l : Launch) (D : va_G) (cI cS : ClassId) (aS : Nat → Nat) (p2 : Int32) (S : StS) {q : StS} (h : fX1_abandon p2 S = some q) : Mc l D (tyL cI cS) false yX1_abandon cX1_abandon 4 none 3 [.ref (aS 0), .int p2] (wS cI aS S) none (wS cI aS q) := by
  refine Mc_of RX1 (by decide +kernel) rfl wc_X1_abandon (Nat.le_of_ble_eq_true rfl) ?_
  intro p e s m args below meth c A Q ls C hA hz hP hD hS hl RET
  have RETh : ∀ {pc : Nat} {ls : Array Slot} {H : Heap} {locs : List Loc} {S1 : StS}, decode cX1_abandon pc = .ok (.return_, 1) → some S1 = some q → va_P D vwCl (wS cI aS S1) H → va_D A (wS cI aS S1) → va_S A s.heap H locs → W p l e (rmL 3) s m args below meth c H locs 0 0 Q (F0 m pc ls []) := by
    intro pc ls H locs S1 hd h hP hD hS; cases h; exact RET (x_vret C hd) hP hD hS
  have B110 : ∀ (S : StS), bfX1_abandon_110 p2 S = some q → ∀ (H : Heap) (locs : List Loc) (ls : Array Slot), va_P D vwCl (wS cI aS S) H → va_D A (wS cI aS S) → va_S A s.heap H locs → lv_has ls 4 [] → W p l e (rmL 3) s m args below meth c H locs 0 0 Q (F0 m 110 ls []) := by
    intro S h H locs ls hP hD hS hl
    exact RETh dX1_abandon_110 h hP hD hS
  refine x_aload_n C dX1_abandon_0 rfl hl 0 rfl ?_
  refine x_get C inX2 hP 0 rfl rfl 6 (by decide) wf_X1_21 rfl dX1_abandon_1 ?_
  refine x_iconst (v := (0 : Int32)) C dX1_abandon_4 (by decide) ?_
  refine x_iload_n C dX1_abandon_5 rfl hl 1 rfl ?_
  refine x_callV (As := [.int _, .int _]) (n := 2) C (kS_find l D cI cS aS _ 6 (by decide) _ _) (fun hh => nomatch hh) wm_X1_114 wi_X3_find we_X3_find wz_X3 wc_X3_find (by decide +kernel) rfl hP hD hS hA 13 1 rfl rfl rfl hl.1 dX1_abandon_6 rfl (Nat.le_of_ble_eq_true rfl) ⟨Nat.le_of_ble_eq_true rfl, Nat.le_of_ble_eq_true rfl⟩ ⟨Nat.zero_le _, Nat.zero_le _⟩ (fun H locs hP hD hS => ?_)
  refine x_nmi h (fun v9 h => ?_)
  refine x_istore_n (lv' := [(2, .int v9), (0, .ref (aS 0)), (1, .int p2)]) C dX1_abandon_9 rfl hl (by decide) rfl (fun ls hl => ?_)
  refine x_aload_n C dX1_abandon_10 rfl hl 1 rfl ?_
  refine x_get C inX2 hP 0 rfl rfl 7 (by decide) wf_X1_59 rfl dX1_abandon_11 ?_
  refine x_iconst (v := (0 : Int32)) C dX1_abandon_14 (by decide) ?_
  refine x_iload_n C dX1_abandon_15 rfl hl 2 rfl ?_
  refine x_callV (As := [.int _, .int _]) (n := 2) C (kS_find l D cI cS aS _ 7 (by decide) _ _) (fun hh => nomatch hh) wm_X1_114 wi_X3_find we_X3_find wz_X3 wc_X3_find (by decide +kernel) rfl hP hD hS hA 15 1 rfl rfl rfl hl.1 dX1_abandon_16 rfl (Nat.le_of_ble_eq_true rfl) ⟨Nat.le_of_ble_eq_true rfl, Nat.le_of_ble_eq_true rfl⟩ ⟨Nat.zero_le _, Nat.zero_le _⟩ (fun H locs hP hD hS => ?_)
  refine x_nmi h (fun v10 h => ?_)
  refine x_istore_n (lv' := [(3, .int v10), (2, .int v9), (0, .ref (aS 0)), (1, .int p2)]) C dX1_abandon_19 rfl hl (by decide) rfl (fun ls hl => ?_)
  refine x_aload_n C dX1_abandon_20 rfl hl 2 rfl ?_
  refine x_get C inX2 hP 0 rfl rfl 4 (by decide) wf_X1_101 rfl dX1_abandon_21 ?_
  refine x_iconst (v := (2 : Int32)) C dX1_abandon_24 (by decide) ?_
  refine x_iconst (v := (0 : Int32)) C dX1_abandon_25 (by decide) ?_
  refine x_callV (As := [.int _, .int _]) (n := 2) C (kS_get l D cI cS aS _ 4 (by decide) _ _) (fun hh => nomatch hh) wm_X1_15 wi_X3_get we_X3_get wz_X3 wc_X3_get (by decide +kernel) rfl hP hD hS hA 9 1 rfl rfl rfl hl.1 dX1_abandon_26 rfl (Nat.le_of_ble_eq_true rfl) ⟨Nat.le_of_ble_eq_true rfl, Nat.le_of_ble_eq_true rfl⟩ ⟨Nat.zero_le _, Nat.zero_le _⟩ (fun H locs hP hD hS => ?_)
  refine x_if_ne (tgt := 55) C h dX1_abandon_29 (by decide) (fun h => ?_) (fun h => ?_)
  · refine x_aload_n C dX1_abandon_55 rfl hl 2 rfl ?_
    refine x_get C inX2 hP 0 rfl rfl 6 (by decide) wf_X1_21 rfl dX1_abandon_56 ?_
    refine x_iload_n C dX1_abandon_59 rfl hl 1 rfl ?_
    refine x_callV (As := [.int _]) (n := 1) C (kS_drop l D cI cS aS _ 6 (by decide) _) (fun hh => nomatch hh) wm_X1_70 wi_X3_drop we_X3_drop wz_X3 wc_X3_drop (by decide +kernel) rfl hP hD hS hA 13 1 rfl rfl rfl hl.1 dX1_abandon_60 rfl (Nat.le_of_ble_eq_true rfl) ⟨Nat.le_of_ble_eq_true rfl, Nat.le_of_ble_eq_true rfl⟩ ⟨Nat.zero_le _, Nat.zero_le _⟩ (fun H locs hP hD hS => ?_)
    refine x_nmS (wS cI aS) h hP hD (fun S11 h hP hD => ?_)
    refine x_iload_n C dX1_abandon_63 rfl hl 0 rfl ?_
    refine x_bipush (v := (-9 : Int32)) C dX1_abandon_64 (by decide) ?_
    refine x_icmp_eq (tgt := 110) C h dX1_abandon_66 (by decide) (fun h => ?_) (fun h => ?_)
    · exact B110 _ h _ _ _ hP hD hS (lv_sub hl [] rfl)
    · refine x_aload_n C dX1_abandon_69 rfl hl 2 rfl ?_
      refine x_get C inX2 hP 0 rfl rfl 8 (by decide) wf_X1_38 rfl dX1_abandon_70 ?_
      refine x_aload_n C dX1_abandon_73 rfl hl 2 rfl ?_
      refine x_get C inX2 hP 0 rfl rfl 8 (by decide) wf_X1_38 rfl dX1_abandon_74 ?_
      refine x_iconst (v := (0 : Int32)) C dX1_abandon_77 (by decide) ?_
      refine x_iload_n C dX1_abandon_78 rfl hl 0 rfl ?_
      refine x_callV (As := [.int _, .int _]) (n := 2) C (kS_find l D cI cS aS _ 8 (by decide) _ _) (fun hh => nomatch hh) wm_X1_114 wi_X3_find we_X3_find wz_X3 wc_X3_find (by decide +kernel) rfl hP hD hS hA 17 1 rfl rfl rfl hl.1 dX1_abandon_79 rfl (Nat.le_of_ble_eq_true rfl) ⟨Nat.le_of_ble_eq_true rfl, Nat.le_of_ble_eq_true rfl⟩ ⟨Nat.zero_le _, Nat.zero_le _⟩ (fun H locs hP hD hS => ?_)
      refine x_callV (As := [.int _]) (n := 1) C (kS_drop l D cI cS aS _ 8 (by decide) _) (fun hh => nomatch hh) wm_X1_70 wi_X3_drop we_X3_drop wz_X3 wc_X3_drop (by decide +kernel) rfl hP hD hS hA 17 1 rfl rfl rfl hl.1 dX1_abandon_82 rfl (Nat.le_of_ble_eq_true rfl) ⟨Nat.le_of_ble_eq_true rfl, Nat.le_of_ble_eq_true rfl⟩ ⟨Nat.zero_le _, Nat.zero_le _⟩ (fun H locs hP hD hS => ?_)
      refine x_nmS (wS cI aS) h hP hD (fun S12 h hP hD => ?_)
      refine x_aload_n C dX1_abandon_85 rfl hl 2 rfl ?_
      refine x_get C inX2 hP 0 rfl rfl 9 (by decide) wf_X1_44 rfl dX1_abandon_86 ?_
      refine x_aload_n C dX1_abandon_89 rfl hl 2 rfl ?_
      refine x_get C inX2 hP 0 rfl rfl 9 (by decide) wf_X1_44 rfl dX1_abandon_90 ?_
      refine x_iconst (v := (0 : Int32)) C dX1_abandon_93 (by decide) ?_
      refine x_iload_n C dX1_abandon_94 rfl hl 0 rfl ?_
      refine x_callV (As := [.int _, .int _]) (n := 2) C (kS_find l D cI cS aS _ 9 (by decide) _ _) (fun hh => nomatch hh) wm_X1_114 wi_X3_find we_X3_find wz_X3 wc_X3_find (by decide +kernel) rfl hP hD hS hA 19 1 rfl rfl rfl hl.1 dX1_abandon_95 rfl (Nat.le_of_ble_eq_true rfl) ⟨Nat.le_of_ble_eq_true rfl, Nat.le_of_ble_eq_true rfl⟩ ⟨Nat.zero_le _, Nat.zero_le _⟩ (fun H locs hP hD hS => ?_)
      refine x_iconst (v := (0 : Int32)) C dX1_abandon_98 (by decide) ?_
      refine x_bipush (v := (-9 : Int32)) C dX1_abandon_99 (by decide) ?_
      refine x_callV (As := [.int _, .int _, .int _]) (n := 3) C (kS_put l D cI cS aS _ 9 (by decide) _ _ _) (fun hh => nomatch hh) wm_X1_28 wi_X3_put we_X3_put wz_X3 wc_X3_put (by decide +kernel) rfl hP hD hS hA 19 1 rfl rfl rfl hl.1 dX1_abandon_101 rfl (Nat.le_of_ble_eq_true rfl) ⟨Nat.le_of_ble_eq_true rfl, Nat.le_of_ble_eq_true rfl⟩ ⟨Nat.zero_le _, Nat.zero_le _⟩ (fun H locs hP hD hS => ?_)
      refine x_nmS (wS cI aS) h hP hD (fun S13 h hP hD => ?_)
      refine x_aload_n C dX1_abandon_104 rfl hl 2 rfl ?_
      refine x_iload_n C dX1_abandon_105 rfl hl 0 rfl ?_
      obtain ⟨u14, hu14, h⟩ := ob_some h
      refine x_callS (As := [.ref _, .int _]) (n := 2) C (kX1_waste l D cI cS aS _ _ hu14) (fun hh => nomatch hh) wm_X1_78 wt_X1_waste wz_X1 wc_X1_waste (by decide +kernel) rfl hP hD hS hA hl.1 dX1_abandon_106 rfl (Nat.le_of_ble_eq_true rfl) ⟨Nat.le_of_ble_eq_true rfl, Nat.le_of_ble_eq_true rfl⟩ ⟨Nat.zero_le _, Nat.zero_le _⟩ (fun H locs hP hD hS => ?_)
      refine x_pop C dX1_abandon_109 rfl ?_
      exact B110 _ h _ _ _ hP hD hS (lv_sub hl [] rfl)
  · refine x_aload_n C dX1_abandon_32 rfl hl 2 rfl ?_
    refine x_get C inX2 hP 0 rfl rfl 6 (by decide) wf_X1_21 rfl dX1_abandon_33 ?_
    refine x_iload_n C dX1_abandon_36 rfl hl 1 rfl ?_
    refine x_iconst (v := (0 : Int32)) C dX1_abandon_37 (by decide) ?_
    refine x_bipush (v := (-8 : Int32)) C dX1_abandon_38 (by decide) ?_
    refine x_callV (As := [.int _, .int _, .int _]) (n := 3) C (kS_put l D cI cS aS _ 6 (by decide) _ _ _) (fun hh => nomatch hh) wm_X1_28 wi_X3_put we_X3_put wz_X3 wc_X3_put (by decide +kernel) rfl hP hD hS hA 13 1 rfl rfl rfl hl.1 dX1_abandon_40 rfl (Nat.le_of_ble_eq_true rfl) ⟨Nat.le_of_ble_eq_true rfl, Nat.le_of_ble_eq_true rfl⟩ ⟨Nat.zero_le _, Nat.zero_le _⟩ (fun H locs hP hD hS => ?_)
    refine x_nmS (wS cI aS) h hP hD (fun S15 h hP hD => ?_)
    refine x_aload_n C dX1_abandon_43 rfl hl 2 rfl ?_
    refine x_get C inX2 hP 0 rfl rfl 7 (by decide) wf_X1_59 rfl dX1_abandon_44 ?_
    refine x_iload_n C dX1_abandon_47 rfl hl 0 rfl ?_
    refine x_iconst (v := (0 : Int32)) C dX1_abandon_48 (by decide) ?_
    refine x_bipush (v := (-8 : Int32)) C dX1_abandon_49 (by decide) ?_
    refine x_callV (As := [.int _, .int _, .int _]) (n := 3) C (kS_put l D cI cS aS _ 7 (by decide) _ _ _) (fun hh => nomatch hh) wm_X1_28 wi_X3_put we_X3_put wz_X3 wc_X3_put (by decide +kernel) rfl hP hD hS hA 15 1 rfl rfl rfl hl.1 dX1_abandon_51 rfl (Nat.le_of_ble_eq_true rfl) ⟨Nat.le_of_ble_eq_true rfl, Nat.le_of_ble_eq_true rfl⟩ ⟨Nat.zero_le _, Nat.zero_le _⟩ (fun H locs hP hD hS => ?_)
    refine x_nmS (wS cI aS) h hP hD (fun S16 h hP hD => ?_)
    exact RETh dX1_abandon_54 h hP hD hS
theorem dX2_nextDue_0 : decode cX2_nextDue 0 = .ok (.iconst 0, 1) := by decide +kernel
theorem dX2_nextDue_1 : decode cX2_nextDue 1 = .ok (.istore_n 3, 1) := by decide +kernel
theorem dX2_nextDue_2 : decode cX2_nextDue 2 = .ok (.iload_n 3, 1) := by decide +kernel
theorem dX2_nextDue_3 : decode cX2_nextDue 3 = .ok (.aload_n 0, 1) := by decide +kernel
theorem dX2_nextDue_4 : decode cX2_nextDue 4 = .ok (.getfield 32, 3) := by decide +kernel
theorem dX2_nextDue_7 : decode cX2_nextDue 7 = .ok (.invokevirtual 98, 3) := by decide +kernel
theorem dX2_nextDue_10 : decode cX2_nextDue 10 = .ok (.if_icmp .ge 81, 3) := by decide +kernel
theorem dX2_nextDue_13 : decode cX2_nextDue 13 = .ok (.aload_n 0, 1) := by decide +kernel
theorem dX2_nextDue_14 : decode cX2_nextDue 14 = .ok (.getfield 32, 3) := by decide +kernel
theorem dX2_nextDue_17 : decode cX2_nextDue 17 = .ok (.iload_n 3, 1) := by decide +kernel
theorem dX2_nextDue_18 : decode cX2_nextDue 18 = .ok (.iconst 0, 1) := by decide +kernel
theorem dX2_nextDue_19 : decode cX2_nextDue 19 = .ok (.invokevirtual 91, 3) := by decide +kernel
theorem dX2_nextDue_22 : decode cX2_nextDue 22 = .ok (.iload_n 1, 1) := by decide +kernel
theorem dX2_nextDue_23 : decode cX2_nextDue 23 = .ok (.if_icmp .le 7, 3) := by decide +kernel
theorem dX2_nextDue_26 : decode cX2_nextDue 26 = .ok (.iconst 1, 1) := by decide +kernel
theorem dX2_nextDue_27 : decode cX2_nextDue 27 = .ok (.goto 4, 3) := by decide +kernel
theorem dX2_nextDue_30 : decode cX2_nextDue 30 = .ok (.iconst 0, 1) := by decide +kernel
theorem dX2_nextDue_31 : decode cX2_nextDue 31 = .ok (.istore 4, 2) := by decide +kernel
theorem dX2_nextDue_33 : decode cX2_nextDue 33 = .ok (.iload 4, 2) := by decide +kernel
theorem dX2_nextDue_35 : decode cX2_nextDue 35 = .ok (.ifCond .eq 50, 3) := by decide +kernel
theorem dX2_nextDue_38 : decode cX2_nextDue 38 = .ok (.aload_n 0, 1) := by decide +kernel
theorem dX2_nextDue_39 : decode cX2_nextDue 39 = .ok (.getfield 32, 3) := by decide +kernel
theorem dX2_nextDue_42 : decode cX2_nextDue 42 = .ok (.iload_n 3, 1) := by decide +kernel
theorem dX2_nextDue_43 : decode cX2_nextDue 43 = .ok (.iconst 4, 1) := by decide +kernel
theorem dX2_nextDue_44 : decode cX2_nextDue 44 = .ok (.invokevirtual 91, 3) := by decide +kernel
theorem dX2_nextDue_47 : decode cX2_nextDue 47 = .ok (.iload_n 2, 1) := by decide +kernel
theorem dX2_nextDue_48 : decode cX2_nextDue 48 = .ok (.ifCond .eq 7, 3) := by decide +kernel
theorem dX2_nextDue_51 : decode cX2_nextDue 51 = .ok (.iconst 1, 1) := by decide +kernel
theorem dX2_nextDue_52 : decode cX2_nextDue 52 = .ok (.goto 4, 3) := by decide +kernel
theorem dX2_nextDue_55 : decode cX2_nextDue 55 = .ok (.iconst 0, 1) := by decide +kernel
theorem dX2_nextDue_56 : decode cX2_nextDue 56 = .ok (.if_icmp .ne 29, 3) := by decide +kernel
theorem dX2_nextDue_59 : decode cX2_nextDue 59 = .ok (.aload_n 0, 1) := by decide +kernel
theorem dX2_nextDue_60 : decode cX2_nextDue 60 = .ok (.getfield 32, 3) := by decide +kernel
theorem dX2_nextDue_63 : decode cX2_nextDue 63 = .ok (.iload_n 3, 1) := by decide +kernel
theorem dX2_nextDue_64 : decode cX2_nextDue 64 = .ok (.iconst 5, 1) := by decide +kernel
theorem dX2_nextDue_65 : decode cX2_nextDue 65 = .ok (.invokevirtual 91, 3) := by decide +kernel
theorem dX2_nextDue_68 : decode cX2_nextDue 68 = .ok (.aload_n 0, 1) := by decide +kernel
theorem dX2_nextDue_69 : decode cX2_nextDue 69 = .ok (.getfield 72, 3) := by decide +kernel
theorem dX2_nextDue_72 : decode cX2_nextDue 72 = .ok (.if_icmp .gt 13, 3) := by decide +kernel
theorem dX2_nextDue_75 : decode cX2_nextDue 75 = .ok (.aload_n 0, 1) := by decide +kernel
theorem dX2_nextDue_76 : decode cX2_nextDue 76 = .ok (.getfield 32, 3) := by decide +kernel
theorem dX2_nextDue_79 : decode cX2_nextDue 79 = .ok (.iload_n 3, 1) := by decide +kernel
theorem dX2_nextDue_80 : decode cX2_nextDue 80 = .ok (.iconst 0, 1) := by decide +kernel
theorem dX2_nextDue_81 : decode cX2_nextDue 81 = .ok (.invokevirtual 91, 3) := by decide +kernel
theorem dX2_nextDue_84 : decode cX2_nextDue 84 = .ok (.ireturn, 1) := by decide +kernel
theorem dX2_nextDue_85 : decode cX2_nextDue 85 = .ok (.iinc 3 1, 3) := by decide +kernel
theorem dX2_nextDue_88 : decode cX2_nextDue 88 = .ok (.goto (-86), 3) := by decide +kernel
theorem dX2_nextDue_91 : decode cX2_nextDue 91 = .ok (.bipush (-9), 2) := by decide +kernel
theorem dX2_nextDue_93 : decode cX2_nextDue 93 = .ok (.ireturn, 1) := by decide +kernel
def bfX2_nextDue_85 (p1 : Int32) (p2 : Int32) (S : StS) (K2 : Int32 → Option (Int32)) (x3 : Int32) : Option (Int32) :=
  K2 ((x3 + (1 : Int32)))
def bfX2_nextDue_56 (p1 : Int32) (p2 : Int32) (S : StS) (K2 : Int32 → Option (Int32)) (x3 : Int32) (s0 : Int32) (s1 : Int32) : Option (Int32) :=
  (if s0 = s1 then (if (S.2 12) < (sget 5 S x3 (5 : Int32)) then bfX2_nextDue_85 p1 p2 S K2 x3 else some (sget 5 S x3 (0 : Int32))) else bfX2_nextDue_85 p1 p2 S K2 x3)
def bfX2_nextDue_31 (p1 : Int32) (p2 : Int32) (S : StS) (K2 : Int32 → Option (Int32)) (x3 : Int32) (s0 : Int32) : Option (Int32) :=
  (if s0 = 0 then bfX2_nextDue_85 p1 p2 S K2 x3 else (if p2 = 0 then bfX2_nextDue_56 p1 p2 S K2 x3 ((sget 5 S x3 (4 : Int32))) ((0 : Int32)) else bfX2_nextDue_56 p1 p2 S K2 x3 ((sget 5 S x3 (4 : Int32))) ((1 : Int32))))
def bfX2_nextDue_2 (p1 : Int32) (p2 : Int32) (S : StS) (K2 : Int32 → Option (Int32)) (x3 : Int32) : Option (Int32) :=
  (if (ssize 5 S) ≤ x3 then some (-9 : Int32) else (if (sget 5 S x3 (0 : Int32)) ≤ p1 then bfX2_nextDue_31 p1 p2 S K2 x3 ((0 : Int32)) else bfX2_nextDue_31 p1 p2 S K2 x3 ((1 : Int32))))
def fX2_nextDue (p1 : Int32) (p2 : Int32) (S : StS) : Option (Int32) :=
  iter (bfX2_nextDue_2 p1 p2 S) FU ((0 : Int32))
set_option maxHeartbeats 4000000 in
set_option maxRecDepth 100000 in
theorem kX2_nextDue (l : Launch) (D : va_G) (cI cS : ClassId) (aS : Nat → Nat) (p1 : Int32) (p2 : Int32) (S : StS) {q : Int32} (h : fX2_nextDue p1 p2 S = some q) : Mc l D (tyL cI cS) false yX2_nextDue cX2_nextDue 5 (some .int) 2 [.ref (aS 0), .int p1, .int p2] (wS cI aS S) (some (.int q)) (wS cI aS S) := by
  refine Mc_of RX2 (by decide +kernel) rfl wc_X2_nextDue (Nat.le_of_ble_eq_true rfl) ?_
  intro p e s m args below meth c A Q ls C hA hz hP hD hS hl RET
  have RETh : ∀ {pc : Nat} {ls : Array Slot} {H : Heap} {locs : List Loc} {x : Int32} , decode cX2_nextDue pc = .ok (.ireturn, 1) → some x = some q → va_P D vwCl (wS cI aS S) H → va_D A (wS cI aS S) → va_S A s.heap H locs → W p l e (rmL 2) s m args below meth c H locs 0 0 Q (F0 m pc ls [.int x]) := by
    intro pc ls H locs x hd h hP hD hS; cases h; exact RET (x_iret C hd) hP hD hS
  have B85 : ∀ (K2 : Int32 → Option (Int32)) (ih2 : ∀ x, K2 x = some q → (fun (x3 : Int32) => ∀ (H : Heap) (locs : List Loc) (ls : Array Slot), va_P D vwCl (wS cI aS S) H → va_D A (wS cI aS S) → va_S A s.heap H locs → lv_has ls 5 [(0, .ref (aS 0)), (1, .int p1), (2, .int p2), (3, .int x3)] → W p l e (rmL 2) s m args below meth c H locs 0 0 Q (F0 m 2 ls [])) x) (x3 : Int32), bfX2_nextDue_85 p1 p2 S K2 x3 = some q → ∀ (H : Heap) (locs : List Loc) (ls : Array Slot), va_P D vwCl (wS cI aS S) H → va_D A (wS cI aS S) → va_S A s.heap H locs → lv_has ls 5 [(0, .ref (aS 0)), (1, .int p1), (2, .int p2), (3, .int x3)] → W p l e (rmL 2) s m args below meth c H locs 0 0 Q (F0 m 85 ls []) := by
    intro K2 ih2 x3 h H locs ls hP hD hS hl
    refine x_iinc (v := (x3 + (1 : Int32))) (lv' := [(3, .int (x3 + (1 : Int32))), (0, .ref (aS 0)), (1, .int p1), (2, .int p2)]) C dX2_nextDue_85 hl (k := 3) rfl rfl (by decide) rfl (fun ls hl => ?_)
    refine x_goto (tgt := 2) C dX2_nextDue_88 (by decide) ?_
    exact ih2 _ h _ _ _ hP hD hS (lv_sub hl [1, 2, 3, 0] rfl)
  have B56 : ∀ (K2 : Int32 → Option (Int32)) (ih2 : ∀ x, K2 x = some q → (fun (x3 : Int32) => ∀ (H : Heap) (locs : List Loc) (ls : Array Slot), va_P D vwCl (wS cI aS S) H → va_D A (wS cI aS S) → va_S A s.heap H locs → lv_has ls 5 [(0, .ref (aS 0)), (1, .int p1), (2, .int p2), (3, .int x3)] → W p l e (rmL 2) s m args below meth c H locs 0 0 Q (F0 m 2 ls [])) x) (x3 : Int32) (s0 : Int32) (s1 : Int32), bfX2_nextDue_56 p1 p2 S K2 x3 s0 s1 = some q → ∀ (H : Heap) (locs : List Loc) (ls : Array Slot), va_P D vwCl (wS cI aS S) H → va_D A (wS cI aS S) → va_S A s.heap H locs → lv_has ls 5 [(0, .ref (aS 0)), (1, .int p1), (2, .int p2), (3, .int x3)] → W p l e (rmL 2) s m args below meth c H locs 0 0 Q (F0 m 56 ls [.int s1, .int s0]) := by
    intro K2 ih2 x3 s0 s1 h H locs ls hP hD hS hl
    refine x_icmp_ne (tgt := 85) C h dX2_nextDue_56 (by decide) (fun h => ?_) (fun h => ?_)
    · exact B85 K2 ih2 _ h _ _ _ hP hD hS hl
    · refine x_aload_n C dX2_nextDue_59 rfl hl 0 rfl ?_
      refine x_get C inX2 hP 0 rfl rfl 5 (by decide) wf_X2_32 rfl dX2_nextDue_60 ?_
      refine x_iload_n C dX2_nextDue_63 rfl hl 3 rfl ?_
      refine x_iconst (v := (5 : Int32)) C dX2_nextDue_64 (by decide) ?_
      refine x_callV (As := [.int _, .int _]) (n := 2) C (kS_get l D cI cS aS _ 5 (by decide) _ _) (fun hh => nomatch hh) wm_X2_91 wi_X3_get we_X3_get wz_X3 wc_X3_get (by decide +kernel) rfl hP hD hS hA 11 1 rfl rfl rfl hl.1 dX2_nextDue_65 rfl (Nat.le_of_ble_eq_true rfl) ⟨Nat.le_of_ble_eq_true rfl, Nat.le_of_ble_eq_true rfl⟩ ⟨Nat.zero_le _, Nat.zero_le _⟩ (fun H locs hP hD hS => ?_)
      refine x_aload_n C dX2_nextDue_68 rfl hl 0 rfl ?_
      refine x_get C inX2 hP 0 rfl rfl 12 (by decide) wf_X2_72 rfl dX2_nextDue_69 ?_
      refine x_icmp_gt (tgt := 85) C h dX2_nextDue_72 (by decide) (fun h => ?_) (fun h => ?_)
      · exact B85 K2 ih2 _ h _ _ _ hP hD hS hl
      · refine x_aload_n C dX2_nextDue_75 rfl hl 0 rfl ?_
        refine x_get C inX2 hP 0 rfl rfl 5 (by decide) wf_X2_32 rfl dX2_nextDue_76 ?_
        refine x_iload_n C dX2_nextDue_79 rfl hl 3 rfl ?_
        refine x_iconst (v := (0 : Int32)) C dX2_nextDue_80 (by decide) ?_
        refine x_callV (As := [.int _, .int _]) (n := 2) C (kS_get l D cI cS aS _ 5 (by decide) _ _) (fun hh => nomatch hh) wm_X2_91 wi_X3_get we_X3_get wz_X3 wc_X3_get (by decide +kernel) rfl hP hD hS hA 11 1 rfl rfl rfl hl.1 dX2_nextDue_81 rfl (Nat.le_of_ble_eq_true rfl) ⟨Nat.le_of_ble_eq_true rfl, Nat.le_of_ble_eq_true rfl⟩ ⟨Nat.zero_le _, Nat.zero_le _⟩ (fun H locs hP hD hS => ?_)
        exact RETh dX2_nextDue_84 h hP hD hS
  have B31 : ∀ (K2 : Int32 → Option (Int32)) (ih2 : ∀ x, K2 x = some q → (fun (x3 : Int32) => ∀ (H : Heap) (locs : List Loc) (ls : Array Slot), va_P D vwCl (wS cI aS S) H → va_D A (wS cI aS S) → va_S A s.heap H locs → lv_has ls 5 [(0, .ref (aS 0)), (1, .int p1), (2, .int p2), (3, .int x3)] → W p l e (rmL 2) s m args below meth c H locs 0 0 Q (F0 m 2 ls [])) x) (x3 : Int32) (s0 : Int32), bfX2_nextDue_31 p1 p2 S K2 x3 s0 = some q → ∀ (H : Heap) (locs : List Loc) (ls : Array Slot), va_P D vwCl (wS cI aS S) H → va_D A (wS cI aS S) → va_S A s.heap H locs → lv_has ls 5 [(0, .ref (aS 0)), (1, .int p1), (2, .int p2), (3, .int x3)] → W p l e (rmL 2) s m args below meth c H locs 0 0 Q (F0 m 31 ls [.int s0]) := by
    intro K2 ih2 x3 s0 h H locs ls hP hD hS hl
    refine x_istore (lv' := [(4, .int s0), (0, .ref (aS 0)), (1, .int p1), (2, .int p2), (3, .int x3)]) C dX2_nextDue_31 hl (by decide) rfl (fun ls hl => ?_)
    refine x_iload C dX2_nextDue_33 hl 0 rfl ?_
    refine x_if_eq (tgt := 85) C h dX2_nextDue_35 (by decide) (fun h => ?_) (fun h => ?_)
    · exact B85 K2 ih2 _ h _ _ _ hP hD hS (lv_sub hl [1, 2, 3, 4] rfl)
    · refine x_aload_n C dX2_nextDue_38 rfl hl 1 rfl ?_
      refine x_get C inX2 hP 0 rfl rfl 5 (by decide) wf_X2_32 rfl dX2_nextDue_39 ?_
      refine x_iload_n C dX2_nextDue_42 rfl hl 4 rfl ?_
      refine x_iconst (v := (4 : Int32)) C dX2_nextDue_43 (by decide) ?_
      refine x_callV (As := [.int _, .int _]) (n := 2) C (kS_get l D cI cS aS _ 5 (by decide) _ _) (fun hh => nomatch hh) wm_X2_91 wi_X3_get we_X3_get wz_X3 wc_X3_get (by decide +kernel) rfl hP hD hS hA 11 1 rfl rfl rfl hl.1 dX2_nextDue_44 rfl (Nat.le_of_ble_eq_true rfl) ⟨Nat.le_of_ble_eq_true rfl, Nat.le_of_ble_eq_true rfl⟩ ⟨Nat.zero_le _, Nat.zero_le _⟩ (fun H locs hP hD hS => ?_)
      refine x_iload_n C dX2_nextDue_47 rfl hl 3 rfl ?_
      refine x_if_eq (tgt := 55) C h dX2_nextDue_48 (by decide) (fun h => ?_) (fun h => ?_)
      · refine x_iconst (v := (0 : Int32)) C dX2_nextDue_55 (by decide) ?_
        exact B56 K2 ih2 _ _ _ h _ _ _ hP hD hS (lv_sub hl [1, 2, 3, 4] rfl)
      · refine x_iconst (v := (1 : Int32)) C dX2_nextDue_51 (by decide) ?_
        refine x_goto (tgt := 56) C dX2_nextDue_52 (by decide) ?_
        exact B56 K2 ih2 _ _ _ h _ _ _ hP hD hS (lv_sub hl [1, 2, 3, 4] rfl)
  have B2 : ∀ (n : Nat) (x : Int32), iter (bfX2_nextDue_2 p1 p2 S) n x = some q → (fun (x3 : Int32) => ∀ (H : Heap) (locs : List Loc) (ls : Array Slot), va_P D vwCl (wS cI aS S) H → va_D A (wS cI aS S) → va_S A s.heap H locs → lv_has ls 5 [(0, .ref (aS 0)), (1, .int p1), (2, .int p2), (3, .int x3)] → W p l e (rmL 2) s m args below meth c H locs 0 0 Q (F0 m 2 ls [])) x := by
    refine iter_ind (fun x : Int32 => (fun (x3 : Int32) => ∀ (H : Heap) (locs : List Loc) (ls : Array Slot), va_P D vwCl (wS cI aS S) H → va_D A (wS cI aS S) → va_S A s.heap H locs → lv_has ls 5 [(0, .ref (aS 0)), (1, .int p1), (2, .int p2), (3, .int x3)] → W p l e (rmL 2) s m args below meth c H locs 0 0 Q (F0 m 2 ls [])) x) ?_
    intro K2 ih2 x h
    obtain ⟨x3, rfl⟩ : ∃ y, y = x := ⟨_, rfl⟩
    intro H locs ls hP hD hS hl
    refine x_iload_n C dX2_nextDue_2 rfl hl 3 rfl ?_
    refine x_aload_n C dX2_nextDue_3 rfl hl 0 rfl ?_
    refine x_get C inX2 hP 0 rfl rfl 5 (by decide) wf_X2_32 rfl dX2_nextDue_4 ?_
    refine x_callV (As := []) (n := 0) C (kS_size l D cI cS aS _ 5 (by decide)) (fun hh => nomatch hh) wm_X2_98 wi_X3_size we_X3_size wz_X3 wc_X3_size (by decide +kernel) rfl hP hD hS hA 11 1 rfl rfl rfl hl.1 dX2_nextDue_7 rfl (Nat.le_of_ble_eq_true rfl) ⟨Nat.le_of_ble_eq_true rfl, Nat.le_of_ble_eq_true rfl⟩ ⟨Nat.zero_le _, Nat.zero_le _⟩ (fun H locs hP hD hS => ?_)
    refine x_icmp_ge (tgt := 91) C h dX2_nextDue_10 (by decide) (fun h => ?_) (fun h => ?_)
    · refine x_bipush (v := (-9 : Int32)) C dX2_nextDue_91 (by decide) ?_
      exact RETh dX2_nextDue_93 h hP hD hS
    · refine x_aload_n C dX2_nextDue_13 rfl hl 0 rfl ?_
      refine x_get C inX2 hP 0 rfl rfl 5 (by decide) wf_X2_32 rfl dX2_nextDue_14 ?_
      refine x_iload_n C dX2_nextDue_17 rfl hl 3 rfl ?_
      refine x_iconst (v := (0 : Int32)) C dX2_nextDue_18 (by decide) ?_
      refine x_callV (As := [.int _, .int _]) (n := 2) C (kS_get l D cI cS aS _ 5 (by decide) _ _) (fun hh => nomatch hh) wm_X2_91 wi_X3_get we_X3_get wz_X3 wc_X3_get (by decide +kernel) rfl hP hD hS hA 11 1 rfl rfl rfl hl.1 dX2_nextDue_19 rfl (Nat.le_of_ble_eq_true rfl) ⟨Nat.le_of_ble_eq_true rfl, Nat.le_of_ble_eq_true rfl⟩ ⟨Nat.zero_le _, Nat.zero_le _⟩ (fun H locs hP hD hS => ?_)
      refine x_iload_n C dX2_nextDue_22 rfl hl 1 rfl ?_
      refine x_icmp_le (tgt := 30) C h dX2_nextDue_23 (by decide) (fun h => ?_) (fun h => ?_)
      · refine x_iconst (v := (0 : Int32)) C dX2_nextDue_30 (by decide) ?_
        exact B31 K2 ih2 _ _ h _ _ _ hP hD hS hl
      · refine x_iconst (v := (1 : Int32)) C dX2_nextDue_26 (by decide) ?_
        refine x_goto (tgt := 31) C dX2_nextDue_27 (by decide) ?_
        exact B31 K2 ih2 _ _ h _ _ _ hP hD hS hl
  refine x_iconst (v := (0 : Int32)) C dX2_nextDue_0 (by decide) ?_
  refine x_istore_n (lv' := [(3, .int (0 : Int32)), (0, .ref (aS 0)), (1, .int p1), (2, .int p2)]) C dX2_nextDue_1 rfl hl (by decide) rfl (fun ls hl => ?_)
  exact B2 FU _ h _ _ _ hP hD hS (lv_sub hl [1, 2, 3, 0] rfl)
theorem dX0_abandonExpired_0 : decode cX0_abandonExpired 0 = .ok (.bipush (-9), 2) := by decide +kernel
theorem dX0_abandonExpired_2 : decode cX0_abandonExpired 2 = .ok (.istore_n 1, 1) := by decide +kernel
theorem dX0_abandonExpired_3 : decode cX0_abandonExpired 3 = .ok (.iconst 0, 1) := by decide +kernel
theorem dX0_abandonExpired_4 : decode cX0_abandonExpired 4 = .ok (.istore_n 2, 1) := by decide +kernel
theorem dX0_abandonExpired_5 : decode cX0_abandonExpired 5 = .ok (.iload_n 2, 1) := by decide +kernel
theorem dX0_abandonExpired_6 : decode cX0_abandonExpired 6 = .ok (.bipush 16, 2) := by decide +kernel
theorem dX0_abandonExpired_8 : decode cX0_abandonExpired 8 = .ok (.if_icmp .ge 34, 3) := by decide +kernel
theorem dX0_abandonExpired_11 : decode cX0_abandonExpired 11 = .ok (.aload_n 0, 1) := by decide +kernel
theorem dX0_abandonExpired_12 : decode cX0_abandonExpired 12 = .ok (.iload_n 1, 1) := by decide +kernel
theorem dX0_abandonExpired_13 : decode cX0_abandonExpired 13 = .ok (.iconst 0, 1) := by decide +kernel
theorem dX0_abandonExpired_14 : decode cX0_abandonExpired 14 = .ok (.invokevirtual 25, 3) := by decide +kernel
theorem dX0_abandonExpired_17 : decode cX0_abandonExpired 17 = .ok (.istore_n 1, 1) := by decide +kernel
theorem dX0_abandonExpired_18 : decode cX0_abandonExpired 18 = .ok (.iload_n 1, 1) := by decide +kernel
theorem dX0_abandonExpired_19 : decode cX0_abandonExpired 19 = .ok (.bipush (-9), 2) := by decide +kernel
theorem dX0_abandonExpired_21 : decode cX0_abandonExpired 21 = .ok (.if_icmp .ne 4, 3) := by decide +kernel
theorem dX0_abandonExpired_24 : decode cX0_abandonExpired 24 = .ok (.return_, 1) := by decide +kernel
theorem dX0_abandonExpired_25 : decode cX0_abandonExpired 25 = .ok (.aload_n 0, 1) := by decide +kernel
theorem dX0_abandonExpired_26 : decode cX0_abandonExpired 26 = .ok (.iload_n 1, 1) := by decide +kernel
theorem dX0_abandonExpired_27 : decode cX0_abandonExpired 27 = .ok (.invokestatic 31, 3) := by decide +kernel
theorem dX0_abandonExpired_30 : decode cX0_abandonExpired 30 = .ok (.aload_n 0, 1) := by decide +kernel
theorem dX0_abandonExpired_31 : decode cX0_abandonExpired 31 = .ok (.iload_n 1, 1) := by decide +kernel
theorem dX0_abandonExpired_32 : decode cX0_abandonExpired 32 = .ok (.iconst 5, 1) := by decide +kernel
theorem dX0_abandonExpired_33 : decode cX0_abandonExpired 33 = .ok (.invokestatic 21, 3) := by decide +kernel
theorem dX0_abandonExpired_36 : decode cX0_abandonExpired 36 = .ok (.iinc 2 1, 3) := by decide +kernel
theorem dX0_abandonExpired_39 : decode cX0_abandonExpired 39 = .ok (.goto (-34), 3) := by decide +kernel
theorem dX0_abandonExpired_42 : decode cX0_abandonExpired 42 = .ok (.return_, 1) := by decide +kernel
def bfX0_abandonExpired_5  (K5 : Int32 × Int32 × (StS) → Option (StS)) (x : Int32 × Int32 × (StS)) : Option (StS) :=
  match x with
  | (x1, x2, S) => (if (16 : Int32) ≤ x2 then some S else ob (fX2_nextDue x1 (0 : Int32) S) fun u4 => (if u4 = (-9 : Int32) then some S else ob (fX1_abandon u4 S) fun u5 => ob (fX0_fail u4 (5 : Int32) u5) fun u6 => K5 (u4, (x2 + (1 : Int32)), u6)))
def fX0_abandonExpired  (S : StS) : Option (StS) :=
  iter (bfX0_abandonExpired_5) FU ((-9 : Int32), (0 : Int32), S)
set_option maxHeartbeats 4000000 in
set_option maxRecDepth 100000 in
theorem kX0_abandonExpired (l : Launch) (D : va_G) (cI cS : ClassId) (aS : Nat → Nat)  (S : StS) {q : StS} (h : fX0_abandonExpired  S = some q) : Mc l D (tyL cI cS) false yX0_abandonExpired cX0_abandonExpired 3 none 4 [.ref (aS 0)] (wS cI aS S) none (wS cI aS q) := by
  refine Mc_of RX0 (by decide +kernel) rfl wc_X0_abandonExpired (Nat.le_of_ble_eq_true rfl) ?_
  intro p e s m args below meth c A Q ls C hA hz hP hD hS hl RET
  have RETh : ∀ {pc : Nat} {ls : Array Slot} {H : Heap} {locs : List Loc} {S1 : StS}, decode cX0_abandonExpired pc = .ok (.return_, 1) → some S1 = some q → va_P D vwCl (wS cI aS S1) H → va_D A (wS cI aS S1) → va_S A s.heap H locs → W p l e (rmL 4) s m args below meth c H locs 0 0 Q (F0 m pc ls []) := by
    intro pc ls H locs S1 hd h hP hD hS; cases h; exact RET (x_vret C hd) hP hD hS
  have B5 : ∀ (n : Nat) (x : Int32 × Int32 × (StS)), iter (bfX0_abandonExpired_5) n x = some q → (match x with | (x1, x2, S) => ∀ (H : Heap) (locs : List Loc) (ls : Array Slot), va_P D vwCl (wS cI aS S) H → va_D A (wS cI aS S) → va_S A s.heap H locs → lv_has ls 3 [(0, .ref (aS 0)), (1, .int x1), (2, .int x2)] → W p l e (rmL 4) s m args below meth c H locs 0 0 Q (F0 m 5 ls [])) := by
    refine iter_ind (fun x : Int32 × Int32 × (StS) => (match x with | (x1, x2, S) => ∀ (H : Heap) (locs : List Loc) (ls : Array Slot), va_P D vwCl (wS cI aS S) H → va_D A (wS cI aS S) → va_S A s.heap H locs → lv_has ls 3 [(0, .ref (aS 0)), (1, .int x1), (2, .int x2)] → W p l e (rmL 4) s m args below meth c H locs 0 0 Q (F0 m 5 ls []))) ?_
    intro K5 ih5 x h
    obtain ⟨x1, x2, S⟩ := x
    intro H locs ls hP hD hS hl
    refine x_iload_n C dX0_abandonExpired_5 rfl hl 2 rfl ?_
    refine x_bipush (v := (16 : Int32)) C dX0_abandonExpired_6 (by decide) ?_
    refine x_icmp_ge (tgt := 42) C h dX0_abandonExpired_8 (by decide) (fun h => ?_) (fun h => ?_)
    · exact RETh dX0_abandonExpired_42 h hP hD hS
    · refine x_aload_n C dX0_abandonExpired_11 rfl hl 0 rfl ?_
      refine x_iload_n C dX0_abandonExpired_12 rfl hl 1 rfl ?_
      refine x_iconst (v := (0 : Int32)) C dX0_abandonExpired_13 (by decide) ?_
      obtain ⟨u4, hu4, h⟩ := ob_some h
      refine x_callV (As := [.int _, .int _]) (n := 2) C (kX2_nextDue l D cI cS aS _ _ _ hu4) (fun hh => nomatch hh) wm_X0_25 wi_X2_nextDue we_X2_nextDue wz_X2 wc_X2_nextDue (by decide +kernel) rfl hP hD hS hA 0 0 rfl rfl rfl hl.1 dX0_abandonExpired_14 rfl (Nat.le_of_ble_eq_true rfl) ⟨Nat.le_of_ble_eq_true rfl, Nat.le_of_ble_eq_true rfl⟩ ⟨Nat.zero_le _, Nat.zero_le _⟩ (fun H locs hP hD hS => ?_)
      refine x_istore_n (lv' := [(1, .int u4), (0, .ref (aS 0)), (2, .int x2)]) C dX0_abandonExpired_17 rfl hl (by decide) rfl (fun ls hl => ?_)
      refine x_iload_n C dX0_abandonExpired_18 rfl hl 0 rfl ?_
      refine x_bipush (v := (-9 : Int32)) C dX0_abandonExpired_19 (by decide) ?_
      refine x_icmp_ne (tgt := 25) C h dX0_abandonExpired_21 (by decide) (fun h => ?_) (fun h => ?_)
      · refine x_aload_n C dX0_abandonExpired_25 rfl hl 1 rfl ?_
        refine x_iload_n C dX0_abandonExpired_26 rfl hl 0 rfl ?_
        obtain ⟨u5, hu5, h⟩ := ob_some h
        refine x_callS (As := [.ref _, .int _]) (n := 2) C (kX1_abandon l D cI cS aS _ _ hu5) (fun hh => nomatch hh) wm_X0_31 wt_X1_abandon wz_X1 wc_X1_abandon (by decide +kernel) rfl hP hD hS hA hl.1 dX0_abandonExpired_27 rfl (Nat.le_of_ble_eq_true rfl) ⟨Nat.le_of_ble_eq_true rfl, Nat.le_of_ble_eq_true rfl⟩ ⟨Nat.zero_le _, Nat.zero_le _⟩ (fun H locs hP hD hS => ?_)
        refine x_aload_n C dX0_abandonExpired_30 rfl hl 1 rfl ?_
        refine x_iload_n C dX0_abandonExpired_31 rfl hl 0 rfl ?_
        refine x_iconst (v := (5 : Int32)) C dX0_abandonExpired_32 (by decide) ?_
        obtain ⟨u6, hu6, h⟩ := ob_some h
        refine x_callS (As := [.ref _, .int _, .int _]) (n := 3) C (kX0_fail l D cI cS aS _ _ _ hu6) (fun hh => nomatch hh) wm_X0_21 wt_X0_fail wz_X0 wc_X0_fail (by decide +kernel) rfl hP hD hS hA hl.1 dX0_abandonExpired_33 rfl (Nat.le_of_ble_eq_true rfl) ⟨Nat.le_of_ble_eq_true rfl, Nat.le_of_ble_eq_true rfl⟩ ⟨Nat.zero_le _, Nat.zero_le _⟩ (fun H locs hP hD hS => ?_)
        refine x_iinc (v := (x2 + (1 : Int32))) (lv' := [(2, .int (x2 + (1 : Int32))), (1, .int u4), (0, .ref (aS 0))]) C dX0_abandonExpired_36 hl (k := 2) rfl rfl (by decide) rfl (fun ls hl => ?_)
        refine x_goto (tgt := 5) C dX0_abandonExpired_39 (by decide) ?_
        exact ih5 _ h _ _ _ hP hD hS (lv_sub hl [2, 1, 0] rfl)
      · exact RETh dX0_abandonExpired_24 h hP hD hS
  refine x_bipush (v := (-9 : Int32)) C dX0_abandonExpired_0 (by decide) ?_
  refine x_istore_n (lv' := [(1, .int (-9 : Int32)), (0, .ref (aS 0))]) C dX0_abandonExpired_2 rfl hl (by decide) rfl (fun ls hl => ?_)
  refine x_iconst (v := (0 : Int32)) C dX0_abandonExpired_3 (by decide) ?_
  refine x_istore_n (lv' := [(2, .int (0 : Int32)), (1, .int (-9 : Int32)), (0, .ref (aS 0))]) C dX0_abandonExpired_4 rfl hl (by decide) rfl (fun ls hl => ?_)
  exact B5 FU _ h _ _ _ hP hD hS (lv_sub hl [2, 1, 0] rfl)
theorem dX0_births_0 : decode cX0_births 0 = .ok (.aload_n 0, 1) := by decide +kernel
theorem dX0_births_1 : decode cX0_births 1 = .ok (.getfield 37, 3) := by decide +kernel
theorem dX0_births_4 : decode cX0_births 4 = .ok (.iload_n 1, 1) := by decide +kernel
theorem dX0_births_5 : decode cX0_births 5 = .ok (.iconst 0, 1) := by decide +kernel
theorem dX0_births_6 : decode cX0_births 6 = .ok (.invokevirtual 41, 3) := by decide +kernel
theorem dX0_births_9 : decode cX0_births 9 = .ok (.istore_n 2, 1) := by decide +kernel
theorem dX0_births_10 : decode cX0_births 10 = .ok (.aload_n 0, 1) := by decide +kernel
theorem dX0_births_11 : decode cX0_births 11 = .ok (.getfield 47, 3) := by decide +kernel
theorem dX0_births_14 : decode cX0_births 14 = .ok (.aload_n 0, 1) := by decide +kernel
theorem dX0_births_15 : decode cX0_births 15 = .ok (.getfield 37, 3) := by decide +kernel
theorem dX0_births_18 : decode cX0_births 18 = .ok (.iload_n 1, 1) := by decide +kernel
theorem dX0_births_19 : decode cX0_births 19 = .ok (.iconst 1, 1) := by decide +kernel
theorem dX0_births_20 : decode cX0_births 20 = .ok (.invokevirtual 41, 3) := by decide +kernel
theorem dX0_births_23 : decode cX0_births 23 = .ok (.isub, 1) := by decide +kernel
theorem dX0_births_24 : decode cX0_births 24 = .ok (.istore_n 3, 1) := by decide +kernel
theorem dX0_births_25 : decode cX0_births 25 = .ok (.iload_n 2, 1) := by decide +kernel
theorem dX0_births_26 : decode cX0_births 26 = .ok (.iconst 1, 1) := by decide +kernel
theorem dX0_births_27 : decode cX0_births 27 = .ok (.if_icmp .lt 13, 3) := by decide +kernel
theorem dX0_births_30 : decode cX0_births 30 = .ok (.iload_n 3, 1) := by decide +kernel
theorem dX0_births_31 : decode cX0_births 31 = .ok (.ifCond .lt 9, 3) := by decide +kernel
theorem dX0_births_34 : decode cX0_births 34 = .ok (.iload_n 3, 1) := by decide +kernel
theorem dX0_births_35 : decode cX0_births 35 = .ok (.iload_n 2, 1) := by decide +kernel
theorem dX0_births_36 : decode cX0_births 36 = .ok (.irem, 1) := by decide +kernel
theorem dX0_births_37 : decode cX0_births 37 = .ok (.ifCond .eq 5, 3) := by decide +kernel
theorem dX0_births_40 : decode cX0_births 40 = .ok (.iconst 0, 1) := by decide +kernel
theorem dX0_births_41 : decode cX0_births 41 = .ok (.ireturn, 1) := by decide +kernel
theorem dX0_births_42 : decode cX0_births 42 = .ok (.aload_n 0, 1) := by decide +kernel
theorem dX0_births_43 : decode cX0_births 43 = .ok (.getfield 47, 3) := by decide +kernel
theorem dX0_births_46 : decode cX0_births 46 = .ok (.aload_n 0, 1) := by decide +kernel
theorem dX0_births_47 : decode cX0_births 47 = .ok (.getfield 51, 3) := by decide +kernel
theorem dX0_births_50 : decode cX0_births 50 = .ok (.iload_n 1, 1) := by decide +kernel
theorem dX0_births_51 : decode cX0_births 51 = .ok (.iconst 1, 1) := by decide +kernel
theorem dX0_births_52 : decode cX0_births 52 = .ok (.invokevirtual 41, 3) := by decide +kernel
theorem dX0_births_55 : decode cX0_births 55 = .ok (.if_icmp .lt 23, 3) := by decide +kernel
theorem dX0_births_58 : decode cX0_births 58 = .ok (.aload_n 0, 1) := by decide +kernel
theorem dX0_births_59 : decode cX0_births 59 = .ok (.getfield 47, 3) := by decide +kernel
theorem dX0_births_62 : decode cX0_births 62 = .ok (.aload_n 0, 1) := by decide +kernel
theorem dX0_births_63 : decode cX0_births 63 = .ok (.getfield 51, 3) := by decide +kernel
theorem dX0_births_66 : decode cX0_births 66 = .ok (.iload_n 1, 1) := by decide +kernel
theorem dX0_births_67 : decode cX0_births 67 = .ok (.iconst 2, 1) := by decide +kernel
theorem dX0_births_68 : decode cX0_births 68 = .ok (.invokevirtual 41, 3) := by decide +kernel
theorem dX0_births_71 : decode cX0_births 71 = .ok (.if_icmp .ge 7, 3) := by decide +kernel
theorem dX0_births_74 : decode cX0_births 74 = .ok (.iconst 1, 1) := by decide +kernel
theorem dX0_births_75 : decode cX0_births 75 = .ok (.goto 4, 3) := by decide +kernel
theorem dX0_births_78 : decode cX0_births 78 = .ok (.iconst 0, 1) := by decide +kernel
theorem dX0_births_79 : decode cX0_births 79 = .ok (.istore 4, 2) := by decide +kernel
theorem dX0_births_81 : decode cX0_births 81 = .ok (.iload 4, 2) := by decide +kernel
theorem dX0_births_83 : decode cX0_births 83 = .ok (.ifCond .eq 15, 3) := by decide +kernel
theorem dX0_births_86 : decode cX0_births 86 = .ok (.aload_n 0, 1) := by decide +kernel
theorem dX0_births_87 : decode cX0_births 87 = .ok (.getfield 51, 3) := by decide +kernel
theorem dX0_births_90 : decode cX0_births 90 = .ok (.iload_n 1, 1) := by decide +kernel
theorem dX0_births_91 : decode cX0_births 91 = .ok (.iconst 0, 1) := by decide +kernel
theorem dX0_births_92 : decode cX0_births 92 = .ok (.invokevirtual 41, 3) := by decide +kernel
theorem dX0_births_95 : decode cX0_births 95 = .ok (.goto 4, 3) := by decide +kernel
theorem dX0_births_98 : decode cX0_births 98 = .ok (.iconst 1, 1) := by decide +kernel
theorem dX0_births_99 : decode cX0_births 99 = .ok (.ireturn, 1) := by decide +kernel
def bfX0_births_99 (p2 : Int32) (S : StS) (s0 : Int32) : Option (Int32) :=
  some s0
def bfX0_births_79 (p2 : Int32) (S : StS) (s0 : Int32) : Option (Int32) :=
  (if s0 = 0 then bfX0_births_99 p2 S  ((1 : Int32)) else bfX0_births_99 p2 S  ((sget 2 S p2 (0 : Int32))))
def bfX0_births_78 (p2 : Int32) (S : StS) : Option (Int32) :=
  bfX0_births_79 p2 S  ((0 : Int32))
def bfX0_births_40 (p2 : Int32) (S : StS) : Option (Int32) :=
  some (0 : Int32)
def fX0_births (p2 : Int32) (S : StS) : Option (Int32) :=
  nm ((sget 0 S p2 (0 : Int32))) fun v3 => nm (((S.2 12) - (sget 0 S p2 (1 : Int32)))) fun v4 => (if v3 < (1 : Int32) then bfX0_births_40 p2 S else (if v4 < 0 then bfX0_births_40 p2 S else (if v3 = 0 then none else (if (v4 - v4 / v3 * v3) = 0 then (if (S.2 12) < (sget 2 S p2 (1 : Int32)) then bfX0_births_78 p2 S else (if (sget 2 S p2 (2 : Int32)) ≤ (S.2 12) then bfX0_births_78 p2 S else bfX0_births_79 p2 S  ((1 : Int32)))) else bfX0_births_40 p2 S))))
set_option maxHeartbeats 4000000 in
set_option maxRecDepth 100000 in
theorem kX0_births (l : Launch) (D : va_G) (cI cS : ClassId) (aS : Nat → Nat) (p2 : Int32) (S : StS) {q : Int32} (h : fX0_births p2 S = some q) : Mc l D (tyL cI cS) false yX0_births cX0_births 5 (some .int) 2 [.ref (aS 0), .int p2] (wS cI aS S) (some (.int q)) (wS cI aS S) := by
  refine Mc_of RX0 (by decide +kernel) rfl wc_X0_births (Nat.le_of_ble_eq_true rfl) ?_
  intro p e s m args below meth c A Q ls C hA hz hP hD hS hl RET
  have RETh : ∀ {pc : Nat} {ls : Array Slot} {H : Heap} {locs : List Loc} {x : Int32} , decode cX0_births pc = .ok (.ireturn, 1) → some x = some q → va_P D vwCl (wS cI aS S) H → va_D A (wS cI aS S) → va_S A s.heap H locs → W p l e (rmL 2) s m args below meth c H locs 0 0 Q (F0 m pc ls [.int x]) := by
    intro pc ls H locs x hd h hP hD hS; cases h; exact RET (x_iret C hd) hP hD hS
  have B99 : ∀ (s0 : Int32), bfX0_births_99 p2 S s0 = some q → ∀ (H : Heap) (locs : List Loc) (ls : Array Slot), va_P D vwCl (wS cI aS S) H → va_D A (wS cI aS S) → va_S A s.heap H locs → lv_has ls 5 [] → W p l e (rmL 2) s m args below meth c H locs 0 0 Q (F0 m 99 ls [.int s0]) := by
    intro s0 h H locs ls hP hD hS hl
    exact RETh dX0_births_99 h hP hD hS
  have B79 : ∀ (s0 : Int32), bfX0_births_79 p2 S s0 = some q → ∀ (H : Heap) (locs : List Loc) (ls : Array Slot), va_P D vwCl (wS cI aS S) H → va_D A (wS cI aS S) → va_S A s.heap H locs → lv_has ls 5 [(0, .ref (aS 0)), (1, .int p2)] → W p l e (rmL 2) s m args below meth c H locs 0 0 Q (F0 m 79 ls [.int s0]) := by
    intro s0 h H locs ls hP hD hS hl
    refine x_istore (lv' := [(4, .int s0), (0, .ref (aS 0)), (1, .int p2)]) C dX0_births_79 hl (by decide) rfl (fun ls hl => ?_)
    refine x_iload C dX0_births_81 hl 0 rfl ?_
    refine x_if_eq (tgt := 98) C h dX0_births_83 (by decide) (fun h => ?_) (fun h => ?_)
    · refine x_iconst (v := (1 : Int32)) C dX0_births_98 (by decide) ?_
      exact B99 _ h _ _ _ hP hD hS (lv_sub hl [] rfl)
    · refine x_aload_n C dX0_births_86 rfl hl 1 rfl ?_
      refine x_get C inX2 hP 0 rfl rfl 2 (by decide) wf_X0_51 rfl dX0_births_87 ?_
      refine x_iload_n C dX0_births_90 rfl hl 2 rfl ?_
      refine x_iconst (v := (0 : Int32)) C dX0_births_91 (by decide) ?_
      refine x_callV (As := [.int _, .int _]) (n := 2) C (kS_get l D cI cS aS _ 2 (by decide) _ _) (fun hh => nomatch hh) wm_X0_41 wi_X3_get we_X3_get wz_X3 wc_X3_get (by decide +kernel) rfl hP hD hS hA 5 1 rfl rfl rfl hl.1 dX0_births_92 rfl (Nat.le_of_ble_eq_true rfl) ⟨Nat.le_of_ble_eq_true rfl, Nat.le_of_ble_eq_true rfl⟩ ⟨Nat.zero_le _, Nat.zero_le _⟩ (fun H locs hP hD hS => ?_)
      refine x_goto (tgt := 99) C dX0_births_95 (by decide) ?_
      exact B99 _ h _ _ _ hP hD hS (lv_sub hl [] rfl)
  have B78 : bfX0_births_78 p2 S = some q → ∀ (H : Heap) (locs : List Loc) (ls : Array Slot), va_P D vwCl (wS cI aS S) H → va_D A (wS cI aS S) → va_S A s.heap H locs → lv_has ls 5 [(0, .ref (aS 0)), (1, .int p2)] → W p l e (rmL 2) s m args below meth c H locs 0 0 Q (F0 m 78 ls []) := by
    intro  h H locs ls hP hD hS hl
    refine x_iconst (v := (0 : Int32)) C dX0_births_78 (by decide) ?_
    exact B79 _ h _ _ _ hP hD hS hl
  have B40 : bfX0_births_40 p2 S = some q → ∀ (H : Heap) (locs : List Loc) (ls : Array Slot), va_P D vwCl (wS cI aS S) H → va_D A (wS cI aS S) → va_S A s.heap H locs → lv_has ls 5 [] → W p l e (rmL 2) s m args below meth c H locs 0 0 Q (F0 m 40 ls []) := by
    intro  h H locs ls hP hD hS hl
    refine x_iconst (v := (0 : Int32)) C dX0_births_40 (by decide) ?_
    exact RETh dX0_births_41 h hP hD hS
  refine x_aload_n C dX0_births_0 rfl hl 0 rfl ?_
  refine x_get C inX2 hP 0 rfl rfl 0 (by decide) wf_X0_37 rfl dX0_births_1 ?_
  refine x_iload_n C dX0_births_4 rfl hl 1 rfl ?_
  refine x_iconst (v := (0 : Int32)) C dX0_births_5 (by decide) ?_
  refine x_callV (As := [.int _, .int _]) (n := 2) C (kS_get l D cI cS aS _ 0 (by decide) _ _) (fun hh => nomatch hh) wm_X0_41 wi_X3_get we_X3_get wz_X3 wc_X3_get (by decide +kernel) rfl hP hD hS hA 1 1 rfl rfl rfl hl.1 dX0_births_6 rfl (Nat.le_of_ble_eq_true rfl) ⟨Nat.le_of_ble_eq_true rfl, Nat.le_of_ble_eq_true rfl⟩ ⟨Nat.zero_le _, Nat.zero_le _⟩ (fun H locs hP hD hS => ?_)
  refine x_nmi h (fun v3 h => ?_)
  refine x_istore_n (lv' := [(2, .int v3), (0, .ref (aS 0)), (1, .int p2)]) C dX0_births_9 rfl hl (by decide) rfl (fun ls hl => ?_)
  refine x_aload_n C dX0_births_10 rfl hl 1 rfl ?_
  refine x_get C inX2 hP 0 rfl rfl 12 (by decide) wf_X0_47 rfl dX0_births_11 ?_
  refine x_aload_n C dX0_births_14 rfl hl 1 rfl ?_
  refine x_get C inX2 hP 0 rfl rfl 0 (by decide) wf_X0_37 rfl dX0_births_15 ?_
  refine x_iload_n C dX0_births_18 rfl hl 2 rfl ?_
  refine x_iconst (v := (1 : Int32)) C dX0_births_19 (by decide) ?_
  refine x_callV (As := [.int _, .int _]) (n := 2) C (kS_get l D cI cS aS _ 0 (by decide) _ _) (fun hh => nomatch hh) wm_X0_41 wi_X3_get we_X3_get wz_X3 wc_X3_get (by decide +kernel) rfl hP hD hS hA 1 1 rfl rfl rfl hl.1 dX0_births_20 rfl (Nat.le_of_ble_eq_true rfl) ⟨Nat.le_of_ble_eq_true rfl, Nat.le_of_ble_eq_true rfl⟩ ⟨Nat.zero_le _, Nat.zero_le _⟩ (fun H locs hP hD hS => ?_)
  refine x_isub C dX0_births_23 ?_
  refine x_nmi h (fun v4 h => ?_)
  refine x_istore_n (lv' := [(3, .int v4), (2, .int v3), (0, .ref (aS 0)), (1, .int p2)]) C dX0_births_24 rfl hl (by decide) rfl (fun ls hl => ?_)
  refine x_iload_n C dX0_births_25 rfl hl 1 rfl ?_
  refine x_iconst (v := (1 : Int32)) C dX0_births_26 (by decide) ?_
  refine x_icmp_lt (tgt := 40) C h dX0_births_27 (by decide) (fun h => ?_) (fun h => ?_)
  · exact B40  h _ _ _ hP hD hS (lv_sub hl [] rfl)
  · refine x_iload_n C dX0_births_30 rfl hl 0 rfl ?_
    refine x_if_lt (tgt := 40) C h dX0_births_31 (by decide) (fun h => ?_) (fun h => ?_)
    · exact B40  h _ _ _ hP hD hS (lv_sub hl [] rfl)
    · refine x_iload_n C dX0_births_34 rfl hl 0 rfl ?_
      refine x_iload_n C dX0_births_35 rfl hl 1 rfl ?_
      refine x_irem C h dX0_births_36 (fun h => ?_)
      refine x_if_eq (tgt := 42) C h dX0_births_37 (by decide) (fun h => ?_) (fun h => ?_)
      · refine x_aload_n C dX0_births_42 rfl hl 2 rfl ?_
        refine x_get C inX2 hP 0 rfl rfl 12 (by decide) wf_X0_47 rfl dX0_births_43 ?_
        refine x_aload_n C dX0_births_46 rfl hl 2 rfl ?_
        refine x_get C inX2 hP 0 rfl rfl 2 (by decide) wf_X0_51 rfl dX0_births_47 ?_
        refine x_iload_n C dX0_births_50 rfl hl 3 rfl ?_
        refine x_iconst (v := (1 : Int32)) C dX0_births_51 (by decide) ?_
        refine x_callV (As := [.int _, .int _]) (n := 2) C (kS_get l D cI cS aS _ 2 (by decide) _ _) (fun hh => nomatch hh) wm_X0_41 wi_X3_get we_X3_get wz_X3 wc_X3_get (by decide +kernel) rfl hP hD hS hA 5 1 rfl rfl rfl hl.1 dX0_births_52 rfl (Nat.le_of_ble_eq_true rfl) ⟨Nat.le_of_ble_eq_true rfl, Nat.le_of_ble_eq_true rfl⟩ ⟨Nat.zero_le _, Nat.zero_le _⟩ (fun H locs hP hD hS => ?_)
        refine x_icmp_lt (tgt := 78) C h dX0_births_55 (by decide) (fun h => ?_) (fun h => ?_)
        · exact B78  h _ _ _ hP hD hS (lv_sub hl [2, 3] rfl)
        · refine x_aload_n C dX0_births_58 rfl hl 2 rfl ?_
          refine x_get C inX2 hP 0 rfl rfl 12 (by decide) wf_X0_47 rfl dX0_births_59 ?_
          refine x_aload_n C dX0_births_62 rfl hl 2 rfl ?_
          refine x_get C inX2 hP 0 rfl rfl 2 (by decide) wf_X0_51 rfl dX0_births_63 ?_
          refine x_iload_n C dX0_births_66 rfl hl 3 rfl ?_
          refine x_iconst (v := (2 : Int32)) C dX0_births_67 (by decide) ?_
          refine x_callV (As := [.int _, .int _]) (n := 2) C (kS_get l D cI cS aS _ 2 (by decide) _ _) (fun hh => nomatch hh) wm_X0_41 wi_X3_get we_X3_get wz_X3 wc_X3_get (by decide +kernel) rfl hP hD hS hA 5 1 rfl rfl rfl hl.1 dX0_births_68 rfl (Nat.le_of_ble_eq_true rfl) ⟨Nat.le_of_ble_eq_true rfl, Nat.le_of_ble_eq_true rfl⟩ ⟨Nat.zero_le _, Nat.zero_le _⟩ (fun H locs hP hD hS => ?_)
          refine x_icmp_ge (tgt := 78) C h dX0_births_71 (by decide) (fun h => ?_) (fun h => ?_)
          · exact B78  h _ _ _ hP hD hS (lv_sub hl [2, 3] rfl)
          · refine x_iconst (v := (1 : Int32)) C dX0_births_74 (by decide) ?_
            refine x_goto (tgt := 79) C dX0_births_75 (by decide) ?_
            exact B79 _ h _ _ _ hP hD hS (lv_sub hl [2, 3] rfl)
      · exact B40  h _ _ _ hP hD hS (lv_sub hl [] rfl)
theorem dX0_create_0 : decode cX0_create 0 = .ok (.aload_n 0, 1) := by decide +kernel
theorem dX0_create_1 : decode cX0_create 1 = .ok (.getfield 54, 3) := by decide +kernel
theorem dX0_create_4 : decode cX0_create 4 = .ok (.iload_n 1, 1) := by decide +kernel
theorem dX0_create_5 : decode cX0_create 5 = .ok (.iconst 0, 1) := by decide +kernel
theorem dX0_create_6 : decode cX0_create 6 = .ok (.iconst 1, 1) := by decide +kernel
theorem dX0_create_7 : decode cX0_create 7 = .ok (.invokevirtual 57, 3) := by decide +kernel
theorem dX0_create_10 : decode cX0_create 10 = .ok (.aload_n 0, 1) := by decide +kernel
theorem dX0_create_11 : decode cX0_create 11 = .ok (.getfield 54, 3) := by decide +kernel
theorem dX0_create_14 : decode cX0_create 14 = .ok (.iload_n 1, 1) := by decide +kernel
theorem dX0_create_15 : decode cX0_create 15 = .ok (.bipush 7, 2) := by decide +kernel
theorem dX0_create_17 : decode cX0_create 17 = .ok (.invokevirtual 41, 3) := by decide +kernel
theorem dX0_create_20 : decode cX0_create 20 = .ok (.aload_n 0, 1) := by decide +kernel
theorem dX0_create_21 : decode cX0_create 21 = .ok (.getfield 37, 3) := by decide +kernel
theorem dX0_create_24 : decode cX0_create 24 = .ok (.iload_n 1, 1) := by decide +kernel
theorem dX0_create_25 : decode cX0_create 25 = .ok (.bipush 11, 2) := by decide +kernel
theorem dX0_create_27 : decode cX0_create 27 = .ok (.invokevirtual 41, 3) := by decide +kernel
theorem dX0_create_30 : decode cX0_create 30 = .ok (.iadd, 1) := by decide +kernel
theorem dX0_create_31 : decode cX0_create 31 = .ok (.istore_n 2, 1) := by decide +kernel
theorem dX0_create_32 : decode cX0_create 32 = .ok (.aload_n 0, 1) := by decide +kernel
theorem dX0_create_33 : decode cX0_create 33 = .ok (.getfield 54, 3) := by decide +kernel
theorem dX0_create_36 : decode cX0_create 36 = .ok (.iload_n 1, 1) := by decide +kernel
theorem dX0_create_37 : decode cX0_create 37 = .ok (.bipush 7, 2) := by decide +kernel
theorem dX0_create_39 : decode cX0_create 39 = .ok (.iload_n 2, 1) := by decide +kernel
theorem dX0_create_40 : decode cX0_create 40 = .ok (.bipush 10, 2) := by decide +kernel
theorem dX0_create_42 : decode cX0_create 42 = .ok (.aload_n 0, 1) := by decide +kernel
theorem dX0_create_43 : decode cX0_create 43 = .ok (.getfield 37, 3) := by decide +kernel
theorem dX0_create_46 : decode cX0_create 46 = .ok (.iload_n 1, 1) := by decide +kernel
theorem dX0_create_47 : decode cX0_create 47 = .ok (.bipush 10, 2) := by decide +kernel
theorem dX0_create_49 : decode cX0_create 49 = .ok (.invokevirtual 41, 3) := by decide +kernel
theorem dX0_create_52 : decode cX0_create 52 = .ok (.imul, 1) := by decide +kernel
theorem dX0_create_53 : decode cX0_create 53 = .ok (.invokestatic 61, 3) := by decide +kernel
theorem dX0_create_56 : decode cX0_create 56 = .ok (.invokevirtual 66, 3) := by decide +kernel
theorem dX0_create_59 : decode cX0_create 59 = .ok (.aload_n 0, 1) := by decide +kernel
theorem dX0_create_60 : decode cX0_create 60 = .ok (.getfield 69, 3) := by decide +kernel
theorem dX0_create_63 : decode cX0_create 63 = .ok (.invokevirtual 72, 3) := by decide +kernel
theorem dX0_create_66 : decode cX0_create 66 = .ok (.istore_n 3, 1) := by decide +kernel
theorem dX0_create_67 : decode cX0_create 67 = .ok (.iload_n 3, 1) := by decide +kernel
theorem dX0_create_68 : decode cX0_create 68 = .ok (.bipush (-9), 2) := by decide +kernel
theorem dX0_create_70 : decode cX0_create 70 = .ok (.if_icmp .ne 16, 3) := by decide +kernel
theorem dX0_create_73 : decode cX0_create 73 = .ok (.aload_n 0, 1) := by decide +kernel
theorem dX0_create_74 : decode cX0_create 74 = .ok (.getfield 54, 3) := by decide +kernel
theorem dX0_create_77 : decode cX0_create 77 = .ok (.iload_n 1, 1) := by decide +kernel
theorem dX0_create_78 : decode cX0_create 78 = .ok (.iconst 3, 1) := by decide +kernel
theorem dX0_create_79 : decode cX0_create 79 = .ok (.iconst 1, 1) := by decide +kernel
theorem dX0_create_80 : decode cX0_create 80 = .ok (.invokevirtual 57, 3) := by decide +kernel
theorem dX0_create_83 : decode cX0_create 83 = .ok (.bipush (-9), 2) := by decide +kernel
theorem dX0_create_85 : decode cX0_create 85 = .ok (.ireturn, 1) := by decide +kernel
theorem dX0_create_86 : decode cX0_create 86 = .ok (.aload_n 0, 1) := by decide +kernel
theorem dX0_create_87 : decode cX0_create 87 = .ok (.getfield 76, 3) := by decide +kernel
theorem dX0_create_90 : decode cX0_create 90 = .ok (.istore 4, 2) := by decide +kernel
theorem dX0_create_92 : decode cX0_create 92 = .ok (.aload_n 0, 1) := by decide +kernel
theorem dX0_create_93 : decode cX0_create 93 = .ok (.dup, 1) := by decide +kernel
theorem dX0_create_94 : decode cX0_create 94 = .ok (.getfield 76, 3) := by decide +kernel
theorem dX0_create_97 : decode cX0_create 97 = .ok (.iconst 1, 1) := by decide +kernel
theorem dX0_create_98 : decode cX0_create 98 = .ok (.iadd, 1) := by decide +kernel
theorem dX0_create_99 : decode cX0_create 99 = .ok (.putfield 76, 3) := by decide +kernel
theorem dX0_create_102 : decode cX0_create 102 = .ok (.aload_n 0, 1) := by decide +kernel
theorem dX0_create_103 : decode cX0_create 103 = .ok (.getfield 69, 3) := by decide +kernel
theorem dX0_create_106 : decode cX0_create 106 = .ok (.iload_n 3, 1) := by decide +kernel
theorem dX0_create_107 : decode cX0_create 107 = .ok (.iconst 0, 1) := by decide +kernel
theorem dX0_create_108 : decode cX0_create 108 = .ok (.iload 4, 2) := by decide +kernel
theorem dX0_create_110 : decode cX0_create 110 = .ok (.invokevirtual 66, 3) := by decide +kernel
theorem dX0_create_113 : decode cX0_create 113 = .ok (.aload_n 0, 1) := by decide +kernel
theorem dX0_create_114 : decode cX0_create 114 = .ok (.getfield 69, 3) := by decide +kernel
theorem dX0_create_117 : decode cX0_create 117 = .ok (.iload_n 3, 1) := by decide +kernel
theorem dX0_create_118 : decode cX0_create 118 = .ok (.iconst 1, 1) := by decide +kernel
theorem dX0_create_119 : decode cX0_create 119 = .ok (.iload_n 1, 1) := by decide +kernel
theorem dX0_create_120 : decode cX0_create 120 = .ok (.invokevirtual 66, 3) := by decide +kernel
theorem dX0_create_123 : decode cX0_create 123 = .ok (.aload_n 0, 1) := by decide +kernel
theorem dX0_create_124 : decode cX0_create 124 = .ok (.getfield 69, 3) := by decide +kernel
theorem dX0_create_127 : decode cX0_create 127 = .ok (.iload_n 3, 1) := by decide +kernel
theorem dX0_create_128 : decode cX0_create 128 = .ok (.iconst 2, 1) := by decide +kernel
theorem dX0_create_129 : decode cX0_create 129 = .ok (.aload_n 0, 1) := by decide +kernel
theorem dX0_create_130 : decode cX0_create 130 = .ok (.getfield 47, 3) := by decide +kernel
theorem dX0_create_133 : decode cX0_create 133 = .ok (.aload_n 0, 1) := by decide +kernel
theorem dX0_create_134 : decode cX0_create 134 = .ok (.getfield 37, 3) := by decide +kernel
theorem dX0_create_137 : decode cX0_create 137 = .ok (.iload_n 1, 1) := by decide +kernel
theorem dX0_create_138 : decode cX0_create 138 = .ok (.iconst 2, 1) := by decide +kernel
theorem dX0_create_139 : decode cX0_create 139 = .ok (.invokevirtual 41, 3) := by decide +kernel
theorem dX0_create_142 : decode cX0_create 142 = .ok (.iadd, 1) := by decide +kernel
theorem dX0_create_143 : decode cX0_create 143 = .ok (.invokevirtual 66, 3) := by decide +kernel
theorem dX0_create_146 : decode cX0_create 146 = .ok (.iload 4, 2) := by decide +kernel
theorem dX0_create_148 : decode cX0_create 148 = .ok (.ireturn, 1) := by decide +kernel
def fX0_create (p2 : Int32) (S : StS) : Option (Int32 × (StS)) :=
  nm (sadd 1 S p2 (0 : Int32) (1 : Int32)) fun S11 => nm (((sget 1 S11 p2 (7 : Int32)) + (sget 0 S11 p2 (11 : Int32)))) fun v12 => nm (sput 1 S11 p2 (7 : Int32) ((if ((10 : Int32) * (sget 0 S11 p2 (10 : Int32))) < v12 then ((10 : Int32) * (sget 0 S11 p2 (10 : Int32))) else v12))) fun S13 => nm (sappend 5 S13).2 fun S14 => nm ((sappend 5 S13).1) fun v15 => (if v15 = (-9 : Int32) then nm (sadd 1 S14 p2 (3 : Int32) (1 : Int32)) fun S20 => some ((-9 : Int32), S20) else nm (S14.1, upd S14.2 14 ((S14.2 14) + (1 : Int32))) fun S16 => nm (sput 5 S16 v15 (0 : Int32) (S14.2 14)) fun S17 => nm (sput 5 S17 v15 (1 : Int32) p2) fun S18 => nm (sput 5 S18 v15 (2 : Int32) (((S18.2 12) + (sget 0 S18 p2 (2 : Int32))))) fun S19 => some ((S14.2 14), S19))
set_option maxHeartbeats 4000000 in
set_option maxRecDepth 100000 in
theorem kX0_create (l : Launch) (D : va_G) (cI cS : ClassId) (aS : Nat → Nat) (p2 : Int32) (S : StS) {q : Int32 × (StS)} (h : fX0_create p2 S = some q) : Mc l D (tyL cI cS) false yX0_create cX0_create 5 (some .int) 4 [.ref (aS 0), .int p2] (wS cI aS S) (some (.int q.1)) (wS cI aS q.2) := by
  refine Mc_of RX0 (by decide +kernel) rfl wc_X0_create (Nat.le_of_ble_eq_true rfl) ?_
  intro p e s m args below meth c A Q ls C hA hz hP hD hS hl RET
  have RETh : ∀ {pc : Nat} {ls : Array Slot} {H : Heap} {locs : List Loc} {x : Int32} {S1 : StS}, decode cX0_create pc = .ok (.ireturn, 1) → some (x, S1) = some q → va_P D vwCl (wS cI aS S1) H → va_D A (wS cI aS S1) → va_S A s.heap H locs → W p l e (rmL 4) s m args below meth c H locs 0 0 Q (F0 m pc ls [.int x]) := by
    intro pc ls H locs x S1 hd h hP hD hS; cases h; exact RET (x_iret C hd) hP hD hS
  refine x_aload_n C dX0_create_0 rfl hl 0 rfl ?_
  refine x_get C inX2 hP 0 rfl rfl 1 (by decide) wf_X0_54 rfl dX0_create_1 ?_
  refine x_iload_n C dX0_create_4 rfl hl 1 rfl ?_
  refine x_iconst (v := (0 : Int32)) C dX0_create_5 (by decide) ?_
  refine x_iconst (v := (1 : Int32)) C dX0_create_6 (by decide) ?_
  refine x_callV (As := [.int _, .int _, .int _]) (n := 3) C (kS_add l D cI cS aS _ 1 (by decide) _ _ _) (fun hh => nomatch hh) wm_X0_57 wi_X3_add we_X3_add wz_X3 wc_X3_add (by decide +kernel) rfl hP hD hS hA 3 1 rfl rfl rfl hl.1 dX0_create_7 rfl (Nat.le_of_ble_eq_true rfl) ⟨Nat.le_of_ble_eq_true rfl, Nat.le_of_ble_eq_true rfl⟩ ⟨Nat.zero_le _, Nat.zero_le _⟩ (fun H locs hP hD hS => ?_)
  refine x_nmS (wS cI aS) h hP hD (fun S11 h hP hD => ?_)
  refine x_aload_n C dX0_create_10 rfl hl 0 rfl ?_
  refine x_get C inX2 hP 0 rfl rfl 1 (by decide) wf_X0_54 rfl dX0_create_11 ?_
  refine x_iload_n C dX0_create_14 rfl hl 1 rfl ?_
  refine x_bipush (v := (7 : Int32)) C dX0_create_15 (by decide) ?_
  refine x_callV (As := [.int _, .int _]) (n := 2) C (kS_get l D cI cS aS _ 1 (by decide) _ _) (fun hh => nomatch hh) wm_X0_41 wi_X3_get we_X3_get wz_X3 wc_X3_get (by decide +kernel) rfl hP hD hS hA 3 1 rfl rfl rfl hl.1 dX0_create_17 rfl (Nat.le_of_ble_eq_true rfl) ⟨Nat.le_of_ble_eq_true rfl, Nat.le_of_ble_eq_true rfl⟩ ⟨Nat.zero_le _, Nat.zero_le _⟩ (fun H locs hP hD hS => ?_)
  refine x_aload_n C dX0_create_20 rfl hl 0 rfl ?_
  refine x_get C inX2 hP 0 rfl rfl 0 (by decide) wf_X0_37 rfl dX0_create_21 ?_
  refine x_iload_n C dX0_create_24 rfl hl 1 rfl ?_
  refine x_bipush (v := (11 : Int32)) C dX0_create_25 (by decide) ?_
  refine x_callV (As := [.int _, .int _]) (n := 2) C (kS_get l D cI cS aS _ 0 (by decide) _ _) (fun hh => nomatch hh) wm_X0_41 wi_X3_get we_X3_get wz_X3 wc_X3_get (by decide +kernel) rfl hP hD hS hA 1 1 rfl rfl rfl hl.1 dX0_create_27 rfl (Nat.le_of_ble_eq_true rfl) ⟨Nat.le_of_ble_eq_true rfl, Nat.le_of_ble_eq_true rfl⟩ ⟨Nat.zero_le _, Nat.zero_le _⟩ (fun H locs hP hD hS => ?_)
  refine x_iadd C dX0_create_30 ?_
  refine x_nmi h (fun v12 h => ?_)
  refine x_istore_n (lv' := [(2, .int v12), (0, .ref (aS 0)), (1, .int p2)]) C dX0_create_31 rfl hl (by decide) rfl (fun ls hl => ?_)
  refine x_aload_n C dX0_create_32 rfl hl 1 rfl ?_
  refine x_get C inX2 hP 0 rfl rfl 1 (by decide) wf_X0_54 rfl dX0_create_33 ?_
  refine x_iload_n C dX0_create_36 rfl hl 2 rfl ?_
  refine x_bipush (v := (7 : Int32)) C dX0_create_37 (by decide) ?_
  refine x_iload_n C dX0_create_39 rfl hl 0 rfl ?_
  refine x_bipush (v := (10 : Int32)) C dX0_create_40 (by decide) ?_
  refine x_aload_n C dX0_create_42 rfl hl 1 rfl ?_
  refine x_get C inX2 hP 0 rfl rfl 0 (by decide) wf_X0_37 rfl dX0_create_43 ?_
  refine x_iload_n C dX0_create_46 rfl hl 2 rfl ?_
  refine x_bipush (v := (10 : Int32)) C dX0_create_47 (by decide) ?_
  refine x_callV (As := [.int _, .int _]) (n := 2) C (kS_get l D cI cS aS _ 0 (by decide) _ _) (fun hh => nomatch hh) wm_X0_41 wi_X3_get we_X3_get wz_X3 wc_X3_get (by decide +kernel) rfl hP hD hS hA 1 1 rfl rfl rfl hl.1 dX0_create_49 rfl (Nat.le_of_ble_eq_true rfl) ⟨Nat.le_of_ble_eq_true rfl, Nat.le_of_ble_eq_true rfl⟩ ⟨Nat.zero_le _, Nat.zero_le _⟩ (fun H locs hP hD hS => ?_)
  refine x_imul C dX0_create_52 ?_
  refine x_min C hl.1 wm_X0_61 wt_J9_min_7cf53 wz_J9 wc_J9_min_7cf53 (by decide) (Nat.le_of_ble_eq_true rfl) ⟨Nat.zero_le _, Nat.zero_le _⟩ dX0_create_53 ?_
  refine x_callV (As := [.int _, .int _, .int _]) (n := 3) C (kS_put l D cI cS aS _ 1 (by decide) _ _ _) (fun hh => nomatch hh) wm_X0_66 wi_X3_put we_X3_put wz_X3 wc_X3_put (by decide +kernel) rfl hP hD hS hA 3 1 rfl rfl rfl hl.1 dX0_create_56 rfl (Nat.le_of_ble_eq_true rfl) ⟨Nat.le_of_ble_eq_true rfl, Nat.le_of_ble_eq_true rfl⟩ ⟨Nat.zero_le _, Nat.zero_le _⟩ (fun H locs hP hD hS => ?_)
  refine x_nmS (wS cI aS) h hP hD (fun S13 h hP hD => ?_)
  refine x_aload_n C dX0_create_59 rfl hl 1 rfl ?_
  refine x_get C inX2 hP 0 rfl rfl 5 (by decide) wf_X0_69 rfl dX0_create_60 ?_
  refine x_callV (As := []) (n := 0) C (kS_append l D cI cS aS _ 5 (by decide)) (fun hh => nomatch hh) wm_X0_72 wi_X3_append we_X3_append wz_X3 wc_X3_append (by decide +kernel) rfl hP hD hS hA 11 1 rfl rfl rfl hl.1 dX0_create_63 rfl (Nat.le_of_ble_eq_true rfl) ⟨Nat.le_of_ble_eq_true rfl, Nat.le_of_ble_eq_true rfl⟩ ⟨Nat.zero_le _, Nat.zero_le _⟩ (fun H locs hP hD hS => ?_)
  refine x_nmS (wS cI aS) h hP hD (fun S14 h hP hD => ?_)
  refine x_nmi h (fun v15 h => ?_)
  refine x_istore_n (lv' := [(3, .int v15), (2, .int v12), (0, .ref (aS 0)), (1, .int p2)]) C dX0_create_66 rfl hl (by decide) rfl (fun ls hl => ?_)
  refine x_iload_n C dX0_create_67 rfl hl 0 rfl ?_
  refine x_bipush (v := (-9 : Int32)) C dX0_create_68 (by decide) ?_
  refine x_icmp_ne (tgt := 86) C h dX0_create_70 (by decide) (fun h => ?_) (fun h => ?_)
  · refine x_aload_n C dX0_create_86 rfl hl 2 rfl ?_
    refine x_get C inX2 hP 0 rfl rfl 14 (by decide) wf_X0_76 rfl dX0_create_87 ?_
    refine x_istore (lv' := [(4, .int (S14.2 14)), (3, .int v15), (2, .int v12), (0, .ref (aS 0)), (1, .int p2)]) C dX0_create_90 hl (by decide) rfl (fun ls hl => ?_)
    refine x_aload_n C dX0_create_92 rfl hl 3 rfl ?_
    refine x_dup C dX0_create_93 rfl ?_
    refine x_get C inX2 hP 0 rfl rfl 14 (by decide) wf_X0_76 rfl dX0_create_94 ?_
    refine x_iconst (v := (1 : Int32)) C dX0_create_97 (by decide) ?_
    refine x_iadd C dX0_create_98 ?_
    refine x_putM (wS cI aS) C h inX2 tyX2 tyX2_ok nmX2 hP hD hS 0 rfl rfl 14 (by decide) wf_X0_76 rfl (ft := .int) (by decide +kernel) rfl rfl (Nat.le_of_ble_eq_true rfl) rfl dX0_create_99 (fun S16 h H locs hP hD hS => ?_)
    refine x_aload_n C dX0_create_102 rfl hl 3 rfl ?_
    refine x_get C inX2 hP 0 rfl rfl 5 (by decide) wf_X0_69 rfl dX0_create_103 ?_
    refine x_iload_n C dX0_create_106 rfl hl 1 rfl ?_
    refine x_iconst (v := (0 : Int32)) C dX0_create_107 (by decide) ?_
    refine x_iload C dX0_create_108 hl 0 rfl ?_
    refine x_callV (As := [.int _, .int _, .int _]) (n := 3) C (kS_put l D cI cS aS _ 5 (by decide) _ _ _) (fun hh => nomatch hh) wm_X0_66 wi_X3_put we_X3_put wz_X3 wc_X3_put (by decide +kernel) rfl hP hD hS hA 11 1 rfl rfl rfl hl.1 dX0_create_110 rfl (Nat.le_of_ble_eq_true rfl) ⟨Nat.le_of_ble_eq_true rfl, Nat.le_of_ble_eq_true rfl⟩ ⟨Nat.zero_le _, Nat.zero_le _⟩ (fun H locs hP hD hS => ?_)
    refine x_nmS (wS cI aS) h hP hD (fun S17 h hP hD => ?_)
    refine x_aload_n C dX0_create_113 rfl hl 3 rfl ?_
    refine x_get C inX2 hP 0 rfl rfl 5 (by decide) wf_X0_69 rfl dX0_create_114 ?_
    refine x_iload_n C dX0_create_117 rfl hl 1 rfl ?_
    refine x_iconst (v := (1 : Int32)) C dX0_create_118 (by decide) ?_
    refine x_iload_n C dX0_create_119 rfl hl 4 rfl ?_
    refine x_callV (As := [.int _, .int _, .int _]) (n := 3) C (kS_put l D cI cS aS _ 5 (by decide) _ _ _) (fun hh => nomatch hh) wm_X0_66 wi_X3_put we_X3_put wz_X3 wc_X3_put (by decide +kernel) rfl hP hD hS hA 11 1 rfl rfl rfl hl.1 dX0_create_120 rfl (Nat.le_of_ble_eq_true rfl) ⟨Nat.le_of_ble_eq_true rfl, Nat.le_of_ble_eq_true rfl⟩ ⟨Nat.zero_le _, Nat.zero_le _⟩ (fun H locs hP hD hS => ?_)
    refine x_nmS (wS cI aS) h hP hD (fun S18 h hP hD => ?_)
    refine x_aload_n C dX0_create_123 rfl hl 3 rfl ?_
    refine x_get C inX2 hP 0 rfl rfl 5 (by decide) wf_X0_69 rfl dX0_create_124 ?_
    refine x_iload_n C dX0_create_127 rfl hl 1 rfl ?_
    refine x_iconst (v := (2 : Int32)) C dX0_create_128 (by decide) ?_
    refine x_aload_n C dX0_create_129 rfl hl 3 rfl ?_
    refine x_get C inX2 hP 0 rfl rfl 12 (by decide) wf_X0_47 rfl dX0_create_130 ?_
    refine x_aload_n C dX0_create_133 rfl hl 3 rfl ?_
    refine x_get C inX2 hP 0 rfl rfl 0 (by decide) wf_X0_37 rfl dX0_create_134 ?_
    refine x_iload_n C dX0_create_137 rfl hl 4 rfl ?_
    refine x_iconst (v := (2 : Int32)) C dX0_create_138 (by decide) ?_
    refine x_callV (As := [.int _, .int _]) (n := 2) C (kS_get l D cI cS aS _ 0 (by decide) _ _) (fun hh => nomatch hh) wm_X0_41 wi_X3_get we_X3_get wz_X3 wc_X3_get (by decide +kernel) rfl hP hD hS hA 1 1 rfl rfl rfl hl.1 dX0_create_139 rfl (Nat.le_of_ble_eq_true rfl) ⟨Nat.le_of_ble_eq_true rfl, Nat.le_of_ble_eq_true rfl⟩ ⟨Nat.zero_le _, Nat.zero_le _⟩ (fun H locs hP hD hS => ?_)
    refine x_iadd C dX0_create_142 ?_
    refine x_callV (As := [.int _, .int _, .int _]) (n := 3) C (kS_put l D cI cS aS _ 5 (by decide) _ _ _) (fun hh => nomatch hh) wm_X0_66 wi_X3_put we_X3_put wz_X3 wc_X3_put (by decide +kernel) rfl hP hD hS hA 11 1 rfl rfl rfl hl.1 dX0_create_143 rfl (Nat.le_of_ble_eq_true rfl) ⟨Nat.le_of_ble_eq_true rfl, Nat.le_of_ble_eq_true rfl⟩ ⟨Nat.zero_le _, Nat.zero_le _⟩ (fun H locs hP hD hS => ?_)
    refine x_nmS (wS cI aS) h hP hD (fun S19 h hP hD => ?_)
    refine x_iload C dX0_create_146 hl 0 rfl ?_
    exact RETh dX0_create_148 h hP hD hS
  · refine x_aload_n C dX0_create_73 rfl hl 2 rfl ?_
    refine x_get C inX2 hP 0 rfl rfl 1 (by decide) wf_X0_54 rfl dX0_create_74 ?_
    refine x_iload_n C dX0_create_77 rfl hl 3 rfl ?_
    refine x_iconst (v := (3 : Int32)) C dX0_create_78 (by decide) ?_
    refine x_iconst (v := (1 : Int32)) C dX0_create_79 (by decide) ?_
    refine x_callV (As := [.int _, .int _, .int _]) (n := 3) C (kS_add l D cI cS aS _ 1 (by decide) _ _ _) (fun hh => nomatch hh) wm_X0_57 wi_X3_add we_X3_add wz_X3 wc_X3_add (by decide +kernel) rfl hP hD hS hA 3 1 rfl rfl rfl hl.1 dX0_create_80 rfl (Nat.le_of_ble_eq_true rfl) ⟨Nat.le_of_ble_eq_true rfl, Nat.le_of_ble_eq_true rfl⟩ ⟨Nat.zero_le _, Nat.zero_le _⟩ (fun H locs hP hD hS => ?_)
    refine x_nmS (wS cI aS) h hP hD (fun S20 h hP hD => ?_)
    refine x_bipush (v := (-9 : Int32)) C dX0_create_83 (by decide) ?_
    exact RETh dX0_create_85 h hP hD hS
theorem dX1_enqueue_0 : decode cX1_enqueue 0 = .ok (.aload_n 0, 1) := by decide +kernel
theorem dX1_enqueue_1 : decode cX1_enqueue 1 = .ok (.getfield 9, 3) := by decide +kernel
theorem dX1_enqueue_4 : decode cX1_enqueue 4 = .ok (.iload_n 1, 1) := by decide +kernel
theorem dX1_enqueue_5 : decode cX1_enqueue 5 = .ok (.iconst 1, 1) := by decide +kernel
theorem dX1_enqueue_6 : decode cX1_enqueue 6 = .ok (.invokevirtual 15, 3) := by decide +kernel
theorem dX1_enqueue_9 : decode cX1_enqueue 9 = .ok (.istore_n 2, 1) := by decide +kernel
theorem dX1_enqueue_10 : decode cX1_enqueue 10 = .ok (.aload_n 0, 1) := by decide +kernel
theorem dX1_enqueue_11 : decode cX1_enqueue 11 = .ok (.getfield 21, 3) := by decide +kernel
theorem dX1_enqueue_14 : decode cX1_enqueue 14 = .ok (.invokevirtual 24, 3) := by decide +kernel
theorem dX1_enqueue_17 : decode cX1_enqueue 17 = .ok (.istore_n 3, 1) := by decide +kernel
theorem dX1_enqueue_18 : decode cX1_enqueue 18 = .ok (.aload_n 0, 1) := by decide +kernel
theorem dX1_enqueue_19 : decode cX1_enqueue 19 = .ok (.getfield 21, 3) := by decide +kernel
theorem dX1_enqueue_22 : decode cX1_enqueue 22 = .ok (.iload_n 3, 1) := by decide +kernel
theorem dX1_enqueue_23 : decode cX1_enqueue 23 = .ok (.iconst 0, 1) := by decide +kernel
theorem dX1_enqueue_24 : decode cX1_enqueue 24 = .ok (.aload_n 0, 1) := by decide +kernel
theorem dX1_enqueue_25 : decode cX1_enqueue 25 = .ok (.getfield 9, 3) := by decide +kernel
theorem dX1_enqueue_28 : decode cX1_enqueue 28 = .ok (.iload_n 1, 1) := by decide +kernel
theorem dX1_enqueue_29 : decode cX1_enqueue 29 = .ok (.iconst 0, 1) := by decide +kernel
theorem dX1_enqueue_30 : decode cX1_enqueue 30 = .ok (.invokevirtual 15, 3) := by decide +kernel
theorem dX1_enqueue_33 : decode cX1_enqueue 33 = .ok (.invokevirtual 28, 3) := by decide +kernel
theorem dX1_enqueue_36 : decode cX1_enqueue 36 = .ok (.aload_n 0, 1) := by decide +kernel
theorem dX1_enqueue_37 : decode cX1_enqueue 37 = .ok (.getfield 21, 3) := by decide +kernel
theorem dX1_enqueue_40 : decode cX1_enqueue 40 = .ok (.iload_n 3, 1) := by decide +kernel
theorem dX1_enqueue_41 : decode cX1_enqueue 41 = .ok (.iconst 1, 1) := by decide +kernel
theorem dX1_enqueue_42 : decode cX1_enqueue 42 = .ok (.aload_n 0, 1) := by decide +kernel
theorem dX1_enqueue_43 : decode cX1_enqueue 43 = .ok (.getfield 9, 3) := by decide +kernel
theorem dX1_enqueue_46 : decode cX1_enqueue 46 = .ok (.iload_n 1, 1) := by decide +kernel
theorem dX1_enqueue_47 : decode cX1_enqueue 47 = .ok (.iconst 5, 1) := by decide +kernel
theorem dX1_enqueue_48 : decode cX1_enqueue 48 = .ok (.invokevirtual 15, 3) := by decide +kernel
theorem dX1_enqueue_51 : decode cX1_enqueue 51 = .ok (.invokevirtual 28, 3) := by decide +kernel
theorem dX1_enqueue_54 : decode cX1_enqueue 54 = .ok (.aload_n 0, 1) := by decide +kernel
theorem dX1_enqueue_55 : decode cX1_enqueue 55 = .ok (.getfield 21, 3) := by decide +kernel
theorem dX1_enqueue_58 : decode cX1_enqueue 58 = .ok (.iload_n 3, 1) := by decide +kernel
theorem dX1_enqueue_59 : decode cX1_enqueue 59 = .ok (.iconst 2, 1) := by decide +kernel
theorem dX1_enqueue_60 : decode cX1_enqueue 60 = .ok (.aload_n 0, 1) := by decide +kernel
theorem dX1_enqueue_61 : decode cX1_enqueue 61 = .ok (.getfield 32, 3) := by decide +kernel
theorem dX1_enqueue_64 : decode cX1_enqueue 64 = .ok (.iload_n 2, 1) := by decide +kernel
theorem dX1_enqueue_65 : decode cX1_enqueue 65 = .ok (.bipush 8, 2) := by decide +kernel
theorem dX1_enqueue_67 : decode cX1_enqueue 67 = .ok (.invokevirtual 15, 3) := by decide +kernel
theorem dX1_enqueue_70 : decode cX1_enqueue 70 = .ok (.invokevirtual 28, 3) := by decide +kernel
theorem dX1_enqueue_73 : decode cX1_enqueue 73 = .ok (.aload_n 0, 1) := by decide +kernel
theorem dX1_enqueue_74 : decode cX1_enqueue 74 = .ok (.getfield 21, 3) := by decide +kernel
theorem dX1_enqueue_77 : decode cX1_enqueue 77 = .ok (.iload_n 3, 1) := by decide +kernel
theorem dX1_enqueue_78 : decode cX1_enqueue 78 = .ok (.iconst 3, 1) := by decide +kernel
theorem dX1_enqueue_79 : decode cX1_enqueue 79 = .ok (.aload_n 0, 1) := by decide +kernel
theorem dX1_enqueue_80 : decode cX1_enqueue 80 = .ok (.getfield 32, 3) := by decide +kernel
theorem dX1_enqueue_83 : decode cX1_enqueue 83 = .ok (.iload_n 2, 1) := by decide +kernel
theorem dX1_enqueue_84 : decode cX1_enqueue 84 = .ok (.bipush 9, 2) := by decide +kernel
theorem dX1_enqueue_86 : decode cX1_enqueue 86 = .ok (.invokevirtual 15, 3) := by decide +kernel
theorem dX1_enqueue_89 : decode cX1_enqueue 89 = .ok (.invokevirtual 28, 3) := by decide +kernel
theorem dX1_enqueue_92 : decode cX1_enqueue 92 = .ok (.return_, 1) := by decide +kernel
def fX1_enqueue (p2 : Int32) (S : StS) : Option (StS) :=
  nm ((sget 5 S p2 (1 : Int32))) fun v8 => nm (sappend 6 S).2 fun S9 => nm ((sappend 6 S).1) fun v10 => nm (sput 6 S9 v10 (0 : Int32) ((sget 5 S9 p2 (0 : Int32)))) fun S11 => nm (sput 6 S11 v10 (1 : Int32) ((sget 5 S11 p2 (5 : Int32)))) fun S12 => nm (sput 6 S12 v10 (2 : Int32) ((sget 0 S12 v8 (8 : Int32)))) fun S13 => nm (sput 6 S13 v10 (3 : Int32) ((sget 0 S13 v8 (9 : Int32)))) fun S14 => some S14
set_option maxHeartbeats 4000000 in
set_option maxRecDepth 100000 in
theorem kX1_enqueue (l : Launch) (D : va_G) (cI cS : ClassId) (aS : Nat → Nat) (p2 : Int32) (S : StS) {q : StS} (h : fX1_enqueue p2 S = some q) : Mc l D (tyL cI cS) false yX1_enqueue cX1_enqueue 4 none 4 [.ref (aS 0), .int p2] (wS cI aS S) none (wS cI aS q) := by
  refine Mc_of RX1 (by decide +kernel) rfl wc_X1_enqueue (Nat.le_of_ble_eq_true rfl) ?_
  intro p e s m args below meth c A Q ls C hA hz hP hD hS hl RET
  have RETh : ∀ {pc : Nat} {ls : Array Slot} {H : Heap} {locs : List Loc} {S1 : StS}, decode cX1_enqueue pc = .ok (.return_, 1) → some S1 = some q → va_P D vwCl (wS cI aS S1) H → va_D A (wS cI aS S1) → va_S A s.heap H locs → W p l e (rmL 4) s m args below meth c H locs 0 0 Q (F0 m pc ls []) := by
    intro pc ls H locs S1 hd h hP hD hS; cases h; exact RET (x_vret C hd) hP hD hS
  refine x_aload_n C dX1_enqueue_0 rfl hl 0 rfl ?_
  refine x_get C inX2 hP 0 rfl rfl 5 (by decide) wf_X1_9 rfl dX1_enqueue_1 ?_
  refine x_iload_n C dX1_enqueue_4 rfl hl 1 rfl ?_
  refine x_iconst (v := (1 : Int32)) C dX1_enqueue_5 (by decide) ?_
  refine x_callV (As := [.int _, .int _]) (n := 2) C (kS_get l D cI cS aS _ 5 (by decide) _ _) (fun hh => nomatch hh) wm_X1_15 wi_X3_get we_X3_get wz_X3 wc_X3_get (by decide +kernel) rfl hP hD hS hA 11 1 rfl rfl rfl hl.1 dX1_enqueue_6 rfl (Nat.le_of_ble_eq_true rfl) ⟨Nat.le_of_ble_eq_true rfl, Nat.le_of_ble_eq_true rfl⟩ ⟨Nat.zero_le _, Nat.zero_le _⟩ (fun H locs hP hD hS => ?_)
  refine x_nmi h (fun v8 h => ?_)
  refine x_istore_n (lv' := [(2, .int v8), (0, .ref (aS 0)), (1, .int p2)]) C dX1_enqueue_9 rfl hl (by decide) rfl (fun ls hl => ?_)
  refine x_aload_n C dX1_enqueue_10 rfl hl 1 rfl ?_
  refine x_get C inX2 hP 0 rfl rfl 6 (by decide) wf_X1_21 rfl dX1_enqueue_11 ?_
  refine x_callV (As := []) (n := 0) C (kS_append l D cI cS aS _ 6 (by decide)) (fun hh => nomatch hh) wm_X1_24 wi_X3_append we_X3_append wz_X3 wc_X3_append (by decide +kernel) rfl hP hD hS hA 13 1 rfl rfl rfl hl.1 dX1_enqueue_14 rfl (Nat.le_of_ble_eq_true rfl) ⟨Nat.le_of_ble_eq_true rfl, Nat.le_of_ble_eq_true rfl⟩ ⟨Nat.zero_le _, Nat.zero_le _⟩ (fun H locs hP hD hS => ?_)
  refine x_nmS (wS cI aS) h hP hD (fun S9 h hP hD => ?_)
  refine x_nmi h (fun v10 h => ?_)
  refine x_istore_n (lv' := [(3, .int v10), (2, .int v8), (0, .ref (aS 0)), (1, .int p2)]) C dX1_enqueue_17 rfl hl (by decide) rfl (fun ls hl => ?_)
  refine x_aload_n C dX1_enqueue_18 rfl hl 2 rfl ?_
  refine x_get C inX2 hP 0 rfl rfl 6 (by decide) wf_X1_21 rfl dX1_enqueue_19 ?_
  refine x_iload_n C dX1_enqueue_22 rfl hl 0 rfl ?_
  refine x_iconst (v := (0 : Int32)) C dX1_enqueue_23 (by decide) ?_
  refine x_aload_n C dX1_enqueue_24 rfl hl 2 rfl ?_
  refine x_get C inX2 hP 0 rfl rfl 5 (by decide) wf_X1_9 rfl dX1_enqueue_25 ?_
  refine x_iload_n C dX1_enqueue_28 rfl hl 3 rfl ?_
  refine x_iconst (v := (0 : Int32)) C dX1_enqueue_29 (by decide) ?_
  refine x_callV (As := [.int _, .int _]) (n := 2) C (kS_get l D cI cS aS _ 5 (by decide) _ _) (fun hh => nomatch hh) wm_X1_15 wi_X3_get we_X3_get wz_X3 wc_X3_get (by decide +kernel) rfl hP hD hS hA 11 1 rfl rfl rfl hl.1 dX1_enqueue_30 rfl (Nat.le_of_ble_eq_true rfl) ⟨Nat.le_of_ble_eq_true rfl, Nat.le_of_ble_eq_true rfl⟩ ⟨Nat.zero_le _, Nat.zero_le _⟩ (fun H locs hP hD hS => ?_)
  refine x_callV (As := [.int _, .int _, .int _]) (n := 3) C (kS_put l D cI cS aS _ 6 (by decide) _ _ _) (fun hh => nomatch hh) wm_X1_28 wi_X3_put we_X3_put wz_X3 wc_X3_put (by decide +kernel) rfl hP hD hS hA 13 1 rfl rfl rfl hl.1 dX1_enqueue_33 rfl (Nat.le_of_ble_eq_true rfl) ⟨Nat.le_of_ble_eq_true rfl, Nat.le_of_ble_eq_true rfl⟩ ⟨Nat.zero_le _, Nat.zero_le _⟩ (fun H locs hP hD hS => ?_)
  refine x_nmS (wS cI aS) h hP hD (fun S11 h hP hD => ?_)
  refine x_aload_n C dX1_enqueue_36 rfl hl 2 rfl ?_
  refine x_get C inX2 hP 0 rfl rfl 6 (by decide) wf_X1_21 rfl dX1_enqueue_37 ?_
  refine x_iload_n C dX1_enqueue_40 rfl hl 0 rfl ?_
  refine x_iconst (v := (1 : Int32)) C dX1_enqueue_41 (by decide) ?_
  refine x_aload_n C dX1_enqueue_42 rfl hl 2 rfl ?_
  refine x_get C inX2 hP 0 rfl rfl 5 (by decide) wf_X1_9 rfl dX1_enqueue_43 ?_
  refine x_iload_n C dX1_enqueue_46 rfl hl 3 rfl ?_
  refine x_iconst (v := (5 : Int32)) C dX1_enqueue_47 (by decide) ?_
  refine x_callV (As := [.int _, .int _]) (n := 2) C (kS_get l D cI cS aS _ 5 (by decide) _ _) (fun hh => nomatch hh) wm_X1_15 wi_X3_get we_X3_get wz_X3 wc_X3_get (by decide +kernel) rfl hP hD hS hA 11 1 rfl rfl rfl hl.1 dX1_enqueue_48 rfl (Nat.le_of_ble_eq_true rfl) ⟨Nat.le_of_ble_eq_true rfl, Nat.le_of_ble_eq_true rfl⟩ ⟨Nat.zero_le _, Nat.zero_le _⟩ (fun H locs hP hD hS => ?_)
  refine x_callV (As := [.int _, .int _, .int _]) (n := 3) C (kS_put l D cI cS aS _ 6 (by decide) _ _ _) (fun hh => nomatch hh) wm_X1_28 wi_X3_put we_X3_put wz_X3 wc_X3_put (by decide +kernel) rfl hP hD hS hA 13 1 rfl rfl rfl hl.1 dX1_enqueue_51 rfl (Nat.le_of_ble_eq_true rfl) ⟨Nat.le_of_ble_eq_true rfl, Nat.le_of_ble_eq_true rfl⟩ ⟨Nat.zero_le _, Nat.zero_le _⟩ (fun H locs hP hD hS => ?_)
  refine x_nmS (wS cI aS) h hP hD (fun S12 h hP hD => ?_)
  refine x_aload_n C dX1_enqueue_54 rfl hl 2 rfl ?_
  refine x_get C inX2 hP 0 rfl rfl 6 (by decide) wf_X1_21 rfl dX1_enqueue_55 ?_
  refine x_iload_n C dX1_enqueue_58 rfl hl 0 rfl ?_
  refine x_iconst (v := (2 : Int32)) C dX1_enqueue_59 (by decide) ?_
  refine x_aload_n C dX1_enqueue_60 rfl hl 2 rfl ?_
  refine x_get C inX2 hP 0 rfl rfl 0 (by decide) wf_X1_32 rfl dX1_enqueue_61 ?_
  refine x_iload_n C dX1_enqueue_64 rfl hl 1 rfl ?_
  refine x_bipush (v := (8 : Int32)) C dX1_enqueue_65 (by decide) ?_
  refine x_callV (As := [.int _, .int _]) (n := 2) C (kS_get l D cI cS aS _ 0 (by decide) _ _) (fun hh => nomatch hh) wm_X1_15 wi_X3_get we_X3_get wz_X3 wc_X3_get (by decide +kernel) rfl hP hD hS hA 1 1 rfl rfl rfl hl.1 dX1_enqueue_67 rfl (Nat.le_of_ble_eq_true rfl) ⟨Nat.le_of_ble_eq_true rfl, Nat.le_of_ble_eq_true rfl⟩ ⟨Nat.zero_le _, Nat.zero_le _⟩ (fun H locs hP hD hS => ?_)
  refine x_callV (As := [.int _, .int _, .int _]) (n := 3) C (kS_put l D cI cS aS _ 6 (by decide) _ _ _) (fun hh => nomatch hh) wm_X1_28 wi_X3_put we_X3_put wz_X3 wc_X3_put (by decide +kernel) rfl hP hD hS hA 13 1 rfl rfl rfl hl.1 dX1_enqueue_70 rfl (Nat.le_of_ble_eq_true rfl) ⟨Nat.le_of_ble_eq_true rfl, Nat.le_of_ble_eq_true rfl⟩ ⟨Nat.zero_le _, Nat.zero_le _⟩ (fun H locs hP hD hS => ?_)
  refine x_nmS (wS cI aS) h hP hD (fun S13 h hP hD => ?_)
  refine x_aload_n C dX1_enqueue_73 rfl hl 2 rfl ?_
  refine x_get C inX2 hP 0 rfl rfl 6 (by decide) wf_X1_21 rfl dX1_enqueue_74 ?_
  refine x_iload_n C dX1_enqueue_77 rfl hl 0 rfl ?_
  refine x_iconst (v := (3 : Int32)) C dX1_enqueue_78 (by decide) ?_
  refine x_aload_n C dX1_enqueue_79 rfl hl 2 rfl ?_
  refine x_get C inX2 hP 0 rfl rfl 0 (by decide) wf_X1_32 rfl dX1_enqueue_80 ?_
  refine x_iload_n C dX1_enqueue_83 rfl hl 1 rfl ?_
  refine x_bipush (v := (9 : Int32)) C dX1_enqueue_84 (by decide) ?_
  refine x_callV (As := [.int _, .int _]) (n := 2) C (kS_get l D cI cS aS _ 0 (by decide) _ _) (fun hh => nomatch hh) wm_X1_15 wi_X3_get we_X3_get wz_X3 wc_X3_get (by decide +kernel) rfl hP hD hS hA 1 1 rfl rfl rfl hl.1 dX1_enqueue_86 rfl (Nat.le_of_ble_eq_true rfl) ⟨Nat.le_of_ble_eq_true rfl, Nat.le_of_ble_eq_true rfl⟩ ⟨Nat.zero_le _, Nat.zero_le _⟩ (fun H locs hP hD hS => ?_)
  refine x_callV (As := [.int _, .int _, .int _]) (n := 3) C (kS_put l D cI cS aS _ 6 (by decide) _ _ _) (fun hh => nomatch hh) wm_X1_28 wi_X3_put we_X3_put wz_X3 wc_X3_put (by decide +kernel) rfl hP hD hS hA 13 1 rfl rfl rfl hl.1 dX1_enqueue_89 rfl (Nat.le_of_ble_eq_true rfl) ⟨Nat.le_of_ble_eq_true rfl, Nat.le_of_ble_eq_true rfl⟩ ⟨Nat.zero_le _, Nat.zero_le _⟩ (fun H locs hP hD hS => ?_)
  refine x_nmS (wS cI aS) h hP hD (fun S14 h hP hD => ?_)
  exact RETh dX1_enqueue_92 h hP hD hS
theorem dX0_send_0 : decode cX0_send 0 = .ok (.aload_n 0, 1) := by decide +kernel
theorem dX0_send_1 : decode cX0_send 1 = .ok (.getfield 69, 3) := by decide +kernel
theorem dX0_send_4 : decode cX0_send 4 = .ok (.iconst 0, 1) := by decide +kernel
theorem dX0_send_5 : decode cX0_send 5 = .ok (.iload_n 1, 1) := by decide +kernel
theorem dX0_send_6 : decode cX0_send 6 = .ok (.invokevirtual 79, 3) := by decide +kernel
theorem dX0_send_9 : decode cX0_send 9 = .ok (.istore_n 2, 1) := by decide +kernel
theorem dX0_send_10 : decode cX0_send 10 = .ok (.iload_n 2, 1) := by decide +kernel
theorem dX0_send_11 : decode cX0_send 11 = .ok (.bipush (-9), 2) := by decide +kernel
theorem dX0_send_13 : decode cX0_send 13 = .ok (.if_icmp .ne 6, 3) := by decide +kernel
theorem dX0_send_16 : decode cX0_send 16 = .ok (.bipush (-9), 2) := by decide +kernel
theorem dX0_send_18 : decode cX0_send 18 = .ok (.ireturn, 1) := by decide +kernel
theorem dX0_send_19 : decode cX0_send 19 = .ok (.aload_n 0, 1) := by decide +kernel
theorem dX0_send_20 : decode cX0_send 20 = .ok (.getfield 69, 3) := by decide +kernel
theorem dX0_send_23 : decode cX0_send 23 = .ok (.iload_n 2, 1) := by decide +kernel
theorem dX0_send_24 : decode cX0_send 24 = .ok (.iconst 1, 1) := by decide +kernel
theorem dX0_send_25 : decode cX0_send 25 = .ok (.invokevirtual 41, 3) := by decide +kernel
theorem dX0_send_28 : decode cX0_send 28 = .ok (.istore_n 3, 1) := by decide +kernel
theorem dX0_send_29 : decode cX0_send 29 = .ok (.aload_n 0, 1) := by decide +kernel
theorem dX0_send_30 : decode cX0_send 30 = .ok (.getfield 37, 3) := by decide +kernel
theorem dX0_send_33 : decode cX0_send 33 = .ok (.iload_n 3, 1) := by decide +kernel
theorem dX0_send_34 : decode cX0_send 34 = .ok (.iconst 4, 1) := by decide +kernel
theorem dX0_send_35 : decode cX0_send 35 = .ok (.invokevirtual 41, 3) := by decide +kernel
theorem dX0_send_38 : decode cX0_send 38 = .ok (.istore 4, 2) := by decide +kernel
theorem dX0_send_40 : decode cX0_send 40 = .ok (.aload_n 0, 1) := by decide +kernel
theorem dX0_send_41 : decode cX0_send 41 = .ok (.getfield 54, 3) := by decide +kernel
theorem dX0_send_44 : decode cX0_send 44 = .ok (.iload_n 3, 1) := by decide +kernel
theorem dX0_send_45 : decode cX0_send 45 = .ok (.iconst 1, 1) := by decide +kernel
theorem dX0_send_46 : decode cX0_send 46 = .ok (.iconst 1, 1) := by decide +kernel
theorem dX0_send_47 : decode cX0_send 47 = .ok (.invokevirtual 57, 3) := by decide +kernel
theorem dX0_send_50 : decode cX0_send 50 = .ok (.aload_n 0, 1) := by decide +kernel
theorem dX0_send_51 : decode cX0_send 51 = .ok (.getfield 69, 3) := by decide +kernel
theorem dX0_send_54 : decode cX0_send 54 = .ok (.iload_n 2, 1) := by decide +kernel
theorem dX0_send_55 : decode cX0_send 55 = .ok (.iconst 3, 1) := by decide +kernel
theorem dX0_send_56 : decode cX0_send 56 = .ok (.iconst 1, 1) := by decide +kernel
theorem dX0_send_57 : decode cX0_send 57 = .ok (.invokevirtual 57, 3) := by decide +kernel
theorem dX0_send_60 : decode cX0_send 60 = .ok (.aload_n 0, 1) := by decide +kernel
theorem dX0_send_61 : decode cX0_send 61 = .ok (.getfield 69, 3) := by decide +kernel
theorem dX0_send_64 : decode cX0_send 64 = .ok (.iload_n 2, 1) := by decide +kernel
theorem dX0_send_65 : decode cX0_send 65 = .ok (.iconst 4, 1) := by decide +kernel
theorem dX0_send_66 : decode cX0_send 66 = .ok (.iconst 0, 1) := by decide +kernel
theorem dX0_send_67 : decode cX0_send 67 = .ok (.invokevirtual 66, 3) := by decide +kernel
theorem dX0_send_70 : decode cX0_send 70 = .ok (.aload_n 0, 1) := by decide +kernel
theorem dX0_send_71 : decode cX0_send 71 = .ok (.getfield 69, 3) := by decide +kernel
theorem dX0_send_74 : decode cX0_send 74 = .ok (.iload_n 2, 1) := by decide +kernel
theorem dX0_send_75 : decode cX0_send 75 = .ok (.iconst 5, 1) := by decide +kernel
theorem dX0_send_76 : decode cX0_send 76 = .ok (.aload_n 0, 1) := by decide +kernel
theorem dX0_send_77 : decode cX0_send 77 = .ok (.getfield 47, 3) := by decide +kernel
theorem dX0_send_80 : decode cX0_send 80 = .ok (.iload 4, 2) := by decide +kernel
theorem dX0_send_82 : decode cX0_send 82 = .ok (.iadd, 1) := by decide +kernel
theorem dX0_send_83 : decode cX0_send 83 = .ok (.aload_n 0, 1) := by decide +kernel
theorem dX0_send_84 : decode cX0_send 84 = .ok (.getfield 69, 3) := by decide +kernel
theorem dX0_send_87 : decode cX0_send 87 = .ok (.iload_n 2, 1) := by decide +kernel
theorem dX0_send_88 : decode cX0_send 88 = .ok (.iconst 2, 1) := by decide +kernel
theorem dX0_send_89 : decode cX0_send 89 = .ok (.invokevirtual 41, 3) := by decide +kernel
theorem dX0_send_92 : decode cX0_send 92 = .ok (.invokestatic 61, 3) := by decide +kernel
theorem dX0_send_95 : decode cX0_send 95 = .ok (.invokevirtual 66, 3) := by decide +kernel
theorem dX0_send_98 : decode cX0_send 98 = .ok (.bipush (-9), 2) := by decide +kernel
theorem dX0_send_100 : decode cX0_send 100 = .ok (.istore 5, 2) := by decide +kernel
theorem dX0_send_102 : decode cX0_send 102 = .ok (.aload_n 0, 1) := by decide +kernel
theorem dX0_send_103 : decode cX0_send 103 = .ok (.getfield 82, 3) := by decide +kernel
theorem dX0_send_106 : decode cX0_send 106 = .ok (.invokevirtual 85, 3) := by decide +kernel
theorem dX0_send_109 : decode cX0_send 109 = .ok (.aload_n 0, 1) := by decide +kernel
theorem dX0_send_110 : decode cX0_send 110 = .ok (.getfield 88, 3) := by decide +kernel
theorem dX0_send_113 : decode cX0_send 113 = .ok (.iconst 1, 1) := by decide +kernel
theorem dX0_send_114 : decode cX0_send 114 = .ok (.iconst 0, 1) := by decide +kernel
theorem dX0_send_115 : decode cX0_send 115 = .ok (.invokevirtual 41, 3) := by decide +kernel
theorem dX0_send_118 : decode cX0_send 118 = .ok (.if_icmp .lt 36, 3) := by decide +kernel
theorem dX0_send_121 : decode cX0_send 121 = .ok (.aload_n 0, 1) := by decide +kernel
theorem dX0_send_122 : decode cX0_send 122 = .ok (.getfield 91, 3) := by decide +kernel
theorem dX0_send_125 : decode cX0_send 125 = .ok (.iconst 0, 1) := by decide +kernel
theorem dX0_send_126 : decode cX0_send 126 = .ok (.iconst 0, 1) := by decide +kernel
theorem dX0_send_127 : decode cX0_send 127 = .ok (.invokevirtual 41, 3) := by decide +kernel
theorem dX0_send_130 : decode cX0_send 130 = .ok (.ifCond .ne 5, 3) := by decide +kernel
theorem dX0_send_133 : decode cX0_send 133 = .ok (.iload_n 1, 1) := by decide +kernel
theorem dX0_send_134 : decode cX0_send 134 = .ok (.ireturn, 1) := by decide +kernel
theorem dX0_send_135 : decode cX0_send 135 = .ok (.aload_n 0, 1) := by decide +kernel
theorem dX0_send_136 : decode cX0_send 136 = .ok (.getfield 82, 3) := by decide +kernel
theorem dX0_send_139 : decode cX0_send 139 = .ok (.iconst 0, 1) := by decide +kernel
theorem dX0_send_140 : decode cX0_send 140 = .ok (.iconst 0, 1) := by decide +kernel
theorem dX0_send_141 : decode cX0_send 141 = .ok (.invokevirtual 41, 3) := by decide +kernel
theorem dX0_send_144 : decode cX0_send 144 = .ok (.istore 5, 2) := by decide +kernel
theorem dX0_send_146 : decode cX0_send 146 = .ok (.aload_n 0, 1) := by decide +kernel
theorem dX0_send_147 : decode cX0_send 147 = .ok (.getfield 82, 3) := by decide +kernel
theorem dX0_send_150 : decode cX0_send 150 = .ok (.iconst 0, 1) := by decide +kernel
theorem dX0_send_151 : decode cX0_send 151 = .ok (.invokevirtual 94, 3) := by decide +kernel
theorem dX0_send_154 : decode cX0_send 154 = .ok (.aload_n 0, 1) := by decide +kernel
theorem dX0_send_155 : decode cX0_send 155 = .ok (.iload_n 2, 1) := by decide +kernel
theorem dX0_send_156 : decode cX0_send 156 = .ok (.invokestatic 98, 3) := by decide +kernel
theorem dX0_send_159 : decode cX0_send 159 = .ok (.iload 5, 2) := by decide +kernel
theorem dX0_send_161 : decode cX0_send 161 = .ok (.ireturn, 1) := by decide +kernel
def bfX0_send_154 (p2 : Int32) (x2 : Int32) (x5 : Int32) (S : StS) : Option (Int32 × (StS)) :=
  ob (fX1_enqueue x2 S) fun u11 => some (x5, u11)
def fX0_send (p2 : Int32) (S : StS) : Option (Int32 × (StS)) :=
  nm ((sfind 5 S (0 : Int32) p2)) fun v12 => (if v12 = (-9 : Int32) then some ((-9 : Int32), S) else nm ((sget 5 S v12 (1 : Int32))) fun v13 => nm ((sget 0 S v13 (4 : Int32))) fun v14 => nm (sadd 1 S v13 (1 : Int32) (1 : Int32)) fun S15 => nm (sadd 5 S15 v12 (3 : Int32) (1 : Int32)) fun S16 => nm (sput 5 S16 v12 (4 : Int32) (0 : Int32)) fun S17 => nm (sput 5 S17 v12 (5 : Int32) ((if (sget 5 S17 v12 (2 : Int32)) < ((S17.2 12) + v14) then (sget 5 S17 v12 (2 : Int32)) else ((S17.2 12) + v14)))) fun S18 => (if (ssize 6 S18) < (sget 3 S18 (1 : Int32) (0 : Int32)) then bfX0_send_154 p2  v12 ((-9 : Int32)) S18 else (if (sget 4 S18 (0 : Int32) (0 : Int32)) = 0 then some (p2, S18) else nm ((sget 6 S18 (0 : Int32) (0 : Int32))) fun v19 => nm (sdrop 6 S18 (0 : Int32)) fun S20 => bfX0_send_154 p2  v12 v19 S20)))
set_option maxHeartbeats 4000000 in
set_option maxRecDepth 100000 in
theorem kX0_send (l : Launch) (D : va_G) (cI cS : ClassId) (aS : Nat → Nat) (p2 : Int32) (S : StS) {q : Int32 × (StS)} (h : fX0_send p2 S = some q) : Mc l D (tyL cI cS) false yX0_send cX0_send 6 (some .int) 5 [.ref (aS 0), .int p2] (wS cI aS S) (some (.int q.1)) (wS cI aS q.2) := by
  refine Mc_of RX0 (by decide +kernel) rfl wc_X0_send (Nat.le_of_ble_eq_true rfl) ?_
  intro p e s m args below meth c A Q ls C hA hz hP hD hS hl RET
  have RETh : ∀ {pc : Nat} {ls : Array Slot} {H : Heap} {locs : List Loc} {x : Int32} {S1 : StS}, decode cX0_send pc = .ok (.ireturn, 1) → some (x, S1) = some q → va_P D vwCl (wS cI aS S1) H → va_D A (wS cI aS S1) → va_S A s.heap H locs → W p l e (rmL 5) s m args below meth c H locs 0 0 Q (F0 m pc ls [.int x]) := by
    intro pc ls H locs x S1 hd h hP hD hS; cases h; exact RET (x_iret C hd) hP hD hS
  have B154 : ∀ (x2 : Int32) (x5 : Int32) (S : StS), bfX0_send_154 p2 x2 x5 S = some q → ∀ (H : Heap) (locs : List Loc) (ls : Array Slot), va_P D vwCl (wS cI aS S) H → va_D A (wS cI aS S) → va_S A s.heap H locs → lv_has ls 6 [(0, .ref (aS 0)), (2, .int x2), (5, .int x5)] → W p l e (rmL 5) s m args below meth c H locs 0 0 Q (F0 m 154 ls []) := by
    intro x2 x5 S h H locs ls hP hD hS hl
    refine x_aload_n C dX0_send_154 rfl hl 0 rfl ?_
    refine x_iload_n C dX0_send_155 rfl hl 1 rfl ?_
    obtain ⟨u11, hu11, h⟩ := ob_some h
    refine x_callS (As := [.ref _, .int _]) (n := 2) C (kX1_enqueue l D cI cS aS _ _ hu11) (fun hh => nomatch hh) wm_X0_98 wt_X1_enqueue wz_X1 wc_X1_enqueue (by decide +kernel) rfl hP hD hS hA hl.1 dX0_send_156 rfl (Nat.le_of_ble_eq_true rfl) ⟨Nat.le_of_ble_eq_true rfl, Nat.le_of_ble_eq_true rfl⟩ ⟨Nat.zero_le _, Nat.zero_le _⟩ (fun H locs hP hD hS => ?_)
    refine x_iload C dX0_send_159 hl 2 rfl ?_
    exact RETh dX0_send_161 h hP hD hS
  refine x_aload_n C dX0_send_0 rfl hl 0 rfl ?_
  refine x_get C inX2 hP 0 rfl rfl 5 (by decide) wf_X0_69 rfl dX0_send_1 ?_
  refine x_iconst (v := (0 : Int32)) C dX0_send_4 (by decide) ?_
  refine x_iload_n C dX0_send_5 rfl hl 1 rfl ?_
  refine x_callV (As := [.int _, .int _]) (n := 2) C (kS_find l D cI cS aS _ 5 (by decide) _ _) (fun hh => nomatch hh) wm_X0_79 wi_X3_find we_X3_find wz_X3 wc_X3_find (by decide +kernel) rfl hP hD hS hA 11 1 rfl rfl rfl hl.1 dX0_send_6 rfl (Nat.le_of_ble_eq_true rfl) ⟨Nat.le_of_ble_eq_true rfl, Nat.le_of_ble_eq_true rfl⟩ ⟨Nat.zero_le _, Nat.zero_le _⟩ (fun H locs hP hD hS => ?_)
  refine x_nmi h (fun v12 h => ?_)
  refine x_istore_n (lv' := [(2, .int v12), (0, .ref (aS 0)), (1, .int p2)]) C dX0_send_9 rfl hl (by decide) rfl (fun ls hl => ?_)
  refine x_iload_n C dX0_send_10 rfl hl 0 rfl ?_
  refine x_bipush (v := (-9 : Int32)) C dX0_send_11 (by decide) ?_
  refine x_icmp_ne (tgt := 19) C h dX0_send_13 (by decide) (fun h => ?_) (fun h => ?_)
  · refine x_aload_n C dX0_send_19 rfl hl 1 rfl ?_
    refine x_get C inX2 hP 0 rfl rfl 5 (by decide) wf_X0_69 rfl dX0_send_20 ?_
    refine x_iload_n C dX0_send_23 rfl hl 0 rfl ?_
    refine x_iconst (v := (1 : Int32)) C dX0_send_24 (by decide) ?_
    refine x_callV (As := [.int _, .int _]) (n := 2) C (kS_get l D cI cS aS _ 5 (by decide) _ _) (fun hh => nomatch hh) wm_X0_41 wi_X3_get we_X3_get wz_X3 wc_X3_get (by decide +kernel) rfl hP hD hS hA 11 1 rfl rfl rfl hl.1 dX0_send_25 rfl (Nat.le_of_ble_eq_true rfl) ⟨Nat.le_of_ble_eq_true rfl, Nat.le_of_ble_eq_true rfl⟩ ⟨Nat.zero_le _, Nat.zero_le _⟩ (fun H locs hP hD hS => ?_)
    refine x_nmi h (fun v13 h => ?_)
    refine x_istore_n (lv' := [(3, .int v13), (2, .int v12), (0, .ref (aS 0)), (1, .int p2)]) C dX0_send_28 rfl hl (by decide) rfl (fun ls hl => ?_)
    refine x_aload_n C dX0_send_29 rfl hl 2 rfl ?_
    refine x_get C inX2 hP 0 rfl rfl 0 (by decide) wf_X0_37 rfl dX0_send_30 ?_
    refine x_iload_n C dX0_send_33 rfl hl 0 rfl ?_
    refine x_iconst (v := (4 : Int32)) C dX0_send_34 (by decide) ?_
    refine x_callV (As := [.int _, .int _]) (n := 2) C (kS_get l D cI cS aS _ 0 (by decide) _ _) (fun hh => nomatch hh) wm_X0_41 wi_X3_get we_X3_get wz_X3 wc_X3_get (by decide +kernel) rfl hP hD hS hA 1 1 rfl rfl rfl hl.1 dX0_send_35 rfl (Nat.le_of_ble_eq_true rfl) ⟨Nat.le_of_ble_eq_true rfl, Nat.le_of_ble_eq_true rfl⟩ ⟨Nat.zero_le _, Nat.zero_le _⟩ (fun H locs hP hD hS => ?_)
    refine x_nmi h (fun v14 h => ?_)
    refine x_istore (lv' := [(4, .int v14), (3, .int v13), (2, .int v12), (0, .ref (aS 0)), (1, .int p2)]) C dX0_send_38 hl (by decide) rfl (fun ls hl => ?_)
    refine x_aload_n C dX0_send_40 rfl hl 3 rfl ?_
    refine x_get C inX2 hP 0 rfl rfl 1 (by decide) wf_X0_54 rfl dX0_send_41 ?_
    refine x_iload_n C dX0_send_44 rfl hl 1 rfl ?_
    refine x_iconst (v := (1 : Int32)) C dX0_send_45 (by decide) ?_
    refine x_iconst (v := (1 : Int32)) C dX0_send_46 (by decide) ?_
    refine x_callV (As := [.int _, .int _, .int _]) (n := 3) C (kS_add l D cI cS aS _ 1 (by decide) _ _ _) (fun hh => nomatch hh) wm_X0_57 wi_X3_add we_X3_add wz_X3 wc_X3_add (by decide +kernel) rfl hP hD hS hA 3 1 rfl rfl rfl hl.1 dX0_send_47 rfl (Nat.le_of_ble_eq_true rfl) ⟨Nat.le_of_ble_eq_true rfl, Nat.le_of_ble_eq_true rfl⟩ ⟨Nat.zero_le _, Nat.zero_le _⟩ (fun H locs hP hD hS => ?_)
    refine x_nmS (wS cI aS) h hP hD (fun S15 h hP hD => ?_)
    refine x_aload_n C dX0_send_50 rfl hl 3 rfl ?_
    refine x_get C inX2 hP 0 rfl rfl 5 (by decide) wf_X0_69 rfl dX0_send_51 ?_
    refine x_iload_n C dX0_send_54 rfl hl 2 rfl ?_
    refine x_iconst (v := (3 : Int32)) C dX0_send_55 (by decide) ?_
    refine x_iconst (v := (1 : Int32)) C dX0_send_56 (by decide) ?_
    refine x_callV (As := [.int _, .int _, .int _]) (n := 3) C (kS_add l D cI cS aS _ 5 (by decide) _ _ _) (fun hh => nomatch hh) wm_X0_57 wi_X3_add we_X3_add wz_X3 wc_X3_add (by decide +kernel) rfl hP hD hS hA 11 1 rfl rfl rfl hl.1 dX0_send_57 rfl (Nat.le_of_ble_eq_true rfl) ⟨Nat.le_of_ble_eq_true rfl, Nat.le_of_ble_eq_true rfl⟩ ⟨Nat.zero_le _, Nat.zero_le _⟩ (fun H locs hP hD hS => ?_)
    refine x_nmS (wS cI aS) h hP hD (fun S16 h hP hD => ?_)
    refine x_aload_n C dX0_send_60 rfl hl 3 rfl ?_
    refine x_get C inX2 hP 0 rfl rfl 5 (by decide) wf_X0_69 rfl dX0_send_61 ?_
    refine x_iload_n C dX0_send_64 rfl hl 2 rfl ?_
    refine x_iconst (v := (4 : Int32)) C dX0_send_65 (by decide) ?_
    refine x_iconst (v := (0 : Int32)) C dX0_send_66 (by decide) ?_
    refine x_callV (As := [.int _, .int _, .int _]) (n := 3) C (kS_put l D cI cS aS _ 5 (by decide) _ _ _) (fun hh => nomatch hh) wm_X0_66 wi_X3_put we_X3_put wz_X3 wc_X3_put (by decide +kernel) rfl hP hD hS hA 11 1 rfl rfl rfl hl.1 dX0_send_67 rfl (Nat.le_of_ble_eq_true rfl) ⟨Nat.le_of_ble_eq_true rfl, Nat.le_of_ble_eq_true rfl⟩ ⟨Nat.zero_le _, Nat.zero_le _⟩ (fun H locs hP hD hS => ?_)
    refine x_nmS (wS cI aS) h hP hD (fun S17 h hP hD => ?_)
    refine x_aload_n C dX0_send_70 rfl hl 3 rfl ?_
    refine x_get C inX2 hP 0 rfl rfl 5 (by decide) wf_X0_69 rfl dX0_send_71 ?_
    refine x_iload_n C dX0_send_74 rfl hl 2 rfl ?_
    refine x_iconst (v := (5 : Int32)) C dX0_send_75 (by decide) ?_
    refine x_aload_n C dX0_send_76 rfl hl 3 rfl ?_
    refine x_get C inX2 hP 0 rfl rfl 12 (by decide) wf_X0_47 rfl dX0_send_77 ?_
    refine x_iload C dX0_send_80 hl 0 rfl ?_
    refine x_iadd C dX0_send_82 ?_
    refine x_aload_n C dX0_send_83 rfl hl 3 rfl ?_
    refine x_get C inX2 hP 0 rfl rfl 5 (by decide) wf_X0_69 rfl dX0_send_84 ?_
    refine x_iload_n C dX0_send_87 rfl hl 2 rfl ?_
    refine x_iconst (v := (2 : Int32)) C dX0_send_88 (by decide) ?_
    refine x_callV (As := [.int _, .int _]) (n := 2) C (kS_get l D cI cS aS _ 5 (by decide) _ _) (fun hh => nomatch hh) wm_X0_41 wi_X3_get we_X3_get wz_X3 wc_X3_get (by decide +kernel) rfl hP hD hS hA 11 1 rfl rfl rfl hl.1 dX0_send_89 rfl (Nat.le_of_ble_eq_true rfl) ⟨Nat.le_of_ble_eq_true rfl, Nat.le_of_ble_eq_true rfl⟩ ⟨Nat.zero_le _, Nat.zero_le _⟩ (fun H locs hP hD hS => ?_)
    refine x_min C hl.1 wm_X0_61 wt_J9_min_7cf53 wz_J9 wc_J9_min_7cf53 (by decide) (Nat.le_of_ble_eq_true rfl) ⟨Nat.zero_le _, Nat.zero_le _⟩ dX0_send_92 ?_
    refine x_callV (As := [.int _, .int _, .int _]) (n := 3) C (kS_put l D cI cS aS _ 5 (by decide) _ _ _) (fun hh => nomatch hh) wm_X0_66 wi_X3_put we_X3_put wz_X3 wc_X3_put (by decide +kernel) rfl hP hD hS hA 11 1 rfl rfl rfl hl.1 dX0_send_95 rfl (Nat.le_of_ble_eq_true rfl) ⟨Nat.le_of_ble_eq_true rfl, Nat.le_of_ble_eq_true rfl⟩ ⟨Nat.zero_le _, Nat.zero_le _⟩ (fun H locs hP hD hS => ?_)
    refine x_nmS (wS cI aS) h hP hD (fun S18 h hP hD => ?_)
    refine x_bipush (v := (-9 : Int32)) C dX0_send_98 (by decide) ?_
    refine x_istore (lv' := [(5, .int (-9 : Int32)), (4, .int v14), (3, .int v13), (2, .int v12), (0, .ref (aS 0)), (1, .int p2)]) C dX0_send_100 hl (by decide) rfl (fun ls hl => ?_)
    refine x_aload_n C dX0_send_102 rfl hl 4 rfl ?_
    refine x_get C inX2 hP 0 rfl rfl 6 (by decide) wf_X0_82 rfl dX0_send_103 ?_
    refine x_callV (As := []) (n := 0) C (kS_size l D cI cS aS _ 6 (by decide)) (fun hh => nomatch hh) wm_X0_85 wi_X3_size we_X3_size wz_X3 wc_X3_size (by decide +kernel) rfl hP hD hS hA 13 1 rfl rfl rfl hl.1 dX0_send_106 rfl (Nat.le_of_ble_eq_true rfl) ⟨Nat.le_of_ble_eq_true rfl, Nat.le_of_ble_eq_true rfl⟩ ⟨Nat.zero_le _, Nat.zero_le _⟩ (fun H locs hP hD hS => ?_)
    refine x_aload_n C dX0_send_109 rfl hl 4 rfl ?_
    refine x_get C inX2 hP 0 rfl rfl 3 (by decide) wf_X0_88 rfl dX0_send_110 ?_
    refine x_iconst (v := (1 : Int32)) C dX0_send_113 (by decide) ?_
    refine x_iconst (v := (0 : Int32)) C dX0_send_114 (by decide) ?_
    refine x_callV (As := [.int _, .int _]) (n := 2) C (kS_get l D cI cS aS _ 3 (by decide) _ _) (fun hh => nomatch hh) wm_X0_41 wi_X3_get we_X3_get wz_X3 wc_X3_get (by decide +kernel) rfl hP hD hS hA 7 1 rfl rfl rfl hl.1 dX0_send_115 rfl (Nat.le_of_ble_eq_true rfl) ⟨Nat.le_of_ble_eq_true rfl, Nat.le_of_ble_eq_true rfl⟩ ⟨Nat.zero_le _, Nat.zero_le _⟩ (fun H locs hP hD hS => ?_)
    refine x_icmp_lt (tgt := 154) C h dX0_send_118 (by decide) (fun h => ?_) (fun h => ?_)
    · exact B154 _ _ _ h _ _ _ hP hD hS (lv_sub hl [4, 3, 0] rfl)
    · refine x_aload_n C dX0_send_121 rfl hl 4 rfl ?_
      refine x_get C inX2 hP 0 rfl rfl 4 (by decide) wf_X0_91 rfl dX0_send_122 ?_
      refine x_iconst (v := (0 : Int32)) C dX0_send_125 (by decide) ?_
      refine x_iconst (v := (0 : Int32)) C dX0_send_126 (by decide) ?_
      refine x_callV (As := [.int _, .int _]) (n := 2) C (kS_get l D cI cS aS _ 4 (by decide) _ _) (fun hh => nomatch hh) wm_X0_41 wi_X3_get we_X3_get wz_X3 wc_X3_get (by decide +kernel) rfl hP hD hS hA 9 1 rfl rfl rfl hl.1 dX0_send_127 rfl (Nat.le_of_ble_eq_true rfl) ⟨Nat.le_of_ble_eq_true rfl, Nat.le_of_ble_eq_true rfl⟩ ⟨Nat.zero_le _, Nat.zero_le _⟩ (fun H locs hP hD hS => ?_)
      refine x_if_ne (tgt := 135) C h dX0_send_130 (by decide) (fun h => ?_) (fun h => ?_)
      · refine x_aload_n C dX0_send_135 rfl hl 4 rfl ?_
        refine x_get C inX2 hP 0 rfl rfl 6 (by decide) wf_X0_82 rfl dX0_send_136 ?_
        refine x_iconst (v := (0 : Int32)) C dX0_send_139 (by decide) ?_
        refine x_iconst (v := (0 : Int32)) C dX0_send_140 (by decide) ?_
        refine x_callV (As := [.int _, .int _]) (n := 2) C (kS_get l D cI cS aS _ 6 (by decide) _ _) (fun hh => nomatch hh) wm_X0_41 wi_X3_get we_X3_get wz_X3 wc_X3_get (by decide +kernel) rfl hP hD hS hA 13 1 rfl rfl rfl hl.1 dX0_send_141 rfl (Nat.le_of_ble_eq_true rfl) ⟨Nat.le_of_ble_eq_true rfl, Nat.le_of_ble_eq_true rfl⟩ ⟨Nat.zero_le _, Nat.zero_le _⟩ (fun H locs hP hD hS => ?_)
        refine x_nmi h (fun v19 h => ?_)
        refine x_istore (lv' := [(5, .int v19), (4, .int v14), (3, .int v13), (2, .int v12), (0, .ref (aS 0)), (1, .int p2)]) C dX0_send_144 hl (by decide) rfl (fun ls hl => ?_)
        refine x_aload_n C dX0_send_146 rfl hl 4 rfl ?_
        refine x_get C inX2 hP 0 rfl rfl 6 (by decide) wf_X0_82 rfl dX0_send_147 ?_
        refine x_iconst (v := (0 : Int32)) C dX0_send_150 (by decide) ?_
        refine x_callV (As := [.int _]) (n := 1) C (kS_drop l D cI cS aS _ 6 (by decide) _) (fun hh => nomatch hh) wm_X0_94 wi_X3_drop we_X3_drop wz_X3 wc_X3_drop (by decide +kernel) rfl hP hD hS hA 13 1 rfl rfl rfl hl.1 dX0_send_151 rfl (Nat.le_of_ble_eq_true rfl) ⟨Nat.le_of_ble_eq_true rfl, Nat.le_of_ble_eq_true rfl⟩ ⟨Nat.zero_le _, Nat.zero_le _⟩ (fun H locs hP hD hS => ?_)
        refine x_nmS (wS cI aS) h hP hD (fun S20 h hP hD => ?_)
        exact B154 _ _ _ h _ _ _ hP hD hS (lv_sub hl [4, 3, 0] rfl)
      · refine x_iload_n C dX0_send_133 rfl hl 5 rfl ?_
        exact RETh dX0_send_134 h hP hD hS
  · refine x_bipush (v := (-9 : Int32)) C dX0_send_16 (by decide) ?_
    exact RETh dX0_send_18 h hP hD hS
theorem dX0_createRequests_0 : decode cX0_createRequests 0 = .ok (.iconst 0, 1) := by decide +kernel
theorem dX0_createRequests_1 : decode cX0_createRequests 1 = .ok (.istore_n 1, 1) := by decide +kernel
theorem dX0_createRequests_2 : decode cX0_createRequests 2 = .ok (.iload_n 1, 1) := by decide +kernel
theorem dX0_createRequests_3 : decode cX0_createRequests 3 = .ok (.bipush 6, 2) := by decide +kernel
theorem dX0_createRequests_5 : decode cX0_createRequests 5 = .ok (.if_icmp .ge 46, 3) := by decide +kernel
theorem dX0_createRequests_8 : decode cX0_createRequests 8 = .ok (.aload_n 0, 1) := by decide +kernel
theorem dX0_createRequests_9 : decode cX0_createRequests 9 = .ok (.iload_n 1, 1) := by decide +kernel
theorem dX0_createRequests_10 : decode cX0_createRequests 10 = .ok (.invokestatic 9, 3) := by decide +kernel
theorem dX0_createRequests_13 : decode cX0_createRequests 13 = .ok (.istore_n 2, 1) := by decide +kernel
theorem dX0_createRequests_14 : decode cX0_createRequests 14 = .ok (.iconst 0, 1) := by decide +kernel
theorem dX0_createRequests_15 : decode cX0_createRequests 15 = .ok (.istore_n 3, 1) := by decide +kernel
theorem dX0_createRequests_16 : decode cX0_createRequests 16 = .ok (.iload_n 3, 1) := by decide +kernel
theorem dX0_createRequests_17 : decode cX0_createRequests 17 = .ok (.iload_n 2, 1) := by decide +kernel
theorem dX0_createRequests_18 : decode cX0_createRequests 18 = .ok (.if_icmp .ge 27, 3) := by decide +kernel
theorem dX0_createRequests_21 : decode cX0_createRequests 21 = .ok (.aload_n 0, 1) := by decide +kernel
theorem dX0_createRequests_22 : decode cX0_createRequests 22 = .ok (.iload_n 1, 1) := by decide +kernel
theorem dX0_createRequests_23 : decode cX0_createRequests 23 = .ok (.invokestatic 15, 3) := by decide +kernel
theorem dX0_createRequests_26 : decode cX0_createRequests 26 = .ok (.istore 4, 2) := by decide +kernel
theorem dX0_createRequests_28 : decode cX0_createRequests 28 = .ok (.aload_n 0, 1) := by decide +kernel
theorem dX0_createRequests_29 : decode cX0_createRequests 29 = .ok (.aload_n 0, 1) := by decide +kernel
theorem dX0_createRequests_30 : decode cX0_createRequests 30 = .ok (.iload 4, 2) := by decide +kernel
theorem dX0_createRequests_32 : decode cX0_createRequests 32 = .ok (.invokestatic 18, 3) := by decide +kernel
theorem dX0_createRequests_35 : decode cX0_createRequests 35 = .ok (.iconst 4, 1) := by decide +kernel
theorem dX0_createRequests_36 : decode cX0_createRequests 36 = .ok (.invokestatic 21, 3) := by decide +kernel
theorem dX0_createRequests_39 : decode cX0_createRequests 39 = .ok (.iinc 3 1, 3) := by decide +kernel
theorem dX0_createRequests_42 : decode cX0_createRequests 42 = .ok (.goto (-26), 3) := by decide +kernel
theorem dX0_createRequests_45 : decode cX0_createRequests 45 = .ok (.iinc 1 1, 3) := by decide +kernel
theorem dX0_createRequests_48 : decode cX0_createRequests 48 = .ok (.goto (-46), 3) := by decide +kernel
theorem dX0_createRequests_51 : decode cX0_createRequests 51 = .ok (.return_, 1) := by decide +kernel
def bfX0_createRequests_16  (K2 : Int32 × (StS) → Option (StS)) (K16 : Int32 × Int32 × Int32 × (StS) → Option (StS)) (x : Int32 × Int32 × Int32 × (StS)) : Option (StS) :=
  match x with
  | (x1, x2, x3, S) => (if x2 ≤ x3 then K2 ((x1 + (1 : Int32)), S) else ob (fX0_create x1 S) fun u5 => ob (fX0_send u5.1 u5.2) fun u6 => ob (fX0_fail u6.1 (4 : Int32) u6.2) fun u7 => K16 (x1, x2, (x3 + (1 : Int32)), u7))
def bfX0_createRequests_2  (K2 : Int32 × (StS) → Option (StS)) (x : Int32 × (StS)) : Option (StS) :=
  match x with
  | (x1, S) => (if (6 : Int32) ≤ x1 then some S else ob (fX0_births x1 S) fun u8 => iter (bfX0_createRequests_16  K2) FU (x1, u8, (0 : Int32), S))
def fX0_createRequests  (S : StS) : Option (StS) :=
  iter (bfX0_createRequests_2) FU ((0 : Int32), S)
set_option maxHeartbeats 4000000 in
set_option maxRecDepth 100000 in
theorem kX0_createRequests (l : Launch) (D : va_G) (cI cS : ClassId) (aS : Nat → Nat)  (S : StS) {q : StS} (h : fX0_createRequests  S = some q) : Mc l D (tyL cI cS) false yX0_createRequests cX0_createRequests 5 none 6 [.ref (aS 0)] (wS cI aS S) none (wS cI aS q) := by
  refine Mc_of RX0 (by decide +kernel) rfl wc_X0_createRequests (Nat.le_of_ble_eq_true rfl) ?_
  intro p e s m args below meth c A Q ls C hA hz hP hD hS hl RET
  have RETh : ∀ {pc : Nat} {ls : Array Slot} {H : Heap} {locs : List Loc} {S1 : StS}, decode cX0_createRequests pc = .ok (.return_, 1) → some S1 = some q → va_P D vwCl (wS cI aS S1) H → va_D A (wS cI aS S1) → va_S A s.heap H locs → W p l e (rmL 6) s m args below meth c H locs 0 0 Q (F0 m pc ls []) := by
    intro pc ls H locs S1 hd h hP hD hS; cases h; exact RET (x_vret C hd) hP hD hS
  have B16 : ∀ (K2 : Int32 × (StS) → Option (StS)) (ih2 : ∀ x, K2 x = some q → (match x with | (x1, S) => ∀ (H : Heap) (locs : List Loc) (ls : Array Slot), va_P D vwCl (wS cI aS S) H → va_D A (wS cI aS S) → va_S A s.heap H locs → lv_has ls 5 [(0, .ref (aS 0)), (1, .int x1)] → W p l e (rmL 6) s m args below meth c H locs 0 0 Q (F0 m 2 ls []))) (n : Nat) (x : Int32 × Int32 × Int32 × (StS)), iter (bfX0_createRequests_16 K2) n x = some q → (match x with | (x1, x2, x3, S) => ∀ (H : Heap) (locs : List Loc) (ls : Array Slot), va_P D vwCl (wS cI aS S) H → va_D A (wS cI aS S) → va_S A s.heap H locs → lv_has ls 5 [(0, .ref (aS 0)), (1, .int x1), (2, .int x2), (3, .int x3)] → W p l e (rmL 6) s m args below meth c H locs 0 0 Q (F0 m 16 ls [])) := by
    intro K2 ih2
    refine iter_ind (fun x : Int32 × Int32 × Int32 × (StS) => (match x with | (x1, x2, x3, S) => ∀ (H : Heap) (locs : List Loc) (ls : Array Slot), va_P D vwCl (wS cI aS S) H → va_D A (wS cI aS S) → va_S A s.heap H locs → lv_has ls 5 [(0, .ref (aS 0)), (1, .int x1), (2, .int x2), (3, .int x3)] → W p l e (rmL 6) s m args below meth c H locs 0 0 Q (F0 m 16 ls []))) ?_
    intro K16 ih16 x h
    obtain ⟨x1, x2, x3, S⟩ := x
    intro H locs ls hP hD hS hl
    refine x_iload_n C dX0_createRequests_16 rfl hl 3 rfl ?_
    refine x_iload_n C dX0_createRequests_17 rfl hl 2 rfl ?_
    refine x_icmp_ge (tgt := 45) C h dX0_createRequests_18 (by decide) (fun h => ?_) (fun h => ?_)
    · refine x_iinc (v := (x1 + (1 : Int32))) (lv' := [(1, .int (x1 + (1 : Int32))), (0, .ref (aS 0)), (2, .int x2), (3, .int x3)]) C dX0_createRequests_45 hl (k := 1) rfl rfl (by decide) rfl (fun ls hl => ?_)
      refine x_goto (tgt := 2) C dX0_createRequests_48 (by decide) ?_
      exact ih2 _ h _ _ _ hP hD hS (lv_sub hl [1, 0] rfl)
    · refine x_aload_n C dX0_createRequests_21 rfl hl 0 rfl ?_
      refine x_iload_n C dX0_createRequests_22 rfl hl 1 rfl ?_
      obtain ⟨u5, hu5, h⟩ := ob_some h
      refine x_callS (As := [.ref _, .int _]) (n := 2) C (kX0_create l D cI cS aS _ _ hu5) (fun hh => nomatch hh) wm_X0_15 wt_X0_create wz_X0 wc_X0_create (by decide +kernel) rfl hP hD hS hA hl.1 dX0_createRequests_23 rfl (Nat.le_of_ble_eq_true rfl) ⟨Nat.le_of_ble_eq_true rfl, Nat.le_of_ble_eq_true rfl⟩ ⟨Nat.zero_le _, Nat.zero_le _⟩ (fun H locs hP hD hS => ?_)
      refine x_istore (lv' := [(4, .int u5.1), (0, .ref (aS 0)), (1, .int x1), (2, .int x2), (3, .int x3)]) C dX0_createRequests_26 hl (by decide) rfl (fun ls hl => ?_)
      refine x_aload_n C dX0_createRequests_28 rfl hl 1 rfl ?_
      refine x_aload_n C dX0_createRequests_29 rfl hl 1 rfl ?_
      refine x_iload C dX0_createRequests_30 hl 0 rfl ?_
      obtain ⟨u6, hu6, h⟩ := ob_some h
      refine x_callS (As := [.ref _, .int _]) (n := 2) C (kX0_send l D cI cS aS _ _ hu6) (fun hh => nomatch hh) wm_X0_18 wt_X0_send wz_X0 wc_X0_send (by decide +kernel) rfl hP hD hS hA hl.1 dX0_createRequests_32 rfl (Nat.le_of_ble_eq_true rfl) ⟨Nat.le_of_ble_eq_true rfl, Nat.le_of_ble_eq_true rfl⟩ ⟨Nat.zero_le _, Nat.zero_le _⟩ (fun H locs hP hD hS => ?_)
      refine x_iconst (v := (4 : Int32)) C dX0_createRequests_35 (by decide) ?_
      obtain ⟨u7, hu7, h⟩ := ob_some h
      refine x_callS (As := [.ref _, .int _, .int _]) (n := 3) C (kX0_fail l D cI cS aS _ _ _ hu7) (fun hh => nomatch hh) wm_X0_21 wt_X0_fail wz_X0 wc_X0_fail (by decide +kernel) rfl hP hD hS hA hl.1 dX0_createRequests_36 rfl (Nat.le_of_ble_eq_true rfl) ⟨Nat.le_of_ble_eq_true rfl, Nat.le_of_ble_eq_true rfl⟩ ⟨Nat.zero_le _, Nat.zero_le _⟩ (fun H locs hP hD hS => ?_)
      refine x_iinc (v := (x3 + (1 : Int32))) (lv' := [(3, .int (x3 + (1 : Int32))), (4, .int u5.1), (0, .ref (aS 0)), (1, .int x1), (2, .int x2)]) C dX0_createRequests_39 hl (k := 4) rfl rfl (by decide) rfl (fun ls hl => ?_)
      refine x_goto (tgt := 16) C dX0_createRequests_42 (by decide) ?_
      exact ih16 _ h _ _ _ hP hD hS (lv_sub hl [2, 3, 4, 0] rfl)
  have B2 : ∀ (n : Nat) (x : Int32 × (StS)), iter (bfX0_createRequests_2) n x = some q → (match x with | (x1, S) => ∀ (H : Heap) (locs : List Loc) (ls : Array Slot), va_P D vwCl (wS cI aS S) H → va_D A (wS cI aS S) → va_S A s.heap H locs → lv_has ls 5 [(0, .ref (aS 0)), (1, .int x1)] → W p l e (rmL 6) s m args below meth c H locs 0 0 Q (F0 m 2 ls [])) := by
    refine iter_ind (fun x : Int32 × (StS) => (match x with | (x1, S) => ∀ (H : Heap) (locs : List Loc) (ls : Array Slot), va_P D vwCl (wS cI aS S) H → va_D A (wS cI aS S) → va_S A s.heap H locs → lv_has ls 5 [(0, .ref (aS 0)), (1, .int x1)] → W p l e (rmL 6) s m args below meth c H locs 0 0 Q (F0 m 2 ls []))) ?_
    intro K2 ih2 x h
    obtain ⟨x1, S⟩ := x
    intro H locs ls hP hD hS hl
    refine x_iload_n C dX0_createRequests_2 rfl hl 1 rfl ?_
    refine x_bipush (v := (6 : Int32)) C dX0_createRequests_3 (by decide) ?_
    refine x_icmp_ge (tgt := 51) C h dX0_createRequests_5 (by decide) (fun h => ?_) (fun h => ?_)
    · exact RETh dX0_createRequests_51 h hP hD hS
    · refine x_aload_n C dX0_createRequests_8 rfl hl 0 rfl ?_
      refine x_iload_n C dX0_createRequests_9 rfl hl 1 rfl ?_
      obtain ⟨u8, hu8, h⟩ := ob_some h
      refine x_callS (As := [.ref _, .int _]) (n := 2) C (kX0_births l D cI cS aS _ _ hu8) (fun hh => nomatch hh) wm_X0_9 wt_X0_births wz_X0 wc_X0_births (by decide +kernel) rfl hP hD hS hA hl.1 dX0_createRequests_10 rfl (Nat.le_of_ble_eq_true rfl) ⟨Nat.le_of_ble_eq_true rfl, Nat.le_of_ble_eq_true rfl⟩ ⟨Nat.zero_le _, Nat.zero_le _⟩ (fun H locs hP hD hS => ?_)
      refine x_istore_n (lv' := [(2, .int u8), (0, .ref (aS 0)), (1, .int x1)]) C dX0_createRequests_13 rfl hl (by decide) rfl (fun ls hl => ?_)
      refine x_iconst (v := (0 : Int32)) C dX0_createRequests_14 (by decide) ?_
      refine x_istore_n (lv' := [(3, .int (0 : Int32)), (2, .int u8), (0, .ref (aS 0)), (1, .int x1)]) C dX0_createRequests_15 rfl hl (by decide) rfl (fun ls hl => ?_)
      exact B16 K2 ih2 FU _ h _ _ _ hP hD hS (lv_sub hl [2, 3, 1, 0] rfl)
  refine x_iconst (v := (0 : Int32)) C dX0_createRequests_0 (by decide) ?_
  refine x_istore_n (lv' := [(1, .int (0 : Int32)), (0, .ref (aS 0))]) C dX0_createRequests_1 rfl hl (by decide) rfl (fun ls hl => ?_)
  exact B2 FU _ h _ _ _ hP hD hS (lv_sub hl [1, 0] rfl)
theorem dX0_sendWaiting_0 : decode cX0_sendWaiting 0 = .ok (.bipush (-9), 2) := by decide +kernel
theorem dX0_sendWaiting_2 : decode cX0_sendWaiting 2 = .ok (.istore_n 1, 1) := by decide +kernel
theorem dX0_sendWaiting_3 : decode cX0_sendWaiting 3 = .ok (.iconst 0, 1) := by decide +kernel
theorem dX0_sendWaiting_4 : decode cX0_sendWaiting 4 = .ok (.istore_n 2, 1) := by decide +kernel
theorem dX0_sendWaiting_5 : decode cX0_sendWaiting 5 = .ok (.iload_n 2, 1) := by decide +kernel
theorem dX0_sendWaiting_6 : decode cX0_sendWaiting 6 = .ok (.bipush 16, 2) := by decide +kernel
theorem dX0_sendWaiting_8 : decode cX0_sendWaiting 8 = .ok (.if_icmp .ge 33, 3) := by decide +kernel
theorem dX0_sendWaiting_11 : decode cX0_sendWaiting 11 = .ok (.aload_n 0, 1) := by decide +kernel
theorem dX0_sendWaiting_12 : decode cX0_sendWaiting 12 = .ok (.iload_n 1, 1) := by decide +kernel
theorem dX0_sendWaiting_13 : decode cX0_sendWaiting 13 = .ok (.iconst 1, 1) := by decide +kernel
theorem dX0_sendWaiting_14 : decode cX0_sendWaiting 14 = .ok (.invokevirtual 25, 3) := by decide +kernel
theorem dX0_sendWaiting_17 : decode cX0_sendWaiting 17 = .ok (.istore_n 1, 1) := by decide +kernel
theorem dX0_sendWaiting_18 : decode cX0_sendWaiting 18 = .ok (.iload_n 1, 1) := by decide +kernel
theorem dX0_sendWaiting_19 : decode cX0_sendWaiting 19 = .ok (.bipush (-9), 2) := by decide +kernel
theorem dX0_sendWaiting_21 : decode cX0_sendWaiting 21 = .ok (.if_icmp .ne 4, 3) := by decide +kernel
theorem dX0_sendWaiting_24 : decode cX0_sendWaiting 24 = .ok (.return_, 1) := by decide +kernel
theorem dX0_sendWaiting_25 : decode cX0_sendWaiting 25 = .ok (.aload_n 0, 1) := by decide +kernel
theorem dX0_sendWaiting_26 : decode cX0_sendWaiting 26 = .ok (.aload_n 0, 1) := by decide +kernel
theorem dX0_sendWaiting_27 : decode cX0_sendWaiting 27 = .ok (.iload_n 1, 1) := by decide +kernel
theorem dX0_sendWaiting_28 : decode cX0_sendWaiting 28 = .ok (.invokestatic 18, 3) := by decide +kernel
theorem dX0_sendWaiting_31 : decode cX0_sendWaiting 31 = .ok (.iconst 4, 1) := by decide +kernel
theorem dX0_sendWaiting_32 : decode cX0_sendWaiting 32 = .ok (.invokestatic 21, 3) := by decide +kernel
theorem dX0_sendWaiting_35 : decode cX0_sendWaiting 35 = .ok (.iinc 2 1, 3) := by decide +kernel
theorem dX0_sendWaiting_38 : decode cX0_sendWaiting 38 = .ok (.goto (-33), 3) := by decide +kernel
theorem dX0_sendWaiting_41 : decode cX0_sendWaiting 41 = .ok (.return_, 1) := by decide +kernel
def bfX0_sendWaiting_5  (K5 : Int32 × Int32 × (StS) → Option (StS)) (x : Int32 × Int32 × (StS)) : Option (StS) :=
  match x with
  | (x1, x2, S) => (if (16 : Int32) ≤ x2 then some S else ob (fX2_nextDue x1 (1 : Int32) S) fun u4 => (if u4 = (-9 : Int32) then some S else ob (fX0_send u4 S) fun u5 => ob (fX0_fail u5.1 (4 : Int32) u5.2) fun u6 => K5 (u4, (x2 + (1 : Int32)), u6)))
def fX0_sendWaiting  (S : StS) : Option (StS) :=
  iter (bfX0_sendWaiting_5) FU ((-9 : Int32), (0 : Int32), S)
set_option maxHeartbeats 4000000 in
set_option maxRecDepth 100000 in
theorem kX0_sendWaiting (l : Launch) (D : va_G) (cI cS : ClassId) (aS : Nat → Nat)  (S : StS) {q : StS} (h : fX0_sendWaiting  S = some q) : Mc l D (tyL cI cS) false yX0_sendWaiting cX0_sendWaiting 3 none 6 [.ref (aS 0)] (wS cI aS S) none (wS cI aS q) := by
  refine Mc_of RX0 (by decide +kernel) rfl wc_X0_sendWaiting (Nat.le_of_ble_eq_true rfl) ?_
  intro p e s m args below meth c A Q ls C hA hz hP hD hS hl RET
  have RETh : ∀ {pc : Nat} {ls : Array Slot} {H : Heap} {locs : List Loc} {S1 : StS}, decode cX0_sendWaiting pc = .ok (.return_, 1) → some S1 = some q → va_P D vwCl (wS cI aS S1) H → va_D A (wS cI aS S1) → va_S A s.heap H locs → W p l e (rmL 6) s m args below meth c H locs 0 0 Q (F0 m pc ls []) := by
    intro pc ls H locs S1 hd h hP hD hS; cases h; exact RET (x_vret C hd) hP hD hS
  have B5 : ∀ (n : Nat) (x : Int32 × Int32 × (StS)), iter (bfX0_sendWaiting_5) n x = some q → (match x with | (x1, x2, S) => ∀ (H : Heap) (locs : List Loc) (ls : Array Slot), va_P D vwCl (wS cI aS S) H → va_D A (wS cI aS S) → va_S A s.heap H locs → lv_has ls 3 [(0, .ref (aS 0)), (1, .int x1), (2, .int x2)] → W p l e (rmL 6) s m args below meth c H locs 0 0 Q (F0 m 5 ls [])) := by
    refine iter_ind (fun x : Int32 × Int32 × (StS) => (match x with | (x1, x2, S) => ∀ (H : Heap) (locs : List Loc) (ls : Array Slot), va_P D vwCl (wS cI aS S) H → va_D A (wS cI aS S) → va_S A s.heap H locs → lv_has ls 3 [(0, .ref (aS 0)), (1, .int x1), (2, .int x2)] → W p l e (rmL 6) s m args below meth c H locs 0 0 Q (F0 m 5 ls []))) ?_
    intro K5 ih5 x h
    obtain ⟨x1, x2, S⟩ := x
    intro H locs ls hP hD hS hl
    refine x_iload_n C dX0_sendWaiting_5 rfl hl 2 rfl ?_
    refine x_bipush (v := (16 : Int32)) C dX0_sendWaiting_6 (by decide) ?_
    refine x_icmp_ge (tgt := 41) C h dX0_sendWaiting_8 (by decide) (fun h => ?_) (fun h => ?_)
    · exact RETh dX0_sendWaiting_41 h hP hD hS
    · refine x_aload_n C dX0_sendWaiting_11 rfl hl 0 rfl ?_
      refine x_iload_n C dX0_sendWaiting_12 rfl hl 1 rfl ?_
      refine x_iconst (v := (1 : Int32)) C dX0_sendWaiting_13 (by decide) ?_
      obtain ⟨u4, hu4, h⟩ := ob_some h
      refine x_callV (As := [.int _, .int _]) (n := 2) C (kX2_nextDue l D cI cS aS _ _ _ hu4) (fun hh => nomatch hh) wm_X0_25 wi_X2_nextDue we_X2_nextDue wz_X2 wc_X2_nextDue (by decide +kernel) rfl hP hD hS hA 0 0 rfl rfl rfl hl.1 dX0_sendWaiting_14 rfl (Nat.le_of_ble_eq_true rfl) ⟨Nat.le_of_ble_eq_true rfl, Nat.le_of_ble_eq_true rfl⟩ ⟨Nat.zero_le _, Nat.zero_le _⟩ (fun H locs hP hD hS => ?_)
      refine x_istore_n (lv' := [(1, .int u4), (0, .ref (aS 0)), (2, .int x2)]) C dX0_sendWaiting_17 rfl hl (by decide) rfl (fun ls hl => ?_)
      refine x_iload_n C dX0_sendWaiting_18 rfl hl 0 rfl ?_
      refine x_bipush (v := (-9 : Int32)) C dX0_sendWaiting_19 (by decide) ?_
      refine x_icmp_ne (tgt := 25) C h dX0_sendWaiting_21 (by decide) (fun h => ?_) (fun h => ?_)
      · refine x_aload_n C dX0_sendWaiting_25 rfl hl 1 rfl ?_
        refine x_aload_n C dX0_sendWaiting_26 rfl hl 1 rfl ?_
        refine x_iload_n C dX0_sendWaiting_27 rfl hl 0 rfl ?_
        obtain ⟨u5, hu5, h⟩ := ob_some h
        refine x_callS (As := [.ref _, .int _]) (n := 2) C (kX0_send l D cI cS aS _ _ hu5) (fun hh => nomatch hh) wm_X0_18 wt_X0_send wz_X0 wc_X0_send (by decide +kernel) rfl hP hD hS hA hl.1 dX0_sendWaiting_28 rfl (Nat.le_of_ble_eq_true rfl) ⟨Nat.le_of_ble_eq_true rfl, Nat.le_of_ble_eq_true rfl⟩ ⟨Nat.zero_le _, Nat.zero_le _⟩ (fun H locs hP hD hS => ?_)
        refine x_iconst (v := (4 : Int32)) C dX0_sendWaiting_31 (by decide) ?_
        obtain ⟨u6, hu6, h⟩ := ob_some h
        refine x_callS (As := [.ref _, .int _, .int _]) (n := 3) C (kX0_fail l D cI cS aS _ _ _ hu6) (fun hh => nomatch hh) wm_X0_21 wt_X0_fail wz_X0 wc_X0_fail (by decide +kernel) rfl hP hD hS hA hl.1 dX0_sendWaiting_32 rfl (Nat.le_of_ble_eq_true rfl) ⟨Nat.le_of_ble_eq_true rfl, Nat.le_of_ble_eq_true rfl⟩ ⟨Nat.zero_le _, Nat.zero_le _⟩ (fun H locs hP hD hS => ?_)
        refine x_iinc (v := (x2 + (1 : Int32))) (lv' := [(2, .int (x2 + (1 : Int32))), (1, .int u4), (0, .ref (aS 0))]) C dX0_sendWaiting_35 hl (k := 2) rfl rfl (by decide) rfl (fun ls hl => ?_)
        refine x_goto (tgt := 5) C dX0_sendWaiting_38 (by decide) ?_
        exact ih5 _ h _ _ _ hP hD hS (lv_sub hl [2, 1, 0] rfl)
      · exact RETh dX0_sendWaiting_24 h hP hD hS
  refine x_bipush (v := (-9 : Int32)) C dX0_sendWaiting_0 (by decide) ?_
  refine x_istore_n (lv' := [(1, .int (-9 : Int32)), (0, .ref (aS 0))]) C dX0_sendWaiting_2 rfl hl (by decide) rfl (fun ls hl => ?_)
  refine x_iconst (v := (0 : Int32)) C dX0_sendWaiting_3 (by decide) ?_
  refine x_istore_n (lv' := [(2, .int (0 : Int32)), (1, .int (-9 : Int32)), (0, .ref (aS 0))]) C dX0_sendWaiting_4 rfl hl (by decide) rfl (fun ls hl => ?_)
  exact B5 FU _ h _ _ _ hP hD hS (lv_sub hl [2, 1, 0] rfl)
theorem dX1_answer_0 : decode cX1_answer 0 = .ok (.aload_n 0, 1) := by decide +kernel
theorem dX1_answer_1 : decode cX1_answer 1 = .ok (.getfield 9, 3) := by decide +kernel
theorem dX1_answer_4 : decode cX1_answer 4 = .ok (.iconst 0, 1) := by decide +kernel
theorem dX1_answer_5 : decode cX1_answer 5 = .ok (.aload_n 0, 1) := by decide +kernel
theorem dX1_answer_6 : decode cX1_answer 6 = .ok (.getfield 59, 3) := by decide +kernel
theorem dX1_answer_9 : decode cX1_answer 9 = .ok (.iload_n 1, 1) := by decide +kernel
theorem dX1_answer_10 : decode cX1_answer 10 = .ok (.iconst 0, 1) := by decide +kernel
theorem dX1_answer_11 : decode cX1_answer 11 = .ok (.invokevirtual 15, 3) := by decide +kernel
theorem dX1_answer_14 : decode cX1_answer 14 = .ok (.invokevirtual 114, 3) := by decide +kernel
theorem dX1_answer_17 : decode cX1_answer 17 = .ok (.istore_n 2, 1) := by decide +kernel
theorem dX1_answer_18 : decode cX1_answer 18 = .ok (.iload_n 2, 1) := by decide +kernel
theorem dX1_answer_19 : decode cX1_answer 19 = .ok (.bipush (-9), 2) := by decide +kernel
theorem dX1_answer_21 : decode cX1_answer 21 = .ok (.if_icmp .ne 10, 3) := by decide +kernel
theorem dX1_answer_24 : decode cX1_answer 24 = .ok (.aload_n 0, 1) := by decide +kernel
theorem dX1_answer_25 : decode cX1_answer 25 = .ok (.iload_n 1, 1) := by decide +kernel
theorem dX1_answer_26 : decode cX1_answer 26 = .ok (.invokestatic 78, 3) := by decide +kernel
theorem dX1_answer_29 : decode cX1_answer 29 = .ok (.pop, 1) := by decide +kernel
theorem dX1_answer_30 : decode cX1_answer 30 = .ok (.return_, 1) := by decide +kernel
theorem dX1_answer_31 : decode cX1_answer 31 = .ok (.aload_n 0, 1) := by decide +kernel
theorem dX1_answer_32 : decode cX1_answer 32 = .ok (.getfield 9, 3) := by decide +kernel
theorem dX1_answer_35 : decode cX1_answer 35 = .ok (.iload_n 2, 1) := by decide +kernel
theorem dX1_answer_36 : decode cX1_answer 36 = .ok (.iconst 1, 1) := by decide +kernel
theorem dX1_answer_37 : decode cX1_answer 37 = .ok (.invokevirtual 15, 3) := by decide +kernel
theorem dX1_answer_40 : decode cX1_answer 40 = .ok (.istore_n 3, 1) := by decide +kernel
theorem dX1_answer_41 : decode cX1_answer 41 = .ok (.aload_n 0, 1) := by decide +kernel
theorem dX1_answer_42 : decode cX1_answer 42 = .ok (.dup, 1) := by decide +kernel
theorem dX1_answer_43 : decode cX1_answer 43 = .ok (.getfield 117, 3) := by decide +kernel
theorem dX1_answer_46 : decode cX1_answer 46 = .ok (.aload_n 0, 1) := by decide +kernel
theorem dX1_answer_47 : decode cX1_answer 47 = .ok (.getfield 59, 3) := by decide +kernel
theorem dX1_answer_50 : decode cX1_answer 50 = .ok (.iload_n 1, 1) := by decide +kernel
theorem dX1_answer_51 : decode cX1_answer 51 = .ok (.iconst 4, 1) := by decide +kernel
theorem dX1_answer_52 : decode cX1_answer 52 = .ok (.invokevirtual 15, 3) := by decide +kernel
theorem dX1_answer_55 : decode cX1_answer 55 = .ok (.iadd, 1) := by decide +kernel
theorem dX1_answer_56 : decode cX1_answer 56 = .ok (.putfield 117, 3) := by decide +kernel
theorem dX1_answer_59 : decode cX1_answer 59 = .ok (.aload_n 0, 1) := by decide +kernel
theorem dX1_answer_60 : decode cX1_answer 60 = .ok (.getfield 120, 3) := by decide +kernel
theorem dX1_answer_63 : decode cX1_answer 63 = .ok (.iload_n 3, 1) := by decide +kernel
theorem dX1_answer_64 : decode cX1_answer 64 = .ok (.iconst 2, 1) := by decide +kernel
theorem dX1_answer_65 : decode cX1_answer 65 = .ok (.iconst 1, 1) := by decide +kernel
theorem dX1_answer_66 : decode cX1_answer 66 = .ok (.invokevirtual 104, 3) := by decide +kernel
theorem dX1_answer_69 : decode cX1_answer 69 = .ok (.aload_n 0, 1) := by decide +kernel
theorem dX1_answer_70 : decode cX1_answer 70 = .ok (.getfield 120, 3) := by decide +kernel
theorem dX1_answer_73 : decode cX1_answer 73 = .ok (.iload_n 3, 1) := by decide +kernel
theorem dX1_answer_74 : decode cX1_answer 74 = .ok (.bipush 7, 2) := by decide +kernel
theorem dX1_answer_76 : decode cX1_answer 76 = .ok (.aload_n 0, 1) := by decide +kernel
theorem dX1_answer_77 : decode cX1_answer 77 = .ok (.getfield 9, 3) := by decide +kernel
theorem dX1_answer_80 : decode cX1_answer 80 = .ok (.iload_n 2, 1) := by decide +kernel
theorem dX1_answer_81 : decode cX1_answer 81 = .ok (.iconst 3, 1) := by decide +kernel
theorem dX1_answer_82 : decode cX1_answer 82 = .ok (.invokevirtual 15, 3) := by decide +kernel
theorem dX1_answer_85 : decode cX1_answer 85 = .ok (.iadd, 1) := by decide +kernel
theorem dX1_answer_86 : decode cX1_answer 86 = .ok (.iconst 1, 1) := by decide +kernel
theorem dX1_answer_87 : decode cX1_answer 87 = .ok (.invokevirtual 104, 3) := by decide +kernel
theorem dX1_answer_90 : decode cX1_answer 90 = .ok (.aload_n 0, 1) := by decide +kernel
theorem dX1_answer_91 : decode cX1_answer 91 = .ok (.getfield 9, 3) := by decide +kernel
theorem dX1_answer_94 : decode cX1_answer 94 = .ok (.iload_n 2, 1) := by decide +kernel
theorem dX1_answer_95 : decode cX1_answer 95 = .ok (.invokevirtual 70, 3) := by decide +kernel
theorem dX1_answer_98 : decode cX1_answer 98 = .ok (.aload_n 0, 1) := by decide +kernel
theorem dX1_answer_99 : decode cX1_answer 99 = .ok (.getfield 59, 3) := by decide +kernel
theorem dX1_answer_102 : decode cX1_answer 102 = .ok (.iload_n 1, 1) := by decide +kernel
theorem dX1_answer_103 : decode cX1_answer 103 = .ok (.iconst 0, 1) := by decide +kernel
theorem dX1_answer_104 : decode cX1_answer 104 = .ok (.bipush (-9), 2) := by decide +kernel
theorem dX1_answer_106 : decode cX1_answer 106 = .ok (.invokevirtual 28, 3) := by decide +kernel
theorem dX1_answer_109 : decode cX1_answer 109 = .ok (.return_, 1) := by decide +kernel
def fX1_answer (p2 : Int32) (S : StS) : Option (StS) :=
  nm ((sfind 5 S (0 : Int32) ((sget 7 S p2 (0 : Int32))))) fun v9 => (if v9 = (-9 : Int32) then ob (fX1_waste p2 S) fun u16 => some u16.2 else nm ((sget 5 S v9 (1 : Int32))) fun v10 => nm (S.1, upd S.2 15 ((S.2 15) + (sget 7 S p2 (4 : Int32)))) fun S11 => nm (sadd 1 S11 v10 (2 : Int32) (1 : Int32)) fun S12 => nm (sadd 1 S12 v10 (((7 : Int32) + (sget 5 S12 v9 (3 : Int32)))) (1 : Int32)) fun S13 => nm (sdrop 5 S13 v9) fun S14 => nm (sput 7 S14 p2 (0 : Int32) (-9 : Int32)) fun S15 => some S15)
set_option maxHeartbeats 4000000 in
set_option maxRecDepth 100000 in
theorem kX1_answer (l : Launch) (D : va_G) (cI cS : ClassId) (aS : Nat → Nat) (p2 : Int32) (S : StS) {q : StS} (h : fX1_answer p2 S = some q) : Mc l D (tyL cI cS) false yX1_answer cX1_answer 4 none 3 [.ref (aS 0), .int p2] (wS cI aS S) none (wS cI aS q) := by
  refine Mc_of RX1 (by decide +kernel) rfl wc_X1_answer (Nat.le_of_ble_eq_true rfl) ?_
  intro p e s m args below meth c A Q ls C hA hz hP hD hS hl RET
  have RETh : ∀ {pc : Nat} {ls : Array Slot} {H : Heap} {locs : List Loc} {S1 : StS}, decode cX1_answer pc = .ok (.return_, 1) → some S1 = some q → va_P D vwCl (wS cI aS S1) H → va_D A (wS cI aS S1) → va_S A s.heap H locs → W p l e (rmL 3) s m args below meth c H locs 0 0 Q (F0 m pc ls []) := by
    intro pc ls H locs S1 hd h hP hD hS; cases h; exact RET (x_vret C hd) hP hD hS
  refine x_aload_n C dX1_answer_0 rfl hl 0 rfl ?_
  refine x_get C inX2 hP 0 rfl rfl 5 (by decide) wf_X1_9 rfl dX1_answer_1 ?_
  refine x_iconst (v := (0 : Int32)) C dX1_answer_4 (by decide) ?_
  refine x_aload_n C dX1_answer_5 rfl hl 0 rfl ?_
  refine x_get C inX2 hP 0 rfl rfl 7 (by decide) wf_X1_59 rfl dX1_answer_6 ?_
  refine x_iload_n C dX1_answer_9 rfl hl 1 rfl ?_
  refine x_iconst (v := (0 : Int32)) C dX1_answer_10 (by decide) ?_
  refine x_callV (As := [.int _, .int _]) (n := 2) C (kS_get l D cI cS aS _ 7 (by decide) _ _) (fun hh => nomatch hh) wm_X1_15 wi_X3_get we_X3_get wz_X3 wc_X3_get (by decide +kernel) rfl hP hD hS hA 15 1 rfl rfl rfl hl.1 dX1_answer_11 rfl (Nat.le_of_ble_eq_true rfl) ⟨Nat.le_of_ble_eq_true rfl, Nat.le_of_ble_eq_true rfl⟩ ⟨Nat.zero_le _, Nat.zero_le _⟩ (fun H locs hP hD hS => ?_)
  refine x_callV (As := [.int _, .int _]) (n := 2) C (kS_find l D cI cS aS _ 5 (by decide) _ _) (fun hh => nomatch hh) wm_X1_114 wi_X3_find we_X3_find wz_X3 wc_X3_find (by decide +kernel) rfl hP hD hS hA 11 1 rfl rfl rfl hl.1 dX1_answer_14 rfl (Nat.le_of_ble_eq_true rfl) ⟨Nat.le_of_ble_eq_true rfl, Nat.le_of_ble_eq_true rfl⟩ ⟨Nat.zero_le _, Nat.zero_le _⟩ (fun H locs hP hD hS => ?_)
  refine x_nmi h (fun v9 h => ?_)
  refine x_istore_n (lv' := [(2, .int v9), (0, .ref (aS 0)), (1, .int p2)]) C dX1_answer_17 rfl hl (by decide) rfl (fun ls hl => ?_)
  refine x_iload_n C dX1_answer_18 rfl hl 0 rfl ?_
  refine x_bipush (v := (-9 : Int32)) C dX1_answer_19 (by decide) ?_
  refine x_icmp_ne (tgt := 31) C h dX1_answer_21 (by decide) (fun h => ?_) (fun h => ?_)
  · refine x_aload_n C dX1_answer_31 rfl hl 1 rfl ?_
    refine x_get C inX2 hP 0 rfl rfl 5 (by decide) wf_X1_9 rfl dX1_answer_32 ?_
    refine x_iload_n C dX1_answer_35 rfl hl 0 rfl ?_
    refine x_iconst (v := (1 : Int32)) C dX1_answer_36 (by decide) ?_
    refine x_callV (As := [.int _, .int _]) (n := 2) C (kS_get l D cI cS aS _ 5 (by decide) _ _) (fun hh => nomatch hh) wm_X1_15 wi_X3_get we_X3_get wz_X3 wc_X3_get (by decide +kernel) rfl hP hD hS hA 11 1 rfl rfl rfl hl.1 dX1_answer_37 rfl (Nat.le_of_ble_eq_true rfl) ⟨Nat.le_of_ble_eq_true rfl, Nat.le_of_ble_eq_true rfl⟩ ⟨Nat.zero_le _, Nat.zero_le _⟩ (fun H locs hP hD hS => ?_)
    refine x_nmi h (fun v10 h => ?_)
    refine x_istore_n (lv' := [(3, .int v10), (2, .int v9), (0, .ref (aS 0)), (1, .int p2)]) C dX1_answer_40 rfl hl (by decide) rfl (fun ls hl => ?_)
    refine x_aload_n C dX1_answer_41 rfl hl 2 rfl ?_
    refine x_dup C dX1_answer_42 rfl ?_
    refine x_get C inX2 hP 0 rfl rfl 15 (by decide) wf_X1_117 rfl dX1_answer_43 ?_
    refine x_aload_n C dX1_answer_46 rfl hl 2 rfl ?_
    refine x_get C inX2 hP 0 rfl rfl 7 (by decide) wf_X1_59 rfl dX1_answer_47 ?_
    refine x_iload_n C dX1_answer_50 rfl hl 3 rfl ?_
    refine x_iconst (v := (4 : Int32)) C dX1_answer_51 (by decide) ?_
    refine x_callV (As := [.int _, .int _]) (n := 2) C (kS_get l D cI cS aS _ 7 (by decide) _ _) (fun hh => nomatch hh) wm_X1_15 wi_X3_get we_X3_get wz_X3 wc_X3_get (by decide +kernel) rfl hP hD hS hA 15 1 rfl rfl rfl hl.1 dX1_answer_52 rfl (Nat.le_of_ble_eq_true rfl) ⟨Nat.le_of_ble_eq_true rfl, Nat.le_of_ble_eq_true rfl⟩ ⟨Nat.zero_le _, Nat.zero_le _⟩ (fun H locs hP hD hS => ?_)
    refine x_iadd C dX1_answer_55 ?_
    refine x_putM (wS cI aS) C h inX2 tyX2 tyX2_ok nmX2 hP hD hS 0 rfl rfl 15 (by decide) wf_X1_117 rfl (ft := .int) (by decide +kernel) rfl rfl (Nat.le_of_ble_eq_true rfl) rfl dX1_answer_56 (fun S11 h H locs hP hD hS => ?_)
    refine x_aload_n C dX1_answer_59 rfl hl 2 rfl ?_
    refine x_get C inX2 hP 0 rfl rfl 1 (by decide) wf_X1_120 rfl dX1_answer_60 ?_
    refine x_iload_n C dX1_answer_63 rfl hl 0 rfl ?_
    refine x_iconst (v := (2 : Int32)) C dX1_answer_64 (by decide) ?_
    refine x_iconst (v := (1 : Int32)) C dX1_answer_65 (by decide) ?_
    refine x_callV (As := [.int _, .int _, .int _]) (n := 3) C (kS_add l D cI cS aS _ 1 (by decide) _ _ _) (fun hh => nomatch hh) wm_X1_104 wi_X3_add we_X3_add wz_X3 wc_X3_add (by decide +kernel) rfl hP hD hS hA 3 1 rfl rfl rfl hl.1 dX1_answer_66 rfl (Nat.le_of_ble_eq_true rfl) ⟨Nat.le_of_ble_eq_true rfl, Nat.le_of_ble_eq_true rfl⟩ ⟨Nat.zero_le _, Nat.zero_le _⟩ (fun H locs hP hD hS => ?_)
    refine x_nmS (wS cI aS) h hP hD (fun S12 h hP hD => ?_)
    refine x_aload_n C dX1_answer_69 rfl hl 2 rfl ?_
    refine x_get C inX2 hP 0 rfl rfl 1 (by decide) wf_X1_120 rfl dX1_answer_70 ?_
    refine x_iload_n C dX1_answer_73 rfl hl 0 rfl ?_
    refine x_bipush (v := (7 : Int32)) C dX1_answer_74 (by decide) ?_
    refine x_aload_n C dX1_answer_76 rfl hl 2 rfl ?_
    refine x_get C inX2 hP 0 rfl rfl 5 (by decide) wf_X1_9 rfl dX1_answer_77 ?_
    refine x_iload_n C dX1_answer_80 rfl hl 1 rfl ?_
    refine x_iconst (v := (3 : Int32)) C dX1_answer_81 (by decide) ?_
    refine x_callV (As := [.int _, .int _]) (n := 2) C (kS_get l D cI cS aS _ 5 (by decide) _ _) (fun hh => nomatch hh) wm_X1_15 wi_X3_get we_X3_get wz_X3 wc_X3_get (by decide +kernel) rfl hP hD hS hA 11 1 rfl rfl rfl hl.1 dX1_answer_82 rfl (Nat.le_of_ble_eq_true rfl) ⟨Nat.le_of_ble_eq_true rfl, Nat.le_of_ble_eq_true rfl⟩ ⟨Nat.zero_le _, Nat.zero_le _⟩ (fun H locs hP hD hS => ?_)
    refine x_iadd C dX1_answer_85 ?_
    refine x_iconst (v := (1 : Int32)) C dX1_answer_86 (by decide) ?_
    refine x_callV (As := [.int _, .int _, .int _]) (n := 3) C (kS_add l D cI cS aS _ 1 (by decide) _ _ _) (fun hh => nomatch hh) wm_X1_104 wi_X3_add we_X3_add wz_X3 wc_X3_add (by decide +kernel) rfl hP hD hS hA 3 1 rfl rfl rfl hl.1 dX1_answer_87 rfl (Nat.le_of_ble_eq_true rfl) ⟨Nat.le_of_ble_eq_true rfl, Nat.le_of_ble_eq_true rfl⟩ ⟨Nat.zero_le _, Nat.zero_le _⟩ (fun H locs hP hD hS => ?_)
    refine x_nmS (wS cI aS) h hP hD (fun S13 h hP hD => ?_)
    refine x_aload_n C dX1_answer_90 rfl hl 2 rfl ?_
    refine x_get C inX2 hP 0 rfl rfl 5 (by decide) wf_X1_9 rfl dX1_answer_91 ?_
    refine x_iload_n C dX1_answer_94 rfl hl 1 rfl ?_
    refine x_callV (As := [.int _]) (n := 1) C (kS_drop l D cI cS aS _ 5 (by decide) _) (fun hh => nomatch hh) wm_X1_70 wi_X3_drop we_X3_drop wz_X3 wc_X3_drop (by decide +kernel) rfl hP hD hS hA 11 1 rfl rfl rfl hl.1 dX1_answer_95 rfl (Nat.le_of_ble_eq_true rfl) ⟨Nat.le_of_ble_eq_true rfl, Nat.le_of_ble_eq_true rfl⟩ ⟨Nat.zero_le _, Nat.zero_le _⟩ (fun H locs hP hD hS => ?_)
    refine x_nmS (wS cI aS) h hP hD (fun S14 h hP hD => ?_)
    refine x_aload_n C dX1_answer_98 rfl hl 2 rfl ?_
    refine x_get C inX2 hP 0 rfl rfl 7 (by decide) wf_X1_59 rfl dX1_answer_99 ?_
    refine x_iload_n C dX1_answer_102 rfl hl 3 rfl ?_
    refine x_iconst (v := (0 : Int32)) C dX1_answer_103 (by decide) ?_
    refine x_bipush (v := (-9 : Int32)) C dX1_answer_104 (by decide) ?_
    refine x_callV (As := [.int _, .int _, .int _]) (n := 3) C (kS_put l D cI cS aS _ 7 (by decide) _ _ _) (fun hh => nomatch hh) wm_X1_28 wi_X3_put we_X3_put wz_X3 wc_X3_put (by decide +kernel) rfl hP hD hS hA 15 1 rfl rfl rfl hl.1 dX1_answer_106 rfl (Nat.le_of_ble_eq_true rfl) ⟨Nat.le_of_ble_eq_true rfl, Nat.le_of_ble_eq_true rfl⟩ ⟨Nat.zero_le _, Nat.zero_le _⟩ (fun H locs hP hD hS => ?_)
    refine x_nmS (wS cI aS) h hP hD (fun S15 h hP hD => ?_)
    exact RETh dX1_answer_109 h hP hD hS
  · refine x_aload_n C dX1_answer_24 rfl hl 1 rfl ?_
    refine x_iload_n C dX1_answer_25 rfl hl 2 rfl ?_
    obtain ⟨u16, hu16, h⟩ := ob_some h
    refine x_callS (As := [.ref _, .int _]) (n := 2) C (kX1_waste l D cI cS aS _ _ hu16) (fun hh => nomatch hh) wm_X1_78 wt_X1_waste wz_X1 wc_X1_waste (by decide +kernel) rfl hP hD hS hA hl.1 dX1_answer_26 rfl (Nat.le_of_ble_eq_true rfl) ⟨Nat.le_of_ble_eq_true rfl, Nat.le_of_ble_eq_true rfl⟩ ⟨Nat.zero_le _, Nat.zero_le _⟩ (fun H locs hP hD hS => ?_)
    refine x_pop C dX1_answer_29 rfl ?_
    exact RETh dX1_answer_30 h hP hD hS
theorem dX1_callBack_0 : decode cX1_callBack 0 = .ok (.aload_n 0, 1) := by decide +kernel
theorem dX1_callBack_1 : decode cX1_callBack 1 = .ok (.getfield 38, 3) := by decide +kernel
theorem dX1_callBack_4 : decode cX1_callBack 4 = .ok (.invokevirtual 41, 3) := by decide +kernel
theorem dX1_callBack_7 : decode cX1_callBack 7 = .ok (.aload_n 0, 1) := by decide +kernel
theorem dX1_callBack_8 : decode cX1_callBack 8 = .ok (.getfield 35, 3) := by decide +kernel
theorem dX1_callBack_11 : decode cX1_callBack 11 = .ok (.iconst 3, 1) := by decide +kernel
theorem dX1_callBack_12 : decode cX1_callBack 12 = .ok (.iconst 0, 1) := by decide +kernel
theorem dX1_callBack_13 : decode cX1_callBack 13 = .ok (.invokevirtual 15, 3) := by decide +kernel
theorem dX1_callBack_16 : decode cX1_callBack 16 = .ok (.if_icmp .lt 9, 3) := by decide +kernel
theorem dX1_callBack_19 : decode cX1_callBack 19 = .ok (.aload_n 0, 1) := by decide +kernel
theorem dX1_callBack_20 : decode cX1_callBack 20 = .ok (.iload_n 1, 1) := by decide +kernel
theorem dX1_callBack_21 : decode cX1_callBack 21 = .ok (.invokestatic 78, 3) := by decide +kernel
theorem dX1_callBack_24 : decode cX1_callBack 24 = .ok (.ireturn, 1) := by decide +kernel
theorem dX1_callBack_25 : decode cX1_callBack 25 = .ok (.aload_n 0, 1) := by decide +kernel
theorem dX1_callBack_26 : decode cX1_callBack 26 = .ok (.getfield 38, 3) := by decide +kernel
theorem dX1_callBack_29 : decode cX1_callBack 29 = .ok (.invokevirtual 24, 3) := by decide +kernel
theorem dX1_callBack_32 : decode cX1_callBack 32 = .ok (.istore_n 2, 1) := by decide +kernel
theorem dX1_callBack_33 : decode cX1_callBack 33 = .ok (.aload_n 0, 1) := by decide +kernel
theorem dX1_callBack_34 : decode cX1_callBack 34 = .ok (.getfield 38, 3) := by decide +kernel
theorem dX1_callBack_37 : decode cX1_callBack 37 = .ok (.iload_n 2, 1) := by decide +kernel
theorem dX1_callBack_38 : decode cX1_callBack 38 = .ok (.iconst 0, 1) := by decide +kernel
theorem dX1_callBack_39 : decode cX1_callBack 39 = .ok (.iload_n 1, 1) := by decide +kernel
theorem dX1_callBack_40 : decode cX1_callBack 40 = .ok (.invokevirtual 28, 3) := by decide +kernel
theorem dX1_callBack_43 : decode cX1_callBack 43 = .ok (.aload_n 0, 1) := by decide +kernel
theorem dX1_callBack_44 : decode cX1_callBack 44 = .ok (.getfield 59, 3) := by decide +kernel
theorem dX1_callBack_47 : decode cX1_callBack 47 = .ok (.iload_n 1, 1) := by decide +kernel
theorem dX1_callBack_48 : decode cX1_callBack 48 = .ok (.iconst 5, 1) := by decide +kernel
theorem dX1_callBack_49 : decode cX1_callBack 49 = .ok (.iconst 3, 1) := by decide +kernel
theorem dX1_callBack_50 : decode cX1_callBack 50 = .ok (.invokevirtual 28, 3) := by decide +kernel
theorem dX1_callBack_53 : decode cX1_callBack 53 = .ok (.bipush (-9), 2) := by decide +kernel
theorem dX1_callBack_55 : decode cX1_callBack 55 = .ok (.ireturn, 1) := by decide +kernel
def fX1_callBack (p2 : Int32) (S : StS) : Option (Int32 × (StS)) :=
  (if (ssize 8 S) < (sget 3 S (3 : Int32) (0 : Int32)) then nm (sappend 8 S).2 fun S6 => nm ((sappend 8 S).1) fun v7 => nm (sput 8 S6 v7 (0 : Int32) p2) fun S8 => nm (sput 7 S8 p2 (5 : Int32) (3 : Int32)) fun S9 => some ((-9 : Int32), S9) else ob (fX1_waste p2 S) fun u10 => some (u10.1, u10.2))
set_option maxHeartbeats 4000000 in
set_option maxRecDepth 100000 in
theorem kX1_callBack (l : Launch) (D : va_G) (cI cS : ClassId) (aS : Nat → Nat) (p2 : Int32) (S : StS) {q : Int32 × (StS)} (h : fX1_callBack p2 S = some q) : Mc l D (tyL cI cS) false yX1_callBack cX1_callBack 3 (some .int) 4 [.ref (aS 0), .int p2] (wS cI aS S) (some (.int q.1)) (wS cI aS q.2) := by
  refine Mc_of RX1 (by decide +kernel) rfl wc_X1_callBack (Nat.le_of_ble_eq_true rfl) ?_
  intro p e s m args below meth c A Q ls C hA hz hP hD hS hl RET
  have RETh : ∀ {pc : Nat} {ls : Array Slot} {H : Heap} {locs : List Loc} {x : Int32} {S1 : StS}, decode cX1_callBack pc = .ok (.ireturn, 1) → some (x, S1) = some q → va_P D vwCl (wS cI aS S1) H → va_D A (wS cI aS S1) → va_S A s.heap H locs → W p l e (rmL 4) s m args below meth c H locs 0 0 Q (F0 m pc ls [.int x]) := by
    intro pc ls H locs x S1 hd h hP hD hS; cases h; exact RET (x_iret C hd) hP hD hS
  refine x_aload_n C dX1_callBack_0 rfl hl 0 rfl ?_
  refine x_get C inX2 hP 0 rfl rfl 8 (by decide) wf_X1_38 rfl dX1_callBack_1 ?_
  refine x_callV (As := []) (n := 0) C (kS_size l D cI cS aS _ 8 (by decide)) (fun hh => nomatch hh) wm_X1_41 wi_X3_size we_X3_size wz_X3 wc_X3_size (by decide +kernel) rfl hP hD hS hA 17 1 rfl rfl rfl hl.1 dX1_callBack_4 rfl (Nat.le_of_ble_eq_true rfl) ⟨Nat.le_of_ble_eq_true rfl, Nat.le_of_ble_eq_true rfl⟩ ⟨Nat.zero_le _, Nat.zero_le _⟩ (fun H locs hP hD hS => ?_)
  refine x_aload_n C dX1_callBack_7 rfl hl 0 rfl ?_
  refine x_get C inX2 hP 0 rfl rfl 3 (by decide) wf_X1_35 rfl dX1_callBack_8 ?_
  refine x_iconst (v := (3 : Int32)) C dX1_callBack_11 (by decide) ?_
  refine x_iconst (v := (0 : Int32)) C dX1_callBack_12 (by decide) ?_
  refine x_callV (As := [.int _, .int _]) (n := 2) C (kS_get l D cI cS aS _ 3 (by decide) _ _) (fun hh => nomatch hh) wm_X1_15 wi_X3_get we_X3_get wz_X3 wc_X3_get (by decide +kernel) rfl hP hD hS hA 7 1 rfl rfl rfl hl.1 dX1_callBack_13 rfl (Nat.le_of_ble_eq_true rfl) ⟨Nat.le_of_ble_eq_true rfl, Nat.le_of_ble_eq_true rfl⟩ ⟨Nat.zero_le _, Nat.zero_le _⟩ (fun H locs hP hD hS => ?_)
  refine x_icmp_lt (tgt := 25) C h dX1_callBack_16 (by decide) (fun h => ?_) (fun h => ?_)
  · refine x_aload_n C dX1_callBack_25 rfl hl 0 rfl ?_
    refine x_get C inX2 hP 0 rfl rfl 8 (by decide) wf_X1_38 rfl dX1_callBack_26 ?_
    refine x_callV (As := []) (n := 0) C (kS_append l D cI cS aS _ 8 (by decide)) (fun hh => nomatch hh) wm_X1_24 wi_X3_append we_X3_append wz_X3 wc_X3_append (by decide +kernel) rfl hP hD hS hA 17 1 rfl rfl rfl hl.1 dX1_callBack_29 rfl (Nat.le_of_ble_eq_true rfl) ⟨Nat.le_of_ble_eq_true rfl, Nat.le_of_ble_eq_true rfl⟩ ⟨Nat.zero_le _, Nat.zero_le _⟩ (fun H locs hP hD hS => ?_)
    refine x_nmS (wS cI aS) h hP hD (fun S6 h hP hD => ?_)
    refine x_nmi h (fun v7 h => ?_)
    refine x_istore_n (lv' := [(2, .int v7), (0, .ref (aS 0)), (1, .int p2)]) C dX1_callBack_32 rfl hl (by decide) rfl (fun ls hl => ?_)
    refine x_aload_n C dX1_callBack_33 rfl hl 1 rfl ?_
    refine x_get C inX2 hP 0 rfl rfl 8 (by decide) wf_X1_38 rfl dX1_callBack_34 ?_
    refine x_iload_n C dX1_callBack_37 rfl hl 0 rfl ?_
    refine x_iconst (v := (0 : Int32)) C dX1_callBack_38 (by decide) ?_
    refine x_iload_n C dX1_callBack_39 rfl hl 2 rfl ?_
    refine x_callV (As := [.int _, .int _, .int _]) (n := 3) C (kS_put l D cI cS aS _ 8 (by decide) _ _ _) (fun hh => nomatch hh) wm_X1_28 wi_X3_put we_X3_put wz_X3 wc_X3_put (by decide +kernel) rfl hP hD hS hA 17 1 rfl rfl rfl hl.1 dX1_callBack_40 rfl (Nat.le_of_ble_eq_true rfl) ⟨Nat.le_of_ble_eq_true rfl, Nat.le_of_ble_eq_true rfl⟩ ⟨Nat.zero_le _, Nat.zero_le _⟩ (fun H locs hP hD hS => ?_)
    refine x_nmS (wS cI aS) h hP hD (fun S8 h hP hD => ?_)
    refine x_aload_n C dX1_callBack_43 rfl hl 1 rfl ?_
    refine x_get C inX2 hP 0 rfl rfl 7 (by decide) wf_X1_59 rfl dX1_callBack_44 ?_
    refine x_iload_n C dX1_callBack_47 rfl hl 2 rfl ?_
    refine x_iconst (v := (5 : Int32)) C dX1_callBack_48 (by decide) ?_
    refine x_iconst (v := (3 : Int32)) C dX1_callBack_49 (by decide) ?_
    refine x_callV (As := [.int _, .int _, .int _]) (n := 3) C (kS_put l D cI cS aS _ 7 (by decide) _ _ _) (fun hh => nomatch hh) wm_X1_28 wi_X3_put we_X3_put wz_X3 wc_X3_put (by decide +kernel) rfl hP hD hS hA 15 1 rfl rfl rfl hl.1 dX1_callBack_50 rfl (Nat.le_of_ble_eq_true rfl) ⟨Nat.le_of_ble_eq_true rfl, Nat.le_of_ble_eq_true rfl⟩ ⟨Nat.zero_le _, Nat.zero_le _⟩ (fun H locs hP hD hS => ?_)
    refine x_nmS (wS cI aS) h hP hD (fun S9 h hP hD => ?_)
    refine x_bipush (v := (-9 : Int32)) C dX1_callBack_53 (by decide) ?_
    exact RETh dX1_callBack_55 h hP hD hS
  · refine x_aload_n C dX1_callBack_19 rfl hl 0 rfl ?_
    refine x_iload_n C dX1_callBack_20 rfl hl 1 rfl ?_
    obtain ⟨u10, hu10, h⟩ := ob_some h
    refine x_callS (As := [.ref _, .int _]) (n := 2) C (kX1_waste l D cI cS aS _ _ hu10) (fun hh => nomatch hh) wm_X1_78 wt_X1_waste wz_X1 wc_X1_waste (by decide +kernel) rfl hP hD hS hA hl.1 dX1_callBack_21 rfl (Nat.le_of_ble_eq_true rfl) ⟨Nat.le_of_ble_eq_true rfl, Nat.le_of_ble_eq_true rfl⟩ ⟨Nat.zero_le _, Nat.zero_le _⟩ (fun H locs hP hD hS => ?_)
    exact RETh dX1_callBack_24 h hP hD hS
end
section
theorem dX1_endBackWork_0 : decode cX1_endBackWork 0 = .ok (.iconst 0, 1) := by decide +kernel
theorem dX1_endBackWork_1 : decode cX1_endBackWork 1 = .ok (.istore_n 1, 1) := by decide +kernel
theorem dX1_endBackWork_2 : decode cX1_endBackWork 2 = .ok (.iload_n 1, 1) := by decide +kernel
theorem dX1_endBackWork_3 : decode cX1_endBackWork 3 = .ok (.iconst 4, 1) := by decide +kernel
theorem dX1_endBackWork_4 : decode cX1_endBackWork 4 = .ok (.if_icmp .ge 53, 3) := by decide +kernel
theorem dX1_endBackWork_7 : decode cX1_endBackWork 7 = .ok (.aload_n 0, 1) := by decide +kernel
theorem dX1_endBackWork_8 : decode cX1_endBackWork 8 = .ok (.getfield 44, 3) := by decide +kernel
theorem dX1_endBackWork_11 : decode cX1_endBackWork 11 = .ok (.iload_n 1, 1) := by decide +kernel
theorem dX1_endBackWork_12 : decode cX1_endBackWork 12 = .ok (.iconst 0, 1) := by decide +kernel
theorem dX1_endBackWork_13 : decode cX1_endBackWork 13 = .ok (.invokevirtual 15, 3) := by decide +kernel
theorem dX1_endBackWork_16 : decode cX1_endBackWork 16 = .ok (.istore_n 2, 1) := by decide +kernel
theorem dX1_endBackWork_17 : decode cX1_endBackWork 17 = .ok (.iload_n 2, 1) := by decide +kernel
theorem dX1_endBackWork_18 : decode cX1_endBackWork 18 = .ok (.bipush (-9), 2) := by decide +kernel
theorem dX1_endBackWork_20 : decode cX1_endBackWork 20 = .ok (.if_icmp .eq 31, 3) := by decide +kernel
theorem dX1_endBackWork_23 : decode cX1_endBackWork 23 = .ok (.aload_n 0, 1) := by decide +kernel
theorem dX1_endBackWork_24 : decode cX1_endBackWork 24 = .ok (.getfield 59, 3) := by decide +kernel
theorem dX1_endBackWork_27 : decode cX1_endBackWork 27 = .ok (.iload_n 2, 1) := by decide +kernel
theorem dX1_endBackWork_28 : decode cX1_endBackWork 28 = .ok (.iconst 3, 1) := by decide +kernel
theorem dX1_endBackWork_29 : decode cX1_endBackWork 29 = .ok (.invokevirtual 15, 3) := by decide +kernel
theorem dX1_endBackWork_32 : decode cX1_endBackWork 32 = .ok (.ifCond .ne 19, 3) := by decide +kernel
theorem dX1_endBackWork_35 : decode cX1_endBackWork 35 = .ok (.aload_n 0, 1) := by decide +kernel
theorem dX1_endBackWork_36 : decode cX1_endBackWork 36 = .ok (.getfield 44, 3) := by decide +kernel
theorem dX1_endBackWork_39 : decode cX1_endBackWork 39 = .ok (.iload_n 1, 1) := by decide +kernel
theorem dX1_endBackWork_40 : decode cX1_endBackWork 40 = .ok (.iconst 0, 1) := by decide +kernel
theorem dX1_endBackWork_41 : decode cX1_endBackWork 41 = .ok (.bipush (-9), 2) := by decide +kernel
theorem dX1_endBackWork_43 : decode cX1_endBackWork 43 = .ok (.invokevirtual 28, 3) := by decide +kernel
theorem dX1_endBackWork_46 : decode cX1_endBackWork 46 = .ok (.aload_n 0, 1) := by decide +kernel
theorem dX1_endBackWork_47 : decode cX1_endBackWork 47 = .ok (.iload_n 2, 1) := by decide +kernel
theorem dX1_endBackWork_48 : decode cX1_endBackWork 48 = .ok (.invokestatic 107, 3) := by decide +kernel
theorem dX1_endBackWork_51 : decode cX1_endBackWork 51 = .ok (.iinc 1 1, 3) := by decide +kernel
theorem dX1_endBackWork_54 : decode cX1_endBackWork 54 = .ok (.goto (-52), 3) := by decide +kernel
theorem dX1_endBackWork_57 : decode cX1_endBackWork 57 = .ok (.return_, 1) := by decide +kernel
def bfX1_endBackWork_51  (K2 : Int32 × (StS) → Option (StS)) (x1 : Int32) (S : StS) : Option (StS) :=
  K2 ((x1 + (1 : Int32)), S)
def bfX1_endBackWork_2  (K2 : Int32 × (StS) → Option (StS)) (x : Int32 × (StS)) : Option (StS) :=
  match x with
  | (x1, S) => (if (4 : Int32) ≤ x1 then some S else nm ((sget 9 S x1 (0 : Int32))) fun v4 => (if v4 = (-9 : Int32) then bfX1_endBackWork_51  K2 x1 S else (if (sget 7 S v4 (3 : Int32)) = 0 then nm (sput 9 S x1 (0 : Int32) (-9 : Int32)) fun S5 => ob (fX1_answer v4 S5) fun u6 => bfX1_endBackWork_51  K2 x1 u6 else bfX1_endBackWork_51  K2 x1 S)))
def fX1_endBackWork  (S : StS) : Option (StS) :=
  iter (bfX1_endBackWork_2) FU ((0 : Int32), S)
set_option maxHeartbeats 4000000 in
set_option maxRecDepth 100000 in
theorem kX1_endBackWork (l : Launch) (D : va_G) (cI cS : ClassId) (aS : Nat → Nat)  (S : StS) {q : StS} (h : fX1_endBackWork  S = some q) : Mc l D (tyL cI cS) false yX1_endBackWork cX1_endBackWork 3 none 4 [.ref (aS 0)] (wS cI aS S) none (wS cI aS q) := by
  refine Mc_of RX1 (by decide +kernel) rfl wc_X1_endBackWork (Nat.le_of_ble_eq_true rfl) ?_
  intro p e s m args below meth c A Q ls C hA hz hP hD hS hl RET
  have RETh : ∀ {pc : Nat} {ls : Array Slot} {H : Heap} {locs : List Loc} {S1 : StS}, decode cX1_endBackWork pc = .ok (.return_, 1) → some S1 = some q → va_P D vwCl (wS cI aS S1) H → va_D A (wS cI aS S1) → va_S A s.heap H locs → W p l e (rmL 4) s m args below meth c H locs 0 0 Q (F0 m pc ls []) := by
    intro pc ls H locs S1 hd h hP hD hS; cases h; exact RET (x_vret C hd) hP hD hS
  have B51 : ∀ (K2 : Int32 × (StS) → Option (StS)) (ih2 : ∀ x, K2 x = some q → (match x with | (x1, S) => ∀ (H : Heap) (locs : List Loc) (ls : Array Slot), va_P D vwCl (wS cI aS S) H → va_D A (wS cI aS S) → va_S A s.heap H locs → lv_has ls 3 [(0, .ref (aS 0)), (1, .int x1)] → W p l e (rmL 4) s m args below meth c H locs 0 0 Q (F0 m 2 ls []))) (x1 : Int32) (S : StS), bfX1_endBackWork_51 K2 x1 S = some q → ∀ (H : Heap) (locs : List Loc) (ls : Array Slot), va_P D vwCl (wS cI aS S) H → va_D A (wS cI aS S) → va_S A s.heap H locs → lv_has ls 3 [(0, .ref (aS 0)), (1, .int x1)] → W p l e (rmL 4) s m args below meth c H locs 0 0 Q (F0 m 51 ls []) := by
    intro K2 ih2 x1 S h H locs ls hP hD hS hl
    refine x_iinc (v := (x1 + (1 : Int32))) (lv' := [(1, .int (x1 + (1 : Int32))), (0, .ref (aS 0))]) C dX1_endBackWork_51 hl (k := 1) rfl rfl (by decide) rfl (fun ls hl => ?_)
    refine x_goto (tgt := 2) C dX1_endBackWork_54 (by decide) ?_
    exact ih2 _ h _ _ _ hP hD hS (lv_sub hl [1, 0] rfl)
  have B2 : ∀ (n : Nat) (x : Int32 × (StS)), iter (bfX1_endBackWork_2) n x = some q → (match x with | (x1, S) => ∀ (H : Heap) (locs : List Loc) (ls : Array Slot), va_P D vwCl (wS cI aS S) H → va_D A (wS cI aS S) → va_S A s.heap H locs → lv_has ls 3 [(0, .ref (aS 0)), (1, .int x1)] → W p l e (rmL 4) s m args below meth c H locs 0 0 Q (F0 m 2 ls [])) := by
    refine iter_ind (fun x : Int32 × (StS) => (match x with | (x1, S) => ∀ (H : Heap) (locs : List Loc) (ls : Array Slot), va_P D vwCl (wS cI aS S) H → va_D A (wS cI aS S) → va_S A s.heap H locs → lv_has ls 3 [(0, .ref (aS 0)), (1, .int x1)] → W p l e (rmL 4) s m args below meth c H locs 0 0 Q (F0 m 2 ls []))) ?_
    intro K2 ih2 x h
    obtain ⟨x1, S⟩ := x
    intro H locs ls hP hD hS hl
    refine x_iload_n C dX1_endBackWork_2 rfl hl 1 rfl ?_
    refine x_iconst (v := (4 : Int32)) C dX1_endBackWork_3 (by decide) ?_
    refine x_icmp_ge (tgt := 57) C h dX1_endBackWork_4 (by decide) (fun h => ?_) (fun h => ?_)
    · exact RETh dX1_endBackWork_57 h hP hD hS
    · refine x_aload_n C dX1_endBackWork_7 rfl hl 0 rfl ?_
      refine x_get C inX2 hP 0 rfl rfl 9 (by decide) wf_X1_44 rfl dX1_endBackWork_8 ?_
      refine x_iload_n C dX1_endBackWork_11 rfl hl 1 rfl ?_
      refine x_iconst (v := (0 : Int32)) C dX1_endBackWork_12 (by decide) ?_
      refine x_callV (As := [.int _, .int _]) (n := 2) C (kS_get l D cI cS aS _ 9 (by decide) _ _) (fun hh => nomatch hh) wm_X1_15 wi_X3_get we_X3_get wz_X3 wc_X3_get (by decide +kernel) rfl hP hD hS hA 19 1 rfl rfl rfl hl.1 dX1_endBackWork_13 rfl (Nat.le_of_ble_eq_true rfl) ⟨Nat.le_of_ble_eq_true rfl, Nat.le_of_ble_eq_true rfl⟩ ⟨Nat.zero_le _, Nat.zero_le _⟩ (fun H locs hP hD hS => ?_)
      refine x_nmi h (fun v4 h => ?_)
      refine x_istore_n (lv' := [(2, .int v4), (0, .ref (aS 0)), (1, .int x1)]) C dX1_endBackWork_16 rfl hl (by decide) rfl (fun ls hl => ?_)
      refine x_iload_n C dX1_endBackWork_17 rfl hl 0 rfl ?_
      refine x_bipush (v := (-9 : Int32)) C dX1_endBackWork_18 (by decide) ?_
      refine x_icmp_eq (tgt := 51) C h dX1_endBackWork_20 (by decide) (fun h => ?_) (fun h => ?_)
      · exact B51 K2 ih2 _ _ h _ _ _ hP hD hS (lv_sub hl [1, 2] rfl)
      · refine x_aload_n C dX1_endBackWork_23 rfl hl 1 rfl ?_
        refine x_get C inX2 hP 0 rfl rfl 7 (by decide) wf_X1_59 rfl dX1_endBackWork_24 ?_
        refine x_iload_n C dX1_endBackWork_27 rfl hl 0 rfl ?_
        refine x_iconst (v := (3 : Int32)) C dX1_endBackWork_28 (by decide) ?_
        refine x_callV (As := [.int _, .int _]) (n := 2) C (kS_get l D cI cS aS _ 7 (by decide) _ _) (fun hh => nomatch hh) wm_X1_15 wi_X3_get we_X3_get wz_X3 wc_X3_get (by decide +kernel) rfl hP hD hS hA 15 1 rfl rfl rfl hl.1 dX1_endBackWork_29 rfl (Nat.le_of_ble_eq_true rfl) ⟨Nat.le_of_ble_eq_true rfl, Nat.le_of_ble_eq_true rfl⟩ ⟨Nat.zero_le _, Nat.zero_le _⟩ (fun H locs hP hD hS => ?_)
        refine x_if_ne (tgt := 51) C h dX1_endBackWork_32 (by decide) (fun h => ?_) (fun h => ?_)
        · exact B51 K2 ih2 _ _ h _ _ _ hP hD hS (lv_sub hl [1, 2] rfl)
        · refine x_aload_n C dX1_endBackWork_35 rfl hl 1 rfl ?_
          refine x_get C inX2 hP 0 rfl rfl 9 (by decide) wf_X1_44 rfl dX1_endBackWork_36 ?_
          refine x_iload_n C dX1_endBackWork_39 rfl hl 2 rfl ?_
          refine x_iconst (v := (0 : Int32)) C dX1_endBackWork_40 (by decide) ?_
          refine x_bipush (v := (-9 : Int32)) C dX1_endBackWork_41 (by decide) ?_
          refine x_callV (As := [.int _, .int _, .int _]) (n := 3) C (kS_put l D cI cS aS _ 9 (by decide) _ _ _) (fun hh => nomatch hh) wm_X1_28 wi_X3_put we_X3_put wz_X3 wc_X3_put (by decide +kernel) rfl hP hD hS hA 19 1 rfl rfl rfl hl.1 dX1_endBackWork_43 rfl (Nat.le_of_ble_eq_true rfl) ⟨Nat.le_of_ble_eq_true rfl, Nat.le_of_ble_eq_true rfl⟩ ⟨Nat.zero_le _, Nat.zero_le _⟩ (fun H locs hP hD hS => ?_)
          refine x_nmS (wS cI aS) h hP hD (fun S5 h hP hD => ?_)
          refine x_aload_n C dX1_endBackWork_46 rfl hl 1 rfl ?_
          refine x_iload_n C dX1_endBackWork_47 rfl hl 0 rfl ?_
          obtain ⟨u6, hu6, h⟩ := ob_some h
          refine x_callS (As := [.ref _, .int _]) (n := 2) C (kX1_answer l D cI cS aS _ _ hu6) (fun hh => nomatch hh) wm_X1_107 wt_X1_answer wz_X1 wc_X1_answer (by decide +kernel) rfl hP hD hS hA hl.1 dX1_endBackWork_48 rfl (Nat.le_of_ble_eq_true rfl) ⟨Nat.le_of_ble_eq_true rfl, Nat.le_of_ble_eq_true rfl⟩ ⟨Nat.zero_le _, Nat.zero_le _⟩ (fun H locs hP hD hS => ?_)
          exact B51 K2 ih2 _ _ h _ _ _ hP hD hS (lv_sub hl [1, 2] rfl)
  refine x_iconst (v := (0 : Int32)) C dX1_endBackWork_0 (by decide) ?_
  refine x_istore_n (lv' := [(1, .int (0 : Int32)), (0, .ref (aS 0))]) C dX1_endBackWork_1 rfl hl (by decide) rfl (fun ls hl => ?_)
  exact B2 FU _ h _ _ _ hP hD hS (lv_sub hl [1, 0] rfl)
theorem dX1_endFrontWork_0 : decode cX1_endFrontWork 0 = .ok (.iconst 0, 1) := by decide +kernel
theorem dX1_endFrontWork_1 : decode cX1_endFrontWork 1 = .ok (.istore_n 1, 1) := by decide +kernel
theorem dX1_endFrontWork_2 : decode cX1_endFrontWork 2 = .ok (.iload_n 1, 1) := by decide +kernel
theorem dX1_endFrontWork_3 : decode cX1_endFrontWork 3 = .ok (.iconst 4, 1) := by decide +kernel
theorem dX1_endFrontWork_4 : decode cX1_endFrontWork 4 = .ok (.if_icmp .ge 88, 3) := by decide +kernel
theorem dX1_endFrontWork_7 : decode cX1_endFrontWork 7 = .ok (.aload_n 0, 1) := by decide +kernel
theorem dX1_endFrontWork_8 : decode cX1_endFrontWork 8 = .ok (.getfield 59, 3) := by decide +kernel
theorem dX1_endFrontWork_11 : decode cX1_endFrontWork 11 = .ok (.iload_n 1, 1) := by decide +kernel
theorem dX1_endFrontWork_12 : decode cX1_endFrontWork 12 = .ok (.iconst 0, 1) := by decide +kernel
theorem dX1_endFrontWork_13 : decode cX1_endFrontWork 13 = .ok (.invokevirtual 15, 3) := by decide +kernel
theorem dX1_endFrontWork_16 : decode cX1_endFrontWork 16 = .ok (.bipush (-9), 2) := by decide +kernel
theorem dX1_endFrontWork_18 : decode cX1_endFrontWork 18 = .ok (.if_icmp .eq 20, 3) := by decide +kernel
theorem dX1_endFrontWork_21 : decode cX1_endFrontWork 21 = .ok (.aload_n 0, 1) := by decide +kernel
theorem dX1_endFrontWork_22 : decode cX1_endFrontWork 22 = .ok (.getfield 59, 3) := by decide +kernel
theorem dX1_endFrontWork_25 : decode cX1_endFrontWork 25 = .ok (.iload_n 1, 1) := by decide +kernel
theorem dX1_endFrontWork_26 : decode cX1_endFrontWork 26 = .ok (.iconst 5, 1) := by decide +kernel
theorem dX1_endFrontWork_27 : decode cX1_endFrontWork 27 = .ok (.invokevirtual 15, 3) := by decide +kernel
theorem dX1_endFrontWork_30 : decode cX1_endFrontWork 30 = .ok (.iconst 2, 1) := by decide +kernel
theorem dX1_endFrontWork_31 : decode cX1_endFrontWork 31 = .ok (.if_icmp .ne 7, 3) := by decide +kernel
theorem dX1_endFrontWork_34 : decode cX1_endFrontWork 34 = .ok (.iconst 1, 1) := by decide +kernel
theorem dX1_endFrontWork_35 : decode cX1_endFrontWork 35 = .ok (.goto 4, 3) := by decide +kernel
theorem dX1_endFrontWork_38 : decode cX1_endFrontWork 38 = .ok (.iconst 0, 1) := by decide +kernel
theorem dX1_endFrontWork_39 : decode cX1_endFrontWork 39 = .ok (.istore_n 2, 1) := by decide +kernel
theorem dX1_endFrontWork_40 : decode cX1_endFrontWork 40 = .ok (.iload_n 2, 1) := by decide +kernel
theorem dX1_endFrontWork_41 : decode cX1_endFrontWork 41 = .ok (.ifCond .eq 45, 3) := by decide +kernel
theorem dX1_endFrontWork_44 : decode cX1_endFrontWork 44 = .ok (.aload_n 0, 1) := by decide +kernel
theorem dX1_endFrontWork_45 : decode cX1_endFrontWork 45 = .ok (.getfield 59, 3) := by decide +kernel
theorem dX1_endFrontWork_48 : decode cX1_endFrontWork 48 = .ok (.iload_n 1, 1) := by decide +kernel
theorem dX1_endFrontWork_49 : decode cX1_endFrontWork 49 = .ok (.iconst 2, 1) := by decide +kernel
theorem dX1_endFrontWork_50 : decode cX1_endFrontWork 50 = .ok (.invokevirtual 15, 3) := by decide +kernel
theorem dX1_endFrontWork_53 : decode cX1_endFrontWork 53 = .ok (.ifCond .ne 33, 3) := by decide +kernel
theorem dX1_endFrontWork_56 : decode cX1_endFrontWork 56 = .ok (.aload_n 0, 1) := by decide +kernel
theorem dX1_endFrontWork_57 : decode cX1_endFrontWork 57 = .ok (.getfield 59, 3) := by decide +kernel
theorem dX1_endFrontWork_60 : decode cX1_endFrontWork 60 = .ok (.iload_n 1, 1) := by decide +kernel
theorem dX1_endFrontWork_61 : decode cX1_endFrontWork 61 = .ok (.iconst 3, 1) := by decide +kernel
theorem dX1_endFrontWork_62 : decode cX1_endFrontWork 62 = .ok (.invokevirtual 15, 3) := by decide +kernel
theorem dX1_endFrontWork_65 : decode cX1_endFrontWork 65 = .ok (.ifCond .ne 11, 3) := by decide +kernel
theorem dX1_endFrontWork_68 : decode cX1_endFrontWork 68 = .ok (.aload_n 0, 1) := by decide +kernel
theorem dX1_endFrontWork_69 : decode cX1_endFrontWork 69 = .ok (.iload_n 1, 1) := by decide +kernel
theorem dX1_endFrontWork_70 : decode cX1_endFrontWork 70 = .ok (.invokestatic 107, 3) := by decide +kernel
theorem dX1_endFrontWork_73 : decode cX1_endFrontWork 73 = .ok (.goto 13, 3) := by decide +kernel
theorem dX1_endFrontWork_76 : decode cX1_endFrontWork 76 = .ok (.aload_n 0, 1) := by decide +kernel
theorem dX1_endFrontWork_77 : decode cX1_endFrontWork 77 = .ok (.aload_n 0, 1) := by decide +kernel
theorem dX1_endFrontWork_78 : decode cX1_endFrontWork 78 = .ok (.iload_n 1, 1) := by decide +kernel
theorem dX1_endFrontWork_79 : decode cX1_endFrontWork 79 = .ok (.invokestatic 111, 3) := by decide +kernel
theorem dX1_endFrontWork_82 : decode cX1_endFrontWork 82 = .ok (.iconst 4, 1) := by decide +kernel
theorem dX1_endFrontWork_83 : decode cX1_endFrontWork 83 = .ok (.invokestatic 53, 3) := by decide +kernel
theorem dX1_endFrontWork_86 : decode cX1_endFrontWork 86 = .ok (.iinc 1 1, 3) := by decide +kernel
theorem dX1_endFrontWork_89 : decode cX1_endFrontWork 89 = .ok (.goto (-87), 3) := by decide +kernel
theorem dX1_endFrontWork_92 : decode cX1_endFrontWork 92 = .ok (.return_, 1) := by decide +kernel
def bfX1_endFrontWork_86  (K2 : Int32 × (StS) → Option (StS)) (x1 : Int32) (S : StS) : Option (StS) :=
  K2 ((x1 + (1 : Int32)), S)
def bfX1_endFrontWork_39  (K2 : Int32 × (StS) → Option (StS)) (x1 : Int32) (s0 : Int32) (S : StS) : Option (StS) :=
  (if s0 = 0 then bfX1_endFrontWork_86  K2 x1 S else (if (sget 7 S x1 (2 : Int32)) = 0 then (if (sget 7 S x1 (3 : Int32)) = 0 then ob (fX1_answer x1 S) fun u6 => bfX1_endFrontWork_86  K2 x1 u6 else ob (fX1_callBack x1 S) fun u4 => ob (fX0_fail u4.1 (4 : Int32) u4.2) fun u5 => bfX1_endFrontWork_86  K2 x1 u5) else bfX1_endFrontWork_86  K2 x1 S))
def bfX1_endFrontWork_38  (K2 : Int32 × (StS) → Option (StS)) (x1 : Int32) (S : StS) : Option (StS) :=
  bfX1_endFrontWork_39  K2 x1 ((0 : Int32)) S
def bfX1_endFrontWork_2  (K2 : Int32 × (StS) → Option (StS)) (x : Int32 × (StS)) : Option (StS) :=
  match x with
  | (x1, S) => (if (4 : Int32) ≤ x1 then some S else (if (sget 7 S x1 (0 : Int32)) = (-9 : Int32) then bfX1_endFrontWork_38  K2 x1 S else (if (sget 7 S x1 (5 : Int32)) = (2 : Int32) then bfX1_endFrontWork_39  K2 x1 ((1 : Int32)) S else bfX1_endFrontWork_38  K2 x1 S)))
def fX1_endFrontWork  (S : StS) : Option (StS) :=
  iter (bfX1_endFrontWork_2) FU ((0 : Int32), S)
set_option maxHeartbeats 4000000 in
set_option maxRecDepth 100000 in
theorem kX1_endFrontWork (l : Launch) (D : va_G) (cI cS : ClassId) (aS : Nat → Nat)  (S : StS) {q : StS} (h : fX1_endFrontWork  S = some q) : Mc l D (tyL cI cS) false yX1_endFrontWork cX1_endFrontWork 3 none 5 [.ref (aS 0)] (wS cI aS S) none (wS cI aS q) := by
  refine Mc_of RX1 (by decide +kernel) rfl wc_X1_endFrontWork (Nat.le_of_ble_eq_true rfl) ?_
  intro p e s m args below meth c A Q ls C hA hz hP hD hS hl RET
  have RETh : ∀ {pc : Nat} {ls : Array Slot} {H : Heap} {locs : List Loc} {S1 : StS}, decode cX1_endFrontWork pc = .ok (.return_, 1) → some S1 = some q → va_P D vwCl (wS cI aS S1) H → va_D A (wS cI aS S1) → va_S A s.heap H locs → W p l e (rmL 5) s m args below meth c H locs 0 0 Q (F0 m pc ls []) := by
    intro pc ls H locs S1 hd h hP hD hS; cases h; exact RET (x_vret C hd) hP hD hS
  have B86 : ∀ (K2 : Int32 × (StS) → Option (StS)) (ih2 : ∀ x, K2 x = some q → (match x with | (x1, S) => ∀ (H : Heap) (locs : List Loc) (ls : Array Slot), va_P D vwCl (wS cI aS S) H → va_D A (wS cI aS S) → va_S A s.heap H locs → lv_has ls 3 [(0, .ref (aS 0)), (1, .int x1)] → W p l e (rmL 5) s m args below meth c H locs 0 0 Q (F0 m 2 ls []))) (x1 : Int32) (S : StS), bfX1_endFrontWork_86 K2 x1 S = some q → ∀ (H : Heap) (locs : List Loc) (ls : Array Slot), va_P D vwCl (wS cI aS S) H → va_D A (wS cI aS S) → va_S A s.heap H locs → lv_has ls 3 [(0, .ref (aS 0)), (1, .int x1)] → W p l e (rmL 5) s m args below meth c H locs 0 0 Q (F0 m 86 ls []) := by
    intro K2 ih2 x1 S h H locs ls hP hD hS hl
    refine x_iinc (v := (x1 + (1 : Int32))) (lv' := [(1, .int (x1 + (1 : Int32))), (0, .ref (aS 0))]) C dX1_endFrontWork_86 hl (k := 1) rfl rfl (by decide) rfl (fun ls hl => ?_)
    refine x_goto (tgt := 2) C dX1_endFrontWork_89 (by decide) ?_
    exact ih2 _ h _ _ _ hP hD hS (lv_sub hl [1, 0] rfl)
  have B39 : ∀ (K2 : Int32 × (StS) → Option (StS)) (ih2 : ∀ x, K2 x = some q → (match x with | (x1, S) => ∀ (H : Heap) (locs : List Loc) (ls : Array Slot), va_P D vwCl (wS cI aS S) H → va_D A (wS cI aS S) → va_S A s.heap H locs → lv_has ls 3 [(0, .ref (aS 0)), (1, .int x1)] → W p l e (rmL 5) s m args below meth c H locs 0 0 Q (F0 m 2 ls []))) (x1 : Int32) (s0 : Int32) (S : StS), bfX1_endFrontWork_39 K2 x1 s0 S = some q → ∀ (H : Heap) (locs : List Loc) (ls : Array Slot), va_P D vwCl (wS cI aS S) H → va_D A (wS cI aS S) → va_S A s.heap H locs → lv_has ls 3 [(0, .ref (aS 0)), (1, .int x1)] → W p l e (rmL 5) s m args below meth c H locs 0 0 Q (F0 m 39 ls [.int s0]) := by
    intro K2 ih2 x1 s0 S h H locs ls hP hD hS hl
    refine x_istore_n (lv' := [(2, .int s0), (0, .ref (aS 0)), (1, .int x1)]) C dX1_endFrontWork_39 rfl hl (by decide) rfl (fun ls hl => ?_)
    refine x_iload_n C dX1_endFrontWork_40 rfl hl 0 rfl ?_
    refine x_if_eq (tgt := 86) C h dX1_endFrontWork_41 (by decide) (fun h => ?_) (fun h => ?_)
    · exact B86 K2 ih2 _ _ h _ _ _ hP hD hS (lv_sub hl [1, 2] rfl)
    · refine x_aload_n C dX1_endFrontWork_44 rfl hl 1 rfl ?_
      refine x_get C inX2 hP 0 rfl rfl 7 (by decide) wf_X1_59 rfl dX1_endFrontWork_45 ?_
      refine x_iload_n C dX1_endFrontWork_48 rfl hl 2 rfl ?_
      refine x_iconst (v := (2 : Int32)) C dX1_endFrontWork_49 (by decide) ?_
      refine x_callV (As := [.int _, .int _]) (n := 2) C (kS_get l D cI cS aS _ 7 (by decide) _ _) (fun hh => nomatch hh) wm_X1_15 wi_X3_get we_X3_get wz_X3 wc_X3_get (by decide +kernel) rfl hP hD hS hA 15 1 rfl rfl rfl hl.1 dX1_endFrontWork_50 rfl (Nat.le_of_ble_eq_true rfl) ⟨Nat.le_of_ble_eq_true rfl, Nat.le_of_ble_eq_true rfl⟩ ⟨Nat.zero_le _, Nat.zero_le _⟩ (fun H locs hP hD hS => ?_)
      refine x_if_ne (tgt := 86) C h dX1_endFrontWork_53 (by decide) (fun h => ?_) (fun h => ?_)
      · exact B86 K2 ih2 _ _ h _ _ _ hP hD hS (lv_sub hl [1, 2] rfl)
      · refine x_aload_n C dX1_endFrontWork_56 rfl hl 1 rfl ?_
        refine x_get C inX2 hP 0 rfl rfl 7 (by decide) wf_X1_59 rfl dX1_endFrontWork_57 ?_
        refine x_iload_n C dX1_endFrontWork_60 rfl hl 2 rfl ?_
        refine x_iconst (v := (3 : Int32)) C dX1_endFrontWork_61 (by decide) ?_
        refine x_callV (As := [.int _, .int _]) (n := 2) C (kS_get l D cI cS aS _ 7 (by decide) _ _) (fun hh => nomatch hh) wm_X1_15 wi_X3_get we_X3_get wz_X3 wc_X3_get (by decide +kernel) rfl hP hD hS hA 15 1 rfl rfl rfl hl.1 dX1_endFrontWork_62 rfl (Nat.le_of_ble_eq_true rfl) ⟨Nat.le_of_ble_eq_true rfl, Nat.le_of_ble_eq_true rfl⟩ ⟨Nat.zero_le _, Nat.zero_le _⟩ (fun H locs hP hD hS => ?_)
        refine x_if_ne (tgt := 76) C h dX1_endFrontWork_65 (by decide) (fun h => ?_) (fun h => ?_)
        · refine x_aload_n C dX1_endFrontWork_76 rfl hl 1 rfl ?_
          refine x_aload_n C dX1_endFrontWork_77 rfl hl 1 rfl ?_
          refine x_iload_n C dX1_endFrontWork_78 rfl hl 2 rfl ?_
          obtain ⟨u4, hu4, h⟩ := ob_some h
          refine x_callS (As := [.ref _, .int _]) (n := 2) C (kX1_callBack l D cI cS aS _ _ hu4) (fun hh => nomatch hh) wm_X1_111 wt_X1_callBack wz_X1 wc_X1_callBack (by decide +kernel) rfl hP hD hS hA hl.1 dX1_endFrontWork_79 rfl (Nat.le_of_ble_eq_true rfl) ⟨Nat.le_of_ble_eq_true rfl, Nat.le_of_ble_eq_true rfl⟩ ⟨Nat.zero_le _, Nat.zero_le _⟩ (fun H locs hP hD hS => ?_)
          refine x_iconst (v := (4 : Int32)) C dX1_endFrontWork_82 (by decide) ?_
          obtain ⟨u5, hu5, h⟩ := ob_some h
          refine x_callS (As := [.ref _, .int _, .int _]) (n := 3) C (kX0_fail l D cI cS aS _ _ _ hu5) (fun hh => nomatch hh) wm_X1_53 wt_X0_fail wz_X0 wc_X0_fail (by decide +kernel) rfl hP hD hS hA hl.1 dX1_endFrontWork_83 rfl (Nat.le_of_ble_eq_true rfl) ⟨Nat.le_of_ble_eq_true rfl, Nat.le_of_ble_eq_true rfl⟩ ⟨Nat.zero_le _, Nat.zero_le _⟩ (fun H locs hP hD hS => ?_)
          exact B86 K2 ih2 _ _ h _ _ _ hP hD hS (lv_sub hl [1, 2] rfl)
        · refine x_aload_n C dX1_endFrontWork_68 rfl hl 1 rfl ?_
          refine x_iload_n C dX1_endFrontWork_69 rfl hl 2 rfl ?_
          obtain ⟨u6, hu6, h⟩ := ob_some h
          refine x_callS (As := [.ref _, .int _]) (n := 2) C (kX1_answer l D cI cS aS _ _ hu6) (fun hh => nomatch hh) wm_X1_107 wt_X1_answer wz_X1 wc_X1_answer (by decide +kernel) rfl hP hD hS hA hl.1 dX1_endFrontWork_70 rfl (Nat.le_of_ble_eq_true rfl) ⟨Nat.le_of_ble_eq_true rfl, Nat.le_of_ble_eq_true rfl⟩ ⟨Nat.zero_le _, Nat.zero_le _⟩ (fun H locs hP hD hS => ?_)
          refine x_goto (tgt := 86) C dX1_endFrontWork_73 (by decide) ?_
          exact B86 K2 ih2 _ _ h _ _ _ hP hD hS (lv_sub hl [1, 2] rfl)
  have B38 : ∀ (K2 : Int32 × (StS) → Option (StS)) (ih2 : ∀ x, K2 x = some q → (match x with | (x1, S) => ∀ (H : Heap) (locs : List Loc) (ls : Array Slot), va_P D vwCl (wS cI aS S) H → va_D A (wS cI aS S) → va_S A s.heap H locs → lv_has ls 3 [(0, .ref (aS 0)), (1, .int x1)] → W p l e (rmL 5) s m args below meth c H locs 0 0 Q (F0 m 2 ls []))) (x1 : Int32) (S : StS), bfX1_endFrontWork_38 K2 x1 S = some q → ∀ (H : Heap) (locs : List Loc) (ls : Array Slot), va_P D vwCl (wS cI aS S) H → va_D A (wS cI aS S) → va_S A s.heap H locs → lv_has ls 3 [(0, .ref (aS 0)), (1, .int x1)] → W p l e (rmL 5) s m args below meth c H locs 0 0 Q (F0 m 38 ls []) := by
    intro K2 ih2 x1 S h H locs ls hP hD hS hl
    refine x_iconst (v := (0 : Int32)) C dX1_endFrontWork_38 (by decide) ?_
    exact B39 K2 ih2 _ _ _ h _ _ _ hP hD hS hl
  have B2 : ∀ (n : Nat) (x : Int32 × (StS)), iter (bfX1_endFrontWork_2) n x = some q → (match x with | (x1, S) => ∀ (H : Heap) (locs : List Loc) (ls : Array Slot), va_P D vwCl (wS cI aS S) H → va_D A (wS cI aS S) → va_S A s.heap H locs → lv_has ls 3 [(0, .ref (aS 0)), (1, .int x1)] → W p l e (rmL 5) s m args below meth c H locs 0 0 Q (F0 m 2 ls [])) := by
    refine iter_ind (fun x : Int32 × (StS) => (match x with | (x1, S) => ∀ (H : Heap) (locs : List Loc) (ls : Array Slot), va_P D vwCl (wS cI aS S) H → va_D A (wS cI aS S) → va_S A s.heap H locs → lv_has ls 3 [(0, .ref (aS 0)), (1, .int x1)] → W p l e (rmL 5) s m args below meth c H locs 0 0 Q (F0 m 2 ls []))) ?_
    intro K2 ih2 x h
    obtain ⟨x1, S⟩ := x
    intro H locs ls hP hD hS hl
    refine x_iload_n C dX1_endFrontWork_2 rfl hl 1 rfl ?_
    refine x_iconst (v := (4 : Int32)) C dX1_endFrontWork_3 (by decide) ?_
    refine x_icmp_ge (tgt := 92) C h dX1_endFrontWork_4 (by decide) (fun h => ?_) (fun h => ?_)
    · exact RETh dX1_endFrontWork_92 h hP hD hS
    · refine x_aload_n C dX1_endFrontWork_7 rfl hl 0 rfl ?_
      refine x_get C inX2 hP 0 rfl rfl 7 (by decide) wf_X1_59 rfl dX1_endFrontWork_8 ?_
      refine x_iload_n C dX1_endFrontWork_11 rfl hl 1 rfl ?_
      refine x_iconst (v := (0 : Int32)) C dX1_endFrontWork_12 (by decide) ?_
      refine x_callV (As := [.int _, .int _]) (n := 2) C (kS_get l D cI cS aS _ 7 (by decide) _ _) (fun hh => nomatch hh) wm_X1_15 wi_X3_get we_X3_get wz_X3 wc_X3_get (by decide +kernel) rfl hP hD hS hA 15 1 rfl rfl rfl hl.1 dX1_endFrontWork_13 rfl (Nat.le_of_ble_eq_true rfl) ⟨Nat.le_of_ble_eq_true rfl, Nat.le_of_ble_eq_true rfl⟩ ⟨Nat.zero_le _, Nat.zero_le _⟩ (fun H locs hP hD hS => ?_)
      refine x_bipush (v := (-9 : Int32)) C dX1_endFrontWork_16 (by decide) ?_
      refine x_icmp_eq (tgt := 38) C h dX1_endFrontWork_18 (by decide) (fun h => ?_) (fun h => ?_)
      · exact B38 K2 ih2 _ _ h _ _ _ hP hD hS hl
      · refine x_aload_n C dX1_endFrontWork_21 rfl hl 0 rfl ?_
        refine x_get C inX2 hP 0 rfl rfl 7 (by decide) wf_X1_59 rfl dX1_endFrontWork_22 ?_
        refine x_iload_n C dX1_endFrontWork_25 rfl hl 1 rfl ?_
        refine x_iconst (v := (5 : Int32)) C dX1_endFrontWork_26 (by decide) ?_
        refine x_callV (As := [.int _, .int _]) (n := 2) C (kS_get l D cI cS aS _ 7 (by decide) _ _) (fun hh => nomatch hh) wm_X1_15 wi_X3_get we_X3_get wz_X3 wc_X3_get (by decide +kernel) rfl hP hD hS hA 15 1 rfl rfl rfl hl.1 dX1_endFrontWork_27 rfl (Nat.le_of_ble_eq_true rfl) ⟨Nat.le_of_ble_eq_true rfl, Nat.le_of_ble_eq_true rfl⟩ ⟨Nat.zero_le _, Nat.zero_le _⟩ (fun H locs hP hD hS => ?_)
        refine x_iconst (v := (2 : Int32)) C dX1_endFrontWork_30 (by decide) ?_
        refine x_icmp_ne (tgt := 38) C h dX1_endFrontWork_31 (by decide) (fun h => ?_) (fun h => ?_)
        · exact B38 K2 ih2 _ _ h _ _ _ hP hD hS hl
        · refine x_iconst (v := (1 : Int32)) C dX1_endFrontWork_34 (by decide) ?_
          refine x_goto (tgt := 39) C dX1_endFrontWork_35 (by decide) ?_
          exact B39 K2 ih2 _ _ _ h _ _ _ hP hD hS hl
  refine x_iconst (v := (0 : Int32)) C dX1_endFrontWork_0 (by decide) ?_
  refine x_istore_n (lv' := [(1, .int (0 : Int32)), (0, .ref (aS 0))]) C dX1_endFrontWork_1 rfl hl (by decide) rfl (fun ls hl => ?_)
  exact B2 FU _ h _ _ _ hP hD hS (lv_sub hl [1, 0] rfl)
theorem dX1_isHopeless_0 : decode cX1_isHopeless 0 = .ok (.iconst 0, 1) := by decide +kernel
theorem dX1_isHopeless_1 : decode cX1_isHopeless 1 = .ok (.aload_n 1, 1) := by decide +kernel
theorem dX1_isHopeless_2 : decode cX1_isHopeless 2 = .ok (.iload_n 2, 1) := by decide +kernel
theorem dX1_isHopeless_3 : decode cX1_isHopeless 3 = .ok (.iconst 1, 1) := by decide +kernel
theorem dX1_isHopeless_4 : decode cX1_isHopeless 4 = .ok (.invokevirtual 15, 3) := by decide +kernel
theorem dX1_isHopeless_7 : decode cX1_isHopeless 7 = .ok (.aload_n 0, 1) := by decide +kernel
theorem dX1_isHopeless_8 : decode cX1_isHopeless 8 = .ok (.getfield 93, 3) := by decide +kernel
theorem dX1_isHopeless_11 : decode cX1_isHopeless 11 = .ok (.isub, 1) := by decide +kernel
theorem dX1_isHopeless_12 : decode cX1_isHopeless 12 = .ok (.invokestatic 96, 3) := by decide +kernel
theorem dX1_isHopeless_15 : decode cX1_isHopeless 15 = .ok (.istore_n 3, 1) := by decide +kernel
theorem dX1_isHopeless_16 : decode cX1_isHopeless 16 = .ok (.aload_n 1, 1) := by decide +kernel
theorem dX1_isHopeless_17 : decode cX1_isHopeless 17 = .ok (.iload_n 2, 1) := by decide +kernel
theorem dX1_isHopeless_18 : decode cX1_isHopeless 18 = .ok (.iconst 2, 1) := by decide +kernel
theorem dX1_isHopeless_19 : decode cX1_isHopeless 19 = .ok (.invokevirtual 15, 3) := by decide +kernel
theorem dX1_isHopeless_22 : decode cX1_isHopeless 22 = .ok (.aload_n 1, 1) := by decide +kernel
theorem dX1_isHopeless_23 : decode cX1_isHopeless 23 = .ok (.iload_n 2, 1) := by decide +kernel
theorem dX1_isHopeless_24 : decode cX1_isHopeless 24 = .ok (.iconst 3, 1) := by decide +kernel
theorem dX1_isHopeless_25 : decode cX1_isHopeless 25 = .ok (.invokevirtual 15, 3) := by decide +kernel
theorem dX1_isHopeless_28 : decode cX1_isHopeless 28 = .ok (.iadd, 1) := by decide +kernel
theorem dX1_isHopeless_29 : decode cX1_isHopeless 29 = .ok (.istore 4, 2) := by decide +kernel
theorem dX1_isHopeless_31 : decode cX1_isHopeless 31 = .ok (.aload_n 0, 1) := by decide +kernel
theorem dX1_isHopeless_32 : decode cX1_isHopeless 32 = .ok (.getfield 101, 3) := by decide +kernel
theorem dX1_isHopeless_35 : decode cX1_isHopeless 35 = .ok (.iconst 1, 1) := by decide +kernel
theorem dX1_isHopeless_36 : decode cX1_isHopeless 36 = .ok (.iconst 0, 1) := by decide +kernel
theorem dX1_isHopeless_37 : decode cX1_isHopeless 37 = .ok (.invokevirtual 15, 3) := by decide +kernel
theorem dX1_isHopeless_40 : decode cX1_isHopeless 40 = .ok (.iconst 1, 1) := by decide +kernel
theorem dX1_isHopeless_41 : decode cX1_isHopeless 41 = .ok (.if_icmp .ne 13, 3) := by decide +kernel
theorem dX1_isHopeless_44 : decode cX1_isHopeless 44 = .ok (.iload_n 3, 1) := by decide +kernel
theorem dX1_isHopeless_45 : decode cX1_isHopeless 45 = .ok (.iload 4, 2) := by decide +kernel
theorem dX1_isHopeless_47 : decode cX1_isHopeless 47 = .ok (.if_icmp .ge 7, 3) := by decide +kernel
theorem dX1_isHopeless_50 : decode cX1_isHopeless 50 = .ok (.iconst 1, 1) := by decide +kernel
theorem dX1_isHopeless_51 : decode cX1_isHopeless 51 = .ok (.goto 4, 3) := by decide +kernel
theorem dX1_isHopeless_54 : decode cX1_isHopeless 54 = .ok (.iconst 0, 1) := by decide +kernel
theorem dX1_isHopeless_55 : decode cX1_isHopeless 55 = .ok (.ireturn, 1) := by decide +kernel
def bfX1_isHopeless_6_55 (p3 : Int32) (S : StS) (s0 : Int32) : Option (Int32) :=
  (if s0 = 0 ∨ s0 = 1 then some s0 else none)
def bfX1_isHopeless_6_54 (p3 : Int32) (S : StS) : Option (Int32) :=
  bfX1_isHopeless_6_55 p3 S  ((0 : Int32))
def fX1_isHopeless_6 (p3 : Int32) (S : StS) : Option (Int32) :=
  nm ((if (0 : Int32) < ((sget 6 S p3 (1 : Int32)) - (S.2 12)) then ((sget 6 S p3 (1 : Int32)) - (S.2 12)) else (0 : Int32))) fun v3 => nm (((sget 6 S p3 (2 : Int32)) + (sget 6 S p3 (3 : Int32)))) fun v4 => (if (sget 4 S (1 : Int32) (0 : Int32)) = (1 : Int32) then (if v4 ≤ v3 then bfX1_isHopeless_6_54 p3 S else bfX1_isHopeless_6_55 p3 S  ((1 : Int32))) else bfX1_isHopeless_6_54 p3 S)
set_option maxHeartbeats 4000000 in
set_option maxRecDepth 100000 in
theorem kX1_isHopeless_6 (l : Launch) (D : va_G) (cI cS : ClassId) (aS : Nat → Nat) (p3 : Int32) (S : StS) {q : Int32} (h : fX1_isHopeless_6 p3 S = some q) : Mc l D (tyL cI cS) false yX1_isHopeless cX1_isHopeless 5 (some .boolean) 2 [.ref (aS 0), .ref (aS 13), .int p3] (wS cI aS S) (some (.int q)) (wS cI aS S) := by
  refine Mc_of RX1 (by decide +kernel) rfl wc_X1_isHopeless (Nat.le_of_ble_eq_true rfl) ?_
  intro p e s m args below meth c A Q ls C hA hz hP hD hS hl RET
  have RETh : ∀ {pc : Nat} {ls : Array Slot} {H : Heap} {locs : List Loc} {x : Int32} , (x = 0 ∨ x = 1) → decode cX1_isHopeless pc = .ok (.ireturn, 1) → some x = some q → va_P D vwCl (wS cI aS S) H → va_D A (wS cI aS S) → va_S A s.heap H locs → W p l e (rmL 2) s m args below meth c H locs 0 0 Q (F0 m pc ls [.int x]) := by
    intro pc ls H locs x hx hd h hP hD hS; cases h; exact RET (x_zret C hx hd) hP hD hS
  have B55 : ∀ (s0 : Int32), bfX1_isHopeless_6_55 p3 S s0 = some q → ∀ (H : Heap) (locs : List Loc) (ls : Array Slot), va_P D vwCl (wS cI aS S) H → va_D A (wS cI aS S) → va_S A s.heap H locs → lv_has ls 5 [] → W p l e (rmL 2) s m args below meth c H locs 0 0 Q (F0 m 55 ls [.int s0]) := by
    intro s0 h H locs ls hP hD hS hl
    rcases x_ifn h with ⟨hc, h⟩
    exact RETh hc dX1_isHopeless_55 h hP hD hS
  have B54 : bfX1_isHopeless_6_54 p3 S = some q → ∀ (H : Heap) (locs : List Loc) (ls : Array Slot), va_P D vwCl (wS cI aS S) H → va_D A (wS cI aS S) → va_S A s.heap H locs → lv_has ls 5 [] → W p l e (rmL 2) s m args below meth c H locs 0 0 Q (F0 m 54 ls []) := by
    intro  h H locs ls hP hD hS hl
    refine x_iconst (v := (0 : Int32)) C dX1_isHopeless_54 (by decide) ?_
    exact B55 _ h _ _ _ hP hD hS hl
  refine x_iconst (v := (0 : Int32)) C dX1_isHopeless_0 (by decide) ?_
  refine x_aload_n C dX1_isHopeless_1 rfl hl 1 rfl ?_
  refine x_iload_n C dX1_isHopeless_2 rfl hl 2 rfl ?_
  refine x_iconst (v := (1 : Int32)) C dX1_isHopeless_3 (by decide) ?_
  refine x_callV (As := [.int _, .int _]) (n := 2) C (kS_get l D cI cS aS _ 6 (by decide) _ _) (fun hh => nomatch hh) wm_X1_15 wi_X3_get we_X3_get wz_X3 wc_X3_get (by decide +kernel) rfl hP hD hS hA 13 1 rfl rfl rfl hl.1 dX1_isHopeless_4 rfl (Nat.le_of_ble_eq_true rfl) ⟨Nat.le_of_ble_eq_true rfl, Nat.le_of_ble_eq_true rfl⟩ ⟨Nat.zero_le _, Nat.zero_le _⟩ (fun H locs hP hD hS => ?_)
  refine x_aload_n C dX1_isHopeless_7 rfl hl 0 rfl ?_
  refine x_get C inX2 hP 0 rfl rfl 12 (by decide) wf_X1_93 rfl dX1_isHopeless_8 ?_
  refine x_isub C dX1_isHopeless_11 ?_
  refine x_max C hl.1 wm_X1_96 wt_J9_max_7cf53 wz_J9 wc_J9_max_7cf53 (by decide) (Nat.le_of_ble_eq_true rfl) ⟨Nat.zero_le _, Nat.zero_le _⟩ dX1_isHopeless_12 ?_
  refine x_nmi h (fun v3 h => ?_)
  refine x_istore_n (lv' := [(3, .int v3), (0, .ref (aS 0)), (1, .ref (aS 13)), (2, .int p3)]) C dX1_isHopeless_15 rfl hl (by decide) rfl (fun ls hl => ?_)
  refine x_aload_n C dX1_isHopeless_16 rfl hl 2 rfl ?_
  refine x_iload_n C dX1_isHopeless_17 rfl hl 3 rfl ?_
  refine x_iconst (v := (2 : Int32)) C dX1_isHopeless_18 (by decide) ?_
  refine x_callV (As := [.int _, .int _]) (n := 2) C (kS_get l D cI cS aS _ 6 (by decide) _ _) (fun hh => nomatch hh) wm_X1_15 wi_X3_get we_X3_get wz_X3 wc_X3_get (by decide +kernel) rfl hP hD hS hA 13 1 rfl rfl rfl hl.1 dX1_isHopeless_19 rfl (Nat.le_of_ble_eq_true rfl) ⟨Nat.le_of_ble_eq_true rfl, Nat.le_of_ble_eq_true rfl⟩ ⟨Nat.zero_le _, Nat.zero_le _⟩ (fun H locs hP hD hS => ?_)
  refine x_aload_n C dX1_isHopeless_22 rfl hl 2 rfl ?_
  refine x_iload_n C dX1_isHopeless_23 rfl hl 3 rfl ?_
  refine x_iconst (v := (3 : Int32)) C dX1_isHopeless_24 (by decide) ?_
  refine x_callV (As := [.int _, .int _]) (n := 2) C (kS_get l D cI cS aS _ 6 (by decide) _ _) (fun hh => nomatch hh) wm_X1_15 wi_X3_get we_X3_get wz_X3 wc_X3_get (by decide +kernel) rfl hP hD hS hA 13 1 rfl rfl rfl hl.1 dX1_isHopeless_25 rfl (Nat.le_of_ble_eq_true rfl) ⟨Nat.le_of_ble_eq_true rfl, Nat.le_of_ble_eq_true rfl⟩ ⟨Nat.zero_le _, Nat.zero_le _⟩ (fun H locs hP hD hS => ?_)
  refine x_iadd C dX1_isHopeless_28 ?_
  refine x_nmi h (fun v4 h => ?_)
  refine x_istore (lv' := [(4, .int v4), (3, .int v3), (0, .ref (aS 0)), (1, .ref (aS 13)), (2, .int p3)]) C dX1_isHopeless_29 hl (by decide) rfl (fun ls hl => ?_)
  refine x_aload_n C dX1_isHopeless_31 rfl hl 2 rfl ?_
  refine x_get C inX2 hP 0 rfl rfl 4 (by decide) wf_X1_101 rfl dX1_isHopeless_32 ?_
  refine x_iconst (v := (1 : Int32)) C dX1_isHopeless_35 (by decide) ?_
  refine x_iconst (v := (0 : Int32)) C dX1_isHopeless_36 (by decide) ?_
  refine x_callV (As := [.int _, .int _]) (n := 2) C (kS_get l D cI cS aS _ 4 (by decide) _ _) (fun hh => nomatch hh) wm_X1_15 wi_X3_get we_X3_get wz_X3 wc_X3_get (by decide +kernel) rfl hP hD hS hA 9 1 rfl rfl rfl hl.1 dX1_isHopeless_37 rfl (Nat.le_of_ble_eq_true rfl) ⟨Nat.le_of_ble_eq_true rfl, Nat.le_of_ble_eq_true rfl⟩ ⟨Nat.zero_le _, Nat.zero_le _⟩ (fun H locs hP hD hS => ?_)
  refine x_iconst (v := (1 : Int32)) C dX1_isHopeless_40 (by decide) ?_
  refine x_icmp_ne (tgt := 54) C h dX1_isHopeless_41 (by decide) (fun h => ?_) (fun h => ?_)
  · exact B54  h _ _ _ hP hD hS (lv_sub hl [] rfl)
  · refine x_iload_n C dX1_isHopeless_44 rfl hl 1 rfl ?_
    refine x_iload C dX1_isHopeless_45 hl 0 rfl ?_
    refine x_icmp_ge (tgt := 54) C h dX1_isHopeless_47 (by decide) (fun h => ?_) (fun h => ?_)
    · exact B54  h _ _ _ hP hD hS (lv_sub hl [] rfl)
    · refine x_iconst (v := (1 : Int32)) C dX1_isHopeless_50 (by decide) ?_
      refine x_goto (tgt := 55) C dX1_isHopeless_51 (by decide) ?_
      exact B55 _ h _ _ _ hP hD hS (lv_sub hl [] rfl)
def bfX1_isHopeless_7_55 (p3 : Int32) (S : StS) (s0 : Int32) : Option (Int32) :=
  (if s0 = 0 ∨ s0 = 1 then some s0 else none)
def bfX1_isHopeless_7_54 (p3 : Int32) (S : StS) : Option (Int32) :=
  bfX1_isHopeless_7_55 p3 S  ((0 : Int32))
def fX1_isHopeless_7 (p3 : Int32) (S : StS) : Option (Int32) :=
  nm ((if (0 : Int32) < ((sget 7 S p3 (1 : Int32)) - (S.2 12)) then ((sget 7 S p3 (1 : Int32)) - (S.2 12)) else (0 : Int32))) fun v3 => nm (((sget 7 S p3 (2 : Int32)) + (sget 7 S p3 (3 : Int32)))) fun v4 => (if (sget 4 S (1 : Int32) (0 : Int32)) = (1 : Int32) then (if v4 ≤ v3 then bfX1_isHopeless_7_54 p3 S else bfX1_isHopeless_7_55 p3 S  ((1 : Int32))) else bfX1_isHopeless_7_54 p3 S)
set_option maxHeartbeats 4000000 in
set_option maxRecDepth 100000 in
theorem kX1_isHopeless_7 (l : Launch) (D : va_G) (cI cS : ClassId) (aS : Nat → Nat) (p3 : Int32) (S : StS) {q : Int32} (h : fX1_isHopeless_7 p3 S = some q) : Mc l D (tyL cI cS) false yX1_isHopeless cX1_isHopeless 5 (some .boolean) 2 [.ref (aS 0), .ref (aS 15), .int p3] (wS cI aS S) (some (.int q)) (wS cI aS S) := by
  refine Mc_of RX1 (by decide +kernel) rfl wc_X1_isHopeless (Nat.le_of_ble_eq_true rfl) ?_
  intro p e s m args below meth c A Q ls C hA hz hP hD hS hl RET
  have RETh : ∀ {pc : Nat} {ls : Array Slot} {H : Heap} {locs : List Loc} {x : Int32} , (x = 0 ∨ x = 1) → decode cX1_isHopeless pc = .ok (.ireturn, 1) → some x = some q → va_P D vwCl (wS cI aS S) H → va_D A (wS cI aS S) → va_S A s.heap H locs → W p l e (rmL 2) s m args below meth c H locs 0 0 Q (F0 m pc ls [.int x]) := by
    intro pc ls H locs x hx hd h hP hD hS; cases h; exact RET (x_zret C hx hd) hP hD hS
  have B55 : ∀ (s0 : Int32), bfX1_isHopeless_7_55 p3 S s0 = some q → ∀ (H : Heap) (locs : List Loc) (ls : Array Slot), va_P D vwCl (wS cI aS S) H → va_D A (wS cI aS S) → va_S A s.heap H locs → lv_has ls 5 [] → W p l e (rmL 2) s m args below meth c H locs 0 0 Q (F0 m 55 ls [.int s0]) := by
    intro s0 h H locs ls hP hD hS hl
    rcases x_ifn h with ⟨hc, h⟩
    exact RETh hc dX1_isHopeless_55 h hP hD hS
  have B54 : bfX1_isHopeless_7_54 p3 S = some q → ∀ (H : Heap) (locs : List Loc) (ls : Array Slot), va_P D vwCl (wS cI aS S) H → va_D A (wS cI aS S) → va_S A s.heap H locs → lv_has ls 5 [] → W p l e (rmL 2) s m args below meth c H locs 0 0 Q (F0 m 54 ls []) := by
    intro  h H locs ls hP hD hS hl
    refine x_iconst (v := (0 : Int32)) C dX1_isHopeless_54 (by decide) ?_
    exact B55 _ h _ _ _ hP hD hS hl
  refine x_iconst (v := (0 : Int32)) C dX1_isHopeless_0 (by decide) ?_
  refine x_aload_n C dX1_isHopeless_1 rfl hl 1 rfl ?_
  refine x_iload_n C dX1_isHopeless_2 rfl hl 2 rfl ?_
  refine x_iconst (v := (1 : Int32)) C dX1_isHopeless_3 (by decide) ?_
  refine x_callV (As := [.int _, .int _]) (n := 2) C (kS_get l D cI cS aS _ 7 (by decide) _ _) (fun hh => nomatch hh) wm_X1_15 wi_X3_get we_X3_get wz_X3 wc_X3_get (by decide +kernel) rfl hP hD hS hA 15 1 rfl rfl rfl hl.1 dX1_isHopeless_4 rfl (Nat.le_of_ble_eq_true rfl) ⟨Nat.le_of_ble_eq_true rfl, Nat.le_of_ble_eq_true rfl⟩ ⟨Nat.zero_le _, Nat.zero_le _⟩ (fun H locs hP hD hS => ?_)
  refine x_aload_n C dX1_isHopeless_7 rfl hl 0 rfl ?_
  refine x_get C inX2 hP 0 rfl rfl 12 (by decide) wf_X1_93 rfl dX1_isHopeless_8 ?_
  refine x_isub C dX1_isHopeless_11 ?_
  refine x_max C hl.1 wm_X1_96 wt_J9_max_7cf53 wz_J9 wc_J9_max_7cf53 (by decide) (Nat.le_of_ble_eq_true rfl) ⟨Nat.zero_le _, Nat.zero_le _⟩ dX1_isHopeless_12 ?_
  refine x_nmi h (fun v3 h => ?_)
  refine x_istore_n (lv' := [(3, .int v3), (0, .ref (aS 0)), (1, .ref (aS 15)), (2, .int p3)]) C dX1_isHopeless_15 rfl hl (by decide) rfl (fun ls hl => ?_)
  refine x_aload_n C dX1_isHopeless_16 rfl hl 2 rfl ?_
  refine x_iload_n C dX1_isHopeless_17 rfl hl 3 rfl ?_
  refine x_iconst (v := (2 : Int32)) C dX1_isHopeless_18 (by decide) ?_
  refine x_callV (As := [.int _, .int _]) (n := 2) C (kS_get l D cI cS aS _ 7 (by decide) _ _) (fun hh => nomatch hh) wm_X1_15 wi_X3_get we_X3_get wz_X3 wc_X3_get (by decide +kernel) rfl hP hD hS hA 15 1 rfl rfl rfl hl.1 dX1_isHopeless_19 rfl (Nat.le_of_ble_eq_true rfl) ⟨Nat.le_of_ble_eq_true rfl, Nat.le_of_ble_eq_true rfl⟩ ⟨Nat.zero_le _, Nat.zero_le _⟩ (fun H locs hP hD hS => ?_)
  refine x_aload_n C dX1_isHopeless_22 rfl hl 2 rfl ?_
  refine x_iload_n C dX1_isHopeless_23 rfl hl 3 rfl ?_
  refine x_iconst (v := (3 : Int32)) C dX1_isHopeless_24 (by decide) ?_
  refine x_callV (As := [.int _, .int _]) (n := 2) C (kS_get l D cI cS aS _ 7 (by decide) _ _) (fun hh => nomatch hh) wm_X1_15 wi_X3_get we_X3_get wz_X3 wc_X3_get (by decide +kernel) rfl hP hD hS hA 15 1 rfl rfl rfl hl.1 dX1_isHopeless_25 rfl (Nat.le_of_ble_eq_true rfl) ⟨Nat.le_of_ble_eq_true rfl, Nat.le_of_ble_eq_true rfl⟩ ⟨Nat.zero_le _, Nat.zero_le _⟩ (fun H locs hP hD hS => ?_)
  refine x_iadd C dX1_isHopeless_28 ?_
  refine x_nmi h (fun v4 h => ?_)
  refine x_istore (lv' := [(4, .int v4), (3, .int v3), (0, .ref (aS 0)), (1, .ref (aS 15)), (2, .int p3)]) C dX1_isHopeless_29 hl (by decide) rfl (fun ls hl => ?_)
  refine x_aload_n C dX1_isHopeless_31 rfl hl 2 rfl ?_
  refine x_get C inX2 hP 0 rfl rfl 4 (by decide) wf_X1_101 rfl dX1_isHopeless_32 ?_
  refine x_iconst (v := (1 : Int32)) C dX1_isHopeless_35 (by decide) ?_
  refine x_iconst (v := (0 : Int32)) C dX1_isHopeless_36 (by decide) ?_
  refine x_callV (As := [.int _, .int _]) (n := 2) C (kS_get l D cI cS aS _ 4 (by decide) _ _) (fun hh => nomatch hh) wm_X1_15 wi_X3_get we_X3_get wz_X3 wc_X3_get (by decide +kernel) rfl hP hD hS hA 9 1 rfl rfl rfl hl.1 dX1_isHopeless_37 rfl (Nat.le_of_ble_eq_true rfl) ⟨Nat.le_of_ble_eq_true rfl, Nat.le_of_ble_eq_true rfl⟩ ⟨Nat.zero_le _, Nat.zero_le _⟩ (fun H locs hP hD hS => ?_)
  refine x_iconst (v := (1 : Int32)) C dX1_isHopeless_40 (by decide) ?_
  refine x_icmp_ne (tgt := 54) C h dX1_isHopeless_41 (by decide) (fun h => ?_) (fun h => ?_)
  · exact B54  h _ _ _ hP hD hS (lv_sub hl [] rfl)
  · refine x_iload_n C dX1_isHopeless_44 rfl hl 1 rfl ?_
    refine x_iload C dX1_isHopeless_45 hl 0 rfl ?_
    refine x_icmp_ge (tgt := 54) C h dX1_isHopeless_47 (by decide) (fun h => ?_) (fun h => ?_)
    · exact B54  h _ _ _ hP hD hS (lv_sub hl [] rfl)
    · refine x_iconst (v := (1 : Int32)) C dX1_isHopeless_50 (by decide) ?_
      refine x_goto (tgt := 55) C dX1_isHopeless_51 (by decide) ?_
      exact B55 _ h _ _ _ hP hD hS (lv_sub hl [] rfl)
theorem dX1_takeAtBack_0 : decode cX1_takeAtBack 0 = .ok (.aload_n 0, 1) := by decide +kernel
theorem dX1_takeAtBack_1 : decode cX1_takeAtBack 1 = .ok (.getfield 38, 3) := by decide +kernel
theorem dX1_takeAtBack_4 : decode cX1_takeAtBack 4 = .ok (.iconst 0, 1) := by decide +kernel
theorem dX1_takeAtBack_5 : decode cX1_takeAtBack 5 = .ok (.iconst 0, 1) := by decide +kernel
theorem dX1_takeAtBack_6 : decode cX1_takeAtBack 6 = .ok (.invokevirtual 15, 3) := by decide +kernel
theorem dX1_takeAtBack_9 : decode cX1_takeAtBack 9 = .ok (.istore_n 2, 1) := by decide +kernel
theorem dX1_takeAtBack_10 : decode cX1_takeAtBack 10 = .ok (.aload_n 0, 1) := by decide +kernel
theorem dX1_takeAtBack_11 : decode cX1_takeAtBack 11 = .ok (.getfield 38, 3) := by decide +kernel
theorem dX1_takeAtBack_14 : decode cX1_takeAtBack 14 = .ok (.iconst 0, 1) := by decide +kernel
theorem dX1_takeAtBack_15 : decode cX1_takeAtBack 15 = .ok (.invokevirtual 70, 3) := by decide +kernel
theorem dX1_takeAtBack_18 : decode cX1_takeAtBack 18 = .ok (.aload_n 0, 1) := by decide +kernel
theorem dX1_takeAtBack_19 : decode cX1_takeAtBack 19 = .ok (.aload_n 0, 1) := by decide +kernel
theorem dX1_takeAtBack_20 : decode cX1_takeAtBack 20 = .ok (.getfield 59, 3) := by decide +kernel
theorem dX1_takeAtBack_23 : decode cX1_takeAtBack 23 = .ok (.iload_n 2, 1) := by decide +kernel
theorem dX1_takeAtBack_24 : decode cX1_takeAtBack 24 = .ok (.invokestatic 74, 3) := by decide +kernel
theorem dX1_takeAtBack_27 : decode cX1_takeAtBack 27 = .ok (.ifCond .eq 9, 3) := by decide +kernel
theorem dX1_takeAtBack_30 : decode cX1_takeAtBack 30 = .ok (.aload_n 0, 1) := by decide +kernel
theorem dX1_takeAtBack_31 : decode cX1_takeAtBack 31 = .ok (.iload_n 2, 1) := by decide +kernel
theorem dX1_takeAtBack_32 : decode cX1_takeAtBack 32 = .ok (.invokestatic 78, 3) := by decide +kernel
theorem dX1_takeAtBack_35 : decode cX1_takeAtBack 35 = .ok (.ireturn, 1) := by decide +kernel
theorem dX1_takeAtBack_36 : decode cX1_takeAtBack 36 = .ok (.aload_n 0, 1) := by decide +kernel
theorem dX1_takeAtBack_37 : decode cX1_takeAtBack 37 = .ok (.getfield 44, 3) := by decide +kernel
theorem dX1_takeAtBack_40 : decode cX1_takeAtBack 40 = .ok (.iload_n 1, 1) := by decide +kernel
theorem dX1_takeAtBack_41 : decode cX1_takeAtBack 41 = .ok (.iconst 0, 1) := by decide +kernel
theorem dX1_takeAtBack_42 : decode cX1_takeAtBack 42 = .ok (.iload_n 2, 1) := by decide +kernel
theorem dX1_takeAtBack_43 : decode cX1_takeAtBack 43 = .ok (.invokevirtual 28, 3) := by decide +kernel
theorem dX1_takeAtBack_46 : decode cX1_takeAtBack 46 = .ok (.aload_n 0, 1) := by decide +kernel
theorem dX1_takeAtBack_47 : decode cX1_takeAtBack 47 = .ok (.getfield 59, 3) := by decide +kernel
theorem dX1_takeAtBack_50 : decode cX1_takeAtBack 50 = .ok (.iload_n 2, 1) := by decide +kernel
theorem dX1_takeAtBack_51 : decode cX1_takeAtBack 51 = .ok (.iconst 5, 1) := by decide +kernel
theorem dX1_takeAtBack_52 : decode cX1_takeAtBack 52 = .ok (.iconst 4, 1) := by decide +kernel
theorem dX1_takeAtBack_53 : decode cX1_takeAtBack 53 = .ok (.invokevirtual 28, 3) := by decide +kernel
theorem dX1_takeAtBack_56 : decode cX1_takeAtBack 56 = .ok (.bipush (-9), 2) := by decide +kernel
theorem dX1_takeAtBack_58 : decode cX1_takeAtBack 58 = .ok (.ireturn, 1) := by decide +kernel
def fX1_takeAtBack (p2 : Int32) (S : StS) : Option (Int32 × (StS)) :=
  nm ((sget 8 S (0 : Int32) (0 : Int32))) fun v7 => nm (sdrop 8 S (0 : Int32)) fun S8 => ob (fX1_isHopeless_7 v7 S8) fun u9 => (if u9 = 0 then nm (sput 9 S8 p2 (0 : Int32) v7) fun S10 => nm (sput 7 S10 v7 (5 : Int32) (4 : Int32)) fun S11 => some ((-9 : Int32), S11) else ob (fX1_waste v7 S8) fun u12 => some (u12.1, u12.2))
set_option maxHeartbeats 4000000 in
set_option maxRecDepth 100000 in
theorem kX1_takeAtBack (l : Launch) (D : va_G) (cI cS : ClassId) (aS : Nat → Nat) (p2 : Int32) (S : StS) {q : Int32 × (StS)} (h : fX1_takeAtBack p2 S = some q) : Mc l D (tyL cI cS) false yX1_takeAtBack cX1_takeAtBack 3 (some .int) 3 [.ref (aS 0), .int p2] (wS cI aS S) (some (.int q.1)) (wS cI aS q.2) := by
  refine Mc_of RX1 (by decide +kernel) rfl wc_X1_takeAtBack (Nat.le_of_ble_eq_true rfl) ?_
  intro p e s m args below meth c A Q ls C hA hz hP hD hS hl RET
  have RETh : ∀ {pc : Nat} {ls : Array Slot} {H : Heap} {locs : List Loc} {x : Int32} {S1 : StS}, decode cX1_takeAtBack pc = .ok (.ireturn, 1) → some (x, S1) = some q → va_P D vwCl (wS cI aS S1) H → va_D A (wS cI aS S1) → va_S A s.heap H locs → W p l e (rmL 3) s m args below meth c H locs 0 0 Q (F0 m pc ls [.int x]) := by
    intro pc ls H locs x S1 hd h hP hD hS; cases h; exact RET (x_iret C hd) hP hD hS
  refine x_aload_n C dX1_takeAtBack_0 rfl hl 0 rfl ?_
  refine x_get C inX2 hP 0 rfl rfl 8 (by decide) wf_X1_38 rfl dX1_takeAtBack_1 ?_
  refine x_iconst (v := (0 : Int32)) C dX1_takeAtBack_4 (by decide) ?_
  refine x_iconst (v := (0 : Int32)) C dX1_takeAtBack_5 (by decide) ?_
  refine x_callV (As := [.int _, .int _]) (n := 2) C (kS_get l D cI cS aS _ 8 (by decide) _ _) (fun hh => nomatch hh) wm_X1_15 wi_X3_get we_X3_get wz_X3 wc_X3_get (by decide +kernel) rfl hP hD hS hA 17 1 rfl rfl rfl hl.1 dX1_takeAtBack_6 rfl (Nat.le_of_ble_eq_true rfl) ⟨Nat.le_of_ble_eq_true rfl, Nat.le_of_ble_eq_true rfl⟩ ⟨Nat.zero_le _, Nat.zero_le _⟩ (fun H locs hP hD hS => ?_)
  refine x_nmi h (fun v7 h => ?_)
  refine x_istore_n (lv' := [(2, .int v7), (0, .ref (aS 0)), (1, .int p2)]) C dX1_takeAtBack_9 rfl hl (by decide) rfl (fun ls hl => ?_)
  refine x_aload_n C dX1_takeAtBack_10 rfl hl 1 rfl ?_
  refine x_get C inX2 hP 0 rfl rfl 8 (by decide) wf_X1_38 rfl dX1_takeAtBack_11 ?_
  refine x_iconst (v := (0 : Int32)) C dX1_takeAtBack_14 (by decide) ?_
  refine x_callV (As := [.int _]) (n := 1) C (kS_drop l D cI cS aS _ 8 (by decide) _) (fun hh => nomatch hh) wm_X1_70 wi_X3_drop we_X3_drop wz_X3 wc_X3_drop (by decide +kernel) rfl hP hD hS hA 17 1 rfl rfl rfl hl.1 dX1_takeAtBack_15 rfl (Nat.le_of_ble_eq_true rfl) ⟨Nat.le_of_ble_eq_true rfl, Nat.le_of_ble_eq_true rfl⟩ ⟨Nat.zero_le _, Nat.zero_le _⟩ (fun H locs hP hD hS => ?_)
  refine x_nmS (wS cI aS) h hP hD (fun S8 h hP hD => ?_)
  refine x_aload_n C dX1_takeAtBack_18 rfl hl 1 rfl ?_
  refine x_aload_n C dX1_takeAtBack_19 rfl hl 1 rfl ?_
  refine x_get C inX2 hP 0 rfl rfl 7 (by decide) wf_X1_59 rfl dX1_takeAtBack_20 ?_
  refine x_iload_n C dX1_takeAtBack_23 rfl hl 0 rfl ?_
  obtain ⟨u9, hu9, h⟩ := ob_some h
  refine x_callS (As := [.ref _, .ref _, .int _]) (n := 3) C (kX1_isHopeless_7 l D cI cS aS _ _ hu9) (fun hh => nomatch hh) wm_X1_74 wt_X1_isHopeless wz_X1 wc_X1_isHopeless (by decide +kernel) rfl hP hD hS hA hl.1 dX1_takeAtBack_24 rfl (Nat.le_of_ble_eq_true rfl) ⟨Nat.le_of_ble_eq_true rfl, Nat.le_of_ble_eq_true rfl⟩ ⟨Nat.zero_le _, Nat.zero_le _⟩ (fun H locs hP hD hS => ?_)
  refine x_if_eq (tgt := 36) C h dX1_takeAtBack_27 (by decide) (fun h => ?_) (fun h => ?_)
  · refine x_aload_n C dX1_takeAtBack_36 rfl hl 1 rfl ?_
    refine x_get C inX2 hP 0 rfl rfl 9 (by decide) wf_X1_44 rfl dX1_takeAtBack_37 ?_
    refine x_iload_n C dX1_takeAtBack_40 rfl hl 2 rfl ?_
    refine x_iconst (v := (0 : Int32)) C dX1_takeAtBack_41 (by decide) ?_
    refine x_iload_n C dX1_takeAtBack_42 rfl hl 0 rfl ?_
    refine x_callV (As := [.int _, .int _, .int _]) (n := 3) C (kS_put l D cI cS aS _ 9 (by decide) _ _ _) (fun hh => nomatch hh) wm_X1_28 wi_X3_put we_X3_put wz_X3 wc_X3_put (by decide +kernel) rfl hP hD hS hA 19 1 rfl rfl rfl hl.1 dX1_takeAtBack_43 rfl (Nat.le_of_ble_eq_true rfl) ⟨Nat.le_of_ble_eq_true rfl, Nat.le_of_ble_eq_true rfl⟩ ⟨Nat.zero_le _, Nat.zero_le _⟩ (fun H locs hP hD hS => ?_)
    refine x_nmS (wS cI aS) h hP hD (fun S10 h hP hD => ?_)
    refine x_aload_n C dX1_takeAtBack_46 rfl hl 1 rfl ?_
    refine x_get C inX2 hP 0 rfl rfl 7 (by decide) wf_X1_59 rfl dX1_takeAtBack_47 ?_
    refine x_iload_n C dX1_takeAtBack_50 rfl hl 0 rfl ?_
    refine x_iconst (v := (5 : Int32)) C dX1_takeAtBack_51 (by decide) ?_
    refine x_iconst (v := (4 : Int32)) C dX1_takeAtBack_52 (by decide) ?_
    refine x_callV (As := [.int _, .int _, .int _]) (n := 3) C (kS_put l D cI cS aS _ 7 (by decide) _ _ _) (fun hh => nomatch hh) wm_X1_28 wi_X3_put we_X3_put wz_X3 wc_X3_put (by decide +kernel) rfl hP hD hS hA 15 1 rfl rfl rfl hl.1 dX1_takeAtBack_53 rfl (Nat.le_of_ble_eq_true rfl) ⟨Nat.le_of_ble_eq_true rfl, Nat.le_of_ble_eq_true rfl⟩ ⟨Nat.zero_le _, Nat.zero_le _⟩ (fun H locs hP hD hS => ?_)
    refine x_nmS (wS cI aS) h hP hD (fun S11 h hP hD => ?_)
    refine x_bipush (v := (-9 : Int32)) C dX1_takeAtBack_56 (by decide) ?_
    exact RETh dX1_takeAtBack_58 h hP hD hS
  · refine x_aload_n C dX1_takeAtBack_30 rfl hl 1 rfl ?_
    refine x_iload_n C dX1_takeAtBack_31 rfl hl 0 rfl ?_
    obtain ⟨u12, hu12, h⟩ := ob_some h
    refine x_callS (As := [.ref _, .int _]) (n := 2) C (kX1_waste l D cI cS aS _ _ hu12) (fun hh => nomatch hh) wm_X1_78 wt_X1_waste wz_X1 wc_X1_waste (by decide +kernel) rfl hP hD hS hA hl.1 dX1_takeAtBack_32 rfl (Nat.le_of_ble_eq_true rfl) ⟨Nat.le_of_ble_eq_true rfl, Nat.le_of_ble_eq_true rfl⟩ ⟨Nat.zero_le _, Nat.zero_le _⟩ (fun H locs hP hD hS => ?_)
    exact RETh dX1_takeAtBack_35 h hP hD hS
theorem dX1_fillBackWorkers_0 : decode cX1_fillBackWorkers 0 = .ok (.aload_n 0, 1) := by decide +kernel
theorem dX1_fillBackWorkers_1 : decode cX1_fillBackWorkers 1 = .ok (.getfield 35, 3) := by decide +kernel
theorem dX1_fillBackWorkers_4 : decode cX1_fillBackWorkers 4 = .ok (.iconst 2, 1) := by decide +kernel
theorem dX1_fillBackWorkers_5 : decode cX1_fillBackWorkers 5 = .ok (.iconst 0, 1) := by decide +kernel
theorem dX1_fillBackWorkers_6 : decode cX1_fillBackWorkers 6 = .ok (.invokevirtual 15, 3) := by decide +kernel
theorem dX1_fillBackWorkers_9 : decode cX1_fillBackWorkers 9 = .ok (.istore_n 1, 1) := by decide +kernel
theorem dX1_fillBackWorkers_10 : decode cX1_fillBackWorkers 10 = .ok (.iconst 0, 1) := by decide +kernel
theorem dX1_fillBackWorkers_11 : decode cX1_fillBackWorkers 11 = .ok (.istore_n 2, 1) := by decide +kernel
theorem dX1_fillBackWorkers_12 : decode cX1_fillBackWorkers 12 = .ok (.iload_n 2, 1) := by decide +kernel
theorem dX1_fillBackWorkers_13 : decode cX1_fillBackWorkers 13 = .ok (.iload_n 1, 1) := by decide +kernel
theorem dX1_fillBackWorkers_14 : decode cX1_fillBackWorkers 14 = .ok (.if_icmp .ge 52, 3) := by decide +kernel
theorem dX1_fillBackWorkers_17 : decode cX1_fillBackWorkers 17 = .ok (.aload_n 0, 1) := by decide +kernel
theorem dX1_fillBackWorkers_18 : decode cX1_fillBackWorkers 18 = .ok (.getfield 38, 3) := by decide +kernel
theorem dX1_fillBackWorkers_21 : decode cX1_fillBackWorkers 21 = .ok (.invokevirtual 41, 3) := by decide +kernel
theorem dX1_fillBackWorkers_24 : decode cX1_fillBackWorkers 24 = .ok (.istore_n 3, 1) := by decide +kernel
theorem dX1_fillBackWorkers_25 : decode cX1_fillBackWorkers 25 = .ok (.iload_n 3, 1) := by decide +kernel
theorem dX1_fillBackWorkers_26 : decode cX1_fillBackWorkers 26 = .ok (.ifCond .le 34, 3) := by decide +kernel
theorem dX1_fillBackWorkers_29 : decode cX1_fillBackWorkers 29 = .ok (.aload_n 0, 1) := by decide +kernel
theorem dX1_fillBackWorkers_30 : decode cX1_fillBackWorkers 30 = .ok (.getfield 44, 3) := by decide +kernel
theorem dX1_fillBackWorkers_33 : decode cX1_fillBackWorkers 33 = .ok (.iload_n 2, 1) := by decide +kernel
theorem dX1_fillBackWorkers_34 : decode cX1_fillBackWorkers 34 = .ok (.iconst 0, 1) := by decide +kernel
theorem dX1_fillBackWorkers_35 : decode cX1_fillBackWorkers 35 = .ok (.invokevirtual 15, 3) := by decide +kernel
theorem dX1_fillBackWorkers_38 : decode cX1_fillBackWorkers 38 = .ok (.bipush (-9), 2) := by decide +kernel
theorem dX1_fillBackWorkers_40 : decode cX1_fillBackWorkers 40 = .ok (.if_icmp .ne 20, 3) := by decide +kernel
theorem dX1_fillBackWorkers_43 : decode cX1_fillBackWorkers 43 = .ok (.aload_n 0, 1) := by decide +kernel
theorem dX1_fillBackWorkers_44 : decode cX1_fillBackWorkers 44 = .ok (.aload_n 0, 1) := by decide +kernel
theorem dX1_fillBackWorkers_45 : decode cX1_fillBackWorkers 45 = .ok (.iload_n 2, 1) := by decide +kernel
theorem dX1_fillBackWorkers_46 : decode cX1_fillBackWorkers 46 = .ok (.invokestatic 47, 3) := by decide +kernel
theorem dX1_fillBackWorkers_49 : decode cX1_fillBackWorkers 49 = .ok (.bipush 6, 2) := by decide +kernel
theorem dX1_fillBackWorkers_51 : decode cX1_fillBackWorkers 51 = .ok (.invokestatic 53, 3) := by decide +kernel
theorem dX1_fillBackWorkers_54 : decode cX1_fillBackWorkers 54 = .ok (.iinc 3 (-1), 3) := by decide +kernel
theorem dX1_fillBackWorkers_57 : decode cX1_fillBackWorkers 57 = .ok (.goto (-32), 3) := by decide +kernel
theorem dX1_fillBackWorkers_60 : decode cX1_fillBackWorkers 60 = .ok (.iinc 2 1, 3) := by decide +kernel
theorem dX1_fillBackWorkers_63 : decode cX1_fillBackWorkers 63 = .ok (.goto (-51), 3) := by decide +kernel
theorem dX1_fillBackWorkers_66 : decode cX1_fillBackWorkers 66 = .ok (.return_, 1) := by decide +kernel
def bfX1_fillBackWorkers_60  (K12 : Int32 × Int32 × (StS) → Option (StS)) (x1 : Int32) (x2 : Int32) (S : StS) : Option (StS) :=
  K12 (x1, (x2 + (1 : Int32)), S)
def bfX1_fillBackWorkers_25  (K12 : Int32 × Int32 × (StS) → Option (StS)) (K25 : Int32 × Int32 × Int32 × (StS) → Option (StS)) (x : Int32 × Int32 × Int32 × (StS)) : Option (StS) :=
  match x with
  | (x1, x2, x3, S) => (if x3 ≤ 0 then bfX1_fillBackWorkers_60  K12 x1 x2 S else (if (sget 9 S x2 (0 : Int32)) = (-9 : Int32) then ob (fX1_takeAtBack x2 S) fun u5 => ob (fX0_fail u5.1 (6 : Int32) u5.2) fun u6 => K25 (x1, x2, (x3 + (-1 : Int32)), u6) else bfX1_fillBackWorkers_60  K12 x1 x2 S))
def bfX1_fillBackWorkers_12  (K12 : Int32 × Int32 × (StS) → Option (StS)) (x : Int32 × Int32 × (StS)) : Option (StS) :=
  match x with
  | (x1, x2, S) => (if x1 ≤ x2 then some S else nm ((ssize 8 S)) fun v7 => iter (bfX1_fillBackWorkers_25  K12) FU (x1, x2, v7, S))
def fX1_fillBackWorkers  (S : StS) : Option (StS) :=
  nm ((sget 3 S (2 : Int32) (0 : Int32))) fun v8 => iter (bfX1_fillBackWorkers_12) FU (v8, (0 : Int32), S)
set_option maxHeartbeats 4000000 in
set_option maxRecDepth 100000 in
theorem kX1_fillBackWorkers (l : Launch) (D : va_G) (cI cS : ClassId) (aS : Nat → Nat)  (S : StS) {q : StS} (h : fX1_fillBackWorkers  S = some q) : Mc l D (tyL cI cS) false yX1_fillBackWorkers cX1_fillBackWorkers 4 none 4 [.ref (aS 0)] (wS cI aS S) none (wS cI aS q) := by
  refine Mc_of RX1 (by decide +kernel) rfl wc_X1_fillBackWorkers (Nat.le_of_ble_eq_true rfl) ?_
  intro p e s m args below meth c A Q ls C hA hz hP hD hS hl RET
  have RETh : ∀ {pc : Nat} {ls : Array Slot} {H : Heap} {locs : List Loc} {S1 : StS}, decode cX1_fillBackWorkers pc = .ok (.return_, 1) → some S1 = some q → va_P D vwCl (wS cI aS S1) H → va_D A (wS cI aS S1) → va_S A s.heap H locs → W p l e (rmL 4) s m args below meth c H locs 0 0 Q (F0 m pc ls []) := by
    intro pc ls H locs S1 hd h hP hD hS; cases h; exact RET (x_vret C hd) hP hD hS
  have B60 : ∀ (K12 : Int32 × Int32 × (StS) → Option (StS)) (ih12 : ∀ x, K12 x = some q → (match x with | (x1, x2, S) => ∀ (H : Heap) (locs : List Loc) (ls : Array Slot), va_P D vwCl (wS cI aS S) H → va_D A (wS cI aS S) → va_S A s.heap H locs → lv_has ls 4 [(0, .ref (aS 0)), (1, .int x1), (2, .int x2)] → W p l e (rmL 4) s m args below meth c H locs 0 0 Q (F0 m 12 ls []))) (x1 : Int32) (x2 : Int32) (S : StS), bfX1_fillBackWorkers_60 K12 x1 x2 S = some q → ∀ (H : Heap) (locs : List Loc) (ls : Array Slot), va_P D vwCl (wS cI aS S) H → va_D A (wS cI aS S) → va_S A s.heap H locs → lv_has ls 4 [(0, .ref (aS 0)), (1, .int x1), (2, .int x2)] → W p l e (rmL 4) s m args below meth c H locs 0 0 Q (F0 m 60 ls []) := by
    intro K12 ih12 x1 x2 S h H locs ls hP hD hS hl
    refine x_iinc (v := (x2 + (1 : Int32))) (lv' := [(2, .int (x2 + (1 : Int32))), (0, .ref (aS 0)), (1, .int x1)]) C dX1_fillBackWorkers_60 hl (k := 2) rfl rfl (by decide) rfl (fun ls hl => ?_)
    refine x_goto (tgt := 12) C dX1_fillBackWorkers_63 (by decide) ?_
    exact ih12 _ h _ _ _ hP hD hS (lv_sub hl [1, 2, 0] rfl)
  have B25 : ∀ (K12 : Int32 × Int32 × (StS) → Option (StS)) (ih12 : ∀ x, K12 x = some q → (match x with | (x1, x2, S) => ∀ (H : Heap) (locs : List Loc) (ls : Array Slot), va_P D vwCl (wS cI aS S) H → va_D A (wS cI aS S) → va_S A s.heap H locs → lv_has ls 4 [(0, .ref (aS 0)), (1, .int x1), (2, .int x2)] → W p l e (rmL 4) s m args below meth c H locs 0 0 Q (F0 m 12 ls []))) (n : Nat) (x : Int32 × Int32 × Int32 × (StS)), iter (bfX1_fillBackWorkers_25 K12) n x = some q → (match x with | (x1, x2, x3, S) => ∀ (H : Heap) (locs : List Loc) (ls : Array Slot), va_P D vwCl (wS cI aS S) H → va_D A (wS cI aS S) → va_S A s.heap H locs → lv_has ls 4 [(0, .ref (aS 0)), (1, .int x1), (2, .int x2), (3, .int x3)] → W p l e (rmL 4) s m args below meth c H locs 0 0 Q (F0 m 25 ls [])) := by
    intro K12 ih12
    refine iter_ind (fun x : Int32 × Int32 × Int32 × (StS) => (match x with | (x1, x2, x3, S) => ∀ (H : Heap) (locs : List Loc) (ls : Array Slot), va_P D vwCl (wS cI aS S) H → va_D A (wS cI aS S) → va_S A s.heap H locs → lv_has ls 4 [(0, .ref (aS 0)), (1, .int x1), (2, .int x2), (3, .int x3)] → W p l e (rmL 4) s m args below meth c H locs 0 0 Q (F0 m 25 ls []))) ?_
    intro K25 ih25 x h
    obtain ⟨x1, x2, x3, S⟩ := x
    intro H locs ls hP hD hS hl
    refine x_iload_n C dX1_fillBackWorkers_25 rfl hl 3 rfl ?_
    refine x_if_le (tgt := 60) C h dX1_fillBackWorkers_26 (by decide) (fun h => ?_) (fun h => ?_)
    · exact B60 K12 ih12 _ _ _ h _ _ _ hP hD hS (lv_sub hl [0, 1, 2] rfl)
    · refine x_aload_n C dX1_fillBackWorkers_29 rfl hl 0 rfl ?_
      refine x_get C inX2 hP 0 rfl rfl 9 (by decide) wf_X1_44 rfl dX1_fillBackWorkers_30 ?_
      refine x_iload_n C dX1_fillBackWorkers_33 rfl hl 2 rfl ?_
      refine x_iconst (v := (0 : Int32)) C dX1_fillBackWorkers_34 (by decide) ?_
      refine x_callV (As := [.int _, .int _]) (n := 2) C (kS_get l D cI cS aS _ 9 (by decide) _ _) (fun hh => nomatch hh) wm_X1_15 wi_X3_get we_X3_get wz_X3 wc_X3_get (by decide +kernel) rfl hP hD hS hA 19 1 rfl rfl rfl hl.1 dX1_fillBackWorkers_35 rfl (Nat.le_of_ble_eq_true rfl) ⟨Nat.le_of_ble_eq_true rfl, Nat.le_of_ble_eq_true rfl⟩ ⟨Nat.zero_le _, Nat.zero_le _⟩ (fun H locs hP hD hS => ?_)
      refine x_bipush (v := (-9 : Int32)) C dX1_fillBackWorkers_38 (by decide) ?_
      refine x_icmp_ne (tgt := 60) C h dX1_fillBackWorkers_40 (by decide) (fun h => ?_) (fun h => ?_)
      · exact B60 K12 ih12 _ _ _ h _ _ _ hP hD hS (lv_sub hl [0, 1, 2] rfl)
      · refine x_aload_n C dX1_fillBackWorkers_43 rfl hl 0 rfl ?_
        refine x_aload_n C dX1_fillBackWorkers_44 rfl hl 0 rfl ?_
        refine x_iload_n C dX1_fillBackWorkers_45 rfl hl 2 rfl ?_
        obtain ⟨u5, hu5, h⟩ := ob_some h
        refine x_callS (As := [.ref _, .int _]) (n := 2) C (kX1_takeAtBack l D cI cS aS _ _ hu5) (fun hh => nomatch hh) wm_X1_47 wt_X1_takeAtBack wz_X1 wc_X1_takeAtBack (by decide +kernel) rfl hP hD hS hA hl.1 dX1_fillBackWorkers_46 rfl (Nat.le_of_ble_eq_true rfl) ⟨Nat.le_of_ble_eq_true rfl, Nat.le_of_ble_eq_true rfl⟩ ⟨Nat.zero_le _, Nat.zero_le _⟩ (fun H locs hP hD hS => ?_)
        refine x_bipush (v := (6 : Int32)) C dX1_fillBackWorkers_49 (by decide) ?_
        obtain ⟨u6, hu6, h⟩ := ob_some h
        refine x_callS (As := [.ref _, .int _, .int _]) (n := 3) C (kX0_fail l D cI cS aS _ _ _ hu6) (fun hh => nomatch hh) wm_X1_53 wt_X0_fail wz_X0 wc_X0_fail (by decide +kernel) rfl hP hD hS hA hl.1 dX1_fillBackWorkers_51 rfl (Nat.le_of_ble_eq_true rfl) ⟨Nat.le_of_ble_eq_true rfl, Nat.le_of_ble_eq_true rfl⟩ ⟨Nat.zero_le _, Nat.zero_le _⟩ (fun H locs hP hD hS => ?_)
        refine x_iinc (v := (x3 + (-1 : Int32))) (lv' := [(3, .int (x3 + (-1 : Int32))), (0, .ref (aS 0)), (1, .int x1), (2, .int x2)]) C dX1_fillBackWorkers_54 hl (k := 3) rfl rfl (by decide) rfl (fun ls hl => ?_)
        refine x_goto (tgt := 25) C dX1_fillBackWorkers_57 (by decide) ?_
        exact ih25 _ h _ _ _ hP hD hS (lv_sub hl [1, 2, 3, 0] rfl)
  have B12 : ∀ (n : Nat) (x : Int32 × Int32 × (StS)), iter (bfX1_fillBackWorkers_12) n x = some q → (match x with | (x1, x2, S) => ∀ (H : Heap) (locs : List Loc) (ls : Array Slot), va_P D vwCl (wS cI aS S) H → va_D A (wS cI aS S) → va_S A s.heap H locs → lv_has ls 4 [(0, .ref (aS 0)), (1, .int x1), (2, .int x2)] → W p l e (rmL 4) s m args below meth c H locs 0 0 Q (F0 m 12 ls [])) := by
    refine iter_ind (fun x : Int32 × Int32 × (StS) => (match x with | (x1, x2, S) => ∀ (H : Heap) (locs : List Loc) (ls : Array Slot), va_P D vwCl (wS cI aS S) H → va_D A (wS cI aS S) → va_S A s.heap H locs → lv_has ls 4 [(0, .ref (aS 0)), (1, .int x1), (2, .int x2)] → W p l e (rmL 4) s m args below meth c H locs 0 0 Q (F0 m 12 ls []))) ?_
    intro K12 ih12 x h
    obtain ⟨x1, x2, S⟩ := x
    intro H locs ls hP hD hS hl
    refine x_iload_n C dX1_fillBackWorkers_12 rfl hl 2 rfl ?_
    refine x_iload_n C dX1_fillBackWorkers_13 rfl hl 1 rfl ?_
    refine x_icmp_ge (tgt := 66) C h dX1_fillBackWorkers_14 (by decide) (fun h => ?_) (fun h => ?_)
    · exact RETh dX1_fillBackWorkers_66 h hP hD hS
    · refine x_aload_n C dX1_fillBackWorkers_17 rfl hl 0 rfl ?_
      refine x_get C inX2 hP 0 rfl rfl 8 (by decide) wf_X1_38 rfl dX1_fillBackWorkers_18 ?_
      refine x_callV (As := []) (n := 0) C (kS_size l D cI cS aS _ 8 (by decide)) (fun hh => nomatch hh) wm_X1_41 wi_X3_size we_X3_size wz_X3 wc_X3_size (by decide +kernel) rfl hP hD hS hA 17 1 rfl rfl rfl hl.1 dX1_fillBackWorkers_21 rfl (Nat.le_of_ble_eq_true rfl) ⟨Nat.le_of_ble_eq_true rfl, Nat.le_of_ble_eq_true rfl⟩ ⟨Nat.zero_le _, Nat.zero_le _⟩ (fun H locs hP hD hS => ?_)
      refine x_nmi h (fun v7 h => ?_)
      refine x_istore_n (lv' := [(3, .int v7), (0, .ref (aS 0)), (1, .int x1), (2, .int x2)]) C dX1_fillBackWorkers_24 rfl hl (by decide) rfl (fun ls hl => ?_)
      exact B25 K12 ih12 FU _ h _ _ _ hP hD hS (lv_sub hl [1, 2, 3, 0] rfl)
  refine x_aload_n C dX1_fillBackWorkers_0 rfl hl 0 rfl ?_
  refine x_get C inX2 hP 0 rfl rfl 3 (by decide) wf_X1_35 rfl dX1_fillBackWorkers_1 ?_
  refine x_iconst (v := (2 : Int32)) C dX1_fillBackWorkers_4 (by decide) ?_
  refine x_iconst (v := (0 : Int32)) C dX1_fillBackWorkers_5 (by decide) ?_
  refine x_callV (As := [.int _, .int _]) (n := 2) C (kS_get l D cI cS aS _ 3 (by decide) _ _) (fun hh => nomatch hh) wm_X1_15 wi_X3_get we_X3_get wz_X3 wc_X3_get (by decide +kernel) rfl hP hD hS hA 7 1 rfl rfl rfl hl.1 dX1_fillBackWorkers_6 rfl (Nat.le_of_ble_eq_true rfl) ⟨Nat.le_of_ble_eq_true rfl, Nat.le_of_ble_eq_true rfl⟩ ⟨Nat.zero_le _, Nat.zero_le _⟩ (fun H locs hP hD hS => ?_)
  refine x_nmi h (fun v8 h => ?_)
  refine x_istore_n (lv' := [(1, .int v8), (0, .ref (aS 0))]) C dX1_fillBackWorkers_9 rfl hl (by decide) rfl (fun ls hl => ?_)
  refine x_iconst (v := (0 : Int32)) C dX1_fillBackWorkers_10 (by decide) ?_
  refine x_istore_n (lv' := [(2, .int (0 : Int32)), (1, .int v8), (0, .ref (aS 0))]) C dX1_fillBackWorkers_11 rfl hl (by decide) rfl (fun ls hl => ?_)
  exact B12 FU _ h _ _ _ hP hD hS (lv_sub hl [2, 1, 0] rfl)
theorem dX1_firstToExpire_0 : decode cX1_firstToExpire 0 = .ok (.iconst 0, 1) := by decide +kernel
theorem dX1_firstToExpire_1 : decode cX1_firstToExpire 1 = .ok (.istore_n 1, 1) := by decide +kernel
theorem dX1_firstToExpire_2 : decode cX1_firstToExpire 2 = .ok (.iconst 1, 1) := by decide +kernel
theorem dX1_firstToExpire_3 : decode cX1_firstToExpire 3 = .ok (.istore_n 2, 1) := by decide +kernel
theorem dX1_firstToExpire_4 : decode cX1_firstToExpire 4 = .ok (.iload_n 2, 1) := by decide +kernel
theorem dX1_firstToExpire_5 : decode cX1_firstToExpire 5 = .ok (.aload_n 0, 1) := by decide +kernel
theorem dX1_firstToExpire_6 : decode cX1_firstToExpire 6 = .ok (.invokevirtual 41, 3) := by decide +kernel
theorem dX1_firstToExpire_9 : decode cX1_firstToExpire 9 = .ok (.if_icmp .ge 26, 3) := by decide +kernel
theorem dX1_firstToExpire_12 : decode cX1_firstToExpire 12 = .ok (.aload_n 0, 1) := by decide +kernel
theorem dX1_firstToExpire_13 : decode cX1_firstToExpire 13 = .ok (.iload_n 2, 1) := by decide +kernel
theorem dX1_firstToExpire_14 : decode cX1_firstToExpire 14 = .ok (.iconst 1, 1) := by decide +kernel
theorem dX1_firstToExpire_15 : decode cX1_firstToExpire 15 = .ok (.invokevirtual 15, 3) := by decide +kernel
theorem dX1_firstToExpire_18 : decode cX1_firstToExpire 18 = .ok (.aload_n 0, 1) := by decide +kernel
theorem dX1_firstToExpire_19 : decode cX1_firstToExpire 19 = .ok (.iload_n 1, 1) := by decide +kernel
theorem dX1_firstToExpire_20 : decode cX1_firstToExpire 20 = .ok (.iconst 1, 1) := by decide +kernel
theorem dX1_firstToExpire_21 : decode cX1_firstToExpire 21 = .ok (.invokevirtual 15, 3) := by decide +kernel
theorem dX1_firstToExpire_24 : decode cX1_firstToExpire 24 = .ok (.if_icmp .ge 5, 3) := by decide +kernel
theorem dX1_firstToExpire_27 : decode cX1_firstToExpire 27 = .ok (.iload_n 2, 1) := by decide +kernel
theorem dX1_firstToExpire_28 : decode cX1_firstToExpire 28 = .ok (.istore_n 1, 1) := by decide +kernel
theorem dX1_firstToExpire_29 : decode cX1_firstToExpire 29 = .ok (.iinc 2 1, 3) := by decide +kernel
theorem dX1_firstToExpire_32 : decode cX1_firstToExpire 32 = .ok (.goto (-28), 3) := by decide +kernel
theorem dX1_firstToExpire_35 : decode cX1_firstToExpire 35 = .ok (.iload_n 1, 1) := by decide +kernel
theorem dX1_firstToExpire_36 : decode cX1_firstToExpire 36 = .ok (.ireturn, 1) := by decide +kernel
def bfX1_firstToExpire_6_29 (S : StS) (K4 : Int32 × Int32 → Option (Int32)) (x1 : Int32) (x2 : Int32) : Option (Int32) :=
  K4 (x1, (x2 + (1 : Int32)))
def bfX1_firstToExpire_6_4 (S : StS) (K4 : Int32 × Int32 → Option (Int32)) (x : Int32 × Int32) : Option (Int32) :=
  match x with
  | (x1, x2) => (if (ssize 6 S) ≤ x2 then some x1 else (if (sget 6 S x1 (1 : Int32)) ≤ (sget 6 S x2 (1 : Int32)) then bfX1_firstToExpire_6_29 S K4 x1 x2 else bfX1_firstToExpire_6_29 S K4 x2 x2))
def fX1_firstToExpire_6 (S : StS) : Option (Int32) :=
  iter (bfX1_firstToExpire_6_4 S) FU ((0 : Int32), (1 : Int32))
set_option maxHeartbeats 4000000 in
set_option maxRecDepth 100000 in
theorem kX1_firstToExpire_6 (l : Launch) (D : va_G) (cI cS : ClassId) (aS : Nat → Nat) (S : StS) {q : Int32} (h : fX1_firstToExpire_6 S = some q) : Mc l D (tyL cI cS) false yX1_firstToExpire cX1_firstToExpire 3 (some .int) 2 [.ref (aS 13)] (wS cI aS S) (some (.int q)) (wS cI aS S) := by
  refine Mc_of RX1 (by decide +kernel) rfl wc_X1_firstToExpire (Nat.le_of_ble_eq_true rfl) ?_
  intro p e s m args below meth c A Q ls C hA hz hP hD hS hl RET
  have RETh : ∀ {pc : Nat} {ls : Array Slot} {H : Heap} {locs : List Loc} {x : Int32} , decode cX1_firstToExpire pc = .ok (.ireturn, 1) → some x = some q → va_P D vwCl (wS cI aS S) H → va_D A (wS cI aS S) → va_S A s.heap H locs → W p l e (rmL 2) s m args below meth c H locs 0 0 Q (F0 m pc ls [.int x]) := by
    intro pc ls H locs x hd h hP hD hS; cases h; exact RET (x_iret C hd) hP hD hS
  have B29 : ∀ (K4 : Int32 × Int32 → Option (Int32)) (ih4 : ∀ x, K4 x = some q → (match x with | (x1, x2) => ∀ (H : Heap) (locs : List Loc) (ls : Array Slot), va_P D vwCl (wS cI aS S) H → va_D A (wS cI aS S) → va_S A s.heap H locs → lv_has ls 3 [(0, .ref (aS 13)), (1, .int x1), (2, .int x2)] → W p l e (rmL 2) s m args below meth c H locs 0 0 Q (F0 m 4 ls []))) (x1 : Int32) (x2 : Int32), bfX1_firstToExpire_6_29 S K4 x1 x2 = some q → ∀ (H : Heap) (locs : List Loc) (ls : Array Slot), va_P D vwCl (wS cI aS S) H → va_D A (wS cI aS S) → va_S A s.heap H locs → lv_has ls 3 [(0, .ref (aS 13)), (1, .int x1), (2, .int x2)] → W p l e (rmL 2) s m args below meth c H locs 0 0 Q (F0 m 29 ls []) := by
    intro K4 ih4 x1 x2 h H locs ls hP hD hS hl
    refine x_iinc (v := (x2 + (1 : Int32))) (lv' := [(2, .int (x2 + (1 : Int32))), (0, .ref (aS 13)), (1, .int x1)]) C dX1_firstToExpire_29 hl (k := 2) rfl rfl (by decide) rfl (fun ls hl => ?_)
    refine x_goto (tgt := 4) C dX1_firstToExpire_32 (by decide) ?_
    exact ih4 _ h _ _ _ hP hD hS (lv_sub hl [1, 2, 0] rfl)
  have B4 : ∀ (n : Nat) (x : Int32 × Int32), iter (bfX1_firstToExpire_6_4 S) n x = some q → (match x with | (x1, x2) => ∀ (H : Heap) (locs : List Loc) (ls : Array Slot), va_P D vwCl (wS cI aS S) H → va_D A (wS cI aS S) → va_S A s.heap H locs → lv_has ls 3 [(0, .ref (aS 13)), (1, .int x1), (2, .int x2)] → W p l e (rmL 2) s m args below meth c H locs 0 0 Q (F0 m 4 ls [])) := by
    refine iter_ind (fun x : Int32 × Int32 => (match x with | (x1, x2) => ∀ (H : Heap) (locs : List Loc) (ls : Array Slot), va_P D vwCl (wS cI aS S) H → va_D A (wS cI aS S) → va_S A s.heap H locs → lv_has ls 3 [(0, .ref (aS 13)), (1, .int x1), (2, .int x2)] → W p l e (rmL 2) s m args below meth c H locs 0 0 Q (F0 m 4 ls []))) ?_
    intro K4 ih4 x h
    obtain ⟨x1, x2⟩ := x
    intro H locs ls hP hD hS hl
    refine x_iload_n C dX1_firstToExpire_4 rfl hl 2 rfl ?_
    refine x_aload_n C dX1_firstToExpire_5 rfl hl 0 rfl ?_
    refine x_callV (As := []) (n := 0) C (kS_size l D cI cS aS _ 6 (by decide)) (fun hh => nomatch hh) wm_X1_41 wi_X3_size we_X3_size wz_X3 wc_X3_size (by decide +kernel) rfl hP hD hS hA 13 1 rfl rfl rfl hl.1 dX1_firstToExpire_6 rfl (Nat.le_of_ble_eq_true rfl) ⟨Nat.le_of_ble_eq_true rfl, Nat.le_of_ble_eq_true rfl⟩ ⟨Nat.zero_le _, Nat.zero_le _⟩ (fun H locs hP hD hS => ?_)
    refine x_icmp_ge (tgt := 35) C h dX1_firstToExpire_9 (by decide) (fun h => ?_) (fun h => ?_)
    · refine x_iload_n C dX1_firstToExpire_35 rfl hl 1 rfl ?_
      exact RETh dX1_firstToExpire_36 h hP hD hS
    · refine x_aload_n C dX1_firstToExpire_12 rfl hl 0 rfl ?_
      refine x_iload_n C dX1_firstToExpire_13 rfl hl 2 rfl ?_
      refine x_iconst (v := (1 : Int32)) C dX1_firstToExpire_14 (by decide) ?_
      refine x_callV (As := [.int _, .int _]) (n := 2) C (kS_get l D cI cS aS _ 6 (by decide) _ _) (fun hh => nomatch hh) wm_X1_15 wi_X3_get we_X3_get wz_X3 wc_X3_get (by decide +kernel) rfl hP hD hS hA 13 1 rfl rfl rfl hl.1 dX1_firstToExpire_15 rfl (Nat.le_of_ble_eq_true rfl) ⟨Nat.le_of_ble_eq_true rfl, Nat.le_of_ble_eq_true rfl⟩ ⟨Nat.zero_le _, Nat.zero_le _⟩ (fun H locs hP hD hS => ?_)
      refine x_aload_n C dX1_firstToExpire_18 rfl hl 0 rfl ?_
      refine x_iload_n C dX1_firstToExpire_19 rfl hl 1 rfl ?_
      refine x_iconst (v := (1 : Int32)) C dX1_firstToExpire_20 (by decide) ?_
      refine x_callV (As := [.int _, .int _]) (n := 2) C (kS_get l D cI cS aS _ 6 (by decide) _ _) (fun hh => nomatch hh) wm_X1_15 wi_X3_get we_X3_get wz_X3 wc_X3_get (by decide +kernel) rfl hP hD hS hA 13 1 rfl rfl rfl hl.1 dX1_firstToExpire_21 rfl (Nat.le_of_ble_eq_true rfl) ⟨Nat.le_of_ble_eq_true rfl, Nat.le_of_ble_eq_true rfl⟩ ⟨Nat.zero_le _, Nat.zero_le _⟩ (fun H locs hP hD hS => ?_)
      refine x_icmp_ge (tgt := 29) C h dX1_firstToExpire_24 (by decide) (fun h => ?_) (fun h => ?_)
      · exact B29 K4 ih4 _ _ h _ _ _ hP hD hS hl
      · refine x_iload_n C dX1_firstToExpire_27 rfl hl 2 rfl ?_
        refine x_istore_n (lv' := [(1, .int x2), (0, .ref (aS 13)), (2, .int x2)]) C dX1_firstToExpire_28 rfl hl (by decide) rfl (fun ls hl => ?_)
        exact B29 K4 ih4 _ _ h _ _ _ hP hD hS (lv_sub hl [1, 0, 2] rfl)
  refine x_iconst (v := (0 : Int32)) C dX1_firstToExpire_0 (by decide) ?_
  refine x_istore_n (lv' := [(1, .int (0 : Int32)), (0, .ref (aS 13))]) C dX1_firstToExpire_1 rfl hl (by decide) rfl (fun ls hl => ?_)
  refine x_iconst (v := (1 : Int32)) C dX1_firstToExpire_2 (by decide) ?_
  refine x_istore_n (lv' := [(2, .int (1 : Int32)), (1, .int (0 : Int32)), (0, .ref (aS 13))]) C dX1_firstToExpire_3 rfl hl (by decide) rfl (fun ls hl => ?_)
  exact B4 FU _ h _ _ _ hP hD hS (lv_sub hl [2, 1, 0] rfl)
theorem dX1_nextInQueue_0 : decode cX1_nextInQueue 0 = .ok (.aload_n 0, 1) := by decide +kernel
theorem dX1_nextInQueue_1 : decode cX1_nextInQueue 1 = .ok (.getfield 21, 3) := by decide +kernel
theorem dX1_nextInQueue_4 : decode cX1_nextInQueue 4 = .ok (.invokevirtual 41, 3) := by decide +kernel
theorem dX1_nextInQueue_7 : decode cX1_nextInQueue 7 = .ok (.istore_n 1, 1) := by decide +kernel
theorem dX1_nextInQueue_8 : decode cX1_nextInQueue 8 = .ok (.aload_n 0, 1) := by decide +kernel
theorem dX1_nextInQueue_9 : decode cX1_nextInQueue 9 = .ok (.getfield 85, 3) := by decide +kernel
theorem dX1_nextInQueue_12 : decode cX1_nextInQueue 12 = .ok (.tableswitch 63 1 3 #[28, 32, 55], 28) := by decide +kernel
theorem dX1_nextInQueue_40 : decode cX1_nextInQueue 40 = .ok (.iload_n 1, 1) := by decide +kernel
theorem dX1_nextInQueue_41 : decode cX1_nextInQueue 41 = .ok (.iconst 1, 1) := by decide +kernel
theorem dX1_nextInQueue_42 : decode cX1_nextInQueue 42 = .ok (.isub, 1) := by decide +kernel
theorem dX1_nextInQueue_43 : decode cX1_nextInQueue 43 = .ok (.ireturn, 1) := by decide +kernel
theorem dX1_nextInQueue_44 : decode cX1_nextInQueue 44 = .ok (.iconst 2, 1) := by decide +kernel
theorem dX1_nextInQueue_45 : decode cX1_nextInQueue 45 = .ok (.iload_n 1, 1) := by decide +kernel
theorem dX1_nextInQueue_46 : decode cX1_nextInQueue 46 = .ok (.imul, 1) := by decide +kernel
theorem dX1_nextInQueue_47 : decode cX1_nextInQueue 47 = .ok (.aload_n 0, 1) := by decide +kernel
theorem dX1_nextInQueue_48 : decode cX1_nextInQueue 48 = .ok (.getfield 35, 3) := by decide +kernel
theorem dX1_nextInQueue_51 : decode cX1_nextInQueue 51 = .ok (.iconst 1, 1) := by decide +kernel
theorem dX1_nextInQueue_52 : decode cX1_nextInQueue 52 = .ok (.iconst 0, 1) := by decide +kernel
theorem dX1_nextInQueue_53 : decode cX1_nextInQueue 53 = .ok (.invokevirtual 15, 3) := by decide +kernel
theorem dX1_nextInQueue_56 : decode cX1_nextInQueue 56 = .ok (.if_icmp .le 9, 3) := by decide +kernel
theorem dX1_nextInQueue_59 : decode cX1_nextInQueue 59 = .ok (.iload_n 1, 1) := by decide +kernel
theorem dX1_nextInQueue_60 : decode cX1_nextInQueue 60 = .ok (.iconst 1, 1) := by decide +kernel
theorem dX1_nextInQueue_61 : decode cX1_nextInQueue 61 = .ok (.isub, 1) := by decide +kernel
theorem dX1_nextInQueue_62 : decode cX1_nextInQueue 62 = .ok (.goto 4, 3) := by decide +kernel
theorem dX1_nextInQueue_65 : decode cX1_nextInQueue 65 = .ok (.iconst 0, 1) := by decide +kernel
theorem dX1_nextInQueue_66 : decode cX1_nextInQueue 66 = .ok (.ireturn, 1) := by decide +kernel
theorem dX1_nextInQueue_67 : decode cX1_nextInQueue 67 = .ok (.aload_n 0, 1) := by decide +kernel
theorem dX1_nextInQueue_68 : decode cX1_nextInQueue 68 = .ok (.getfield 21, 3) := by decide +kernel
theorem dX1_nextInQueue_71 : decode cX1_nextInQueue 71 = .ok (.invokestatic 89, 3) := by decide +kernel
theorem dX1_nextInQueue_74 : decode cX1_nextInQueue 74 = .ok (.ireturn, 1) := by decide +kernel
theorem dX1_nextInQueue_75 : decode cX1_nextInQueue 75 = .ok (.iconst 0, 1) := by decide +kernel
theorem dX1_nextInQueue_76 : decode cX1_nextInQueue 76 = .ok (.ireturn, 1) := by decide +kernel
def bfX1_nextInQueue_66 (S : StS) (s0 : Int32) : Option (Int32) :=
  some s0
def fX1_nextInQueue (S : StS) : Option (Int32) :=
  nm ((ssize 6 S)) fun v3 => (if (S.2 11) = (1 : Int32) then some (v3 - (1 : Int32)) else (if (S.2 11) = (2 : Int32) then (if ((2 : Int32) * v3) ≤ (sget 3 S (1 : Int32) (0 : Int32)) then bfX1_nextInQueue_66 S  ((0 : Int32)) else bfX1_nextInQueue_66 S  ((v3 - (1 : Int32)))) else (if (S.2 11) = (3 : Int32) then ob (fX1_firstToExpire_6 S) fun u4 => some u4 else some (0 : Int32))))
set_option maxHeartbeats 4000000 in
set_option maxRecDepth 100000 in
theorem kX1_nextInQueue (l : Launch) (D : va_G) (cI cS : ClassId) (aS : Nat → Nat) (S : StS) {q : Int32} (h : fX1_nextInQueue S = some q) : Mc l D (tyL cI cS) false yX1_nextInQueue cX1_nextInQueue 2 (some .int) 3 [.ref (aS 0)] (wS cI aS S) (some (.int q)) (wS cI aS S) := by
  refine Mc_of RX1 (by decide +kernel) rfl wc_X1_nextInQueue (Nat.le_of_ble_eq_true rfl) ?_
  intro p e s m args below meth c A Q ls C hA hz hP hD hS hl RET
  have RETh : ∀ {pc : Nat} {ls : Array Slot} {H : Heap} {locs : List Loc} {x : Int32} , decode cX1_nextInQueue pc = .ok (.ireturn, 1) → some x = some q → va_P D vwCl (wS cI aS S) H → va_D A (wS cI aS S) → va_S A s.heap H locs → W p l e (rmL 3) s m args below meth c H locs 0 0 Q (F0 m pc ls [.int x]) := by
    intro pc ls H locs x hd h hP hD hS; cases h; exact RET (x_iret C hd) hP hD hS
  have B66 : ∀ (s0 : Int32), bfX1_nextInQueue_66 S s0 = some q → ∀ (H : Heap) (locs : List Loc) (ls : Array Slot), va_P D vwCl (wS cI aS S) H → va_D A (wS cI aS S) → va_S A s.heap H locs → lv_has ls 2 [] → W p l e (rmL 3) s m args below meth c H locs 0 0 Q (F0 m 66 ls [.int s0]) := by
    intro s0 h H locs ls hP hD hS hl
    exact RETh dX1_nextInQueue_66 h hP hD hS
  refine x_aload_n C dX1_nextInQueue_0 rfl hl 0 rfl ?_
  refine x_get C inX2 hP 0 rfl rfl 6 (by decide) wf_X1_21 rfl dX1_nextInQueue_1 ?_
  refine x_callV (As := []) (n := 0) C (kS_size l D cI cS aS _ 6 (by decide)) (fun hh => nomatch hh) wm_X1_41 wi_X3_size we_X3_size wz_X3 wc_X3_size (by decide +kernel) rfl hP hD hS hA 13 1 rfl rfl rfl hl.1 dX1_nextInQueue_4 rfl (Nat.le_of_ble_eq_true rfl) ⟨Nat.le_of_ble_eq_true rfl, Nat.le_of_ble_eq_true rfl⟩ ⟨Nat.zero_le _, Nat.zero_le _⟩ (fun H locs hP hD hS => ?_)
  refine x_nmi h (fun v3 h => ?_)
  refine x_istore_n (lv' := [(1, .int v3), (0, .ref (aS 0))]) C dX1_nextInQueue_7 rfl hl (by decide) rfl (fun ls hl => ?_)
  refine x_aload_n C dX1_nextInQueue_8 rfl hl 1 rfl ?_
  refine x_get C inX2 hP 0 rfl rfl 11 (by decide) wf_X1_85 rfl dX1_nextInQueue_9 ?_
  rcases x_ifc h with ⟨hc, h⟩ | ⟨hc1, h⟩
  · refine x_tabIn (tgt := 40) C dX1_nextInQueue_12 (by rw [hc]; decide) (by rw [hc]; decide) (by rw [hc]; rfl) (by decide) ?_
    refine x_iload_n C dX1_nextInQueue_40 rfl hl 0 rfl ?_
    refine x_iconst (v := (1 : Int32)) C dX1_nextInQueue_41 (by decide) ?_
    refine x_isub C dX1_nextInQueue_42 ?_
    exact RETh dX1_nextInQueue_43 h hP hD hS
  ·
    rcases x_ifc h with ⟨hc, h⟩ | ⟨hc2, h⟩
    · refine x_tabIn (tgt := 44) C dX1_nextInQueue_12 (by rw [hc]; decide) (by rw [hc]; decide) (by rw [hc]; rfl) (by decide) ?_
      refine x_iconst (v := (2 : Int32)) C dX1_nextInQueue_44 (by decide) ?_
      refine x_iload_n C dX1_nextInQueue_45 rfl hl 0 rfl ?_
      refine x_imul C dX1_nextInQueue_46 ?_
      refine x_aload_n C dX1_nextInQueue_47 rfl hl 1 rfl ?_
      refine x_get C inX2 hP 0 rfl rfl 3 (by decide) wf_X1_35 rfl dX1_nextInQueue_48 ?_
      refine x_iconst (v := (1 : Int32)) C dX1_nextInQueue_51 (by decide) ?_
      refine x_iconst (v := (0 : Int32)) C dX1_nextInQueue_52 (by decide) ?_
      refine x_callV (As := [.int _, .int _]) (n := 2) C (kS_get l D cI cS aS _ 3 (by decide) _ _) (fun hh => nomatch hh) wm_X1_15 wi_X3_get we_X3_get wz_X3 wc_X3_get (by decide +kernel) rfl hP hD hS hA 7 1 rfl rfl rfl hl.1 dX1_nextInQueue_53 rfl (Nat.le_of_ble_eq_true rfl) ⟨Nat.le_of_ble_eq_true rfl, Nat.le_of_ble_eq_true rfl⟩ ⟨Nat.zero_le _, Nat.zero_le _⟩ (fun H locs hP hD hS => ?_)
      refine x_icmp_le (tgt := 65) C h dX1_nextInQueue_56 (by decide) (fun h => ?_) (fun h => ?_)
      · refine x_iconst (v := (0 : Int32)) C dX1_nextInQueue_65 (by decide) ?_
        exact B66 _ h _ _ _ hP hD hS (lv_sub hl [] rfl)
      · refine x_iload_n C dX1_nextInQueue_59 rfl hl 0 rfl ?_
        refine x_iconst (v := (1 : Int32)) C dX1_nextInQueue_60 (by decide) ?_
        refine x_isub C dX1_nextInQueue_61 ?_
        refine x_goto (tgt := 66) C dX1_nextInQueue_62 (by decide) ?_
        exact B66 _ h _ _ _ hP hD hS (lv_sub hl [] rfl)
    ·
      rcases x_ifc h with ⟨hc, h⟩ | ⟨hc3, h⟩
      · refine x_tabIn (tgt := 67) C dX1_nextInQueue_12 (by rw [hc]; decide) (by rw [hc]; decide) (by rw [hc]; rfl) (by decide) ?_
        refine x_aload_n C dX1_nextInQueue_67 rfl hl 1 rfl ?_
        refine x_get C inX2 hP 0 rfl rfl 6 (by decide) wf_X1_21 rfl dX1_nextInQueue_68 ?_
        obtain ⟨u4, hu4, h⟩ := ob_some h
        refine x_callS (As := [.ref _]) (n := 1) C (kX1_firstToExpire_6 l D cI cS aS _ hu4) (fun hh => nomatch hh) wm_X1_89 wt_X1_firstToExpire wz_X1 wc_X1_firstToExpire (by decide +kernel) rfl hP hD hS hA hl.1 dX1_nextInQueue_71 rfl (Nat.le_of_ble_eq_true rfl) ⟨Nat.le_of_ble_eq_true rfl, Nat.le_of_ble_eq_true rfl⟩ ⟨Nat.zero_le _, Nat.zero_le _⟩ (fun H locs hP hD hS => ?_)
        exact RETh dX1_nextInQueue_74 h hP hD hS
      · refine x_switch (tgt := 75) C dX1_nextInQueue_12 (x_tabO1_3 hc1 hc2 hc3) (by decide) ?_
        refine x_iconst (v := (0 : Int32)) C dX1_nextInQueue_75 (by decide) ?_
        exact RETh dX1_nextInQueue_76 h hP hD hS
theorem dX1_takeAtFront_0 : decode cX1_takeAtFront 0 = .ok (.aload_n 0, 1) := by decide +kernel
theorem dX1_takeAtFront_1 : decode cX1_takeAtFront 1 = .ok (.aload_n 0, 1) := by decide +kernel
theorem dX1_takeAtFront_2 : decode cX1_takeAtFront 2 = .ok (.getfield 21, 3) := by decide +kernel
theorem dX1_takeAtFront_5 : decode cX1_takeAtFront 5 = .ok (.iload_n 2, 1) := by decide +kernel
theorem dX1_takeAtFront_6 : decode cX1_takeAtFront 6 = .ok (.invokestatic 74, 3) := by decide +kernel
theorem dX1_takeAtFront_9 : decode cX1_takeAtFront 9 = .ok (.ifCond .eq 15, 3) := by decide +kernel
theorem dX1_takeAtFront_12 : decode cX1_takeAtFront 12 = .ok (.aload_n 0, 1) := by decide +kernel
theorem dX1_takeAtFront_13 : decode cX1_takeAtFront 13 = .ok (.getfield 21, 3) := by decide +kernel
theorem dX1_takeAtFront_16 : decode cX1_takeAtFront 16 = .ok (.iload_n 2, 1) := by decide +kernel
theorem dX1_takeAtFront_17 : decode cX1_takeAtFront 17 = .ok (.iconst 0, 1) := by decide +kernel
theorem dX1_takeAtFront_18 : decode cX1_takeAtFront 18 = .ok (.invokevirtual 15, 3) := by decide +kernel
theorem dX1_takeAtFront_21 : decode cX1_takeAtFront 21 = .ok (.goto 5, 3) := by decide +kernel
theorem dX1_takeAtFront_24 : decode cX1_takeAtFront 24 = .ok (.bipush (-9), 2) := by decide +kernel
theorem dX1_takeAtFront_26 : decode cX1_takeAtFront 26 = .ok (.istore_n 3, 1) := by decide +kernel
theorem dX1_takeAtFront_27 : decode cX1_takeAtFront 27 = .ok (.iload_n 3, 1) := by decide +kernel
theorem dX1_takeAtFront_28 : decode cX1_takeAtFront 28 = .ok (.bipush (-9), 2) := by decide +kernel
theorem dX1_takeAtFront_30 : decode cX1_takeAtFront 30 = .ok (.if_icmp .ne 26, 3) := by decide +kernel
theorem dX1_takeAtFront_33 : decode cX1_takeAtFront 33 = .ok (.aload_n 0, 1) := by decide +kernel
theorem dX1_takeAtFront_34 : decode cX1_takeAtFront 34 = .ok (.getfield 59, 3) := by decide +kernel
theorem dX1_takeAtFront_37 : decode cX1_takeAtFront 37 = .ok (.iload_n 1, 1) := by decide +kernel
theorem dX1_takeAtFront_38 : decode cX1_takeAtFront 38 = .ok (.aload_n 0, 1) := by decide +kernel
theorem dX1_takeAtFront_39 : decode cX1_takeAtFront 39 = .ok (.getfield 21, 3) := by decide +kernel
theorem dX1_takeAtFront_42 : decode cX1_takeAtFront 42 = .ok (.iload_n 2, 1) := by decide +kernel
theorem dX1_takeAtFront_43 : decode cX1_takeAtFront 43 = .ok (.invokevirtual 81, 3) := by decide +kernel
theorem dX1_takeAtFront_46 : decode cX1_takeAtFront 46 = .ok (.aload_n 0, 1) := by decide +kernel
theorem dX1_takeAtFront_47 : decode cX1_takeAtFront 47 = .ok (.getfield 59, 3) := by decide +kernel
theorem dX1_takeAtFront_50 : decode cX1_takeAtFront 50 = .ok (.iload_n 1, 1) := by decide +kernel
theorem dX1_takeAtFront_51 : decode cX1_takeAtFront 51 = .ok (.iconst 5, 1) := by decide +kernel
theorem dX1_takeAtFront_52 : decode cX1_takeAtFront 52 = .ok (.iconst 2, 1) := by decide +kernel
theorem dX1_takeAtFront_53 : decode cX1_takeAtFront 53 = .ok (.invokevirtual 28, 3) := by decide +kernel
theorem dX1_takeAtFront_56 : decode cX1_takeAtFront 56 = .ok (.aload_n 0, 1) := by decide +kernel
theorem dX1_takeAtFront_57 : decode cX1_takeAtFront 57 = .ok (.getfield 21, 3) := by decide +kernel
theorem dX1_takeAtFront_60 : decode cX1_takeAtFront 60 = .ok (.iload_n 2, 1) := by decide +kernel
theorem dX1_takeAtFront_61 : decode cX1_takeAtFront 61 = .ok (.invokevirtual 70, 3) := by decide +kernel
theorem dX1_takeAtFront_64 : decode cX1_takeAtFront 64 = .ok (.iload_n 3, 1) := by decide +kernel
theorem dX1_takeAtFront_65 : decode cX1_takeAtFront 65 = .ok (.ireturn, 1) := by decide +kernel
def bfX1_takeAtFront_56 (p2 : Int32) (p3 : Int32) (x3 : Int32) (S : StS) : Option (Int32 × (StS)) :=
  nm (sdrop 6 S p3) fun S6 => some (x3, S6)
def bfX1_takeAtFront_26 (p2 : Int32) (p3 : Int32) (s0 : Int32) (S : StS) : Option (Int32 × (StS)) :=
  (if s0 = (-9 : Int32) then nm (scopyRow S p2 p3) fun S7 => nm (sput 7 S7 p2 (5 : Int32) (2 : Int32)) fun S8 => bfX1_takeAtFront_56 p2 p3  s0 S8 else bfX1_takeAtFront_56 p2 p3  s0 S)
def fX1_takeAtFront (p2 : Int32) (p3 : Int32) (S : StS) : Option (Int32 × (StS)) :=
  ob (fX1_isHopeless_6 p3 S) fun u9 => (if u9 = 0 then bfX1_takeAtFront_26 p2 p3  ((-9 : Int32)) S else bfX1_takeAtFront_26 p2 p3  ((sget 6 S p3 (0 : Int32))) S)
set_option maxHeartbeats 4000000 in
set_option maxRecDepth 100000 in
theorem kX1_takeAtFront (l : Launch) (D : va_G) (cI cS : ClassId) (aS : Nat → Nat) (p2 : Int32) (p3 : Int32) (S : StS) {q : Int32 × (StS)} (h : fX1_takeAtFront p2 p3 S = some q) : Mc l D (tyL cI cS) false yX1_takeAtFront cX1_takeAtFront 4 (some .int) 3 [.ref (aS 0), .int p2, .int p3] (wS cI aS S) (some (.int q.1)) (wS cI aS q.2) := by
  refine Mc_of RX1 (by decide +kernel) rfl wc_X1_takeAtFront (Nat.le_of_ble_eq_true rfl) ?_
  intro p e s m args below meth c A Q ls C hA hz hP hD hS hl RET
  have RETh : ∀ {pc : Nat} {ls : Array Slot} {H : Heap} {locs : List Loc} {x : Int32} {S1 : StS}, decode cX1_takeAtFront pc = .ok (.ireturn, 1) → some (x, S1) = some q → va_P D vwCl (wS cI aS S1) H → va_D A (wS cI aS S1) → va_S A s.heap H locs → W p l e (rmL 3) s m args below meth c H locs 0 0 Q (F0 m pc ls [.int x]) := by
    intro pc ls H locs x S1 hd h hP hD hS; cases h; exact RET (x_iret C hd) hP hD hS
  have B56 : ∀ (x3 : Int32) (S : StS), bfX1_takeAtFront_56 p2 p3 x3 S = some q → ∀ (H : Heap) (locs : List Loc) (ls : Array Slot), va_P D vwCl (wS cI aS S) H → va_D A (wS cI aS S) → va_S A s.heap H locs → lv_has ls 4 [(0, .ref (aS 0)), (2, .int p3), (3, .int x3)] → W p l e (rmL 3) s m args below meth c H locs 0 0 Q (F0 m 56 ls []) := by
    intro x3 S h H locs ls hP hD hS hl
    refine x_aload_n C dX1_takeAtFront_56 rfl hl 0 rfl ?_
    refine x_get C inX2 hP 0 rfl rfl 6 (by decide) wf_X1_21 rfl dX1_takeAtFront_57 ?_
    refine x_iload_n C dX1_takeAtFront_60 rfl hl 1 rfl ?_
    refine x_callV (As := [.int _]) (n := 1) C (kS_drop l D cI cS aS _ 6 (by decide) _) (fun hh => nomatch hh) wm_X1_70 wi_X3_drop we_X3_drop wz_X3 wc_X3_drop (by decide +kernel) rfl hP hD hS hA 13 1 rfl rfl rfl hl.1 dX1_takeAtFront_61 rfl (Nat.le_of_ble_eq_true rfl) ⟨Nat.le_of_ble_eq_true rfl, Nat.le_of_ble_eq_true rfl⟩ ⟨Nat.zero_le _, Nat.zero_le _⟩ (fun H locs hP hD hS => ?_)
    refine x_nmS (wS cI aS) h hP hD (fun S6 h hP hD => ?_)
    refine x_iload_n C dX1_takeAtFront_64 rfl hl 2 rfl ?_
    exact RETh dX1_takeAtFront_65 h hP hD hS
  have B26 : ∀ (s0 : Int32) (S : StS), bfX1_takeAtFront_26 p2 p3 s0 S = some q → ∀ (H : Heap) (locs : List Loc) (ls : Array Slot), va_P D vwCl (wS cI aS S) H → va_D A (wS cI aS S) → va_S A s.heap H locs → lv_has ls 4 [(0, .ref (aS 0)), (1, .int p2), (2, .int p3)] → W p l e (rmL 3) s m args below meth c H locs 0 0 Q (F0 m 26 ls [.int s0]) := by
    intro s0 S h H locs ls hP hD hS hl
    refine x_istore_n (lv' := [(3, .int s0), (0, .ref (aS 0)), (1, .int p2), (2, .int p3)]) C dX1_takeAtFront_26 rfl hl (by decide) rfl (fun ls hl => ?_)
    refine x_iload_n C dX1_takeAtFront_27 rfl hl 0 rfl ?_
    refine x_bipush (v := (-9 : Int32)) C dX1_takeAtFront_28 (by decide) ?_
    refine x_icmp_ne (tgt := 56) C h dX1_takeAtFront_30 (by decide) (fun h => ?_) (fun h => ?_)
    · exact B56 _ _ h _ _ _ hP hD hS (lv_sub hl [1, 3, 0] rfl)
    · refine x_aload_n C dX1_takeAtFront_33 rfl hl 1 rfl ?_
      refine x_get C inX2 hP 0 rfl rfl 7 (by decide) wf_X1_59 rfl dX1_takeAtFront_34 ?_
      refine x_iload_n C dX1_takeAtFront_37 rfl hl 2 rfl ?_
      refine x_aload_n C dX1_takeAtFront_38 rfl hl 1 rfl ?_
      refine x_get C inX2 hP 0 rfl rfl 6 (by decide) wf_X1_21 rfl dX1_takeAtFront_39 ?_
      refine x_iload_n C dX1_takeAtFront_42 rfl hl 3 rfl ?_
      refine x_callV (As := [.int _, .ref _, .int _]) (n := 3) C (kS_copyRow l D cI cS aS _ _ _) (fun hh => nomatch hh) wm_X1_81 wi_X3_copyRow we_X3_copyRow wz_X3 wc_X3_copyRow (by decide +kernel) rfl hP hD hS hA 15 1 rfl rfl rfl hl.1 dX1_takeAtFront_43 rfl (Nat.le_of_ble_eq_true rfl) ⟨Nat.le_of_ble_eq_true rfl, Nat.le_of_ble_eq_true rfl⟩ ⟨Nat.zero_le _, Nat.zero_le _⟩ (fun H locs hP hD hS => ?_)
      refine x_nmS (wS cI aS) h hP hD (fun S7 h hP hD => ?_)
      refine x_aload_n C dX1_takeAtFront_46 rfl hl 1 rfl ?_
      refine x_get C inX2 hP 0 rfl rfl 7 (by decide) wf_X1_59 rfl dX1_takeAtFront_47 ?_
      refine x_iload_n C dX1_takeAtFront_50 rfl hl 2 rfl ?_
      refine x_iconst (v := (5 : Int32)) C dX1_takeAtFront_51 (by decide) ?_
      refine x_iconst (v := (2 : Int32)) C dX1_takeAtFront_52 (by decide) ?_
      refine x_callV (As := [.int _, .int _, .int _]) (n := 3) C (kS_put l D cI cS aS _ 7 (by decide) _ _ _) (fun hh => nomatch hh) wm_X1_28 wi_X3_put we_X3_put wz_X3 wc_X3_put (by decide +kernel) rfl hP hD hS hA 15 1 rfl rfl rfl hl.1 dX1_takeAtFront_53 rfl (Nat.le_of_ble_eq_true rfl) ⟨Nat.le_of_ble_eq_true rfl, Nat.le_of_ble_eq_true rfl⟩ ⟨Nat.zero_le _, Nat.zero_le _⟩ (fun H locs hP hD hS => ?_)
      refine x_nmS (wS cI aS) h hP hD (fun S8 h hP hD => ?_)
      exact B56 _ _ h _ _ _ hP hD hS (lv_sub hl [1, 3, 0] rfl)
  refine x_aload_n C dX1_takeAtFront_0 rfl hl 0 rfl ?_
  refine x_aload_n C dX1_takeAtFront_1 rfl hl 0 rfl ?_
  refine x_get C inX2 hP 0 rfl rfl 6 (by decide) wf_X1_21 rfl dX1_takeAtFront_2 ?_
  refine x_iload_n C dX1_takeAtFront_5 rfl hl 2 rfl ?_
  obtain ⟨u9, hu9, h⟩ := ob_some h
  refine x_callS (As := [.ref _, .ref _, .int _]) (n := 3) C (kX1_isHopeless_6 l D cI cS aS _ _ hu9) (fun hh => nomatch hh) wm_X1_74 wt_X1_isHopeless wz_X1 wc_X1_isHopeless (by decide +kernel) rfl hP hD hS hA hl.1 dX1_takeAtFront_6 rfl (Nat.le_of_ble_eq_true rfl) ⟨Nat.le_of_ble_eq_true rfl, Nat.le_of_ble_eq_true rfl⟩ ⟨Nat.zero_le _, Nat.zero_le _⟩ (fun H locs hP hD hS => ?_)
  refine x_if_eq (tgt := 24) C h dX1_takeAtFront_9 (by decide) (fun h => ?_) (fun h => ?_)
  · refine x_bipush (v := (-9 : Int32)) C dX1_takeAtFront_24 (by decide) ?_
    exact B26 _ _ h _ _ _ hP hD hS hl
  · refine x_aload_n C dX1_takeAtFront_12 rfl hl 0 rfl ?_
    refine x_get C inX2 hP 0 rfl rfl 6 (by decide) wf_X1_21 rfl dX1_takeAtFront_13 ?_
    refine x_iload_n C dX1_takeAtFront_16 rfl hl 2 rfl ?_
    refine x_iconst (v := (0 : Int32)) C dX1_takeAtFront_17 (by decide) ?_
    refine x_callV (As := [.int _, .int _]) (n := 2) C (kS_get l D cI cS aS _ 6 (by decide) _ _) (fun hh => nomatch hh) wm_X1_15 wi_X3_get we_X3_get wz_X3 wc_X3_get (by decide +kernel) rfl hP hD hS hA 13 1 rfl rfl rfl hl.1 dX1_takeAtFront_18 rfl (Nat.le_of_ble_eq_true rfl) ⟨Nat.le_of_ble_eq_true rfl, Nat.le_of_ble_eq_true rfl⟩ ⟨Nat.zero_le _, Nat.zero_le _⟩ (fun H locs hP hD hS => ?_)
    refine x_goto (tgt := 26) C dX1_takeAtFront_21 (by decide) ?_
    exact B26 _ _ h _ _ _ hP hD hS hl
theorem dX1_fillFrontWorkers_0 : decode cX1_fillFrontWorkers 0 = .ok (.aload_n 0, 1) := by decide +kernel
theorem dX1_fillFrontWorkers_1 : decode cX1_fillFrontWorkers 1 = .ok (.getfield 35, 3) := by decide +kernel
theorem dX1_fillFrontWorkers_4 : decode cX1_fillFrontWorkers 4 = .ok (.iconst 0, 1) := by decide +kernel
theorem dX1_fillFrontWorkers_5 : decode cX1_fillFrontWorkers 5 = .ok (.iconst 0, 1) := by decide +kernel
theorem dX1_fillFrontWorkers_6 : decode cX1_fillFrontWorkers 6 = .ok (.invokevirtual 15, 3) := by decide +kernel
theorem dX1_fillFrontWorkers_9 : decode cX1_fillFrontWorkers 9 = .ok (.istore_n 1, 1) := by decide +kernel
theorem dX1_fillFrontWorkers_10 : decode cX1_fillFrontWorkers 10 = .ok (.iconst 0, 1) := by decide +kernel
theorem dX1_fillFrontWorkers_11 : decode cX1_fillFrontWorkers 11 = .ok (.istore_n 2, 1) := by decide +kernel
theorem dX1_fillFrontWorkers_12 : decode cX1_fillFrontWorkers 12 = .ok (.iload_n 2, 1) := by decide +kernel
theorem dX1_fillFrontWorkers_13 : decode cX1_fillFrontWorkers 13 = .ok (.iload_n 1, 1) := by decide +kernel
theorem dX1_fillFrontWorkers_14 : decode cX1_fillFrontWorkers 14 = .ok (.if_icmp .ge 56, 3) := by decide +kernel
theorem dX1_fillFrontWorkers_17 : decode cX1_fillFrontWorkers 17 = .ok (.aload_n 0, 1) := by decide +kernel
theorem dX1_fillFrontWorkers_18 : decode cX1_fillFrontWorkers 18 = .ok (.getfield 21, 3) := by decide +kernel
theorem dX1_fillFrontWorkers_21 : decode cX1_fillFrontWorkers 21 = .ok (.invokevirtual 41, 3) := by decide +kernel
theorem dX1_fillFrontWorkers_24 : decode cX1_fillFrontWorkers 24 = .ok (.istore_n 3, 1) := by decide +kernel
theorem dX1_fillFrontWorkers_25 : decode cX1_fillFrontWorkers 25 = .ok (.iload_n 3, 1) := by decide +kernel
theorem dX1_fillFrontWorkers_26 : decode cX1_fillFrontWorkers 26 = .ok (.ifCond .le 38, 3) := by decide +kernel
theorem dX1_fillFrontWorkers_29 : decode cX1_fillFrontWorkers 29 = .ok (.aload_n 0, 1) := by decide +kernel
theorem dX1_fillFrontWorkers_30 : decode cX1_fillFrontWorkers 30 = .ok (.getfield 59, 3) := by decide +kernel
theorem dX1_fillFrontWorkers_33 : decode cX1_fillFrontWorkers 33 = .ok (.iload_n 2, 1) := by decide +kernel
theorem dX1_fillFrontWorkers_34 : decode cX1_fillFrontWorkers 34 = .ok (.iconst 0, 1) := by decide +kernel
theorem dX1_fillFrontWorkers_35 : decode cX1_fillFrontWorkers 35 = .ok (.invokevirtual 15, 3) := by decide +kernel
theorem dX1_fillFrontWorkers_38 : decode cX1_fillFrontWorkers 38 = .ok (.bipush (-9), 2) := by decide +kernel
theorem dX1_fillFrontWorkers_40 : decode cX1_fillFrontWorkers 40 = .ok (.if_icmp .ne 24, 3) := by decide +kernel
theorem dX1_fillFrontWorkers_43 : decode cX1_fillFrontWorkers 43 = .ok (.aload_n 0, 1) := by decide +kernel
theorem dX1_fillFrontWorkers_44 : decode cX1_fillFrontWorkers 44 = .ok (.aload_n 0, 1) := by decide +kernel
theorem dX1_fillFrontWorkers_45 : decode cX1_fillFrontWorkers 45 = .ok (.iload_n 2, 1) := by decide +kernel
theorem dX1_fillFrontWorkers_46 : decode cX1_fillFrontWorkers 46 = .ok (.aload_n 0, 1) := by decide +kernel
theorem dX1_fillFrontWorkers_47 : decode cX1_fillFrontWorkers 47 = .ok (.invokestatic 62, 3) := by decide +kernel
theorem dX1_fillFrontWorkers_50 : decode cX1_fillFrontWorkers 50 = .ok (.invokestatic 66, 3) := by decide +kernel
theorem dX1_fillFrontWorkers_53 : decode cX1_fillFrontWorkers 53 = .ok (.bipush 6, 2) := by decide +kernel
theorem dX1_fillFrontWorkers_55 : decode cX1_fillFrontWorkers 55 = .ok (.invokestatic 53, 3) := by decide +kernel
theorem dX1_fillFrontWorkers_58 : decode cX1_fillFrontWorkers 58 = .ok (.iinc 3 (-1), 3) := by decide +kernel
theorem dX1_fillFrontWorkers_61 : decode cX1_fillFrontWorkers 61 = .ok (.goto (-36), 3) := by decide +kernel
theorem dX1_fillFrontWorkers_64 : decode cX1_fillFrontWorkers 64 = .ok (.iinc 2 1, 3) := by decide +kernel
theorem dX1_fillFrontWorkers_67 : decode cX1_fillFrontWorkers 67 = .ok (.goto (-55), 3) := by decide +kernel
theorem dX1_fillFrontWorkers_70 : decode cX1_fillFrontWorkers 70 = .ok (.return_, 1) := by decide +kernel
def bfX1_fillFrontWorkers_64  (K12 : Int32 × Int32 × (StS) → Option (StS)) (x1 : Int32) (x2 : Int32) (S : StS) : Option (StS) :=
  K12 (x1, (x2 + (1 : Int32)), S)
def bfX1_fillFrontWorkers_25  (K12 : Int32 × Int32 × (StS) → Option (StS)) (K25 : Int32 × Int32 × Int32 × (StS) → Option (StS)) (x : Int32 × Int32 × Int32 × (StS)) : Option (StS) :=
  match x with
  | (x1, x2, x3, S) => (if x3 ≤ 0 then bfX1_fillFrontWorkers_64  K12 x1 x2 S else (if (sget 7 S x2 (0 : Int32)) = (-9 : Int32) then ob (fX1_nextInQueue S) fun u6 => ob (fX1_takeAtFront x2 u6 S) fun u7 => ob (fX0_fail u7.1 (6 : Int32) u7.2) fun u8 => K25 (x1, x2, (x3 + (-1 : Int32)), u8) else bfX1_fillFrontWorkers_64  K12 x1 x2 S))
def bfX1_fillFrontWorkers_12  (K12 : Int32 × Int32 × (StS) → Option (StS)) (x : Int32 × Int32 × (StS)) : Option (StS) :=
  match x with
  | (x1, x2, S) => (if x1 ≤ x2 then some S else nm ((ssize 6 S)) fun v9 => iter (bfX1_fillFrontWorkers_25  K12) FU (x1, x2, v9, S))
def fX1_fillFrontWorkers  (S : StS) : Option (StS) :=
  nm ((sget 3 S (0 : Int32) (0 : Int32))) fun v10 => iter (bfX1_fillFrontWorkers_12) FU (v10, (0 : Int32), S)
set_option maxHeartbeats 4000000 in
set_option maxRecDepth 100000 in
theorem kX1_fillFrontWorkers (l : Launch) (D : va_G) (cI cS : ClassId) (aS : Nat → Nat)  (S : StS) {q : StS} (h : fX1_fillFrontWorkers  S = some q) : Mc l D (tyL cI cS) false yX1_fillFrontWorkers cX1_fillFrontWorkers 4 none 4 [.ref (aS 0)] (wS cI aS S) none (wS cI aS q) := by
  refine Mc_of RX1 (by decide +kernel) rfl wc_X1_fillFrontWorkers (Nat.le_of_ble_eq_true rfl) ?_
  intro p e s m args below meth c A Q ls C hA hz hP hD hS hl RET
  have RETh : ∀ {pc : Nat} {ls : Array Slot} {H : Heap} {locs : List Loc} {S1 : StS}, decode cX1_fillFrontWorkers pc = .ok (.return_, 1) → some S1 = some q → va_P D vwCl (wS cI aS S1) H → va_D A (wS cI aS S1) → va_S A s.heap H locs → W p l e (rmL 4) s m args below meth c H locs 0 0 Q (F0 m pc ls []) := by
    intro pc ls H locs S1 hd h hP hD hS; cases h; exact RET (x_vret C hd) hP hD hS
  have B64 : ∀ (K12 : Int32 × Int32 × (StS) → Option (StS)) (ih12 : ∀ x, K12 x = some q → (match x with | (x1, x2, S) => ∀ (H : Heap) (locs : List Loc) (ls : Array Slot), va_P D vwCl (wS cI aS S) H → va_D A (wS cI aS S) → va_S A s.heap H locs → lv_has ls 4 [(0, .ref (aS 0)), (1, .int x1), (2, .int x2)] → W p l e (rmL 4) s m args below meth c H locs 0 0 Q (F0 m 12 ls []))) (x1 : Int32) (x2 : Int32) (S : StS), bfX1_fillFrontWorkers_64 K12 x1 x2 S = some q → ∀ (H : Heap) (locs : List Loc) (ls : Array Slot), va_P D vwCl (wS cI aS S) H → va_D A (wS cI aS S) → va_S A s.heap H locs → lv_has ls 4 [(0, .ref (aS 0)), (1, .int x1), (2, .int x2)] → W p l e (rmL 4) s m args below meth c H locs 0 0 Q (F0 m 64 ls []) := by
    intro K12 ih12 x1 x2 S h H locs ls hP hD hS hl
    refine x_iinc (v := (x2 + (1 : Int32))) (lv' := [(2, .int (x2 + (1 : Int32))), (0, .ref (aS 0)), (1, .int x1)]) C dX1_fillFrontWorkers_64 hl (k := 2) rfl rfl (by decide) rfl (fun ls hl => ?_)
    refine x_goto (tgt := 12) C dX1_fillFrontWorkers_67 (by decide) ?_
    exact ih12 _ h _ _ _ hP hD hS (lv_sub hl [1, 2, 0] rfl)
  have B25 : ∀ (K12 : Int32 × Int32 × (StS) → Option (StS)) (ih12 : ∀ x, K12 x = some q → (match x with | (x1, x2, S) => ∀ (H : Heap) (locs : List Loc) (ls : Array Slot), va_P D vwCl (wS cI aS S) H → va_D A (wS cI aS S) → va_S A s.heap H locs → lv_has ls 4 [(0, .ref (aS 0)), (1, .int x1), (2, .int x2)] → W p l e (rmL 4) s m args below meth c H locs 0 0 Q (F0 m 12 ls []))) (n : Nat) (x : Int32 × Int32 × Int32 × (StS)), iter (bfX1_fillFrontWorkers_25 K12) n x = some q → (match x with | (x1, x2, x3, S) => ∀ (H : Heap) (locs : List Loc) (ls : Array Slot), va_P D vwCl (wS cI aS S) H → va_D A (wS cI aS S) → va_S A s.heap H locs → lv_has ls 4 [(0, .ref (aS 0)), (1, .int x1), (2, .int x2), (3, .int x3)] → W p l e (rmL 4) s m args below meth c H locs 0 0 Q (F0 m 25 ls [])) := by
    intro K12 ih12
    refine iter_ind (fun x : Int32 × Int32 × Int32 × (StS) => (match x with | (x1, x2, x3, S) => ∀ (H : Heap) (locs : List Loc) (ls : Array Slot), va_P D vwCl (wS cI aS S) H → va_D A (wS cI aS S) → va_S A s.heap H locs → lv_has ls 4 [(0, .ref (aS 0)), (1, .int x1), (2, .int x2), (3, .int x3)] → W p l e (rmL 4) s m args below meth c H locs 0 0 Q (F0 m 25 ls []))) ?_
    intro K25 ih25 x h
    obtain ⟨x1, x2, x3, S⟩ := x
    intro H locs ls hP hD hS hl
    refine x_iload_n C dX1_fillFrontWorkers_25 rfl hl 3 rfl ?_
    refine x_if_le (tgt := 64) C h dX1_fillFrontWorkers_26 (by decide) (fun h => ?_) (fun h => ?_)
    · exact B64 K12 ih12 _ _ _ h _ _ _ hP hD hS (lv_sub hl [0, 1, 2] rfl)
    · refine x_aload_n C dX1_fillFrontWorkers_29 rfl hl 0 rfl ?_
      refine x_get C inX2 hP 0 rfl rfl 7 (by decide) wf_X1_59 rfl dX1_fillFrontWorkers_30 ?_
      refine x_iload_n C dX1_fillFrontWorkers_33 rfl hl 2 rfl ?_
      refine x_iconst (v := (0 : Int32)) C dX1_fillFrontWorkers_34 (by decide) ?_
      refine x_callV (As := [.int _, .int _]) (n := 2) C (kS_get l D cI cS aS _ 7 (by decide) _ _) (fun hh => nomatch hh) wm_X1_15 wi_X3_get we_X3_get wz_X3 wc_X3_get (by decide +kernel) rfl hP hD hS hA 15 1 rfl rfl rfl hl.1 dX1_fillFrontWorkers_35 rfl (Nat.le_of_ble_eq_true rfl) ⟨Nat.le_of_ble_eq_true rfl, Nat.le_of_ble_eq_true rfl⟩ ⟨Nat.zero_le _, Nat.zero_le _⟩ (fun H locs hP hD hS => ?_)
      refine x_bipush (v := (-9 : Int32)) C dX1_fillFrontWorkers_38 (by decide) ?_
      refine x_icmp_ne (tgt := 64) C h dX1_fillFrontWorkers_40 (by decide) (fun h => ?_) (fun h => ?_)
      · exact B64 K12 ih12 _ _ _ h _ _ _ hP hD hS (lv_sub hl [0, 1, 2] rfl)
      · refine x_aload_n C dX1_fillFrontWorkers_43 rfl hl 0 rfl ?_
        refine x_aload_n C dX1_fillFrontWorkers_44 rfl hl 0 rfl ?_
        refine x_iload_n C dX1_fillFrontWorkers_45 rfl hl 2 rfl ?_
        refine x_aload_n C dX1_fillFrontWorkers_46 rfl hl 0 rfl ?_
        obtain ⟨u6, hu6, h⟩ := ob_some h
        refine x_callS (As := [.ref _]) (n := 1) C (kX1_nextInQueue l D cI cS aS _ hu6) (fun hh => nomatch hh) wm_X1_62 wt_X1_nextInQueue wz_X1 wc_X1_nextInQueue (by decide +kernel) rfl hP hD hS hA hl.1 dX1_fillFrontWorkers_47 rfl (Nat.le_of_ble_eq_true rfl) ⟨Nat.le_of_ble_eq_true rfl, Nat.le_of_ble_eq_true rfl⟩ ⟨Nat.zero_le _, Nat.zero_le _⟩ (fun H locs hP hD hS => ?_)
        obtain ⟨u7, hu7, h⟩ := ob_some h
        refine x_callS (As := [.ref _, .int _, .int _]) (n := 3) C (kX1_takeAtFront l D cI cS aS _ _ _ hu7) (fun hh => nomatch hh) wm_X1_66 wt_X1_takeAtFront wz_X1 wc_X1_takeAtFront (by decide +kernel) rfl hP hD hS hA hl.1 dX1_fillFrontWorkers_50 rfl (Nat.le_of_ble_eq_true rfl) ⟨Nat.le_of_ble_eq_true rfl, Nat.le_of_ble_eq_true rfl⟩ ⟨Nat.zero_le _, Nat.zero_le _⟩ (fun H locs hP hD hS => ?_)
        refine x_bipush (v := (6 : Int32)) C dX1_fillFrontWorkers_53 (by decide) ?_
        obtain ⟨u8, hu8, h⟩ := ob_some h
        refine x_callS (As := [.ref _, .int _, .int _]) (n := 3) C (kX0_fail l D cI cS aS _ _ _ hu8) (fun hh => nomatch hh) wm_X1_53 wt_X0_fail wz_X0 wc_X0_fail (by decide +kernel) rfl hP hD hS hA hl.1 dX1_fillFrontWorkers_55 rfl (Nat.le_of_ble_eq_true rfl) ⟨Nat.le_of_ble_eq_true rfl, Nat.le_of_ble_eq_true rfl⟩ ⟨Nat.zero_le _, Nat.zero_le _⟩ (fun H locs hP hD hS => ?_)
        refine x_iinc (v := (x3 + (-1 : Int32))) (lv' := [(3, .int (x3 + (-1 : Int32))), (0, .ref (aS 0)), (1, .int x1), (2, .int x2)]) C dX1_fillFrontWorkers_58 hl (k := 3) rfl rfl (by decide) rfl (fun ls hl => ?_)
        refine x_goto (tgt := 25) C dX1_fillFrontWorkers_61 (by decide) ?_
        exact ih25 _ h _ _ _ hP hD hS (lv_sub hl [1, 2, 3, 0] rfl)
  have B12 : ∀ (n : Nat) (x : Int32 × Int32 × (StS)), iter (bfX1_fillFrontWorkers_12) n x = some q → (match x with | (x1, x2, S) => ∀ (H : Heap) (locs : List Loc) (ls : Array Slot), va_P D vwCl (wS cI aS S) H → va_D A (wS cI aS S) → va_S A s.heap H locs → lv_has ls 4 [(0, .ref (aS 0)), (1, .int x1), (2, .int x2)] → W p l e (rmL 4) s m args below meth c H locs 0 0 Q (F0 m 12 ls [])) := by
    refine iter_ind (fun x : Int32 × Int32 × (StS) => (match x with | (x1, x2, S) => ∀ (H : Heap) (locs : List Loc) (ls : Array Slot), va_P D vwCl (wS cI aS S) H → va_D A (wS cI aS S) → va_S A s.heap H locs → lv_has ls 4 [(0, .ref (aS 0)), (1, .int x1), (2, .int x2)] → W p l e (rmL 4) s m args below meth c H locs 0 0 Q (F0 m 12 ls []))) ?_
    intro K12 ih12 x h
    obtain ⟨x1, x2, S⟩ := x
    intro H locs ls hP hD hS hl
    refine x_iload_n C dX1_fillFrontWorkers_12 rfl hl 2 rfl ?_
    refine x_iload_n C dX1_fillFrontWorkers_13 rfl hl 1 rfl ?_
    refine x_icmp_ge (tgt := 70) C h dX1_fillFrontWorkers_14 (by decide) (fun h => ?_) (fun h => ?_)
    · exact RETh dX1_fillFrontWorkers_70 h hP hD hS
    · refine x_aload_n C dX1_fillFrontWorkers_17 rfl hl 0 rfl ?_
      refine x_get C inX2 hP 0 rfl rfl 6 (by decide) wf_X1_21 rfl dX1_fillFrontWorkers_18 ?_
      refine x_callV (As := []) (n := 0) C (kS_size l D cI cS aS _ 6 (by decide)) (fun hh => nomatch hh) wm_X1_41 wi_X3_size we_X3_size wz_X3 wc_X3_size (by decide +kernel) rfl hP hD hS hA 13 1 rfl rfl rfl hl.1 dX1_fillFrontWorkers_21 rfl (Nat.le_of_ble_eq_true rfl) ⟨Nat.le_of_ble_eq_true rfl, Nat.le_of_ble_eq_true rfl⟩ ⟨Nat.zero_le _, Nat.zero_le _⟩ (fun H locs hP hD hS => ?_)
      refine x_nmi h (fun v9 h => ?_)
      refine x_istore_n (lv' := [(3, .int v9), (0, .ref (aS 0)), (1, .int x1), (2, .int x2)]) C dX1_fillFrontWorkers_24 rfl hl (by decide) rfl (fun ls hl => ?_)
      exact B25 K12 ih12 FU _ h _ _ _ hP hD hS (lv_sub hl [1, 2, 3, 0] rfl)
  refine x_aload_n C dX1_fillFrontWorkers_0 rfl hl 0 rfl ?_
  refine x_get C inX2 hP 0 rfl rfl 3 (by decide) wf_X1_35 rfl dX1_fillFrontWorkers_1 ?_
  refine x_iconst (v := (0 : Int32)) C dX1_fillFrontWorkers_4 (by decide) ?_
  refine x_iconst (v := (0 : Int32)) C dX1_fillFrontWorkers_5 (by decide) ?_
  refine x_callV (As := [.int _, .int _]) (n := 2) C (kS_get l D cI cS aS _ 3 (by decide) _ _) (fun hh => nomatch hh) wm_X1_15 wi_X3_get we_X3_get wz_X3 wc_X3_get (by decide +kernel) rfl hP hD hS hA 7 1 rfl rfl rfl hl.1 dX1_fillFrontWorkers_6 rfl (Nat.le_of_ble_eq_true rfl) ⟨Nat.le_of_ble_eq_true rfl, Nat.le_of_ble_eq_true rfl⟩ ⟨Nat.zero_le _, Nat.zero_le _⟩ (fun H locs hP hD hS => ?_)
  refine x_nmi h (fun v10 h => ?_)
  refine x_istore_n (lv' := [(1, .int v10), (0, .ref (aS 0))]) C dX1_fillFrontWorkers_9 rfl hl (by decide) rfl (fun ls hl => ?_)
  refine x_iconst (v := (0 : Int32)) C dX1_fillFrontWorkers_10 (by decide) ?_
  refine x_istore_n (lv' := [(2, .int (0 : Int32)), (1, .int v10), (0, .ref (aS 0))]) C dX1_fillFrontWorkers_11 rfl hl (by decide) rfl (fun ls hl => ?_)
  exact B12 FU _ h _ _ _ hP hD hS (lv_sub hl [2, 1, 0] rfl)
theorem dX1_work_0 : decode cX1_work 0 = .ok (.iconst 0, 1) := by decide +kernel
theorem dX1_work_1 : decode cX1_work 1 = .ok (.istore_n 1, 1) := by decide +kernel
theorem dX1_work_2 : decode cX1_work 2 = .ok (.iload_n 1, 1) := by decide +kernel
theorem dX1_work_3 : decode cX1_work 3 = .ok (.iconst 4, 1) := by decide +kernel
theorem dX1_work_4 : decode cX1_work 4 = .ok (.if_icmp .ge 82, 3) := by decide +kernel
theorem dX1_work_7 : decode cX1_work 7 = .ok (.aload_n 0, 1) := by decide +kernel
theorem dX1_work_8 : decode cX1_work 8 = .ok (.getfield 59, 3) := by decide +kernel
theorem dX1_work_11 : decode cX1_work 11 = .ok (.iload_n 1, 1) := by decide +kernel
theorem dX1_work_12 : decode cX1_work 12 = .ok (.iconst 5, 1) := by decide +kernel
theorem dX1_work_13 : decode cX1_work 13 = .ok (.invokevirtual 15, 3) := by decide +kernel
theorem dX1_work_16 : decode cX1_work 16 = .ok (.istore_n 2, 1) := by decide +kernel
theorem dX1_work_17 : decode cX1_work 17 = .ok (.aload_n 0, 1) := by decide +kernel
theorem dX1_work_18 : decode cX1_work 18 = .ok (.getfield 59, 3) := by decide +kernel
theorem dX1_work_21 : decode cX1_work 21 = .ok (.iload_n 1, 1) := by decide +kernel
theorem dX1_work_22 : decode cX1_work 22 = .ok (.iconst 0, 1) := by decide +kernel
theorem dX1_work_23 : decode cX1_work 23 = .ok (.invokevirtual 15, 3) := by decide +kernel
theorem dX1_work_26 : decode cX1_work 26 = .ok (.bipush (-9), 2) := by decide +kernel
theorem dX1_work_28 : decode cX1_work 28 = .ok (.if_icmp .eq 7, 3) := by decide +kernel
theorem dX1_work_31 : decode cX1_work 31 = .ok (.iconst 1, 1) := by decide +kernel
theorem dX1_work_32 : decode cX1_work 32 = .ok (.goto 4, 3) := by decide +kernel
theorem dX1_work_35 : decode cX1_work 35 = .ok (.iconst 0, 1) := by decide +kernel
theorem dX1_work_36 : decode cX1_work 36 = .ok (.istore_n 3, 1) := by decide +kernel
theorem dX1_work_37 : decode cX1_work 37 = .ok (.iload_n 3, 1) := by decide +kernel
theorem dX1_work_38 : decode cX1_work 38 = .ok (.ifCond .eq 42, 3) := by decide +kernel
theorem dX1_work_41 : decode cX1_work 41 = .ok (.iload_n 2, 1) := by decide +kernel
theorem dX1_work_42 : decode cX1_work 42 = .ok (.iconst 2, 1) := by decide +kernel
theorem dX1_work_43 : decode cX1_work 43 = .ok (.if_icmp .eq 8, 3) := by decide +kernel
theorem dX1_work_46 : decode cX1_work 46 = .ok (.iload_n 2, 1) := by decide +kernel
theorem dX1_work_47 : decode cX1_work 47 = .ok (.iconst 4, 1) := by decide +kernel
theorem dX1_work_48 : decode cX1_work 48 = .ok (.if_icmp .ne 32, 3) := by decide +kernel
theorem dX1_work_51 : decode cX1_work 51 = .ok (.aload_n 0, 1) := by decide +kernel
theorem dX1_work_52 : decode cX1_work 52 = .ok (.getfield 59, 3) := by decide +kernel
theorem dX1_work_55 : decode cX1_work 55 = .ok (.iload_n 1, 1) := by decide +kernel
theorem dX1_work_56 : decode cX1_work 56 = .ok (.iload_n 2, 1) := by decide +kernel
theorem dX1_work_57 : decode cX1_work 57 = .ok (.iconst 2, 1) := by decide +kernel
theorem dX1_work_58 : decode cX1_work 58 = .ok (.if_icmp .ne 7, 3) := by decide +kernel
theorem dX1_work_61 : decode cX1_work 61 = .ok (.iconst 2, 1) := by decide +kernel
theorem dX1_work_62 : decode cX1_work 62 = .ok (.goto 4, 3) := by decide +kernel
theorem dX1_work_65 : decode cX1_work 65 = .ok (.iconst 3, 1) := by decide +kernel
theorem dX1_work_66 : decode cX1_work 66 = .ok (.iconst (-1), 1) := by decide +kernel
theorem dX1_work_67 : decode cX1_work 67 = .ok (.invokevirtual 104, 3) := by decide +kernel
theorem dX1_work_70 : decode cX1_work 70 = .ok (.aload_n 0, 1) := by decide +kernel
theorem dX1_work_71 : decode cX1_work 71 = .ok (.getfield 59, 3) := by decide +kernel
theorem dX1_work_74 : decode cX1_work 74 = .ok (.iload_n 1, 1) := by decide +kernel
theorem dX1_work_75 : decode cX1_work 75 = .ok (.iconst 4, 1) := by decide +kernel
theorem dX1_work_76 : decode cX1_work 76 = .ok (.iconst 1, 1) := by decide +kernel
theorem dX1_work_77 : decode cX1_work 77 = .ok (.invokevirtual 104, 3) := by decide +kernel
theorem dX1_work_80 : decode cX1_work 80 = .ok (.iinc 1 1, 3) := by decide +kernel
theorem dX1_work_83 : decode cX1_work 83 = .ok (.goto (-81), 3) := by decide +kernel
theorem dX1_work_86 : decode cX1_work 86 = .ok (.return_, 1) := by decide +kernel
def bfX1_work_80  (K2 : Int32 × (StS) → Option (StS)) (x1 : Int32) (S : StS) : Option (StS) :=
  K2 ((x1 + (1 : Int32)), S)
def bfX1_work_66  (K2 : Int32 × (StS) → Option (StS)) (x1 : Int32) (s1 : Int32) (s2 : Int32) (S : StS) : Option (StS) :=
  nm (sadd 7 S s1 s2 (-1 : Int32)) fun S4 => nm (sadd 7 S4 x1 (4 : Int32) (1 : Int32)) fun S5 => bfX1_work_80  K2 x1 S5
def bfX1_work_51  (K2 : Int32 × (StS) → Option (StS)) (x1 : Int32) (x2 : Int32) (S : StS) : Option (StS) :=
  (if x2 = (2 : Int32) then bfX1_work_66  K2 x1 x1 ((2 : Int32)) S else bfX1_work_66  K2 x1 x1 ((3 : Int32)) S)
def bfX1_work_36  (K2 : Int32 × (StS) → Option (StS)) (x1 : Int32) (x2 : Int32) (s0 : Int32) (S : StS) : Option (StS) :=
  (if s0 = 0 then bfX1_work_80  K2 x1 S else (if x2 = (2 : Int32) then bfX1_work_51  K2 x1 x2 S else (if x2 = (4 : Int32) then bfX1_work_51  K2 x1 x2 S else bfX1_work_80  K2 x1 S)))
def bfX1_work_2  (K2 : Int32 × (StS) → Option (StS)) (x : Int32 × (StS)) : Option (StS) :=
  match x with
  | (x1, S) => (if (4 : Int32) ≤ x1 then some S else nm ((sget 7 S x1 (5 : Int32))) fun v6 => (if (sget 7 S x1 (0 : Int32)) = (-9 : Int32) then bfX1_work_36  K2 x1 v6 ((0 : Int32)) S else bfX1_work_36  K2 x1 v6 ((1 : Int32)) S))
def fX1_work  (S : StS) : Option (StS) :=
  iter (bfX1_work_2) FU ((0 : Int32), S)
set_option maxHeartbeats 4000000 in
set_option maxRecDepth 100000 in
theorem kX1_work (l : Launch) (D : va_G) (cI cS : ClassId) (aS : Nat → Nat)  (S : StS) {q : StS} (h : fX1_work  S = some q) : Mc l D (tyL cI cS) false yX1_work cX1_work 4 none 3 [.ref (aS 0)] (wS cI aS S) none (wS cI aS q) := by
  refine Mc_of RX1 (by decide +kernel) rfl wc_X1_work (Nat.le_of_ble_eq_true rfl) ?_
  intro p e s m args below meth c A Q ls C hA hz hP hD hS hl RET
  have RETh : ∀ {pc : Nat} {ls : Array Slot} {H : Heap} {locs : List Loc} {S1 : StS}, decode cX1_work pc = .ok (.return_, 1) → some S1 = some q → va_P D vwCl (wS cI aS S1) H → va_D A (wS cI aS S1) → va_S A s.heap H locs → W p l e (rmL 3) s m args below meth c H locs 0 0 Q (F0 m pc ls []) := by
    intro pc ls H locs S1 hd h hP hD hS; cases h; exact RET (x_vret C hd) hP hD hS
  have B80 : ∀ (K2 : Int32 × (StS) → Option (StS)) (ih2 : ∀ x, K2 x = some q → (match x with | (x1, S) => ∀ (H : Heap) (locs : List Loc) (ls : Array Slot), va_P D vwCl (wS cI aS S) H → va_D A (wS cI aS S) → va_S A s.heap H locs → lv_has ls 4 [(0, .ref (aS 0)), (1, .int x1)] → W p l e (rmL 3) s m args below meth c H locs 0 0 Q (F0 m 2 ls []))) (x1 : Int32) (S : StS), bfX1_work_80 K2 x1 S = some q → ∀ (H : Heap) (locs : List Loc) (ls : Array Slot), va_P D vwCl (wS cI aS S) H → va_D A (wS cI aS S) → va_S A s.heap H locs → lv_has ls 4 [(0, .ref (aS 0)), (1, .int x1)] → W p l e (rmL 3) s m args below meth c H locs 0 0 Q (F0 m 80 ls []) := by
    intro K2 ih2 x1 S h H locs ls hP hD hS hl
    refine x_iinc (v := (x1 + (1 : Int32))) (lv' := [(1, .int (x1 + (1 : Int32))), (0, .ref (aS 0))]) C dX1_work_80 hl (k := 1) rfl rfl (by decide) rfl (fun ls hl => ?_)
    refine x_goto (tgt := 2) C dX1_work_83 (by decide) ?_
    exact ih2 _ h _ _ _ hP hD hS (lv_sub hl [1, 0] rfl)
  have B66 : ∀ (K2 : Int32 × (StS) → Option (StS)) (ih2 : ∀ x, K2 x = some q → (match x with | (x1, S) => ∀ (H : Heap) (locs : List Loc) (ls : Array Slot), va_P D vwCl (wS cI aS S) H → va_D A (wS cI aS S) → va_S A s.heap H locs → lv_has ls 4 [(0, .ref (aS 0)), (1, .int x1)] → W p l e (rmL 3) s m args below meth c H locs 0 0 Q (F0 m 2 ls []))) (x1 : Int32) (s1 : Int32) (s2 : Int32) (S : StS), bfX1_work_66 K2 x1 s1 s2 S = some q → ∀ (H : Heap) (locs : List Loc) (ls : Array Slot), va_P D vwCl (wS cI aS S) H → va_D A (wS cI aS S) → va_S A s.heap H locs → lv_has ls 4 [(0, .ref (aS 0)), (1, .int x1)] → W p l e (rmL 3) s m args below meth c H locs 0 0 Q (F0 m 66 ls [.int s2, .int s1, .ref (aS 15)]) := by
    intro K2 ih2 x1 s1 s2 S h H locs ls hP hD hS hl
    refine x_iconst (v := (-1 : Int32)) C dX1_work_66 (by decide) ?_
    refine x_callV (As := [.int _, .int _, .int _]) (n := 3) C (kS_add l D cI cS aS _ 7 (by decide) _ _ _) (fun hh => nomatch hh) wm_X1_104 wi_X3_add we_X3_add wz_X3 wc_X3_add (by decide +kernel) rfl hP hD hS hA 15 1 rfl rfl rfl hl.1 dX1_work_67 rfl (Nat.le_of_ble_eq_true rfl) ⟨Nat.le_of_ble_eq_true rfl, Nat.le_of_ble_eq_true rfl⟩ ⟨Nat.zero_le _, Nat.zero_le _⟩ (fun H locs hP hD hS => ?_)
    refine x_nmS (wS cI aS) h hP hD (fun S4 h hP hD => ?_)
    refine x_aload_n C dX1_work_70 rfl hl 0 rfl ?_
    refine x_get C inX2 hP 0 rfl rfl 7 (by decide) wf_X1_59 rfl dX1_work_71 ?_
    refine x_iload_n C dX1_work_74 rfl hl 1 rfl ?_
    refine x_iconst (v := (4 : Int32)) C dX1_work_75 (by decide) ?_
    refine x_iconst (v := (1 : Int32)) C dX1_work_76 (by decide) ?_
    refine x_callV (As := [.int _, .int _, .int _]) (n := 3) C (kS_add l D cI cS aS _ 7 (by decide) _ _ _) (fun hh => nomatch hh) wm_X1_104 wi_X3_add we_X3_add wz_X3 wc_X3_add (by decide +kernel) rfl hP hD hS hA 15 1 rfl rfl rfl hl.1 dX1_work_77 rfl (Nat.le_of_ble_eq_true rfl) ⟨Nat.le_of_ble_eq_true rfl, Nat.le_of_ble_eq_true rfl⟩ ⟨Nat.zero_le _, Nat.zero_le _⟩ (fun H locs hP hD hS => ?_)
    refine x_nmS (wS cI aS) h hP hD (fun S5 h hP hD => ?_)
    exact B80 K2 ih2 _ _ h _ _ _ hP hD hS hl
  have B51 : ∀ (K2 : Int32 × (StS) → Option (StS)) (ih2 : ∀ x, K2 x = some q → (match x with | (x1, S) => ∀ (H : Heap) (locs : List Loc) (ls : Array Slot), va_P D vwCl (wS cI aS S) H → va_D A (wS cI aS S) → va_S A s.heap H locs → lv_has ls 4 [(0, .ref (aS 0)), (1, .int x1)] → W p l e (rmL 3) s m args below meth c H locs 0 0 Q (F0 m 2 ls []))) (x1 : Int32) (x2 : Int32) (S : StS), bfX1_work_51 K2 x1 x2 S = some q → ∀ (H : Heap) (locs : List Loc) (ls : Array Slot), va_P D vwCl (wS cI aS S) H → va_D A (wS cI aS S) → va_S A s.heap H locs → lv_has ls 4 [(0, .ref (aS 0)), (1, .int x1), (2, .int x2)] → W p l e (rmL 3) s m args below meth c H locs 0 0 Q (F0 m 51 ls []) := by
    intro K2 ih2 x1 x2 S h H locs ls hP hD hS hl
    refine x_aload_n C dX1_work_51 rfl hl 0 rfl ?_
    refine x_get C inX2 hP 0 rfl rfl 7 (by decide) wf_X1_59 rfl dX1_work_52 ?_
    refine x_iload_n C dX1_work_55 rfl hl 1 rfl ?_
    refine x_iload_n C dX1_work_56 rfl hl 2 rfl ?_
    refine x_iconst (v := (2 : Int32)) C dX1_work_57 (by decide) ?_
    refine x_icmp_ne (tgt := 65) C h dX1_work_58 (by decide) (fun h => ?_) (fun h => ?_)
    · refine x_iconst (v := (3 : Int32)) C dX1_work_65 (by decide) ?_
      exact B66 K2 ih2 _ _ _ _ h _ _ _ hP hD hS (lv_sub hl [0, 1] rfl)
    · refine x_iconst (v := (2 : Int32)) C dX1_work_61 (by decide) ?_
      refine x_goto (tgt := 66) C dX1_work_62 (by decide) ?_
      exact B66 K2 ih2 _ _ _ _ h _ _ _ hP hD hS (lv_sub hl [0, 1] rfl)
  have B36 : ∀ (K2 : Int32 × (StS) → Option (StS)) (ih2 : ∀ x, K2 x = some q → (match x with | (x1, S) => ∀ (H : Heap) (locs : List Loc) (ls : Array Slot), va_P D vwCl (wS cI aS S) H → va_D A (wS cI aS S) → va_S A s.heap H locs → lv_has ls 4 [(0, .ref (aS 0)), (1, .int x1)] → W p l e (rmL 3) s m args below meth c H locs 0 0 Q (F0 m 2 ls []))) (x1 : Int32) (x2 : Int32) (s0 : Int32) (S : StS), bfX1_work_36 K2 x1 x2 s0 S = some q → ∀ (H : Heap) (locs : List Loc) (ls : Array Slot), va_P D vwCl (wS cI aS S) H → va_D A (wS cI aS S) → va_S A s.heap H locs → lv_has ls 4 [(0, .ref (aS 0)), (1, .int x1), (2, .int x2)] → W p l e (rmL 3) s m args below meth c H locs 0 0 Q (F0 m 36 ls [.int s0]) := by
    intro K2 ih2 x1 x2 s0 S h H locs ls hP hD hS hl
    refine x_istore_n (lv' := [(3, .int s0), (0, .ref (aS 0)), (1, .int x1), (2, .int x2)]) C dX1_work_36 rfl hl (by decide) rfl (fun ls hl => ?_)
    refine x_iload_n C dX1_work_37 rfl hl 0 rfl ?_
    refine x_if_eq (tgt := 80) C h dX1_work_38 (by decide) (fun h => ?_) (fun h => ?_)
    · exact B80 K2 ih2 _ _ h _ _ _ hP hD hS (lv_sub hl [1, 2] rfl)
    · refine x_iload_n C dX1_work_41 rfl hl 3 rfl ?_
      refine x_iconst (v := (2 : Int32)) C dX1_work_42 (by decide) ?_
      refine x_icmp_eq (tgt := 51) C h dX1_work_43 (by decide) (fun h => ?_) (fun h => ?_)
      · exact B51 K2 ih2 _ _ _ h _ _ _ hP hD hS (lv_sub hl [1, 2, 3] rfl)
      · refine x_iload_n C dX1_work_46 rfl hl 3 rfl ?_
        refine x_iconst (v := (4 : Int32)) C dX1_work_47 (by decide) ?_
        refine x_icmp_ne (tgt := 80) C h dX1_work_48 (by decide) (fun h => ?_) (fun h => ?_)
        · exact B80 K2 ih2 _ _ h _ _ _ hP hD hS (lv_sub hl [1, 2] rfl)
        · exact B51 K2 ih2 _ _ _ h _ _ _ hP hD hS (lv_sub hl [1, 2, 3] rfl)
  have B2 : ∀ (n : Nat) (x : Int32 × (StS)), iter (bfX1_work_2) n x = some q → (match x with | (x1, S) => ∀ (H : Heap) (locs : List Loc) (ls : Array Slot), va_P D vwCl (wS cI aS S) H → va_D A (wS cI aS S) → va_S A s.heap H locs → lv_has ls 4 [(0, .ref (aS 0)), (1, .int x1)] → W p l e (rmL 3) s m args below meth c H locs 0 0 Q (F0 m 2 ls [])) := by
    refine iter_ind (fun x : Int32 × (StS) => (match x with | (x1, S) => ∀ (H : Heap) (locs : List Loc) (ls : Array Slot), va_P D vwCl (wS cI aS S) H → va_D A (wS cI aS S) → va_S A s.heap H locs → lv_has ls 4 [(0, .ref (aS 0)), (1, .int x1)] → W p l e (rmL 3) s m args below meth c H locs 0 0 Q (F0 m 2 ls []))) ?_
    intro K2 ih2 x h
    obtain ⟨x1, S⟩ := x
    intro H locs ls hP hD hS hl
    refine x_iload_n C dX1_work_2 rfl hl 1 rfl ?_
    refine x_iconst (v := (4 : Int32)) C dX1_work_3 (by decide) ?_
    refine x_icmp_ge (tgt := 86) C h dX1_work_4 (by decide) (fun h => ?_) (fun h => ?_)
    · exact RETh dX1_work_86 h hP hD hS
    · refine x_aload_n C dX1_work_7 rfl hl 0 rfl ?_
      refine x_get C inX2 hP 0 rfl rfl 7 (by decide) wf_X1_59 rfl dX1_work_8 ?_
      refine x_iload_n C dX1_work_11 rfl hl 1 rfl ?_
      refine x_iconst (v := (5 : Int32)) C dX1_work_12 (by decide) ?_
      refine x_callV (As := [.int _, .int _]) (n := 2) C (kS_get l D cI cS aS _ 7 (by decide) _ _) (fun hh => nomatch hh) wm_X1_15 wi_X3_get we_X3_get wz_X3 wc_X3_get (by decide +kernel) rfl hP hD hS hA 15 1 rfl rfl rfl hl.1 dX1_work_13 rfl (Nat.le_of_ble_eq_true rfl) ⟨Nat.le_of_ble_eq_true rfl, Nat.le_of_ble_eq_true rfl⟩ ⟨Nat.zero_le _, Nat.zero_le _⟩ (fun H locs hP hD hS => ?_)
      refine x_nmi h (fun v6 h => ?_)
      refine x_istore_n (lv' := [(2, .int v6), (0, .ref (aS 0)), (1, .int x1)]) C dX1_work_16 rfl hl (by decide) rfl (fun ls hl => ?_)
      refine x_aload_n C dX1_work_17 rfl hl 1 rfl ?_
      refine x_get C inX2 hP 0 rfl rfl 7 (by decide) wf_X1_59 rfl dX1_work_18 ?_
      refine x_iload_n C dX1_work_21 rfl hl 2 rfl ?_
      refine x_iconst (v := (0 : Int32)) C dX1_work_22 (by decide) ?_
      refine x_callV (As := [.int _, .int _]) (n := 2) C (kS_get l D cI cS aS _ 7 (by decide) _ _) (fun hh => nomatch hh) wm_X1_15 wi_X3_get we_X3_get wz_X3 wc_X3_get (by decide +kernel) rfl hP hD hS hA 15 1 rfl rfl rfl hl.1 dX1_work_23 rfl (Nat.le_of_ble_eq_true rfl) ⟨Nat.le_of_ble_eq_true rfl, Nat.le_of_ble_eq_true rfl⟩ ⟨Nat.zero_le _, Nat.zero_le _⟩ (fun H locs hP hD hS => ?_)
      refine x_bipush (v := (-9 : Int32)) C dX1_work_26 (by decide) ?_
      refine x_icmp_eq (tgt := 35) C h dX1_work_28 (by decide) (fun h => ?_) (fun h => ?_)
      · refine x_iconst (v := (0 : Int32)) C dX1_work_35 (by decide) ?_
        exact B36 K2 ih2 _ _ _ _ h _ _ _ hP hD hS (lv_sub hl [1, 2, 0] rfl)
      · refine x_iconst (v := (1 : Int32)) C dX1_work_31 (by decide) ?_
        refine x_goto (tgt := 36) C dX1_work_32 (by decide) ?_
        exact B36 K2 ih2 _ _ _ _ h _ _ _ hP hD hS (lv_sub hl [1, 2, 0] rfl)
  refine x_iconst (v := (0 : Int32)) C dX1_work_0 (by decide) ?_
  refine x_istore_n (lv' := [(1, .int (0 : Int32)), (0, .ref (aS 0))]) C dX1_work_1 rfl hl (by decide) rfl (fun ls hl => ?_)
  exact B2 FU _ h _ _ _ hP hD hS (lv_sub hl [1, 0] rfl)
theorem dX2_copyFrom_0 : decode cX2_copyFrom 0 = .ok (.aload_n 0, 1) := by decide +kernel
theorem dX2_copyFrom_1 : decode cX2_copyFrom 1 = .ok (.getfield 14, 3) := by decide +kernel
theorem dX2_copyFrom_4 : decode cX2_copyFrom 4 = .ok (.aload_n 1, 1) := by decide +kernel
theorem dX2_copyFrom_5 : decode cX2_copyFrom 5 = .ok (.getfield 14, 3) := by decide +kernel
theorem dX2_copyFrom_8 : decode cX2_copyFrom 8 = .ok (.invokevirtual 65, 3) := by decide +kernel
theorem dX2_copyFrom_11 : decode cX2_copyFrom 11 = .ok (.aload_n 0, 1) := by decide +kernel
theorem dX2_copyFrom_12 : decode cX2_copyFrom 12 = .ok (.getfield 20, 3) := by decide +kernel
theorem dX2_copyFrom_15 : decode cX2_copyFrom 15 = .ok (.aload_n 1, 1) := by decide +kernel
theorem dX2_copyFrom_16 : decode cX2_copyFrom 16 = .ok (.getfield 20, 3) := by decide +kernel
theorem dX2_copyFrom_19 : decode cX2_copyFrom 19 = .ok (.invokevirtual 65, 3) := by decide +kernel
theorem dX2_copyFrom_22 : decode cX2_copyFrom 22 = .ok (.aload_n 0, 1) := by decide +kernel
theorem dX2_copyFrom_23 : decode cX2_copyFrom 23 = .ok (.getfield 23, 3) := by decide +kernel
theorem dX2_copyFrom_26 : decode cX2_copyFrom 26 = .ok (.aload_n 1, 1) := by decide +kernel
theorem dX2_copyFrom_27 : decode cX2_copyFrom 27 = .ok (.getfield 23, 3) := by decide +kernel
theorem dX2_copyFrom_30 : decode cX2_copyFrom 30 = .ok (.invokevirtual 65, 3) := by decide +kernel
theorem dX2_copyFrom_33 : decode cX2_copyFrom 33 = .ok (.aload_n 0, 1) := by decide +kernel
theorem dX2_copyFrom_34 : decode cX2_copyFrom 34 = .ok (.getfield 26, 3) := by decide +kernel
theorem dX2_copyFrom_37 : decode cX2_copyFrom 37 = .ok (.aload_n 1, 1) := by decide +kernel
theorem dX2_copyFrom_38 : decode cX2_copyFrom 38 = .ok (.getfield 26, 3) := by decide +kernel
theorem dX2_copyFrom_41 : decode cX2_copyFrom 41 = .ok (.invokevirtual 65, 3) := by decide +kernel
theorem dX2_copyFrom_44 : decode cX2_copyFrom 44 = .ok (.aload_n 0, 1) := by decide +kernel
theorem dX2_copyFrom_45 : decode cX2_copyFrom 45 = .ok (.getfield 29, 3) := by decide +kernel
theorem dX2_copyFrom_48 : decode cX2_copyFrom 48 = .ok (.aload_n 1, 1) := by decide +kernel
theorem dX2_copyFrom_49 : decode cX2_copyFrom 49 = .ok (.getfield 29, 3) := by decide +kernel
theorem dX2_copyFrom_52 : decode cX2_copyFrom 52 = .ok (.invokevirtual 65, 3) := by decide +kernel
theorem dX2_copyFrom_55 : decode cX2_copyFrom 55 = .ok (.aload_n 0, 1) := by decide +kernel
theorem dX2_copyFrom_56 : decode cX2_copyFrom 56 = .ok (.getfield 32, 3) := by decide +kernel
theorem dX2_copyFrom_59 : decode cX2_copyFrom 59 = .ok (.aload_n 1, 1) := by decide +kernel
theorem dX2_copyFrom_60 : decode cX2_copyFrom 60 = .ok (.getfield 32, 3) := by decide +kernel
theorem dX2_copyFrom_63 : decode cX2_copyFrom 63 = .ok (.invokevirtual 65, 3) := by decide +kernel
theorem dX2_copyFrom_66 : decode cX2_copyFrom 66 = .ok (.aload_n 0, 1) := by decide +kernel
theorem dX2_copyFrom_67 : decode cX2_copyFrom 67 = .ok (.getfield 35, 3) := by decide +kernel
theorem dX2_copyFrom_70 : decode cX2_copyFrom 70 = .ok (.aload_n 1, 1) := by decide +kernel
theorem dX2_copyFrom_71 : decode cX2_copyFrom 71 = .ok (.getfield 35, 3) := by decide +kernel
theorem dX2_copyFrom_74 : decode cX2_copyFrom 74 = .ok (.invokevirtual 65, 3) := by decide +kernel
theorem dX2_copyFrom_77 : decode cX2_copyFrom 77 = .ok (.aload_n 0, 1) := by decide +kernel
theorem dX2_copyFrom_78 : decode cX2_copyFrom 78 = .ok (.getfield 38, 3) := by decide +kernel
theorem dX2_copyFrom_81 : decode cX2_copyFrom 81 = .ok (.aload_n 1, 1) := by decide +kernel
theorem dX2_copyFrom_82 : decode cX2_copyFrom 82 = .ok (.getfield 38, 3) := by decide +kernel
theorem dX2_copyFrom_85 : decode cX2_copyFrom 85 = .ok (.invokevirtual 65, 3) := by decide +kernel
theorem dX2_copyFrom_88 : decode cX2_copyFrom 88 = .ok (.aload_n 0, 1) := by decide +kernel
theorem dX2_copyFrom_89 : decode cX2_copyFrom 89 = .ok (.getfield 41, 3) := by decide +kernel
theorem dX2_copyFrom_92 : decode cX2_copyFrom 92 = .ok (.aload_n 1, 1) := by decide +kernel
theorem dX2_copyFrom_93 : decode cX2_copyFrom 93 = .ok (.getfield 41, 3) := by decide +kernel
theorem dX2_copyFrom_96 : decode cX2_copyFrom 96 = .ok (.invokevirtual 65, 3) := by decide +kernel
theorem dX2_copyFrom_99 : decode cX2_copyFrom 99 = .ok (.aload_n 0, 1) := by decide +kernel
theorem dX2_copyFrom_100 : decode cX2_copyFrom 100 = .ok (.getfield 44, 3) := by decide +kernel
theorem dX2_copyFrom_103 : decode cX2_copyFrom 103 = .ok (.aload_n 1, 1) := by decide +kernel
theorem dX2_copyFrom_104 : decode cX2_copyFrom 104 = .ok (.getfield 44, 3) := by decide +kernel
theorem dX2_copyFrom_107 : decode cX2_copyFrom 107 = .ok (.invokevirtual 65, 3) := by decide +kernel
theorem dX2_copyFrom_110 : decode cX2_copyFrom 110 = .ok (.aload_n 0, 1) := by decide +kernel
theorem dX2_copyFrom_111 : decode cX2_copyFrom 111 = .ok (.getfield 47, 3) := by decide +kernel
theorem dX2_copyFrom_114 : decode cX2_copyFrom 114 = .ok (.aload_n 1, 1) := by decide +kernel
theorem dX2_copyFrom_115 : decode cX2_copyFrom 115 = .ok (.getfield 47, 3) := by decide +kernel
theorem dX2_copyFrom_118 : decode cX2_copyFrom 118 = .ok (.invokevirtual 65, 3) := by decide +kernel
theorem dX2_copyFrom_121 : decode cX2_copyFrom 121 = .ok (.aload_n 0, 1) := by decide +kernel
theorem dX2_copyFrom_122 : decode cX2_copyFrom 122 = .ok (.aload_n 1, 1) := by decide +kernel
theorem dX2_copyFrom_123 : decode cX2_copyFrom 123 = .ok (.getfield 69, 3) := by decide +kernel
theorem dX2_copyFrom_126 : decode cX2_copyFrom 126 = .ok (.putfield 69, 3) := by decide +kernel
theorem dX2_copyFrom_129 : decode cX2_copyFrom 129 = .ok (.aload_n 0, 1) := by decide +kernel
theorem dX2_copyFrom_130 : decode cX2_copyFrom 130 = .ok (.aload_n 1, 1) := by decide +kernel
theorem dX2_copyFrom_131 : decode cX2_copyFrom 131 = .ok (.getfield 72, 3) := by decide +kernel
theorem dX2_copyFrom_134 : decode cX2_copyFrom 134 = .ok (.putfield 72, 3) := by decide +kernel
theorem dX2_copyFrom_137 : decode cX2_copyFrom 137 = .ok (.aload_n 0, 1) := by decide +kernel
theorem dX2_copyFrom_138 : decode cX2_copyFrom 138 = .ok (.aload_n 1, 1) := by decide +kernel
theorem dX2_copyFrom_139 : decode cX2_copyFrom 139 = .ok (.getfield 50, 3) := by decide +kernel
theorem dX2_copyFrom_142 : decode cX2_copyFrom 142 = .ok (.putfield 50, 3) := by decide +kernel
theorem dX2_copyFrom_145 : decode cX2_copyFrom 145 = .ok (.aload_n 0, 1) := by decide +kernel
theorem dX2_copyFrom_146 : decode cX2_copyFrom 146 = .ok (.aload_n 1, 1) := by decide +kernel
theorem dX2_copyFrom_147 : decode cX2_copyFrom 147 = .ok (.getfield 75, 3) := by decide +kernel
theorem dX2_copyFrom_150 : decode cX2_copyFrom 150 = .ok (.putfield 75, 3) := by decide +kernel
theorem dX2_copyFrom_153 : decode cX2_copyFrom 153 = .ok (.aload_n 0, 1) := by decide +kernel
theorem dX2_copyFrom_154 : decode cX2_copyFrom 154 = .ok (.aload_n 1, 1) := by decide +kernel
theorem dX2_copyFrom_155 : decode cX2_copyFrom 155 = .ok (.getfield 78, 3) := by decide +kernel
theorem dX2_copyFrom_158 : decode cX2_copyFrom 158 = .ok (.putfield 78, 3) := by decide +kernel
theorem dX2_copyFrom_161 : decode cX2_copyFrom 161 = .ok (.aload_n 0, 1) := by decide +kernel
theorem dX2_copyFrom_162 : decode cX2_copyFrom 162 = .ok (.aload_n 1, 1) := by decide +kernel
theorem dX2_copyFrom_163 : decode cX2_copyFrom 163 = .ok (.getfield 81, 3) := by decide +kernel
theorem dX2_copyFrom_166 : decode cX2_copyFrom 166 = .ok (.putfield 81, 3) := by decide +kernel
theorem dX2_copyFrom_169 : decode cX2_copyFrom 169 = .ok (.aload_n 0, 1) := by decide +kernel
theorem dX2_copyFrom_170 : decode cX2_copyFrom 170 = .ok (.aload_n 1, 1) := by decide +kernel
theorem dX2_copyFrom_171 : decode cX2_copyFrom 171 = .ok (.getfield 84, 3) := by decide +kernel
theorem dX2_copyFrom_174 : decode cX2_copyFrom 174 = .ok (.putfield 84, 3) := by decide +kernel
theorem dX2_copyFrom_177 : decode cX2_copyFrom 177 = .ok (.return_, 1) := by decide +kernel
def fX2_copyFrom  (S : StS × StS) : Option (StS × StS) :=
  nm (sset S.1 0 (S.2.1 0), S.2) fun S19 => nm (sset S19.1 1 (S19.2.1 1), S19.2) fun S20 => nm (sset S20.1 2 (S20.2.1 2), S20.2) fun S21 => nm (sset S21.1 3 (S21.2.1 3), S21.2) fun S22 => nm (sset S22.1 4 (S22.2.1 4), S22.2) fun S23 => nm (sset S23.1 5 (S23.2.1 5), S23.2) fun S24 => nm (sset S24.1 6 (S24.2.1 6), S24.2) fun S25 => nm (sset S25.1 7 (S25.2.1 7), S25.2) fun S26 => nm (sset S26.1 8 (S26.2.1 8), S26.2) fun S27 => nm (sset S27.1 9 (S27.2.1 9), S27.2) fun S28 => nm (sset S28.1 10 (S28.2.1 10), S28.2) fun S29 => nm ((S29.1.1, upd S29.1.2 11 (S29.2.2 11)), S29.2) fun S30 => nm ((S30.1.1, upd S30.1.2 12 (S30.2.2 12)), S30.2) fun S31 => nm ((S31.1.1, upd S31.1.2 13 (S31.2.2 13)), S31.2) fun S32 => nm ((S32.1.1, upd S32.1.2 14 (S32.2.2 14)), S32.2) fun S33 => nm ((S33.1.1, upd S33.1.2 15 (S33.2.2 15)), S33.2) fun S34 => nm ((S34.1.1, upd S34.1.2 16 (S34.2.2 16)), S34.2) fun S35 => nm ((S35.1.1, upd S35.1.2 17 (S35.2.2 17)), S35.2) fun S36 => some S36
set_option maxHeartbeats 4000000 in
set_option maxRecDepth 100000 in
theorem kX2_copyFrom (l : Launch) (D : va_G) (cI cS : ClassId) (aS bS : Nat → Nat)  (S : StS × StS) {q : StS × StS} (h : fX2_copyFrom  S = some q) : Mc l D (tyL cI cS) false yX2_copyFrom cX2_copyFrom 2 none 3 [.ref (aS 0), .ref (bS 0)] (wSS cI aS bS S) none (wSS cI aS bS q) := by
  refine Mc_of RX2 (by decide +kernel) rfl wc_X2_copyFrom (Nat.le_of_ble_eq_true rfl) ?_
  intro p e s m args below meth c A Q ls C hA hz hP hD hS hl RET
  have RETh : ∀ {pc : Nat} {ls : Array Slot} {H : Heap} {locs : List Loc} {S1 : StS × StS}, decode cX2_copyFrom pc = .ok (.return_, 1) → some S1 = some q → va_P D vwCl (wSS cI aS bS S1) H → va_D A (wSS cI aS bS S1) → va_S A s.heap H locs → W p l e (rmL 3) s m args below meth c H locs 0 0 Q (F0 m pc ls []) := by
    intro pc ls H locs S1 hd h hP hD hS; cases h; exact RET (x_vret C hd) hP hD hS
  refine x_aload_n C dX2_copyFrom_0 rfl hl 0 rfl ?_
  refine x_get C inX2 hP 0 rfl rfl 0 (by decide) wf_X2_14 rfl dX2_copyFrom_1 ?_
  refine x_aload_n C dX2_copyFrom_4 rfl hl 1 rfl ?_
  refine x_get C inX2 hP 23 rfl rfl 0 (by decide) wf_X2_14 rfl dX2_copyFrom_5 ?_
  refine x_callV (As := [.ref _]) (n := 1) C (kSS_copyFrom l D cI cS aS bS _ 0 (by decide)) (fun hh => nomatch hh) wm_X2_65 wi_X3_copyFrom we_X3_copyFrom wz_X3 wc_X3_copyFrom (by decide +kernel) rfl hP hD hS hA 1 1 rfl rfl rfl hl.1 dX2_copyFrom_8 rfl (Nat.le_of_ble_eq_true rfl) ⟨Nat.le_of_ble_eq_true rfl, Nat.le_of_ble_eq_true rfl⟩ ⟨Nat.zero_le _, Nat.zero_le _⟩ (fun H locs hP hD hS => ?_)
  refine x_nmS (wSS cI aS bS) h hP hD (fun S19 h hP hD => ?_)
  refine x_aload_n C dX2_copyFrom_11 rfl hl 0 rfl ?_
  refine x_get C inX2 hP 0 rfl rfl 1 (by decide) wf_X2_20 rfl dX2_copyFrom_12 ?_
  refine x_aload_n C dX2_copyFrom_15 rfl hl 1 rfl ?_
  refine x_get C inX2 hP 23 rfl rfl 1 (by decide) wf_X2_20 rfl dX2_copyFrom_16 ?_
  refine x_callV (As := [.ref _]) (n := 1) C (kSS_copyFrom l D cI cS aS bS _ 1 (by decide)) (fun hh => nomatch hh) wm_X2_65 wi_X3_copyFrom we_X3_copyFrom wz_X3 wc_X3_copyFrom (by decide +kernel) rfl hP hD hS hA 3 1 rfl rfl rfl hl.1 dX2_copyFrom_19 rfl (Nat.le_of_ble_eq_true rfl) ⟨Nat.le_of_ble_eq_true rfl, Nat.le_of_ble_eq_true rfl⟩ ⟨Nat.zero_le _, Nat.zero_le _⟩ (fun H locs hP hD hS => ?_)
  refine x_nmS (wSS cI aS bS) h hP hD (fun S20 h hP hD => ?_)
  refine x_aload_n C dX2_copyFrom_22 rfl hl 0 rfl ?_
  refine x_get C inX2 hP 0 rfl rfl 2 (by decide) wf_X2_23 rfl dX2_copyFrom_23 ?_
  refine x_aload_n C dX2_copyFrom_26 rfl hl 1 rfl ?_
  refine x_get C inX2 hP 23 rfl rfl 2 (by decide) wf_X2_23 rfl dX2_copyFrom_27 ?_
  refine x_callV (As := [.ref _]) (n := 1) C (kSS_copyFrom l D cI cS aS bS _ 2 (by decide)) (fun hh => nomatch hh) wm_X2_65 wi_X3_copyFrom we_X3_copyFrom wz_X3 wc_X3_copyFrom (by decide +kernel) rfl hP hD hS hA 5 1 rfl rfl rfl hl.1 dX2_copyFrom_30 rfl (Nat.le_of_ble_eq_true rfl) ⟨Nat.le_of_ble_eq_true rfl, Nat.le_of_ble_eq_true rfl⟩ ⟨Nat.zero_le _, Nat.zero_le _⟩ (fun H locs hP hD hS => ?_)
  refine x_nmS (wSS cI aS bS) h hP hD (fun S21 h hP hD => ?_)
  refine x_aload_n C dX2_copyFrom_33 rfl hl 0 rfl ?_
  refine x_get C inX2 hP 0 rfl rfl 3 (by decide) wf_X2_26 rfl dX2_copyFrom_34 ?_
  refine x_aload_n C dX2_copyFrom_37 rfl hl 1 rfl ?_
  refine x_get C inX2 hP 23 rfl rfl 3 (by decide) wf_X2_26 rfl dX2_copyFrom_38 ?_
  refine x_callV (As := [.ref _]) (n := 1) C (kSS_copyFrom l D cI cS aS bS _ 3 (by decide)) (fun hh => nomatch hh) wm_X2_65 wi_X3_copyFrom we_X3_copyFrom wz_X3 wc_X3_copyFrom (by decide +kernel) rfl hP hD hS hA 7 1 rfl rfl rfl hl.1 dX2_copyFrom_41 rfl (Nat.le_of_ble_eq_true rfl) ⟨Nat.le_of_ble_eq_true rfl, Nat.le_of_ble_eq_true rfl⟩ ⟨Nat.zero_le _, Nat.zero_le _⟩ (fun H locs hP hD hS => ?_)
  refine x_nmS (wSS cI aS bS) h hP hD (fun S22 h hP hD => ?_)
  refine x_aload_n C dX2_copyFrom_44 rfl hl 0 rfl ?_
  refine x_get C inX2 hP 0 rfl rfl 4 (by decide) wf_X2_29 rfl dX2_copyFrom_45 ?_
  refine x_aload_n C dX2_copyFrom_48 rfl hl 1 rfl ?_
  refine x_get C inX2 hP 23 rfl rfl 4 (by decide) wf_X2_29 rfl dX2_copyFrom_49 ?_
  refine x_callV (As := [.ref _]) (n := 1) C (kSS_copyFrom l D cI cS aS bS _ 4 (by decide)) (fun hh => nomatch hh) wm_X2_65 wi_X3_copyFrom we_X3_copyFrom wz_X3 wc_X3_copyFrom (by decide +kernel) rfl hP hD hS hA 9 1 rfl rfl rfl hl.1 dX2_copyFrom_52 rfl (Nat.le_of_ble_eq_true rfl) ⟨Nat.le_of_ble_eq_true rfl, Nat.le_of_ble_eq_true rfl⟩ ⟨Nat.zero_le _, Nat.zero_le _⟩ (fun H locs hP hD hS => ?_)
  refine x_nmS (wSS cI aS bS) h hP hD (fun S23 h hP hD => ?_)
  refine x_aload_n C dX2_copyFrom_55 rfl hl 0 rfl ?_
  refine x_get C inX2 hP 0 rfl rfl 5 (by decide) wf_X2_32 rfl dX2_copyFrom_56 ?_
  refine x_aload_n C dX2_copyFrom_59 rfl hl 1 rfl ?_
  refine x_get C inX2 hP 23 rfl rfl 5 (by decide) wf_X2_32 rfl dX2_copyFrom_60 ?_
  refine x_callV (As := [.ref _]) (n := 1) C (kSS_copyFrom l D cI cS aS bS _ 5 (by decide)) (fun hh => nomatch hh) wm_X2_65 wi_X3_copyFrom we_X3_copyFrom wz_X3 wc_X3_copyFrom (by decide +kernel) rfl hP hD hS hA 11 1 rfl rfl rfl hl.1 dX2_copyFrom_63 rfl (Nat.le_of_ble_eq_true rfl) ⟨Nat.le_of_ble_eq_true rfl, Nat.le_of_ble_eq_true rfl⟩ ⟨Nat.zero_le _, Nat.zero_le _⟩ (fun H locs hP hD hS => ?_)
  refine x_nmS (wSS cI aS bS) h hP hD (fun S24 h hP hD => ?_)
  refine x_aload_n C dX2_copyFrom_66 rfl hl 0 rfl ?_
  refine x_get C inX2 hP 0 rfl rfl 6 (by decide) wf_X2_35 rfl dX2_copyFrom_67 ?_
  refine x_aload_n C dX2_copyFrom_70 rfl hl 1 rfl ?_
  refine x_get C inX2 hP 23 rfl rfl 6 (by decide) wf_X2_35 rfl dX2_copyFrom_71 ?_
  refine x_callV (As := [.ref _]) (n := 1) C (kSS_copyFrom l D cI cS aS bS _ 6 (by decide)) (fun hh => nomatch hh) wm_X2_65 wi_X3_copyFrom we_X3_copyFrom wz_X3 wc_X3_copyFrom (by decide +kernel) rfl hP hD hS hA 13 1 rfl rfl rfl hl.1 dX2_copyFrom_74 rfl (Nat.le_of_ble_eq_true rfl) ⟨Nat.le_of_ble_eq_true rfl, Nat.le_of_ble_eq_true rfl⟩ ⟨Nat.zero_le _, Nat.zero_le _⟩ (fun H locs hP hD hS => ?_)
  refine x_nmS (wSS cI aS bS) h hP hD (fun S25 h hP hD => ?_)
  refine x_aload_n C dX2_copyFrom_77 rfl hl 0 rfl ?_
  refine x_get C inX2 hP 0 rfl rfl 7 (by decide) wf_X2_38 rfl dX2_copyFrom_78 ?_
  refine x_aload_n C dX2_copyFrom_81 rfl hl 1 rfl ?_
  refine x_get C inX2 hP 23 rfl rfl 7 (by decide) wf_X2_38 rfl dX2_copyFrom_82 ?_
  refine x_callV (As := [.ref _]) (n := 1) C (kSS_copyFrom l D cI cS aS bS _ 7 (by decide)) (fun hh => nomatch hh) wm_X2_65 wi_X3_copyFrom we_X3_copyFrom wz_X3 wc_X3_copyFrom (by decide +kernel) rfl hP hD hS hA 15 1 rfl rfl rfl hl.1 dX2_copyFrom_85 rfl (Nat.le_of_ble_eq_true rfl) ⟨Nat.le_of_ble_eq_true rfl, Nat.le_of_ble_eq_true rfl⟩ ⟨Nat.zero_le _, Nat.zero_le _⟩ (fun H locs hP hD hS => ?_)
  refine x_nmS (wSS cI aS bS) h hP hD (fun S26 h hP hD => ?_)
  refine x_aload_n C dX2_copyFrom_88 rfl hl 0 rfl ?_
  refine x_get C inX2 hP 0 rfl rfl 8 (by decide) wf_X2_41 rfl dX2_copyFrom_89 ?_
  refine x_aload_n C dX2_copyFrom_92 rfl hl 1 rfl ?_
  refine x_get C inX2 hP 23 rfl rfl 8 (by decide) wf_X2_41 rfl dX2_copyFrom_93 ?_
  refine x_callV (As := [.ref _]) (n := 1) C (kSS_copyFrom l D cI cS aS bS _ 8 (by decide)) (fun hh => nomatch hh) wm_X2_65 wi_X3_copyFrom we_X3_copyFrom wz_X3 wc_X3_copyFrom (by decide +kernel) rfl hP hD hS hA 17 1 rfl rfl rfl hl.1 dX2_copyFrom_96 rfl (Nat.le_of_ble_eq_true rfl) ⟨Nat.le_of_ble_eq_true rfl, Nat.le_of_ble_eq_true rfl⟩ ⟨Nat.zero_le _, Nat.zero_le _⟩ (fun H locs hP hD hS => ?_)
  refine x_nmS (wSS cI aS bS) h hP hD (fun S27 h hP hD => ?_)
  refine x_aload_n C dX2_copyFrom_99 rfl hl 0 rfl ?_
  refine x_get C inX2 hP 0 rfl rfl 9 (by decide) wf_X2_44 rfl dX2_copyFrom_100 ?_
  refine x_aload_n C dX2_copyFrom_103 rfl hl 1 rfl ?_
  refine x_get C inX2 hP 23 rfl rfl 9 (by decide) wf_X2_44 rfl dX2_copyFrom_104 ?_
  refine x_callV (As := [.ref _]) (n := 1) C (kSS_copyFrom l D cI cS aS bS _ 9 (by decide)) (fun hh => nomatch hh) wm_X2_65 wi_X3_copyFrom we_X3_copyFrom wz_X3 wc_X3_copyFrom (by decide +kernel) rfl hP hD hS hA 19 1 rfl rfl rfl hl.1 dX2_copyFrom_107 rfl (Nat.le_of_ble_eq_true rfl) ⟨Nat.le_of_ble_eq_true rfl, Nat.le_of_ble_eq_true rfl⟩ ⟨Nat.zero_le _, Nat.zero_le _⟩ (fun H locs hP hD hS => ?_)
  refine x_nmS (wSS cI aS bS) h hP hD (fun S28 h hP hD => ?_)
  refine x_aload_n C dX2_copyFrom_110 rfl hl 0 rfl ?_
  refine x_get C inX2 hP 0 rfl rfl 10 (by decide) wf_X2_47 rfl dX2_copyFrom_111 ?_
  refine x_aload_n C dX2_copyFrom_114 rfl hl 1 rfl ?_
  refine x_get C inX2 hP 23 rfl rfl 10 (by decide) wf_X2_47 rfl dX2_copyFrom_115 ?_
  refine x_callV (As := [.ref _]) (n := 1) C (kSS_copyFrom l D cI cS aS bS _ 10 (by decide)) (fun hh => nomatch hh) wm_X2_65 wi_X3_copyFrom we_X3_copyFrom wz_X3 wc_X3_copyFrom (by decide +kernel) rfl hP hD hS hA 21 1 rfl rfl rfl hl.1 dX2_copyFrom_118 rfl (Nat.le_of_ble_eq_true rfl) ⟨Nat.le_of_ble_eq_true rfl, Nat.le_of_ble_eq_true rfl⟩ ⟨Nat.zero_le _, Nat.zero_le _⟩ (fun H locs hP hD hS => ?_)
  refine x_nmS (wSS cI aS bS) h hP hD (fun S29 h hP hD => ?_)
  refine x_aload_n C dX2_copyFrom_121 rfl hl 0 rfl ?_
  refine x_aload_n C dX2_copyFrom_122 rfl hl 1 rfl ?_
  refine x_get C inX2 hP 23 rfl rfl 11 (by decide) wf_X2_69 rfl dX2_copyFrom_123 ?_
  refine x_putM (wSS cI aS bS) C h inX2 tyX2 tyX2_ok nmX2 hP hD hS 0 rfl rfl 11 (by decide) wf_X2_69 rfl (ft := .int) (by decide +kernel) rfl rfl (Nat.le_of_ble_eq_true rfl) rfl dX2_copyFrom_126 (fun S30 h H locs hP hD hS => ?_)
  refine x_aload_n C dX2_copyFrom_129 rfl hl 0 rfl ?_
  refine x_aload_n C dX2_copyFrom_130 rfl hl 1 rfl ?_
  refine x_get C inX2 hP 23 rfl rfl 12 (by decide) wf_X2_72 rfl dX2_copyFrom_131 ?_
  refine x_putM (wSS cI aS bS) C h inX2 tyX2 tyX2_ok nmX2 hP hD hS 0 rfl rfl 12 (by decide) wf_X2_72 rfl (ft := .int) (by decide +kernel) rfl rfl (Nat.le_of_ble_eq_true rfl) rfl dX2_copyFrom_134 (fun S31 h H locs hP hD hS => ?_)
  refine x_aload_n C dX2_copyFrom_137 rfl hl 0 rfl ?_
  refine x_aload_n C dX2_copyFrom_138 rfl hl 1 rfl ?_
  refine x_get C inX2 hP 23 rfl rfl 13 (by decide) wf_X2_50 rfl dX2_copyFrom_139 ?_
  refine x_putM (wSS cI aS bS) C h inX2 tyX2 tyX2_ok nmX2 hP hD hS 0 rfl rfl 13 (by decide) wf_X2_50 rfl (ft := .int) (by decide +kernel) rfl rfl (Nat.le_of_ble_eq_true rfl) rfl dX2_copyFrom_142 (fun S32 h H locs hP hD hS => ?_)
  refine x_aload_n C dX2_copyFrom_145 rfl hl 0 rfl ?_
  refine x_aload_n C dX2_copyFrom_146 rfl hl 1 rfl ?_
  refine x_get C inX2 hP 23 rfl rfl 14 (by decide) wf_X2_75 rfl dX2_copyFrom_147 ?_
  refine x_putM (wSS cI aS bS) C h inX2 tyX2 tyX2_ok nmX2 hP hD hS 0 rfl rfl 14 (by decide) wf_X2_75 rfl (ft := .int) (by decide +kernel) rfl rfl (Nat.le_of_ble_eq_true rfl) rfl dX2_copyFrom_150 (fun S33 h H locs hP hD hS => ?_)
  refine x_aload_n C dX2_copyFrom_153 rfl hl 0 rfl ?_
  refine x_aload_n C dX2_copyFrom_154 rfl hl 1 rfl ?_
  refine x_get C inX2 hP 23 rfl rfl 15 (by decide) wf_X2_78 rfl dX2_copyFrom_155 ?_
  refine x_putM (wSS cI aS bS) C h inX2 tyX2 tyX2_ok nmX2 hP hD hS 0 rfl rfl 15 (by decide) wf_X2_78 rfl (ft := .int) (by decide +kernel) rfl rfl (Nat.le_of_ble_eq_true rfl) rfl dX2_copyFrom_158 (fun S34 h H locs hP hD hS => ?_)
  refine x_aload_n C dX2_copyFrom_161 rfl hl 0 rfl ?_
  refine x_aload_n C dX2_copyFrom_162 rfl hl 1 rfl ?_
  refine x_get C inX2 hP 23 rfl rfl 16 (by decide) wf_X2_81 rfl dX2_copyFrom_163 ?_
  refine x_putM (wSS cI aS bS) C h inX2 tyX2 tyX2_ok nmX2 hP hD hS 0 rfl rfl 16 (by decide) wf_X2_81 rfl (ft := .int) (by decide +kernel) rfl rfl (Nat.le_of_ble_eq_true rfl) rfl dX2_copyFrom_166 (fun S35 h H locs hP hD hS => ?_)
  refine x_aload_n C dX2_copyFrom_169 rfl hl 0 rfl ?_
  refine x_aload_n C dX2_copyFrom_170 rfl hl 1 rfl ?_
  refine x_get C inX2 hP 23 rfl rfl 17 (by decide) wf_X2_84 rfl dX2_copyFrom_171 ?_
  refine x_putM (wSS cI aS bS) C h inX2 tyX2 tyX2_ok nmX2 hP hD hS 0 rfl rfl 17 (by decide) wf_X2_84 rfl (ft := .int) (by decide +kernel) rfl rfl (Nat.le_of_ble_eq_true rfl) rfl dX2_copyFrom_174 (fun S36 h H locs hP hD hS => ?_)
  exact RETh dX2_copyFrom_177 h hP hD hS
theorem dX2_ofTick_0 : decode cX2_ofTick 0 = .ok (.aload_n 0, 1) := by decide +kernel
theorem dX2_ofTick_1 : decode cX2_ofTick 1 = .ok (.getfield 47, 3) := by decide +kernel
theorem dX2_ofTick_4 : decode cX2_ofTick 4 = .ok (.iload_n 1, 1) := by decide +kernel
theorem dX2_ofTick_5 : decode cX2_ofTick 5 = .ok (.bipush 64, 2) := by decide +kernel
theorem dX2_ofTick_7 : decode cX2_ofTick 7 = .ok (.invokestatic 102, 3) := by decide +kernel
theorem dX2_ofTick_10 : decode cX2_ofTick 10 = .ok (.iload_n 2, 1) := by decide +kernel
theorem dX2_ofTick_11 : decode cX2_ofTick 11 = .ok (.invokevirtual 91, 3) := by decide +kernel
theorem dX2_ofTick_14 : decode cX2_ofTick 14 = .ok (.ireturn, 1) := by decide +kernel
def fX2_ofTick (p1 : Int32) (p2 : Int32) (S : StS) : Option (Int32) :=
  ob (fJ9_floorMod_7cf53 p1 (64 : Int32)) fun u2 => some (sget 10 S u2 p2)
set_option maxHeartbeats 4000000 in
set_option maxRecDepth 100000 in
theorem kX2_ofTick (l : Launch) (D : va_G) (cI cS : ClassId) (aS : Nat → Nat) (p1 : Int32) (p2 : Int32) (S : StS) {q : Int32} (h : fX2_ofTick p1 p2 S = some q) : Mc l D (tyL cI cS) false yX2_ofTick cX2_ofTick 3 (some .int) 2 [.ref (aS 0), .int p1, .int p2] (wS cI aS S) (some (.int q)) (wS cI aS S) := by
  refine Mc_of RX2 (by decide +kernel) rfl wc_X2_ofTick (Nat.le_of_ble_eq_true rfl) ?_
  intro p e s m args below meth c A Q ls C hA hz hP hD hS hl RET
  have RETh : ∀ {pc : Nat} {ls : Array Slot} {H : Heap} {locs : List Loc} {x : Int32} , decode cX2_ofTick pc = .ok (.ireturn, 1) → some x = some q → va_P D vwCl (wS cI aS S) H → va_D A (wS cI aS S) → va_S A s.heap H locs → W p l e (rmL 2) s m args below meth c H locs 0 0 Q (F0 m pc ls [.int x]) := by
    intro pc ls H locs x hd h hP hD hS; cases h; exact RET (x_iret C hd) hP hD hS
  refine x_aload_n C dX2_ofTick_0 rfl hl 0 rfl ?_
  refine x_get C inX2 hP 0 rfl rfl 10 (by decide) wf_X2_47 rfl dX2_ofTick_1 ?_
  refine x_iload_n C dX2_ofTick_4 rfl hl 1 rfl ?_
  refine x_bipush (v := (64 : Int32)) C dX2_ofTick_5 (by decide) ?_
  obtain ⟨u2, hu2, h⟩ := ob_some h
  refine x_callS (As := [.int _, .int _]) (n := 2) C (kJ9_floorMod_7cf53 l D cI cS _ _ _ hu2) (fun hh => nomatch hh) wm_X2_102 wt_J9_floorMod_7cf53 wz_J9 wc_J9_floorMod_7cf53 (by decide +kernel) rfl hP hD hS hA hl.1 dX2_ofTick_7 rfl (Nat.le_of_ble_eq_true rfl) ⟨Nat.le_of_ble_eq_true rfl, Nat.le_of_ble_eq_true rfl⟩ ⟨Nat.zero_le _, Nat.zero_le _⟩ (fun H locs hP hD hS => ?_)
  refine x_iload_n C dX2_ofTick_10 rfl hl 2 rfl ?_
  refine x_callV (As := [.int _, .int _]) (n := 2) C (kS_get l D cI cS aS _ 10 (by decide) _ _) (fun hh => nomatch hh) wm_X2_91 wi_X3_get we_X3_get wz_X3 wc_X3_get (by decide +kernel) rfl hP hD hS hA 21 1 rfl rfl rfl hl.1 dX2_ofTick_11 rfl (Nat.le_of_ble_eq_true rfl) ⟨Nat.le_of_ble_eq_true rfl, Nat.le_of_ble_eq_true rfl⟩ ⟨Nat.zero_le _, Nat.zero_le _⟩ (fun H locs hP hD hS => ?_)
  exact RETh dX2_ofTick_14 h hP hD hS
theorem dX2_pendingWork_0 : decode cX2_pendingWork 0 = .ok (.iconst 0, 1) := by decide +kernel
theorem dX2_pendingWork_1 : decode cX2_pendingWork 1 = .ok (.istore_n 1, 1) := by decide +kernel
theorem dX2_pendingWork_2 : decode cX2_pendingWork 2 = .ok (.iconst 0, 1) := by decide +kernel
theorem dX2_pendingWork_3 : decode cX2_pendingWork 3 = .ok (.istore_n 2, 1) := by decide +kernel
theorem dX2_pendingWork_4 : decode cX2_pendingWork 4 = .ok (.iload_n 2, 1) := by decide +kernel
theorem dX2_pendingWork_5 : decode cX2_pendingWork 5 = .ok (.iconst 4, 1) := by decide +kernel
theorem dX2_pendingWork_6 : decode cX2_pendingWork 6 = .ok (.if_icmp .ge 39, 3) := by decide +kernel
theorem dX2_pendingWork_9 : decode cX2_pendingWork 9 = .ok (.iload_n 1, 1) := by decide +kernel
theorem dX2_pendingWork_10 : decode cX2_pendingWork 10 = .ok (.aload_n 0, 1) := by decide +kernel
theorem dX2_pendingWork_11 : decode cX2_pendingWork 11 = .ok (.getfield 38, 3) := by decide +kernel
theorem dX2_pendingWork_14 : decode cX2_pendingWork 14 = .ok (.iload_n 2, 1) := by decide +kernel
theorem dX2_pendingWork_15 : decode cX2_pendingWork 15 = .ok (.iconst 0, 1) := by decide +kernel
theorem dX2_pendingWork_16 : decode cX2_pendingWork 16 = .ok (.invokevirtual 91, 3) := by decide +kernel
theorem dX2_pendingWork_19 : decode cX2_pendingWork 19 = .ok (.bipush (-9), 2) := by decide +kernel
theorem dX2_pendingWork_21 : decode cX2_pendingWork 21 = .ok (.if_icmp .eq 15, 3) := by decide +kernel
theorem dX2_pendingWork_24 : decode cX2_pendingWork 24 = .ok (.aload_n 0, 1) := by decide +kernel
theorem dX2_pendingWork_25 : decode cX2_pendingWork 25 = .ok (.getfield 38, 3) := by decide +kernel
theorem dX2_pendingWork_28 : decode cX2_pendingWork 28 = .ok (.iload_n 2, 1) := by decide +kernel
theorem dX2_pendingWork_29 : decode cX2_pendingWork 29 = .ok (.iconst 4, 1) := by decide +kernel
theorem dX2_pendingWork_30 : decode cX2_pendingWork 30 = .ok (.invokevirtual 91, 3) := by decide +kernel
theorem dX2_pendingWork_33 : decode cX2_pendingWork 33 = .ok (.goto 4, 3) := by decide +kernel
theorem dX2_pendingWork_36 : decode cX2_pendingWork 36 = .ok (.iconst 0, 1) := by decide +kernel
theorem dX2_pendingWork_37 : decode cX2_pendingWork 37 = .ok (.iadd, 1) := by decide +kernel
theorem dX2_pendingWork_38 : decode cX2_pendingWork 38 = .ok (.istore_n 1, 1) := by decide +kernel
theorem dX2_pendingWork_39 : decode cX2_pendingWork 39 = .ok (.iinc 2 1, 3) := by decide +kernel
theorem dX2_pendingWork_42 : decode cX2_pendingWork 42 = .ok (.goto (-38), 3) := by decide +kernel
theorem dX2_pendingWork_45 : decode cX2_pendingWork 45 = .ok (.iload_n 1, 1) := by decide +kernel
theorem dX2_pendingWork_46 : decode cX2_pendingWork 46 = .ok (.ireturn, 1) := by decide +kernel
def bfX2_pendingWork_37 (S : StS) (K4 : Int32 × Int32 → Option (Int32)) (x2 : Int32) (s0 : Int32) (s1 : Int32) : Option (Int32) :=
  nm ((s0 + s1)) fun v2 => K4 (v2, (x2 + (1 : Int32)))
def bfX2_pendingWork_4 (S : StS) (K4 : Int32 × Int32 → Option (Int32)) (x : Int32 × Int32) : Option (Int32) :=
  match x with
  | (x1, x2) => (if (4 : Int32) ≤ x2 then some x1 else (if (sget 7 S x2 (0 : Int32)) = (-9 : Int32) then bfX2_pendingWork_37 S K4 x2 x1 ((0 : Int32)) else bfX2_pendingWork_37 S K4 x2 x1 ((sget 7 S x2 (4 : Int32)))))
def fX2_pendingWork (S : StS) : Option (Int32) :=
  iter (bfX2_pendingWork_4 S) FU ((0 : Int32), (0 : Int32))
set_option maxHeartbeats 4000000 in
set_option maxRecDepth 100000 in
theorem kX2_pendingWork (l : Launch) (D : va_G) (cI cS : ClassId) (aS : Nat → Nat) (S : StS) {q : Int32} (h : fX2_pendingWork S = some q) : Mc l D (tyL cI cS) false yX2_pendingWork cX2_pendingWork 3 (some .int) 2 [.ref (aS 0)] (wS cI aS S) (some (.int q)) (wS cI aS S) := by
  refine Mc_of RX2 (by decide +kernel) rfl wc_X2_pendingWork (Nat.le_of_ble_eq_true rfl) ?_
  intro p e s m args below meth c A Q ls C hA hz hP hD hS hl RET
  have RETh : ∀ {pc : Nat} {ls : Array Slot} {H : Heap} {locs : List Loc} {x : Int32} , decode cX2_pendingWork pc = .ok (.ireturn, 1) → some x = some q → va_P D vwCl (wS cI aS S) H → va_D A (wS cI aS S) → va_S A s.heap H locs → W p l e (rmL 2) s m args below meth c H locs 0 0 Q (F0 m pc ls [.int x]) := by
    intro pc ls H locs x hd h hP hD hS; cases h; exact RET (x_iret C hd) hP hD hS
  have B37 : ∀ (K4 : Int32 × Int32 → Option (Int32)) (ih4 : ∀ x, K4 x = some q → (match x with | (x1, x2) => ∀ (H : Heap) (locs : List Loc) (ls : Array Slot), va_P D vwCl (wS cI aS S) H → va_D A (wS cI aS S) → va_S A s.heap H locs → lv_has ls 3 [(0, .ref (aS 0)), (1, .int x1), (2, .int x2)] → W p l e (rmL 2) s m args below meth c H locs 0 0 Q (F0 m 4 ls []))) (x2 : Int32) (s0 : Int32) (s1 : Int32), bfX2_pendingWork_37 S K4 x2 s0 s1 = some q → ∀ (H : Heap) (locs : List Loc) (ls : Array Slot), va_P D vwCl (wS cI aS S) H → va_D A (wS cI aS S) → va_S A s.heap H locs → lv_has ls 3 [(0, .ref (aS 0)), (2, .int x2)] → W p l e (rmL 2) s m args below meth c H locs 0 0 Q (F0 m 37 ls [.int s1, .int s0]) := by
    intro K4 ih4 x2 s0 s1 h H locs ls hP hD hS hl
    refine x_iadd C dX2_pendingWork_37 ?_
    refine x_nmi h (fun v2 h => ?_)
    refine x_istore_n (lv' := [(1, .int v2), (0, .ref (aS 0)), (2, .int x2)]) C dX2_pendingWork_38 rfl hl (by decide) rfl (fun ls hl => ?_)
    refine x_iinc (v := (x2 + (1 : Int32))) (lv' := [(2, .int (x2 + (1 : Int32))), (1, .int v2), (0, .ref (aS 0))]) C dX2_pendingWork_39 hl (k := 2) rfl rfl (by decide) rfl (fun ls hl => ?_)
    refine x_goto (tgt := 4) C dX2_pendingWork_42 (by decide) ?_
    exact ih4 _ h _ _ _ hP hD hS (lv_sub hl [2, 1, 0] rfl)
  have B4 : ∀ (n : Nat) (x : Int32 × Int32), iter (bfX2_pendingWork_4 S) n x = some q → (match x with | (x1, x2) => ∀ (H : Heap) (locs : List Loc) (ls : Array Slot), va_P D vwCl (wS cI aS S) H → va_D A (wS cI aS S) → va_S A s.heap H locs → lv_has ls 3 [(0, .ref (aS 0)), (1, .int x1), (2, .int x2)] → W p l e (rmL 2) s m args below meth c H locs 0 0 Q (F0 m 4 ls [])) := by
    refine iter_ind (fun x : Int32 × Int32 => (match x with | (x1, x2) => ∀ (H : Heap) (locs : List Loc) (ls : Array Slot), va_P D vwCl (wS cI aS S) H → va_D A (wS cI aS S) → va_S A s.heap H locs → lv_has ls 3 [(0, .ref (aS 0)), (1, .int x1), (2, .int x2)] → W p l e (rmL 2) s m args below meth c H locs 0 0 Q (F0 m 4 ls []))) ?_
    intro K4 ih4 x h
    obtain ⟨x1, x2⟩ := x
    intro H locs ls hP hD hS hl
    refine x_iload_n C dX2_pendingWork_4 rfl hl 2 rfl ?_
    refine x_iconst (v := (4 : Int32)) C dX2_pendingWork_5 (by decide) ?_
    refine x_icmp_ge (tgt := 45) C h dX2_pendingWork_6 (by decide) (fun h => ?_) (fun h => ?_)
    · refine x_iload_n C dX2_pendingWork_45 rfl hl 1 rfl ?_
      exact RETh dX2_pendingWork_46 h hP hD hS
    · refine x_iload_n C dX2_pendingWork_9 rfl hl 1 rfl ?_
      refine x_aload_n C dX2_pendingWork_10 rfl hl 0 rfl ?_
      refine x_get C inX2 hP 0 rfl rfl 7 (by decide) wf_X2_38 rfl dX2_pendingWork_11 ?_
      refine x_iload_n C dX2_pendingWork_14 rfl hl 2 rfl ?_
      refine x_iconst (v := (0 : Int32)) C dX2_pendingWork_15 (by decide) ?_
      refine x_callV (As := [.int _, .int _]) (n := 2) C (kS_get l D cI cS aS _ 7 (by decide) _ _) (fun hh => nomatch hh) wm_X2_91 wi_X3_get we_X3_get wz_X3 wc_X3_get (by decide +kernel) rfl hP hD hS hA 15 1 rfl rfl rfl hl.1 dX2_pendingWork_16 rfl (Nat.le_of_ble_eq_true rfl) ⟨Nat.le_of_ble_eq_true rfl, Nat.le_of_ble_eq_true rfl⟩ ⟨Nat.zero_le _, Nat.zero_le _⟩ (fun H locs hP hD hS => ?_)
      refine x_bipush (v := (-9 : Int32)) C dX2_pendingWork_19 (by decide) ?_
      refine x_icmp_eq (tgt := 36) C h dX2_pendingWork_21 (by decide) (fun h => ?_) (fun h => ?_)
      · refine x_iconst (v := (0 : Int32)) C dX2_pendingWork_36 (by decide) ?_
        exact B37 K4 ih4 _ _ _ h _ _ _ hP hD hS (lv_sub hl [0, 2] rfl)
      · refine x_aload_n C dX2_pendingWork_24 rfl hl 0 rfl ?_
        refine x_get C inX2 hP 0 rfl rfl 7 (by decide) wf_X2_38 rfl dX2_pendingWork_25 ?_
        refine x_iload_n C dX2_pendingWork_28 rfl hl 2 rfl ?_
        refine x_iconst (v := (4 : Int32)) C dX2_pendingWork_29 (by decide) ?_
        refine x_callV (As := [.int _, .int _]) (n := 2) C (kS_get l D cI cS aS _ 7 (by decide) _ _) (fun hh => nomatch hh) wm_X2_91 wi_X3_get we_X3_get wz_X3 wc_X3_get (by decide +kernel) rfl hP hD hS hA 15 1 rfl rfl rfl hl.1 dX2_pendingWork_30 rfl (Nat.le_of_ble_eq_true rfl) ⟨Nat.le_of_ble_eq_true rfl, Nat.le_of_ble_eq_true rfl⟩ ⟨Nat.zero_le _, Nat.zero_le _⟩ (fun H locs hP hD hS => ?_)
        refine x_goto (tgt := 37) C dX2_pendingWork_33 (by decide) ?_
        exact B37 K4 ih4 _ _ _ h _ _ _ hP hD hS (lv_sub hl [0, 2] rfl)
  refine x_iconst (v := (0 : Int32)) C dX2_pendingWork_0 (by decide) ?_
  refine x_istore_n (lv' := [(1, .int (0 : Int32)), (0, .ref (aS 0))]) C dX2_pendingWork_1 rfl hl (by decide) rfl (fun ls hl => ?_)
  refine x_iconst (v := (0 : Int32)) C dX2_pendingWork_2 (by decide) ?_
  refine x_istore_n (lv' := [(2, .int (0 : Int32)), (1, .int (0 : Int32)), (0, .ref (aS 0))]) C dX2_pendingWork_3 rfl hl (by decide) rfl (fun ls hl => ?_)
  exact B4 FU _ h _ _ _ hP hD hS (lv_sub hl [2, 1, 0] rfl)
theorem dX2_placeOf_0 : decode cX2_placeOf 0 = .ok (.aload_n 0, 1) := by decide +kernel
theorem dX2_placeOf_1 : decode cX2_placeOf 1 = .ok (.getfield 35, 3) := by decide +kernel
theorem dX2_placeOf_4 : decode cX2_placeOf 4 = .ok (.iconst 0, 1) := by decide +kernel
theorem dX2_placeOf_5 : decode cX2_placeOf 5 = .ok (.iload_n 1, 1) := by decide +kernel
theorem dX2_placeOf_6 : decode cX2_placeOf 6 = .ok (.invokevirtual 95, 3) := by decide +kernel
theorem dX2_placeOf_9 : decode cX2_placeOf 9 = .ok (.bipush (-9), 2) := by decide +kernel
theorem dX2_placeOf_11 : decode cX2_placeOf 11 = .ok (.if_icmp .eq 5, 3) := by decide +kernel
theorem dX2_placeOf_14 : decode cX2_placeOf 14 = .ok (.iconst 1, 1) := by decide +kernel
theorem dX2_placeOf_15 : decode cX2_placeOf 15 = .ok (.ireturn, 1) := by decide +kernel
theorem dX2_placeOf_16 : decode cX2_placeOf 16 = .ok (.aload_n 0, 1) := by decide +kernel
theorem dX2_placeOf_17 : decode cX2_placeOf 17 = .ok (.getfield 38, 3) := by decide +kernel
theorem dX2_placeOf_20 : decode cX2_placeOf 20 = .ok (.iconst 0, 1) := by decide +kernel
theorem dX2_placeOf_21 : decode cX2_placeOf 21 = .ok (.iload_n 1, 1) := by decide +kernel
theorem dX2_placeOf_22 : decode cX2_placeOf 22 = .ok (.invokevirtual 95, 3) := by decide +kernel
theorem dX2_placeOf_25 : decode cX2_placeOf 25 = .ok (.istore_n 2, 1) := by decide +kernel
theorem dX2_placeOf_26 : decode cX2_placeOf 26 = .ok (.iload_n 2, 1) := by decide +kernel
theorem dX2_placeOf_27 : decode cX2_placeOf 27 = .ok (.bipush (-9), 2) := by decide +kernel
theorem dX2_placeOf_29 : decode cX2_placeOf 29 = .ok (.if_icmp .eq 15, 3) := by decide +kernel
theorem dX2_placeOf_32 : decode cX2_placeOf 32 = .ok (.aload_n 0, 1) := by decide +kernel
theorem dX2_placeOf_33 : decode cX2_placeOf 33 = .ok (.getfield 38, 3) := by decide +kernel
theorem dX2_placeOf_36 : decode cX2_placeOf 36 = .ok (.iload_n 2, 1) := by decide +kernel
theorem dX2_placeOf_37 : decode cX2_placeOf 37 = .ok (.iconst 5, 1) := by decide +kernel
theorem dX2_placeOf_38 : decode cX2_placeOf 38 = .ok (.invokevirtual 91, 3) := by decide +kernel
theorem dX2_placeOf_41 : decode cX2_placeOf 41 = .ok (.goto 4, 3) := by decide +kernel
theorem dX2_placeOf_44 : decode cX2_placeOf 44 = .ok (.iconst 0, 1) := by decide +kernel
theorem dX2_placeOf_45 : decode cX2_placeOf 45 = .ok (.ireturn, 1) := by decide +kernel
def bfX2_placeOf_45 (p1 : Int32) (S : StS) (s0 : Int32) : Option (Int32) :=
  some s0
def fX2_placeOf (p1 : Int32) (S : StS) : Option (Int32) :=
  (if (sfind 6 S (0 : Int32) p1) = (-9 : Int32) then nm ((sfind 7 S (0 : Int32) p1)) fun v2 => (if v2 = (-9 : Int32) then bfX2_placeOf_45 p1 S  ((0 : Int32)) else bfX2_placeOf_45 p1 S  ((sget 7 S v2 (5 : Int32)))) else some (1 : Int32))
set_option maxHeartbeats 4000000 in
set_option maxRecDepth 100000 in
theorem kX2_placeOf (l : Launch) (D : va_G) (cI cS : ClassId) (aS : Nat → Nat) (p1 : Int32) (S : StS) {q : Int32} (h : fX2_placeOf p1 S = some q) : Mc l D (tyL cI cS) false yX2_placeOf cX2_placeOf 3 (some .int) 3 [.ref (aS 0), .int p1] (wS cI aS S) (some (.int q)) (wS cI aS S) := by
  refine Mc_of RX2 (by decide +kernel) rfl wc_X2_placeOf (Nat.le_of_ble_eq_true rfl) ?_
  intro p e s m args below meth c A Q ls C hA hz hP hD hS hl RET
  have RETh : ∀ {pc : Nat} {ls : Array Slot} {H : Heap} {locs : List Loc} {x : Int32} , decode cX2_placeOf pc = .ok (.ireturn, 1) → some x = some q → va_P D vwCl (wS cI aS S) H → va_D A (wS cI aS S) → va_S A s.heap H locs → W p l e (rmL 3) s m args below meth c H locs 0 0 Q (F0 m pc ls [.int x]) := by
    intro pc ls H locs x hd h hP hD hS; cases h; exact RET (x_iret C hd) hP hD hS
  have B45 : ∀ (s0 : Int32), bfX2_placeOf_45 p1 S s0 = some q → ∀ (H : Heap) (locs : List Loc) (ls : Array Slot), va_P D vwCl (wS cI aS S) H → va_D A (wS cI aS S) → va_S A s.heap H locs → lv_has ls 3 [] → W p l e (rmL 3) s m args below meth c H locs 0 0 Q (F0 m 45 ls [.int s0]) := by
    intro s0 h H locs ls hP hD hS hl
    exact RETh dX2_placeOf_45 h hP hD hS
  refine x_aload_n C dX2_placeOf_0 rfl hl 0 rfl ?_
  refine x_get C inX2 hP 0 rfl rfl 6 (by decide) wf_X2_35 rfl dX2_placeOf_1 ?_
  refine x_iconst (v := (0 : Int32)) C dX2_placeOf_4 (by decide) ?_
  refine x_iload_n C dX2_placeOf_5 rfl hl 1 rfl ?_
  refine x_callV (As := [.int _, .int _]) (n := 2) C (kS_find l D cI cS aS _ 6 (by decide) _ _) (fun hh => nomatch hh) wm_X2_95 wi_X3_find we_X3_find wz_X3 wc_X3_find (by decide +kernel) rfl hP hD hS hA 13 1 rfl rfl rfl hl.1 dX2_placeOf_6 rfl (Nat.le_of_ble_eq_true rfl) ⟨Nat.le_of_ble_eq_true rfl, Nat.le_of_ble_eq_true rfl⟩ ⟨Nat.zero_le _, Nat.zero_le _⟩ (fun H locs hP hD hS => ?_)
  refine x_bipush (v := (-9 : Int32)) C dX2_placeOf_9 (by decide) ?_
  refine x_icmp_eq (tgt := 16) C h dX2_placeOf_11 (by decide) (fun h => ?_) (fun h => ?_)
  · refine x_aload_n C dX2_placeOf_16 rfl hl 0 rfl ?_
    refine x_get C inX2 hP 0 rfl rfl 7 (by decide) wf_X2_38 rfl dX2_placeOf_17 ?_
    refine x_iconst (v := (0 : Int32)) C dX2_placeOf_20 (by decide) ?_
    refine x_iload_n C dX2_placeOf_21 rfl hl 1 rfl ?_
    refine x_callV (As := [.int _, .int _]) (n := 2) C (kS_find l D cI cS aS _ 7 (by decide) _ _) (fun hh => nomatch hh) wm_X2_95 wi_X3_find we_X3_find wz_X3 wc_X3_find (by decide +kernel) rfl hP hD hS hA 15 1 rfl rfl rfl hl.1 dX2_placeOf_22 rfl (Nat.le_of_ble_eq_true rfl) ⟨Nat.le_of_ble_eq_true rfl, Nat.le_of_ble_eq_true rfl⟩ ⟨Nat.zero_le _, Nat.zero_le _⟩ (fun H locs hP hD hS => ?_)
    refine x_nmi h (fun v2 h => ?_)
    refine x_istore_n (lv' := [(2, .int v2), (0, .ref (aS 0)), (1, .int p1)]) C dX2_placeOf_25 rfl hl (by decide) rfl (fun ls hl => ?_)
    refine x_iload_n C dX2_placeOf_26 rfl hl 0 rfl ?_
    refine x_bipush (v := (-9 : Int32)) C dX2_placeOf_27 (by decide) ?_
    refine x_icmp_eq (tgt := 44) C h dX2_placeOf_29 (by decide) (fun h => ?_) (fun h => ?_)
    · refine x_iconst (v := (0 : Int32)) C dX2_placeOf_44 (by decide) ?_
      exact B45 _ h _ _ _ hP hD hS (lv_sub hl [] rfl)
    · refine x_aload_n C dX2_placeOf_32 rfl hl 1 rfl ?_
      refine x_get C inX2 hP 0 rfl rfl 7 (by decide) wf_X2_38 rfl dX2_placeOf_33 ?_
      refine x_iload_n C dX2_placeOf_36 rfl hl 0 rfl ?_
      refine x_iconst (v := (5 : Int32)) C dX2_placeOf_37 (by decide) ?_
      refine x_callV (As := [.int _, .int _]) (n := 2) C (kS_get l D cI cS aS _ 7 (by decide) _ _) (fun hh => nomatch hh) wm_X2_91 wi_X3_get we_X3_get wz_X3 wc_X3_get (by decide +kernel) rfl hP hD hS hA 15 1 rfl rfl rfl hl.1 dX2_placeOf_38 rfl (Nat.le_of_ble_eq_true rfl) ⟨Nat.le_of_ble_eq_true rfl, Nat.le_of_ble_eq_true rfl⟩ ⟨Nat.zero_le _, Nat.zero_le _⟩ (fun H locs hP hD hS => ?_)
      refine x_goto (tgt := 45) C dX2_placeOf_41 (by decide) ?_
      exact B45 _ h _ _ _ hP hD hS (lv_sub hl [] rfl)
  · refine x_iconst (v := (1 : Int32)) C dX2_placeOf_14 (by decide) ?_
    exact RETh dX2_placeOf_15 h hP hD hS
theorem dX2_total_0 : decode cX2_total 0 = .ok (.aload_n 0, 1) := by decide +kernel
theorem dX2_total_1 : decode cX2_total 1 = .ok (.getfield 20, 3) := by decide +kernel
theorem dX2_total_4 : decode cX2_total 4 = .ok (.iload_n 1, 1) := by decide +kernel
theorem dX2_total_5 : decode cX2_total 5 = .ok (.invokevirtual 87, 3) := by decide +kernel
theorem dX2_total_8 : decode cX2_total 8 = .ok (.ireturn, 1) := by decide +kernel
def fX2_total (p1 : Int32) (S : StS) : Option (Int32) :=
  some (ssum 1 S p1)
set_option maxHeartbeats 4000000 in
set_option maxRecDepth 100000 in
theorem kX2_total (l : Launch) (D : va_G) (cI cS : ClassId) (aS : Nat → Nat) (p1 : Int32) (S : StS) {q : Int32} (h : fX2_total p1 S = some q) : Mc l D (tyL cI cS) false yX2_total cX2_total 2 (some .int) 3 [.ref (aS 0), .int p1] (wS cI aS S) (some (.int q)) (wS cI aS S) := by
  refine Mc_of RX2 (by decide +kernel) rfl wc_X2_total (Nat.le_of_ble_eq_true rfl) ?_
  intro p e s m args below meth c A Q ls C hA hz hP hD hS hl RET
  have RETh : ∀ {pc : Nat} {ls : Array Slot} {H : Heap} {locs : List Loc} {x : Int32} , decode cX2_total pc = .ok (.ireturn, 1) → some x = some q → va_P D vwCl (wS cI aS S) H → va_D A (wS cI aS S) → va_S A s.heap H locs → W p l e (rmL 3) s m args below meth c H locs 0 0 Q (F0 m pc ls [.int x]) := by
    intro pc ls H locs x hd h hP hD hS; cases h; exact RET (x_iret C hd) hP hD hS
  refine x_aload_n C dX2_total_0 rfl hl 0 rfl ?_
  refine x_get C inX2 hP 0 rfl rfl 1 (by decide) wf_X2_20 rfl dX2_total_1 ?_
  refine x_iload_n C dX2_total_4 rfl hl 1 rfl ?_
  refine x_callV (As := [.int _]) (n := 1) C (kS_sumOf l D cI cS aS _ 1 (by decide) _) (fun hh => nomatch hh) wm_X2_87 wi_X3_sumOf we_X3_sumOf wz_X3 wc_X3_sumOf (by decide +kernel) rfl hP hD hS hA 3 1 rfl rfl rfl hl.1 dX2_total_5 rfl (Nat.le_of_ble_eq_true rfl) ⟨Nat.le_of_ble_eq_true rfl, Nat.le_of_ble_eq_true rfl⟩ ⟨Nat.zero_le _, Nat.zero_le _⟩ (fun H locs hP hD hS => ?_)
  exact RETh dX2_total_8 h hP hD hS
theorem dX4_pass_0 : decode cX4_pass 0 = .ok (.aload_n 0, 1) := by decide +kernel
theorem dX4_pass_1 : decode cX4_pass 1 = .ok (.iconst 2, 1) := by decide +kernel
theorem dX4_pass_2 : decode cX4_pass 2 = .ok (.invokevirtual 9, 3) := by decide +kernel
theorem dX4_pass_5 : decode cX4_pass 5 = .ok (.istore_n 1, 1) := by decide +kernel
theorem dX4_pass_6 : decode cX4_pass 6 = .ok (.aload_n 0, 1) := by decide +kernel
theorem dX4_pass_7 : decode cX4_pass 7 = .ok (.iconst 1, 1) := by decide +kernel
theorem dX4_pass_8 : decode cX4_pass 8 = .ok (.invokevirtual 9, 3) := by decide +kernel
theorem dX4_pass_11 : decode cX4_pass 11 = .ok (.istore_n 2, 1) := by decide +kernel
theorem dX4_pass_12 : decode cX4_pass 12 = .ok (.aload_n 0, 1) := by decide +kernel
theorem dX4_pass_13 : decode cX4_pass 13 = .ok (.getfield 15, 3) := by decide +kernel
theorem dX4_pass_16 : decode cX4_pass 16 = .ok (.istore_n 3, 1) := by decide +kernel
theorem dX4_pass_17 : decode cX4_pass 17 = .ok (.aload_n 0, 1) := by decide +kernel
theorem dX4_pass_18 : decode cX4_pass 18 = .ok (.invokestatic 19, 3) := by decide +kernel
theorem dX4_pass_21 : decode cX4_pass 21 = .ok (.aload_n 0, 1) := by decide +kernel
theorem dX4_pass_22 : decode cX4_pass 22 = .ok (.invokestatic 25, 3) := by decide +kernel
theorem dX4_pass_25 : decode cX4_pass 25 = .ok (.aload_n 0, 1) := by decide +kernel
theorem dX4_pass_26 : decode cX4_pass 26 = .ok (.invokestatic 28, 3) := by decide +kernel
theorem dX4_pass_29 : decode cX4_pass 29 = .ok (.aload_n 0, 1) := by decide +kernel
theorem dX4_pass_30 : decode cX4_pass 30 = .ok (.invokestatic 33, 3) := by decide +kernel
theorem dX4_pass_33 : decode cX4_pass 33 = .ok (.aload_n 0, 1) := by decide +kernel
theorem dX4_pass_34 : decode cX4_pass 34 = .ok (.invokestatic 36, 3) := by decide +kernel
theorem dX4_pass_37 : decode cX4_pass 37 = .ok (.aload_n 0, 1) := by decide +kernel
theorem dX4_pass_38 : decode cX4_pass 38 = .ok (.dup, 1) := by decide +kernel
theorem dX4_pass_39 : decode cX4_pass 39 = .ok (.getfield 39, 3) := by decide +kernel
theorem dX4_pass_42 : decode cX4_pass 42 = .ok (.iconst 1, 1) := by decide +kernel
theorem dX4_pass_43 : decode cX4_pass 43 = .ok (.iadd, 1) := by decide +kernel
theorem dX4_pass_44 : decode cX4_pass 44 = .ok (.putfield 39, 3) := by decide +kernel
theorem dX4_pass_47 : decode cX4_pass 47 = .ok (.aload_n 0, 1) := by decide +kernel
theorem dX4_pass_48 : decode cX4_pass 48 = .ok (.invokestatic 42, 3) := by decide +kernel
theorem dX4_pass_51 : decode cX4_pass 51 = .ok (.aload_n 0, 1) := by decide +kernel
theorem dX4_pass_52 : decode cX4_pass 52 = .ok (.invokestatic 45, 3) := by decide +kernel
theorem dX4_pass_55 : decode cX4_pass 55 = .ok (.aload_n 0, 1) := by decide +kernel
theorem dX4_pass_56 : decode cX4_pass 56 = .ok (.invokestatic 48, 3) := by decide +kernel
theorem dX4_pass_59 : decode cX4_pass 59 = .ok (.aload_n 0, 1) := by decide +kernel
theorem dX4_pass_60 : decode cX4_pass 60 = .ok (.getfield 39, 3) := by decide +kernel
theorem dX4_pass_63 : decode cX4_pass 63 = .ok (.iconst 1, 1) := by decide +kernel
theorem dX4_pass_64 : decode cX4_pass 64 = .ok (.isub, 1) := by decide +kernel
theorem dX4_pass_65 : decode cX4_pass 65 = .ok (.bipush 64, 2) := by decide +kernel
theorem dX4_pass_67 : decode cX4_pass 67 = .ok (.invokestatic 51, 3) := by decide +kernel
theorem dX4_pass_70 : decode cX4_pass 70 = .ok (.istore 4, 2) := by decide +kernel
theorem dX4_pass_72 : decode cX4_pass 72 = .ok (.aload_n 0, 1) := by decide +kernel
theorem dX4_pass_73 : decode cX4_pass 73 = .ok (.getfield 57, 3) := by decide +kernel
theorem dX4_pass_76 : decode cX4_pass 76 = .ok (.iload 4, 2) := by decide +kernel
theorem dX4_pass_78 : decode cX4_pass 78 = .ok (.iconst 0, 1) := by decide +kernel
theorem dX4_pass_79 : decode cX4_pass 79 = .ok (.aload_n 0, 1) := by decide +kernel
theorem dX4_pass_80 : decode cX4_pass 80 = .ok (.getfield 61, 3) := by decide +kernel
theorem dX4_pass_83 : decode cX4_pass 83 = .ok (.invokevirtual 64, 3) := by decide +kernel
theorem dX4_pass_86 : decode cX4_pass 86 = .ok (.invokevirtual 70, 3) := by decide +kernel
theorem dX4_pass_89 : decode cX4_pass 89 = .ok (.aload_n 0, 1) := by decide +kernel
theorem dX4_pass_90 : decode cX4_pass 90 = .ok (.getfield 57, 3) := by decide +kernel
theorem dX4_pass_93 : decode cX4_pass 93 = .ok (.iload 4, 2) := by decide +kernel
theorem dX4_pass_95 : decode cX4_pass 95 = .ok (.iconst 1, 1) := by decide +kernel
theorem dX4_pass_96 : decode cX4_pass 96 = .ok (.aload_n 0, 1) := by decide +kernel
theorem dX4_pass_97 : decode cX4_pass 97 = .ok (.iconst 2, 1) := by decide +kernel
theorem dX4_pass_98 : decode cX4_pass 98 = .ok (.invokevirtual 9, 3) := by decide +kernel
theorem dX4_pass_101 : decode cX4_pass 101 = .ok (.iload_n 1, 1) := by decide +kernel
theorem dX4_pass_102 : decode cX4_pass 102 = .ok (.isub, 1) := by decide +kernel
theorem dX4_pass_103 : decode cX4_pass 103 = .ok (.invokevirtual 70, 3) := by decide +kernel
theorem dX4_pass_106 : decode cX4_pass 106 = .ok (.aload_n 0, 1) := by decide +kernel
theorem dX4_pass_107 : decode cX4_pass 107 = .ok (.getfield 57, 3) := by decide +kernel
theorem dX4_pass_110 : decode cX4_pass 110 = .ok (.iload 4, 2) := by decide +kernel
theorem dX4_pass_112 : decode cX4_pass 112 = .ok (.iconst 2, 1) := by decide +kernel
theorem dX4_pass_113 : decode cX4_pass 113 = .ok (.aload_n 0, 1) := by decide +kernel
theorem dX4_pass_114 : decode cX4_pass 114 = .ok (.iconst 1, 1) := by decide +kernel
theorem dX4_pass_115 : decode cX4_pass 115 = .ok (.invokevirtual 9, 3) := by decide +kernel
theorem dX4_pass_118 : decode cX4_pass 118 = .ok (.iload_n 2, 1) := by decide +kernel
theorem dX4_pass_119 : decode cX4_pass 119 = .ok (.isub, 1) := by decide +kernel
theorem dX4_pass_120 : decode cX4_pass 120 = .ok (.invokevirtual 70, 3) := by decide +kernel
theorem dX4_pass_123 : decode cX4_pass 123 = .ok (.aload_n 0, 1) := by decide +kernel
theorem dX4_pass_124 : decode cX4_pass 124 = .ok (.getfield 57, 3) := by decide +kernel
theorem dX4_pass_127 : decode cX4_pass 127 = .ok (.iload 4, 2) := by decide +kernel
theorem dX4_pass_129 : decode cX4_pass 129 = .ok (.iconst 3, 1) := by decide +kernel
theorem dX4_pass_130 : decode cX4_pass 130 = .ok (.aload_n 0, 1) := by decide +kernel
theorem dX4_pass_131 : decode cX4_pass 131 = .ok (.getfield 15, 3) := by decide +kernel
theorem dX4_pass_134 : decode cX4_pass 134 = .ok (.iload_n 3, 1) := by decide +kernel
theorem dX4_pass_135 : decode cX4_pass 135 = .ok (.isub, 1) := by decide +kernel
theorem dX4_pass_136 : decode cX4_pass 136 = .ok (.invokevirtual 70, 3) := by decide +kernel
theorem dX4_pass_139 : decode cX4_pass 139 = .ok (.aload_n 0, 1) := by decide +kernel
theorem dX4_pass_140 : decode cX4_pass 140 = .ok (.aload_n 0, 1) := by decide +kernel
theorem dX4_pass_141 : decode cX4_pass 141 = .ok (.getfield 74, 3) := by decide +kernel
theorem dX4_pass_144 : decode cX4_pass 144 = .ok (.aload_n 0, 1) := by decide +kernel
theorem dX4_pass_145 : decode cX4_pass 145 = .ok (.getfield 61, 3) := by decide +kernel
theorem dX4_pass_148 : decode cX4_pass 148 = .ok (.invokevirtual 64, 3) := by decide +kernel
theorem dX4_pass_151 : decode cX4_pass 151 = .ok (.invokestatic 77, 3) := by decide +kernel
theorem dX4_pass_154 : decode cX4_pass 154 = .ok (.putfield 74, 3) := by decide +kernel
theorem dX4_pass_157 : decode cX4_pass 157 = .ok (.return_, 1) := by decide +kernel
def fX4_pass  (S : StS) : Option (StS) :=
  ob (fX2_total (2 : Int32) S) fun u20 => ob (fX2_total (1 : Int32) S) fun u21 => ob (fX0_createRequests S) fun u22 => ob (fX0_sendWaiting u22) fun u23 => ob (fX1_fillBackWorkers u23) fun u24 => ob (fX1_fillFrontWorkers u24) fun u25 => ob (fX1_work u25) fun u26 => nm (u26.1, upd u26.2 12 ((u26.2 12) + (1 : Int32))) fun S27 => ob (fX1_endBackWork S27) fun u28 => ob (fX1_endFrontWork u28) fun u29 => ob (fX0_abandonExpired u29) fun u30 => ob (fJ9_floorMod_7cf53 (((u30.2 12) - (1 : Int32))) (64 : Int32)) fun u31 => nm (sput 10 u30 u31 (0 : Int32) ((ssize 6 u30))) fun S32 => ob (fX2_total (2 : Int32) S32) fun u33 => nm (sput 10 S32 u31 (1 : Int32) ((u33 - u20))) fun S34 => ob (fX2_total (1 : Int32) S34) fun u35 => nm (sput 10 S34 u31 (2 : Int32) ((u35 - u21))) fun S36 => nm (sput 10 S36 u31 (3 : Int32) (((S36.2 16) - (S.2 16)))) fun S37 => nm (S37.1, upd S37.2 17 (if (S37.2 17) < (ssize 6 S37) then (ssize 6 S37) else (S37.2 17))) fun S38 => some S38
set_option maxHeartbeats 4000000 in
set_option maxRecDepth 100000 in
theorem kX4_pass (l : Launch) (D : va_G) (cI cS : ClassId) (aS : Nat → Nat)  (S : StS) {q : StS} (h : fX4_pass  S = some q) : Mc l D (tyL cI cS) false yX4_pass cX4_pass 5 none 7 [.ref (aS 0)] (wS cI aS S) none (wS cI aS q) := by
  refine Mc_of RX4 (by decide +kernel) rfl wc_X4_pass (Nat.le_of_ble_eq_true rfl) ?_
  intro p e s m args below meth c A Q ls C hA hz hP hD hS hl RET
  have RETh : ∀ {pc : Nat} {ls : Array Slot} {H : Heap} {locs : List Loc} {S1 : StS}, decode cX4_pass pc = .ok (.return_, 1) → some S1 = some q → va_P D vwCl (wS cI aS S1) H → va_D A (wS cI aS S1) → va_S A s.heap H locs → W p l e (rmL 7) s m args below meth c H locs 0 0 Q (F0 m pc ls []) := by
    intro pc ls H locs S1 hd h hP hD hS; cases h; exact RET (x_vret C hd) hP hD hS
  refine x_aload_n C dX4_pass_0 rfl hl 0 rfl ?_
  refine x_iconst (v := (2 : Int32)) C dX4_pass_1 (by decide) ?_
  obtain ⟨u20, hu20, h⟩ := ob_some h
  refine x_callV (As := [.int _]) (n := 1) C (kX2_total l D cI cS aS _ _ hu20) (fun hh => nomatch hh) wm_X4_9 wi_X2_total we_X2_total wz_X2 wc_X2_total (by decide +kernel) rfl hP hD hS hA 0 0 rfl rfl rfl hl.1 dX4_pass_2 rfl (Nat.le_of_ble_eq_true rfl) ⟨Nat.le_of_ble_eq_true rfl, Nat.le_of_ble_eq_true rfl⟩ ⟨Nat.zero_le _, Nat.zero_le _⟩ (fun H locs hP hD hS => ?_)
  refine x_istore_n (lv' := [(1, .int u20), (0, .ref (aS 0))]) C dX4_pass_5 rfl hl (by decide) rfl (fun ls hl => ?_)
  refine x_aload_n C dX4_pass_6 rfl hl 1 rfl ?_
  refine x_iconst (v := (1 : Int32)) C dX4_pass_7 (by decide) ?_
  obtain ⟨u21, hu21, h⟩ := ob_some h
  refine x_callV (As := [.int _]) (n := 1) C (kX2_total l D cI cS aS _ _ hu21) (fun hh => nomatch hh) wm_X4_9 wi_X2_total we_X2_total wz_X2 wc_X2_total (by decide +kernel) rfl hP hD hS hA 0 0 rfl rfl rfl hl.1 dX4_pass_8 rfl (Nat.le_of_ble_eq_true rfl) ⟨Nat.le_of_ble_eq_true rfl, Nat.le_of_ble_eq_true rfl⟩ ⟨Nat.zero_le _, Nat.zero_le _⟩ (fun H locs hP hD hS => ?_)
  refine x_istore_n (lv' := [(2, .int u21), (1, .int u20), (0, .ref (aS 0))]) C dX4_pass_11 rfl hl (by decide) rfl (fun ls hl => ?_)
  refine x_aload_n C dX4_pass_12 rfl hl 2 rfl ?_
  refine x_get C inX2 hP 0 rfl rfl 16 (by decide) wf_X4_15 rfl dX4_pass_13 ?_
  refine x_istore_n (lv' := [(3, .int (S.2 16)), (2, .int u21), (1, .int u20), (0, .ref (aS 0))]) C dX4_pass_16 rfl hl (by decide) rfl (fun ls hl => ?_)
  refine x_aload_n C dX4_pass_17 rfl hl 3 rfl ?_
  obtain ⟨u22, hu22, h⟩ := ob_some h
  refine x_callS (As := [.ref _]) (n := 1) C (kX0_createRequests l D cI cS aS _ hu22) (fun hh => nomatch hh) wm_X4_19 wt_X0_createRequests wz_X0 wc_X0_createRequests (by decide +kernel) rfl hP hD hS hA hl.1 dX4_pass_18 rfl (Nat.le_of_ble_eq_true rfl) ⟨Nat.le_of_ble_eq_true rfl, Nat.le_of_ble_eq_true rfl⟩ ⟨Nat.zero_le _, Nat.zero_le _⟩ (fun H locs hP hD hS => ?_)
  refine x_aload_n C dX4_pass_21 rfl hl 3 rfl ?_
  obtain ⟨u23, hu23, h⟩ := ob_some h
  refine x_callS (As := [.ref _]) (n := 1) C (kX0_sendWaiting l D cI cS aS _ hu23) (fun hh => nomatch hh) wm_X4_25 wt_X0_sendWaiting wz_X0 wc_X0_sendWaiting (by decide +kernel) rfl hP hD hS hA hl.1 dX4_pass_22 rfl (Nat.le_of_ble_eq_true rfl) ⟨Nat.le_of_ble_eq_true rfl, Nat.le_of_ble_eq_true rfl⟩ ⟨Nat.zero_le _, Nat.zero_le _⟩ (fun H locs hP hD hS => ?_)
  refine x_aload_n C dX4_pass_25 rfl hl 3 rfl ?_
  obtain ⟨u24, hu24, h⟩ := ob_some h
  refine x_callS (As := [.ref _]) (n := 1) C (kX1_fillBackWorkers l D cI cS aS _ hu24) (fun hh => nomatch hh) wm_X4_28 wt_X1_fillBackWorkers wz_X1 wc_X1_fillBackWorkers (by decide +kernel) rfl hP hD hS hA hl.1 dX4_pass_26 rfl (Nat.le_of_ble_eq_true rfl) ⟨Nat.le_of_ble_eq_true rfl, Nat.le_of_ble_eq_true rfl⟩ ⟨Nat.zero_le _, Nat.zero_le _⟩ (fun H locs hP hD hS => ?_)
  refine x_aload_n C dX4_pass_29 rfl hl 3 rfl ?_
  obtain ⟨u25, hu25, h⟩ := ob_some h
  refine x_callS (As := [.ref _]) (n := 1) C (kX1_fillFrontWorkers l D cI cS aS _ hu25) (fun hh => nomatch hh) wm_X4_33 wt_X1_fillFrontWorkers wz_X1 wc_X1_fillFrontWorkers (by decide +kernel) rfl hP hD hS hA hl.1 dX4_pass_30 rfl (Nat.le_of_ble_eq_true rfl) ⟨Nat.le_of_ble_eq_true rfl, Nat.le_of_ble_eq_true rfl⟩ ⟨Nat.zero_le _, Nat.zero_le _⟩ (fun H locs hP hD hS => ?_)
  refine x_aload_n C dX4_pass_33 rfl hl 3 rfl ?_
  obtain ⟨u26, hu26, h⟩ := ob_some h
  refine x_callS (As := [.ref _]) (n := 1) C (kX1_work l D cI cS aS _ hu26) (fun hh => nomatch hh) wm_X4_36 wt_X1_work wz_X1 wc_X1_work (by decide +kernel) rfl hP hD hS hA hl.1 dX4_pass_34 rfl (Nat.le_of_ble_eq_true rfl) ⟨Nat.le_of_ble_eq_true rfl, Nat.le_of_ble_eq_true rfl⟩ ⟨Nat.zero_le _, Nat.zero_le _⟩ (fun H locs hP hD hS => ?_)
  refine x_aload_n C dX4_pass_37 rfl hl 3 rfl ?_
  refine x_dup C dX4_pass_38 rfl ?_
  refine x_get C inX2 hP 0 rfl rfl 12 (by decide) wf_X4_39 rfl dX4_pass_39 ?_
  refine x_iconst (v := (1 : Int32)) C dX4_pass_42 (by decide) ?_
  refine x_iadd C dX4_pass_43 ?_
  refine x_putM (wS cI aS) C h inX2 tyX2 tyX2_ok nmX2 hP hD hS 0 rfl rfl 12 (by decide) wf_X4_39 rfl (ft := .int) (by decide +kernel) rfl rfl (Nat.le_of_ble_eq_true rfl) rfl dX4_pass_44 (fun S27 h H locs hP hD hS => ?_)
  refine x_aload_n C dX4_pass_47 rfl hl 3 rfl ?_
  obtain ⟨u28, hu28, h⟩ := ob_some h
  refine x_callS (As := [.ref _]) (n := 1) C (kX1_endBackWork l D cI cS aS _ hu28) (fun hh => nomatch hh) wm_X4_42 wt_X1_endBackWork wz_X1 wc_X1_endBackWork (by decide +kernel) rfl hP hD hS hA hl.1 dX4_pass_48 rfl (Nat.le_of_ble_eq_true rfl) ⟨Nat.le_of_ble_eq_true rfl, Nat.le_of_ble_eq_true rfl⟩ ⟨Nat.zero_le _, Nat.zero_le _⟩ (fun H locs hP hD hS => ?_)
  refine x_aload_n C dX4_pass_51 rfl hl 3 rfl ?_
  obtain ⟨u29, hu29, h⟩ := ob_some h
  refine x_callS (As := [.ref _]) (n := 1) C (kX1_endFrontWork l D cI cS aS _ hu29) (fun hh => nomatch hh) wm_X4_45 wt_X1_endFrontWork wz_X1 wc_X1_endFrontWork (by decide +kernel) rfl hP hD hS hA hl.1 dX4_pass_52 rfl (Nat.le_of_ble_eq_true rfl) ⟨Nat.le_of_ble_eq_true rfl, Nat.le_of_ble_eq_true rfl⟩ ⟨Nat.zero_le _, Nat.zero_le _⟩ (fun H locs hP hD hS => ?_)
  refine x_aload_n C dX4_pass_55 rfl hl 3 rfl ?_
  obtain ⟨u30, hu30, h⟩ := ob_some h
  refine x_callS (As := [.ref _]) (n := 1) C (kX0_abandonExpired l D cI cS aS _ hu30) (fun hh => nomatch hh) wm_X4_48 wt_X0_abandonExpired wz_X0 wc_X0_abandonExpired (by decide +kernel) rfl hP hD hS hA hl.1 dX4_pass_56 rfl (Nat.le_of_ble_eq_true rfl) ⟨Nat.le_of_ble_eq_true rfl, Nat.le_of_ble_eq_true rfl⟩ ⟨Nat.zero_le _, Nat.zero_le _⟩ (fun H locs hP hD hS => ?_)
  refine x_aload_n C dX4_pass_59 rfl hl 3 rfl ?_
  refine x_get C inX2 hP 0 rfl rfl 12 (by decide) wf_X4_39 rfl dX4_pass_60 ?_
  refine x_iconst (v := (1 : Int32)) C dX4_pass_63 (by decide) ?_
  refine x_isub C dX4_pass_64 ?_
  refine x_bipush (v := (64 : Int32)) C dX4_pass_65 (by decide) ?_
  obtain ⟨u31, hu31, h⟩ := ob_some h
  refine x_callS (As := [.int _, .int _]) (n := 2) C (kJ9_floorMod_7cf53 l D cI cS _ _ _ hu31) (fun hh => nomatch hh) wm_X4_51 wt_J9_floorMod_7cf53 wz_J9 wc_J9_floorMod_7cf53 (by decide +kernel) rfl hP hD hS hA hl.1 dX4_pass_67 rfl (Nat.le_of_ble_eq_true rfl) ⟨Nat.le_of_ble_eq_true rfl, Nat.le_of_ble_eq_true rfl⟩ ⟨Nat.zero_le _, Nat.zero_le _⟩ (fun H locs hP hD hS => ?_)
  refine x_istore (lv' := [(4, .int u31), (3, .int (S.2 16)), (2, .int u21), (1, .int u20), (0, .ref (aS 0))]) C dX4_pass_70 hl (by decide) rfl (fun ls hl => ?_)
  refine x_aload_n C dX4_pass_72 rfl hl 4 rfl ?_
  refine x_get C inX2 hP 0 rfl rfl 10 (by decide) wf_X4_57 rfl dX4_pass_73 ?_
  refine x_iload C dX4_pass_76 hl 0 rfl ?_
  refine x_iconst (v := (0 : Int32)) C dX4_pass_78 (by decide) ?_
  refine x_aload_n C dX4_pass_79 rfl hl 4 rfl ?_
  refine x_get C inX2 hP 0 rfl rfl 6 (by decide) wf_X4_61 rfl dX4_pass_80 ?_
  refine x_callV (As := []) (n := 0) C (kS_size l D cI cS aS _ 6 (by decide)) (fun hh => nomatch hh) wm_X4_64 wi_X3_size we_X3_size wz_X3 wc_X3_size (by decide +kernel) rfl hP hD hS hA 13 1 rfl rfl rfl hl.1 dX4_pass_83 rfl (Nat.le_of_ble_eq_true rfl) ⟨Nat.le_of_ble_eq_true rfl, Nat.le_of_ble_eq_true rfl⟩ ⟨Nat.zero_le _, Nat.zero_le _⟩ (fun H locs hP hD hS => ?_)
  refine x_callV (As := [.int _, .int _, .int _]) (n := 3) C (kS_put l D cI cS aS _ 10 (by decide) _ _ _) (fun hh => nomatch hh) wm_X4_70 wi_X3_put we_X3_put wz_X3 wc_X3_put (by decide +kernel) rfl hP hD hS hA 21 1 rfl rfl rfl hl.1 dX4_pass_86 rfl (Nat.le_of_ble_eq_true rfl) ⟨Nat.le_of_ble_eq_true rfl, Nat.le_of_ble_eq_true rfl⟩ ⟨Nat.zero_le _, Nat.zero_le _⟩ (fun H locs hP hD hS => ?_)
  refine x_nmS (wS cI aS) h hP hD (fun S32 h hP hD => ?_)
  refine x_aload_n C dX4_pass_89 rfl hl 4 rfl ?_
  refine x_get C inX2 hP 0 rfl rfl 10 (by decide) wf_X4_57 rfl dX4_pass_90 ?_
  refine x_iload C dX4_pass_93 hl 0 rfl ?_
  refine x_iconst (v := (1 : Int32)) C dX4_pass_95 (by decide) ?_
  refine x_aload_n C dX4_pass_96 rfl hl 4 rfl ?_
  refine x_iconst (v := (2 : Int32)) C dX4_pass_97 (by decide) ?_
  obtain ⟨u33, hu33, h⟩ := ob_some h
  refine x_callV (As := [.int _]) (n := 1) C (kX2_total l D cI cS aS _ _ hu33) (fun hh => nomatch hh) wm_X4_9 wi_X2_total we_X2_total wz_X2 wc_X2_total (by decide +kernel) rfl hP hD hS hA 0 0 rfl rfl rfl hl.1 dX4_pass_98 rfl (Nat.le_of_ble_eq_true rfl) ⟨Nat.le_of_ble_eq_true rfl, Nat.le_of_ble_eq_true rfl⟩ ⟨Nat.zero_le _, Nat.zero_le _⟩ (fun H locs hP hD hS => ?_)
  refine x_iload_n C dX4_pass_101 rfl hl 3 rfl ?_
  refine x_isub C dX4_pass_102 ?_
  refine x_callV (As := [.int _, .int _, .int _]) (n := 3) C (kS_put l D cI cS aS _ 10 (by decide) _ _ _) (fun hh => nomatch hh) wm_X4_70 wi_X3_put we_X3_put wz_X3 wc_X3_put (by decide +kernel) rfl hP hD hS hA 21 1 rfl rfl rfl hl.1 dX4_pass_103 rfl (Nat.le_of_ble_eq_true rfl) ⟨Nat.le_of_ble_eq_true rfl, Nat.le_of_ble_eq_true rfl⟩ ⟨Nat.zero_le _, Nat.zero_le _⟩ (fun H locs hP hD hS => ?_)
  refine x_nmS (wS cI aS) h hP hD (fun S34 h hP hD => ?_)
  refine x_aload_n C dX4_pass_106 rfl hl 4 rfl ?_
  refine x_get C inX2 hP 0 rfl rfl 10 (by decide) wf_X4_57 rfl dX4_pass_107 ?_
  refine x_iload C dX4_pass_110 hl 0 rfl ?_
  refine x_iconst (v := (2 : Int32)) C dX4_pass_112 (by decide) ?_
  refine x_aload_n C dX4_pass_113 rfl hl 4 rfl ?_
  refine x_iconst (v := (1 : Int32)) C dX4_pass_114 (by decide) ?_
  obtain ⟨u35, hu35, h⟩ := ob_some h
  refine x_callV (As := [.int _]) (n := 1) C (kX2_total l D cI cS aS _ _ hu35) (fun hh => nomatch hh) wm_X4_9 wi_X2_total we_X2_total wz_X2 wc_X2_total (by decide +kernel) rfl hP hD hS hA 0 0 rfl rfl rfl hl.1 dX4_pass_115 rfl (Nat.le_of_ble_eq_true rfl) ⟨Nat.le_of_ble_eq_true rfl, Nat.le_of_ble_eq_true rfl⟩ ⟨Nat.zero_le _, Nat.zero_le _⟩ (fun H locs hP hD hS => ?_)
  refine x_iload_n C dX4_pass_118 rfl hl 2 rfl ?_
  refine x_isub C dX4_pass_119 ?_
  refine x_callV (As := [.int _, .int _, .int _]) (n := 3) C (kS_put l D cI cS aS _ 10 (by decide) _ _ _) (fun hh => nomatch hh) wm_X4_70 wi_X3_put we_X3_put wz_X3 wc_X3_put (by decide +kernel) rfl hP hD hS hA 21 1 rfl rfl rfl hl.1 dX4_pass_120 rfl (Nat.le_of_ble_eq_true rfl) ⟨Nat.le_of_ble_eq_true rfl, Nat.le_of_ble_eq_true rfl⟩ ⟨Nat.zero_le _, Nat.zero_le _⟩ (fun H locs hP hD hS => ?_)
  refine x_nmS (wS cI aS) h hP hD (fun S36 h hP hD => ?_)
  refine x_aload_n C dX4_pass_123 rfl hl 4 rfl ?_
  refine x_get C inX2 hP 0 rfl rfl 10 (by decide) wf_X4_57 rfl dX4_pass_124 ?_
  refine x_iload C dX4_pass_127 hl 0 rfl ?_
  refine x_iconst (v := (3 : Int32)) C dX4_pass_129 (by decide) ?_
  refine x_aload_n C dX4_pass_130 rfl hl 4 rfl ?_
  refine x_get C inX2 hP 0 rfl rfl 16 (by decide) wf_X4_15 rfl dX4_pass_131 ?_
  refine x_iload_n C dX4_pass_134 rfl hl 1 rfl ?_
  refine x_isub C dX4_pass_135 ?_
  refine x_callV (As := [.int _, .int _, .int _]) (n := 3) C (kS_put l D cI cS aS _ 10 (by decide) _ _ _) (fun hh => nomatch hh) wm_X4_70 wi_X3_put we_X3_put wz_X3 wc_X3_put (by decide +kernel) rfl hP hD hS hA 21 1 rfl rfl rfl hl.1 dX4_pass_136 rfl (Nat.le_of_ble_eq_true rfl) ⟨Nat.le_of_ble_eq_true rfl, Nat.le_of_ble_eq_true rfl⟩ ⟨Nat.zero_le _, Nat.zero_le _⟩ (fun H locs hP hD hS => ?_)
  refine x_nmS (wS cI aS) h hP hD (fun S37 h hP hD => ?_)
  refine x_aload_n C dX4_pass_139 rfl hl 4 rfl ?_
  refine x_aload_n C dX4_pass_140 rfl hl 4 rfl ?_
  refine x_get C inX2 hP 0 rfl rfl 17 (by decide) wf_X4_74 rfl dX4_pass_141 ?_
  refine x_aload_n C dX4_pass_144 rfl hl 4 rfl ?_
  refine x_get C inX2 hP 0 rfl rfl 6 (by decide) wf_X4_61 rfl dX4_pass_145 ?_
  refine x_callV (As := []) (n := 0) C (kS_size l D cI cS aS _ 6 (by decide)) (fun hh => nomatch hh) wm_X4_64 wi_X3_size we_X3_size wz_X3 wc_X3_size (by decide +kernel) rfl hP hD hS hA 13 1 rfl rfl rfl hl.1 dX4_pass_148 rfl (Nat.le_of_ble_eq_true rfl) ⟨Nat.le_of_ble_eq_true rfl, Nat.le_of_ble_eq_true rfl⟩ ⟨Nat.zero_le _, Nat.zero_le _⟩ (fun H locs hP hD hS => ?_)
  refine x_max C hl.1 wm_X4_77 wt_J9_max_7cf53 wz_J9 wc_J9_max_7cf53 (by decide) (Nat.le_of_ble_eq_true rfl) ⟨Nat.zero_le _, Nat.zero_le _⟩ dX4_pass_151 ?_
  refine x_putM (wS cI aS) C h inX2 tyX2 tyX2_ok nmX2 hP hD hS 0 rfl rfl 17 (by decide) wf_X4_74 rfl (ft := .int) (by decide +kernel) rfl rfl (Nat.le_of_ble_eq_true rfl) rfl dX4_pass_154 (fun S38 h H locs hP hD hS => ?_)
  exact RETh dX4_pass_157 h hP hD hS
end
section
/-! the object: six States (state, trial, four recorded) with their addresses, and how many are recorded -/
abbrev RS : Type := (Nat → Nat → Nat) × (Nat → StS) × Int32
def stF (B : Nat → Nat) (S : StS) : List Value := [.ref (B 1), .ref (B 3), .ref (B 5), .ref (B 7), .ref (B 9), .ref (B 11), .ref (B 13), .ref (B 15), .ref (B 17), .ref (B 19), .ref (B 21), .int (S.2 11), .int (S.2 12), .int (S.2 13), .int (S.2 14), .int (S.2 15), .int (S.2 16), .int (S.2 17)]
def recG (X : RS) : Nat → Option Nat := fun j => some (X.1 (j + 2) 0)
/-- with any row of references, and any number, in the object's place -/
def wRg (cI cS : ClassId) (aR : Nat → Nat) (X : RS) (g : Nat → Option Nat) (r : Int32) : va_W := [(aR 0, .inr (2, [.ref (X.1 0 0), .ref (X.1 1 0), .ref (aR 1), .int r])), (aR 1, .inl (cS, 4, .inr (.inr (.inr (.inr g)))))] ++ (wS cI (X.1 0) (X.2.1 0) ++ (wS cI (X.1 1) (X.2.1 1) ++ (wS cI (X.1 2) (X.2.1 2) ++ (wS cI (X.1 3) (X.2.1 3) ++ (wS cI (X.1 4) (X.2.1 4) ++ (wS cI (X.1 5) (X.2.1 5)))))))
def wR (cI cS : ClassId) (aR : Nat → Nat) (X : RS) : va_W := wRg cI cS aR X (recG X) X.2.2
def rset (X : RS) (i : Nat) (S : StS) : RS := (X.1, va_up X.2.1 i S, X.2.2)
def rdrop (X : RS) : RS := (fun i => X.1 ([0, 1, 3, 4, 5, 2].getD i 0), fun i => X.2.1 ([0, 1, 3, 4, 5, 2].getD i 0), X.2.2 - 1)
theorem wR_split (cI cS : ClassId) (aR : Nat → Nat) (X : RS) (i : Nat) (hi : i < 6) : ∃ pre post : va_W, wR cI cS aR X = pre ++ (wS cI (X.1 i) (X.2.1 i) ++ post) ∧ ∀ S, wR cI cS aR (rset X i S) = pre ++ (wS cI (X.1 i) S ++ post) := by
  match i, hi with
  | 0, _ => exact ⟨[(aR 0, .inr (2, [.ref (X.1 0 0), .ref (X.1 1 0), .ref (aR 1), .int X.2.2])), (aR 1, .inl (cS, 4, .inr (.inr (.inr (.inr (recG X))))))], wS cI (X.1 1) (X.2.1 1) ++ (wS cI (X.1 2) (X.2.1 2) ++ (wS cI (X.1 3) (X.2.1 3) ++ (wS cI (X.1 4) (X.2.1 4) ++ (wS cI (X.1 5) (X.2.1 5))))), rfl, fun _ => rfl⟩
  | 1, _ => exact ⟨[(aR 0, .inr (2, [.ref (X.1 0 0), .ref (X.1 1 0), .ref (aR 1), .int X.2.2])), (aR 1, .inl (cS, 4, .inr (.inr (.inr (.inr (recG X))))))] ++ (wS cI (X.1 0) (X.2.1 0)), wS cI (X.1 2) (X.2.1 2) ++ (wS cI (X.1 3) (X.2.1 3) ++ (wS cI (X.1 4) (X.2.1 4) ++ (wS cI (X.1 5) (X.2.1 5)))), rfl, fun _ => rfl⟩
  | 2, _ => exact ⟨[(aR 0, .inr (2, [.ref (X.1 0 0), .ref (X.1 1 0), .ref (aR 1), .int X.2.2])), (aR 1, .inl (cS, 4, .inr (.inr (.inr (.inr (recG X))))))] ++ (wS cI (X.1 0) (X.2.1 0) ++ (wS cI (X.1 1) (X.2.1 1))), wS cI (X.1 3) (X.2.1 3) ++ (wS cI (X.1 4) (X.2.1 4) ++ (wS cI (X.1 5) (X.2.1 5))), rfl, fun _ => rfl⟩
  | 3, _ => exact ⟨[(aR 0, .inr (2, [.ref (X.1 0 0), .ref (X.1 1 0), .ref (aR 1), .int X.2.2])), (aR 1, .inl (cS, 4, .inr (.inr (.inr (.inr (recG X))))))] ++ (wS cI (X.1 0) (X.2.1 0) ++ (wS cI (X.1 1) (X.2.1 1) ++ (wS cI (X.1 2) (X.2.1 2)))), wS cI (X.1 4) (X.2.1 4) ++ (wS cI (X.1 5) (X.2.1 5)), rfl, fun _ => rfl⟩
  | 4, _ => exact ⟨[(aR 0, .inr (2, [.ref (X.1 0 0), .ref (X.1 1 0), .ref (aR 1), .int X.2.2])), (aR 1, .inl (cS, 4, .inr (.inr (.inr (.inr (recG X))))))] ++ (wS cI (X.1 0) (X.2.1 0) ++ (wS cI (X.1 1) (X.2.1 1) ++ (wS cI (X.1 2) (X.2.1 2) ++ (wS cI (X.1 3) (X.2.1 3))))), wS cI (X.1 5) (X.2.1 5), rfl, fun _ => rfl⟩
  | 5, _ => exact ⟨[(aR 0, .inr (2, [.ref (X.1 0 0), .ref (X.1 1 0), .ref (aR 1), .int X.2.2])), (aR 1, .inl (cS, 4, .inr (.inr (.inr (.inr (recG X))))))] ++ (wS cI (X.1 0) (X.2.1 0) ++ (wS cI (X.1 1) (X.2.1 1) ++ (wS cI (X.1 2) (X.2.1 2) ++ (wS cI (X.1 3) (X.2.1 3) ++ (wS cI (X.1 4) (X.2.1 4)))))), [], rfl, fun _ => rfl⟩
  | i + 6, h => exact absurd h (by omega)
theorem Mc.toR {l : Launch} {D : va_G} {ty : List (ClassId × FieldType)} {z : Bool} {y : MethodName} {cc : ByteArray} {nL : Nat} {ret : Option FieldType} {d : Nat} {as : List Value} {v : Option Value} {cI : ClassId} {X : RS} {i : Nat} {S : StS} (h : Mc l D ty z y cc nL ret d as (wS cI (X.1 i) (X.2.1 i)) v (wS cI (X.1 i) S)) (cS : ClassId) (aR : Nat → Nat) (hi : i < 6) : Mc l D ty z y cc nL ret d as (wR cI cS aR X) v (wR cI cS aR (rset X i S)) := by
  obtain ⟨pre, post, e1, e2⟩ := wR_split cI cS aR X i hi
  rw [e1, e2]
  exact h.mid rfl pre post
theorem Mc.toR0 {l : Launch} {D : va_G} {ty : List (ClassId × FieldType)} {z : Bool} {y : MethodName} {cc : ByteArray} {nL : Nat} {ret : Option FieldType} {d : Nat} {as : List Value} {v : Option Value} {cI : ClassId} {X : RS} {i : Nat} (h : Mc l D ty z y cc nL ret d as (wS cI (X.1 i) (X.2.1 i)) v (wS cI (X.1 i) (X.2.1 i))) (cS : ClassId) (aR : Nat → Nat) (hi : i < 6) : Mc l D ty z y cc nL ret d as (wR cI cS aR X) v (wR cI cS aR X) := by
  obtain ⟨pre, post, e1, e2⟩ := wR_split cI cS aR X i hi
  rw [e1]
  exact h.mid rfl pre post
theorem wR_recv (cI cS : ClassId) (aR : Nat → Nat) (X : RS) (i : Nat) (hi : i < 6) : (wR cI cS aR X)[2 + 23 * i]? = some (X.1 i 0, .inr (0, stF (X.1 i) (X.2.1 i))) := by
  match i, hi with
  | 0, _ => rfl
  | 1, _ => rfl
  | 2, _ => rfl
  | 3, _ => rfl
  | 4, _ => rfl
  | 5, _ => rfl
  | i + 6, h => exact absurd h (by omega)
/-- State.copyFrom: the two are alike behind it -/
theorem copyS_some (S : StS × StS) : ∃ q, fX2_copyFrom S = some q ∧ (∀ cI aS bS, wSS cI aS bS q = wSS cI aS bS (S.2, S.2)) := by
  refine ⟨_, rfl, fun cI aS bS => ?_⟩
  rfl
theorem kSS_copy (l : Launch) (D : va_G) (cI cS : ClassId) (aS bS : Nat → Nat) (S : StS × StS) : Mc l D (tyL cI cS) false yX2_copyFrom cX2_copyFrom 2 none 3 [.ref (aS 0), .ref (bS 0)] (wSS cI aS bS S) none (wSS cI aS bS (S.2, S.2)) := by
  obtain ⟨q, h1, h2⟩ := copyS_some S
  have h := kX2_copyFrom l D cI cS aS bS S h1
  rw [h2 cI aS bS] at h
  exact h
def hdR (cS : ClassId) (aR : Nat → Nat) (X : RS) : va_W := [(aR 0, .inr (2, [.ref (X.1 0 0), .ref (X.1 1 0), .ref (aR 1), .int X.2.2])), (aR 1, .inl (cS, 4, .inr (.inr (.inr (.inr (recG X))))))]
theorem flat6 (seg : Nat → va_W) : (([0, 1, 2, 3, 4, 5] : List Nat).map seg).flatten = seg 0 ++ (seg 1 ++ (seg 2 ++ (seg 3 ++ (seg 4 ++ seg 5)))) := by simp
theorem seg_perm {head : va_W} {seg : Nat → va_W} {i j : Nat} {rest : List Nat} {fr : va_W} (h : List.Perm [0, 1, 2, 3, 4, 5] (i :: j :: rest)) (hf : (rest.map seg).flatten = fr) : (head ++ (seg 0 ++ (seg 1 ++ (seg 2 ++ (seg 3 ++ (seg 4 ++ seg 5)))))).Perm ((seg i ++ seg j) ++ (head ++ fr)) := by
  subst hf
  rw [← flat6]
  have h1 : (([0, 1, 2, 3, 4, 5] : List Nat).map seg).flatten.Perm (seg i ++ (seg j ++ (rest.map seg).flatten)) := (h.map seg).flatten
  refine (List.Perm.append_left head h1).trans ?_
  rw [← List.append_assoc (seg i)]
  exact List.perm_append_comm_assoc _ _ _
theorem wR_two (cI cS : ClassId) (aR : Nat → Nat) (X : RS) (i j : Nat) (hi : i < 6) (hj : j < 6) (hij : i ≠ j) : ∃ fr, ∀ S, (wR cI cS aR (rset X i S)).Perm ((wS cI (X.1 i) S ++ wS cI (X.1 j) (X.2.1 j)) ++ fr) := by
  match i, hi, j, hj, hij with
  | 0, _, 0, _, h => exact absurd rfl h
  | 0, _, 1, _, _ => exact ⟨hdR cS aR X ++ (wS cI (X.1 2) (X.2.1 2) ++ (wS cI (X.1 3) (X.2.1 3) ++ (wS cI (X.1 4) (X.2.1 4) ++ (wS cI (X.1 5) (X.2.1 5))))), fun S => seg_perm (head := hdR cS aR X) (seg := fun m => wS cI (X.1 m) (va_up X.2.1 0 S m)) (i := 0) (j := 1) (rest := [2, 3, 4, 5]) (by decide) (by simp [va_up])⟩
  | 0, _, 2, _, _ => exact ⟨hdR cS aR X ++ (wS cI (X.1 1) (X.2.1 1) ++ (wS cI (X.1 3) (X.2.1 3) ++ (wS cI (X.1 4) (X.2.1 4) ++ (wS cI (X.1 5) (X.2.1 5))))), fun S => seg_perm (head := hdR cS aR X) (seg := fun m => wS cI (X.1 m) (va_up X.2.1 0 S m)) (i := 0) (j := 2) (rest := [1, 3, 4, 5]) (by decide) (by simp [va_up])⟩
  | 0, _, 3, _, _ => exact ⟨hdR cS aR X ++ (wS cI (X.1 1) (X.2.1 1) ++ (wS cI (X.1 2) (X.2.1 2) ++ (wS cI (X.1 4) (X.2.1 4) ++ (wS cI (X.1 5) (X.2.1 5))))), fun S => seg_perm (head := hdR cS aR X) (seg := fun m => wS cI (X.1 m) (va_up X.2.1 0 S m)) (i := 0) (j := 3) (rest := [1, 2, 4, 5]) (by decide) (by simp [va_up])⟩
  | 0, _, 4, _, _ => exact ⟨hdR cS aR X ++ (wS cI (X.1 1) (X.2.1 1) ++ (wS cI (X.1 2) (X.2.1 2) ++ (wS cI (X.1 3) (X.2.1 3) ++ (wS cI (X.1 5) (X.2.1 5))))), fun S => seg_perm (head := hdR cS aR X) (seg := fun m => wS cI (X.1 m) (va_up X.2.1 0 S m)) (i := 0) (j := 4) (rest := [1, 2, 3, 5]) (by decide) (by simp [va_up])⟩
  | 0, _, 5, _, _ => exact ⟨hdR cS aR X ++ (wS cI (X.1 1) (X.2.1 1) ++ (wS cI (X.1 2) (X.2.1 2) ++ (wS cI (X.1 3) (X.2.1 3) ++ (wS cI (X.1 4) (X.2.1 4))))), fun S => seg_perm (head := hdR cS aR X) (seg := fun m => wS cI (X.1 m) (va_up X.2.1 0 S m)) (i := 0) (j := 5) (rest := [1, 2, 3, 4]) (by decide) (by simp [va_up])⟩
  | 1, _, 0, _, _ => exact ⟨hdR cS aR X ++ (wS cI (X.1 2) (X.2.1 2) ++ (wS cI (X.1 3) (X.2.1 3) ++ (wS cI (X.1 4) (X.2.1 4) ++ (wS cI (X.1 5) (X.2.1 5))))), fun S => seg_perm (head := hdR cS aR X) (seg := fun m => wS cI (X.1 m) (va_up X.2.1 1 S m)) (i := 1) (j := 0) (rest := [2, 3, 4, 5]) (by decide) (by simp [va_up])⟩
  | 1, _, 1, _, h => exact absurd rfl h
  | 1, _, 2, _, _ => exact ⟨hdR cS aR X ++ (wS cI (X.1 0) (X.2.1 0) ++ (wS cI (X.1 3) (X.2.1 3) ++ (wS cI (X.1 4) (X.2.1 4) ++ (wS cI (X.1 5) (X.2.1 5))))), fun S => seg_perm (head := hdR cS aR X) (seg := fun m => wS cI (X.1 m) (va_up X.2.1 1 S m)) (i := 1) (j := 2) (rest := [0, 3, 4, 5]) (by decide) (by simp [va_up])⟩
  | 1, _, 3, _, _ => exact ⟨hdR cS aR X ++ (wS cI (X.1 0) (X.2.1 0) ++ (wS cI (X.1 2) (X.2.1 2) ++ (wS cI (X.1 4) (X.2.1 4) ++ (wS cI (X.1 5) (X.2.1 5))))), fun S => seg_perm (head := hdR cS aR X) (seg := fun m => wS cI (X.1 m) (va_up X.2.1 1 S m)) (i := 1) (j := 3) (rest := [0, 2, 4, 5]) (by decide) (by simp [va_up])⟩
  | 1, _, 4, _, _ => exact ⟨hdR cS aR X ++ (wS cI (X.1 0) (X.2.1 0) ++ (wS cI (X.1 2) (X.2.1 2) ++ (wS cI (X.1 3) (X.2.1 3) ++ (wS cI (X.1 5) (X.2.1 5))))), fun S => seg_perm (head := hdR cS aR X) (seg := fun m => wS cI (X.1 m) (va_up X.2.1 1 S m)) (i := 1) (j := 4) (rest := [0, 2, 3, 5]) (by decide) (by simp [va_up])⟩
  | 1, _, 5, _, _ => exact ⟨hdR cS aR X ++ (wS cI (X.1 0) (X.2.1 0) ++ (wS cI (X.1 2) (X.2.1 2) ++ (wS cI (X.1 3) (X.2.1 3) ++ (wS cI (X.1 4) (X.2.1 4))))), fun S => seg_perm (head := hdR cS aR X) (seg := fun m => wS cI (X.1 m) (va_up X.2.1 1 S m)) (i := 1) (j := 5) (rest := [0, 2, 3, 4]) (by decide) (by simp [va_up])⟩
  | 2, _, 0, _, _ => exact ⟨hdR cS aR X ++ (wS cI (X.1 1) (X.2.1 1) ++ (wS cI (X.1 3) (X.2.1 3) ++ (wS cI (X.1 4) (X.2.1 4) ++ (wS cI (X.1 5) (X.2.1 5))))), fun S => seg_perm (head := hdR cS aR X) (seg := fun m => wS cI (X.1 m) (va_up X.2.1 2 S m)) (i := 2) (j := 0) (rest := [1, 3, 4, 5]) (by decide) (by simp [va_up])⟩
  | 2, _, 1, _, _ => exact ⟨hdR cS aR X ++ (wS cI (X.1 0) (X.2.1 0) ++ (wS cI (X.1 3) (X.2.1 3) ++ (wS cI (X.1 4) (X.2.1 4) ++ (wS cI (X.1 5) (X.2.1 5))))), fun S => seg_perm (head := hdR cS aR X) (seg := fun m => wS cI (X.1 m) (va_up X.2.1 2 S m)) (i := 2) (j := 1) (rest := [0, 3, 4, 5]) (by decide) (by simp [va_up])⟩
  | 2, _, 2, _, h => exact absurd rfl h
  | 2, _, 3, _, _ => exact ⟨hdR cS aR X ++ (wS cI (X.1 0) (X.2.1 0) ++ (wS cI (X.1 1) (X.2.1 1) ++ (wS cI (X.1 4) (X.2.1 4) ++ (wS cI (X.1 5) (X.2.1 5))))), fun S => seg_perm (head := hdR cS aR X) (seg := fun m => wS cI (X.1 m) (va_up X.2.1 2 S m)) (i := 2) (j := 3) (rest := [0, 1, 4, 5]) (by decide) (by simp [va_up])⟩
  | 2, _, 4, _, _ => exact ⟨hdR cS aR X ++ (wS cI (X.1 0) (X.2.1 0) ++ (wS cI (X.1 1) (X.2.1 1) ++ (wS cI (X.1 3) (X.2.1 3) ++ (wS cI (X.1 5) (X.2.1 5))))), fun S => seg_perm (head := hdR cS aR X) (seg := fun m => wS cI (X.1 m) (va_up X.2.1 2 S m)) (i := 2) (j := 4) (rest := [0, 1, 3, 5]) (by decide) (by simp [va_up])⟩
  | 2, _, 5, _, _ => exact ⟨hdR cS aR X ++ (wS cI (X.1 0) (X.2.1 0) ++ (wS cI (X.1 1) (X.2.1 1) ++ (wS cI (X.1 3) (X.2.1 3) ++ (wS cI (X.1 4) (X.2.1 4))))), fun S => seg_perm (head := hdR cS aR X) (seg := fun m => wS cI (X.1 m) (va_up X.2.1 2 S m)) (i := 2) (j := 5) (rest := [0, 1, 3, 4]) (by decide) (by simp [va_up])⟩
  | 3, _, 0, _, _ => exact ⟨hdR cS aR X ++ (wS cI (X.1 1) (X.2.1 1) ++ (wS cI (X.1 2) (X.2.1 2) ++ (wS cI (X.1 4) (X.2.1 4) ++ (wS cI (X.1 5) (X.2.1 5))))), fun S => seg_perm (head := hdR cS aR X) (seg := fun m => wS cI (X.1 m) (va_up X.2.1 3 S m)) (i := 3) (j := 0) (rest := [1, 2, 4, 5]) (by decide) (by simp [va_up])⟩
  | 3, _, 1, _, _ => exact ⟨hdR cS aR X ++ (wS cI (X.1 0) (X.2.1 0) ++ (wS cI (X.1 2) (X.2.1 2) ++ (wS cI (X.1 4) (X.2.1 4) ++ (wS cI (X.1 5) (X.2.1 5))))), fun S => seg_perm (head := hdR cS aR X) (seg := fun m => wS cI (X.1 m) (va_up X.2.1 3 S m)) (i := 3) (j := 1) (rest := [0, 2, 4, 5]) (by decide) (by simp [va_up])⟩
  | 3, _, 2, _, _ => exact ⟨hdR cS aR X ++ (wS cI (X.1 0) (X.2.1 0) ++ (wS cI (X.1 1) (X.2.1 1) ++ (wS cI (X.1 4) (X.2.1 4) ++ (wS cI (X.1 5) (X.2.1 5))))), fun S => seg_perm (head := hdR cS aR X) (seg := fun m => wS cI (X.1 m) (va_up X.2.1 3 S m)) (i := 3) (j := 2) (rest := [0, 1, 4, 5]) (by decide) (by simp [va_up])⟩
  | 3, _, 3, _, h => exact absurd rfl h
  | 3, _, 4, _, _ => exact ⟨hdR cS aR X ++ (wS cI (X.1 0) (X.2.1 0) ++ (wS cI (X.1 1) (X.2.1 1) ++ (wS cI (X.1 2) (X.2.1 2) ++ (wS cI (X.1 5) (X.2.1 5))))), fun S => seg_perm (head := hdR cS aR X) (seg := fun m => wS cI (X.1 m) (va_up X.2.1 3 S m)) (i := 3) (j := 4) (rest := [0, 1, 2, 5]) (by decide) (by simp [va_up])⟩
  | 3, _, 5, _, _ => exact ⟨hdR cS aR X ++ (wS cI (X.1 0) (X.2.1 0) ++ (wS cI (X.1 1) (X.2.1 1) ++ (wS cI (X.1 2) (X.2.1 2) ++ (wS cI (X.1 4) (X.2.1 4))))), fun S => seg_perm (head := hdR cS aR X) (seg := fun m => wS cI (X.1 m) (va_up X.2.1 3 S m)) (i := 3) (j := 5) (rest := [0, 1, 2, 4]) (by decide) (by simp [va_up])⟩
  | 4, _, 0, _, _ => exact ⟨hdR cS aR X ++ (wS cI (X.1 1) (X.2.1 1) ++ (wS cI (X.1 2) (X.2.1 2) ++ (wS cI (X.1 3) (X.2.1 3) ++ (wS cI (X.1 5) (X.2.1 5))))), fun S => seg_perm (head := hdR cS aR X) (seg := fun m => wS cI (X.1 m) (va_up X.2.1 4 S m)) (i := 4) (j := 0) (rest := [1, 2, 3, 5]) (by decide) (by simp [va_up])⟩
  | 4, _, 1, _, _ => exact ⟨hdR cS aR X ++ (wS cI (X.1 0) (X.2.1 0) ++ (wS cI (X.1 2) (X.2.1 2) ++ (wS cI (X.1 3) (X.2.1 3) ++ (wS cI (X.1 5) (X.2.1 5))))), fun S => seg_perm (head := hdR cS aR X) (seg := fun m => wS cI (X.1 m) (va_up X.2.1 4 S m)) (i := 4) (j := 1) (rest := [0, 2, 3, 5]) (by decide) (by simp [va_up])⟩
  | 4, _, 2, _, _ => exact ⟨hdR cS aR X ++ (wS cI (X.1 0) (X.2.1 0) ++ (wS cI (X.1 1) (X.2.1 1) ++ (wS cI (X.1 3) (X.2.1 3) ++ (wS cI (X.1 5) (X.2.1 5))))), fun S => seg_perm (head := hdR cS aR X) (seg := fun m => wS cI (X.1 m) (va_up X.2.1 4 S m)) (i := 4) (j := 2) (rest := [0, 1, 3, 5]) (by decide) (by simp [va_up])⟩
  | 4, _, 3, _, _ => exact ⟨hdR cS aR X ++ (wS cI (X.1 0) (X.2.1 0) ++ (wS cI (X.1 1) (X.2.1 1) ++ (wS cI (X.1 2) (X.2.1 2) ++ (wS cI (X.1 5) (X.2.1 5))))), fun S => seg_perm (head := hdR cS aR X) (seg := fun m => wS cI (X.1 m) (va_up X.2.1 4 S m)) (i := 4) (j := 3) (rest := [0, 1, 2, 5]) (by decide) (by simp [va_up])⟩
  | 4, _, 4, _, h => exact absurd rfl h
  | 4, _, 5, _, _ => exact ⟨hdR cS aR X ++ (wS cI (X.1 0) (X.2.1 0) ++ (wS cI (X.1 1) (X.2.1 1) ++ (wS cI (X.1 2) (X.2.1 2) ++ (wS cI (X.1 3) (X.2.1 3))))), fun S => seg_perm (head := hdR cS aR X) (seg := fun m => wS cI (X.1 m) (va_up X.2.1 4 S m)) (i := 4) (j := 5) (rest := [0, 1, 2, 3]) (by decide) (by simp [va_up])⟩
  | 5, _, 0, _, _ => exact ⟨hdR cS aR X ++ (wS cI (X.1 1) (X.2.1 1) ++ (wS cI (X.1 2) (X.2.1 2) ++ (wS cI (X.1 3) (X.2.1 3) ++ (wS cI (X.1 4) (X.2.1 4))))), fun S => seg_perm (head := hdR cS aR X) (seg := fun m => wS cI (X.1 m) (va_up X.2.1 5 S m)) (i := 5) (j := 0) (rest := [1, 2, 3, 4]) (by decide) (by simp [va_up])⟩
  | 5, _, 1, _, _ => exact ⟨hdR cS aR X ++ (wS cI (X.1 0) (X.2.1 0) ++ (wS cI (X.1 2) (X.2.1 2) ++ (wS cI (X.1 3) (X.2.1 3) ++ (wS cI (X.1 4) (X.2.1 4))))), fun S => seg_perm (head := hdR cS aR X) (seg := fun m => wS cI (X.1 m) (va_up X.2.1 5 S m)) (i := 5) (j := 1) (rest := [0, 2, 3, 4]) (by decide) (by simp [va_up])⟩
  | 5, _, 2, _, _ => exact ⟨hdR cS aR X ++ (wS cI (X.1 0) (X.2.1 0) ++ (wS cI (X.1 1) (X.2.1 1) ++ (wS cI (X.1 3) (X.2.1 3) ++ (wS cI (X.1 4) (X.2.1 4))))), fun S => seg_perm (head := hdR cS aR X) (seg := fun m => wS cI (X.1 m) (va_up X.2.1 5 S m)) (i := 5) (j := 2) (rest := [0, 1, 3, 4]) (by decide) (by simp [va_up])⟩
  | 5, _, 3, _, _ => exact ⟨hdR cS aR X ++ (wS cI (X.1 0) (X.2.1 0) ++ (wS cI (X.1 1) (X.2.1 1) ++ (wS cI (X.1 2) (X.2.1 2) ++ (wS cI (X.1 4) (X.2.1 4))))), fun S => seg_perm (head := hdR cS aR X) (seg := fun m => wS cI (X.1 m) (va_up X.2.1 5 S m)) (i := 5) (j := 3) (rest := [0, 1, 2, 4]) (by decide) (by simp [va_up])⟩
  | 5, _, 4, _, _ => exact ⟨hdR cS aR X ++ (wS cI (X.1 0) (X.2.1 0) ++ (wS cI (X.1 1) (X.2.1 1) ++ (wS cI (X.1 2) (X.2.1 2) ++ (wS cI (X.1 3) (X.2.1 3))))), fun S => seg_perm (head := hdR cS aR X) (seg := fun m => wS cI (X.1 m) (va_up X.2.1 5 S m)) (i := 5) (j := 4) (rest := [0, 1, 2, 3]) (by decide) (by simp [va_up])⟩
  | 5, _, 5, _, h => exact absurd rfl h
  | i + 6, h, _, _, _ => exact absurd h (by omega)
  | _, _, j + 6, h, _ => exact absurd h (by omega)
theorem kR_copyFrom (l : Launch) (D : va_G) (cI cS : ClassId) (aR : Nat → Nat) (X : RS) (i j : Nat) (hi : i < 6) (hj : j < 6) (hij : i ≠ j) : Mc l D (tyL cI cS) false yX2_copyFrom cX2_copyFrom 2 none 3 [.ref (X.1 i 0), .ref (X.1 j 0)] (wR cI cS aR X) none (wR cI cS aR (rset X i (X.2.1 j))) := by
  have h := kSS_copy l D cI cS (X.1 i) (X.1 j) (X.2.1 i, X.2.1 j)
  obtain ⟨pre, post, e1, e2⟩ := wR_split cI cS aR X i hi
  obtain ⟨fr, hf⟩ := wR_two cI cS aR X i j hi hj hij
  have h0 : (wR cI cS aR X).Perm ((wS cI (X.1 i) (X.2.1 i) ++ wS cI (X.1 j) (X.2.1 j)) ++ fr) := by
    rw [e1, ← e2]
    exact hf _
  exact h.frame h0 (hf _) rfl
end
section
/-! static tables, rows of references -/
section XS
variable {p : Program} {l : Launch} {e : Env} {R : Room} {s : State} {m : MethodId} {args : Array Value} {below : List Frame} {meth : Method} {c : Code} {H : Heap} {locs : List Loc} {cells slots : Nat} {Q : State → Prop} {own : String} {cc : ByteArray} {nL : Nat} {ret : Option FieldType} {D : va_G} {ty : List (ClassId × FieldType)} {pc index : Nat} {ls : Array Slot} {rest : List Value} {A : Nat → Prop} {H0 : Heap} {ws : va_W} {ρ : Type} {X Y : Option ρ} {q : ρ}
theorem x_gets (C : Cx p s m args meth c own cc nL ret D ty) {n : String} {a : Nat} (hZ : va_Z "RetryStorm" n "[I" (.ref a) A s s.heap) (hS : va_S A s.heap H locs) (hw : Cond.fieldLink own index "RetryStorm" n "[I" ∈ WS) (hdg : decode cc pc = .ok (.getstatic index, 3))
    (kk : W p l e R s m args below meth c H locs cells slots Q (F0 m (pc + 3) ls (.ref a :: rest))) : W p l e R s m args below meth c H locs cells slots Q (F0 m pc ls rest) :=
  va_gets C.1 C.2.1 hZ hS C.2.2.2.1 (C.2.2.2.2.1 _ hw) (fun _ h => h) hdg kk
theorem x_taldK (C : Cx p s m args meth c own cc nL ret D ty) {t : List Int32} {a : Nat} (hT : va_T .int a 12 (tabF t) A s s.heap) (hS : va_S A s.heap H locs) {i : Int32} (hin : okI i 12) (hdg : decode cc pc = .ok (.iaload, 1))
    (kk : W p l e R s m args below meth c H locs cells slots Q (F0 m (pc + 1) ls (.int (tabI t i.toNatClampNeg) :: rest))) : W p l e R s m args below meth c H locs cells slots Q (F0 m pc ls (.int i :: .ref a :: rest)) :=
  va_ti C.1 C.2.1 hT hS hin (v := .int (tabI t i.toNatClampNeg)) rfl hdg kk
theorem x_tald (C : Cx p s m args meth c own cc nL ret D ty) {t : List Int32} {a : Nat} (hT : va_T .int a 12 (tabF t) A s s.heap) (hS : va_S A s.heap H locs) {i : Int32} (h : (if okI i 12 then X else none) = some q) (hdg : decode cc pc = .ok (.iaload, 1))
    (kk : X = some q → W p l e R s m args below meth c H locs cells slots Q (F0 m (pc + 1) ls (.int (tabI t i.toNatClampNeg) :: rest))) : W p l e R s m args below meth c H locs cells slots Q (F0 m pc ls (.int i :: .ref a :: rest)) := by
  obtain ⟨hc, h⟩ := x_ifn h
  exact x_taldK C hT hS hc hdg (kk h)
theorem x_aald (C : Cx p s m args meth c own cc nL ret D ty) {a t0 v : Nat} {cA : ClassId} {n : Nat} {g : Nat → Option Nat} {i : Int32} {Cn : String} (hin : okI i n) (hP : va_P D vwCl ws H) (q0 : Nat) (ha : ws[q0]? = some (a, .inl (cA, n, .inr (.inr (.inr (.inr g)))))) (ht : ty[t0]? = some (cA, .object Cn)) (hv : g i.toNatClampNeg = some v) (hdg : decode cc pc = .ok (.aaload, 1))
    (kk : W p l e R s m args below meth c H locs cells slots Q (F0 m (pc + 1) ls (.ref v :: rest))) : W p l e R s m args below meth c H locs cells slots Q (F0 m pc ls (.int i :: .ref a :: rest)) := by
  refine va_aldq C.1 C.2.1 C.2.2.2.2.2.1 hP q0 t0 ha ht hin hdg ?_
  rw [hv]
  exact kk
theorem x_aast (C : Cx p s m args meth c own cc nL ret D ty) {a t0 v n : Nat} {cA : ClassId} {r : vw_C} {vs : List Value} {g : Nat → Option Nat} {i : Int32} {ws' : va_W} (hin : okI i n) (hP : va_P D vwCl ws H) (hD : va_D A ws) (hS : va_S A H0 H locs) (q0 qk ci : Nat) (ha : ws[q0]? = some (a, .inl (cA, n, .inr (.inr (.inr (.inr g)))))) (ht : ty[t0]? = some (cA, .object r.1)) (hv : ws[qk]? = some (v, .inr (ci, vs))) (hc : vwCl[ci]? = some r) (hset : ws.set q0 (a, .inl (cA, n, .inr (.inr (.inr (.inr (va_up g i.toNatClampNeg (some v))))))) = ws') (hdg : decode cc pc = .ok (.aastore, 1))
    (kk : ∀ (H1 : Heap) (locs1 : List Loc), va_P D vwCl ws' H1 → va_D A ws' → va_S A H0 H1 locs1 → W p l e R s m args below meth c H1 locs1 cells slots Q (F0 m (pc + 1) ls rest)) : W p l e R s m args below meth c H locs cells slots Q (F0 m pc ls (.ref v :: .int i :: .ref a :: rest)) := by
  subst hset
  exact va_astq C.1 C.2.1 C.2.2.2.2.2.1 hP hD hS q0 t0 qk ci ha ht hv hc hin hdg kk
theorem x_ifnull (C : Cx p s m args meth c own cc nL ret D ty) {x : Nat} {off : Int} (hdg : decode cc pc = .ok (.ifnull off, 3)) (kk : W p l e R s m args below meth c H locs cells slots Q (F0 m (pc + 3) ls rest)) : W p l e R s m args below meth c H locs cells slots Q (F0 m pc ls (.ref x :: rest)) := lv_ifnull C.1 C.2.1 hdg kk
theorem x_icmpK_lt (C : Cx p s m args meth c own cc nL ret D ty) {x y : Int32} {off : Int} (hc : ¬ y ≤ x) (hdg : decode cc pc = .ok (.if_icmp .ge off, 3)) {tgt : Nat} (ht : (pc : Int) + off = (tgt : Int)) (kk : W p l e R s m args below meth c H locs cells slots Q (F0 m (pc + 3) ls rest)) : W p l e R s m args below meth c H locs cells slots Q (F0 m pc ls (.int y :: .int x :: rest)) := lv_icmp_ge C.1 C.2.1 hdg ht (fun h => absurd h hc) (fun _ => kk)
theorem x_icmpK_ge (C : Cx p s m args meth c own cc nL ret D ty) {x y : Int32} {off : Int} (hc : y ≤ x) (hdg : decode cc pc = .ok (.if_icmp .ge off, 3)) {tgt : Nat} (ht : (pc : Int) + off = (tgt : Int)) (kk : W p l e R s m args below meth c H locs cells slots Q (F0 m tgt ls rest)) : W p l e R s m args below meth c H locs cells slots Q (F0 m pc ls (.int y :: .int x :: rest)) := lv_icmp_ge C.1 C.2.1 hdg ht (fun _ => kk) (fun h => absurd hc h)
end XS

theorem dX5_dropOldestRecord_0 : decode cX5_dropOldestRecord 0 = .ok (.aload_n 0, 1) := by decide +kernel
theorem dX5_dropOldestRecord_1 : decode cX5_dropOldestRecord 1 = .ok (.getfield 19, 3) := by decide +kernel
theorem dX5_dropOldestRecord_4 : decode cX5_dropOldestRecord 4 = .ok (.iconst 0, 1) := by decide +kernel
theorem dX5_dropOldestRecord_5 : decode cX5_dropOldestRecord 5 = .ok (.aaload, 1) := by decide +kernel
theorem dX5_dropOldestRecord_6 : decode cX5_dropOldestRecord 6 = .ok (.astore_n 1, 1) := by decide +kernel
theorem dX5_dropOldestRecord_7 : decode cX5_dropOldestRecord 7 = .ok (.iconst 1, 1) := by decide +kernel
theorem dX5_dropOldestRecord_8 : decode cX5_dropOldestRecord 8 = .ok (.istore_n 2, 1) := by decide +kernel
theorem dX5_dropOldestRecord_9 : decode cX5_dropOldestRecord 9 = .ok (.iload_n 2, 1) := by decide +kernel
theorem dX5_dropOldestRecord_10 : decode cX5_dropOldestRecord 10 = .ok (.aload_n 0, 1) := by decide +kernel
theorem dX5_dropOldestRecord_11 : decode cX5_dropOldestRecord 11 = .ok (.getfield 19, 3) := by decide +kernel
theorem dX5_dropOldestRecord_14 : decode cX5_dropOldestRecord 14 = .ok (.arraylength, 1) := by decide +kernel
theorem dX5_dropOldestRecord_15 : decode cX5_dropOldestRecord 15 = .ok (.if_icmp .ge 23, 3) := by decide +kernel
theorem dX5_dropOldestRecord_18 : decode cX5_dropOldestRecord 18 = .ok (.aload_n 0, 1) := by decide +kernel
theorem dX5_dropOldestRecord_19 : decode cX5_dropOldestRecord 19 = .ok (.getfield 19, 3) := by decide +kernel
theorem dX5_dropOldestRecord_22 : decode cX5_dropOldestRecord 22 = .ok (.iload_n 2, 1) := by decide +kernel
theorem dX5_dropOldestRecord_23 : decode cX5_dropOldestRecord 23 = .ok (.iconst 1, 1) := by decide +kernel
theorem dX5_dropOldestRecord_24 : decode cX5_dropOldestRecord 24 = .ok (.isub, 1) := by decide +kernel
theorem dX5_dropOldestRecord_25 : decode cX5_dropOldestRecord 25 = .ok (.aload_n 0, 1) := by decide +kernel
theorem dX5_dropOldestRecord_26 : decode cX5_dropOldestRecord 26 = .ok (.getfield 19, 3) := by decide +kernel
theorem dX5_dropOldestRecord_29 : decode cX5_dropOldestRecord 29 = .ok (.iload_n 2, 1) := by decide +kernel
theorem dX5_dropOldestRecord_30 : decode cX5_dropOldestRecord 30 = .ok (.aaload, 1) := by decide +kernel
theorem dX5_dropOldestRecord_31 : decode cX5_dropOldestRecord 31 = .ok (.aastore, 1) := by decide +kernel
theorem dX5_dropOldestRecord_32 : decode cX5_dropOldestRecord 32 = .ok (.iinc 2 1, 3) := by decide +kernel
theorem dX5_dropOldestRecord_35 : decode cX5_dropOldestRecord 35 = .ok (.goto (-26), 3) := by decide +kernel
theorem dX5_dropOldestRecord_38 : decode cX5_dropOldestRecord 38 = .ok (.aload_n 0, 1) := by decide +kernel
theorem dX5_dropOldestRecord_39 : decode cX5_dropOldestRecord 39 = .ok (.getfield 19, 3) := by decide +kernel
theorem dX5_dropOldestRecord_42 : decode cX5_dropOldestRecord 42 = .ok (.aload_n 0, 1) := by decide +kernel
theorem dX5_dropOldestRecord_43 : decode cX5_dropOldestRecord 43 = .ok (.getfield 19, 3) := by decide +kernel
theorem dX5_dropOldestRecord_46 : decode cX5_dropOldestRecord 46 = .ok (.arraylength, 1) := by decide +kernel
theorem dX5_dropOldestRecord_47 : decode cX5_dropOldestRecord 47 = .ok (.iconst 1, 1) := by decide +kernel
theorem dX5_dropOldestRecord_48 : decode cX5_dropOldestRecord 48 = .ok (.isub, 1) := by decide +kernel
theorem dX5_dropOldestRecord_49 : decode cX5_dropOldestRecord 49 = .ok (.aload_n 1, 1) := by decide +kernel
theorem dX5_dropOldestRecord_50 : decode cX5_dropOldestRecord 50 = .ok (.aastore, 1) := by decide +kernel
theorem dX5_dropOldestRecord_51 : decode cX5_dropOldestRecord 51 = .ok (.aload_n 0, 1) := by decide +kernel
theorem dX5_dropOldestRecord_52 : decode cX5_dropOldestRecord 52 = .ok (.dup, 1) := by decide +kernel
theorem dX5_dropOldestRecord_53 : decode cX5_dropOldestRecord 53 = .ok (.getfield 124, 3) := by decide +kernel
theorem dX5_dropOldestRecord_56 : decode cX5_dropOldestRecord 56 = .ok (.iconst 1, 1) := by decide +kernel
theorem dX5_dropOldestRecord_57 : decode cX5_dropOldestRecord 57 = .ok (.isub, 1) := by decide +kernel
theorem dX5_dropOldestRecord_58 : decode cX5_dropOldestRecord 58 = .ok (.putfield 124, 3) := by decide +kernel
theorem dX5_dropOldestRecord_61 : decode cX5_dropOldestRecord 61 = .ok (.return_, 1) := by decide +kernel
set_option maxHeartbeats 4000000 in
set_option maxRecDepth 100000 in
theorem kX5_drop_raw (l : Launch) (D : va_G) (cI cS : ClassId) (aR : Nat → Nat) (X : RS) : Mc l D (tyL cI cS) false yX5_dropOldestRecord cX5_dropOldestRecord 3 none 1 [.ref (aR 0)] (wRg cI cS aR X (recG X) X.2.2) none (wRg cI cS aR X (va_up (va_up (va_up (va_up (recG X) 0 (some (X.1 3 0))) 1 (some (X.1 4 0))) 2 (some (X.1 5 0))) 3 (some (X.1 2 0))) (X.2.2 - 1)) := by
  refine Mc_of RX5 (by decide +kernel) rfl wc_X5_dropOldestRecord (Nat.le_of_ble_eq_true rfl) ?_
  intro p e s m args below meth c A Q ls C hA hz hP hD hS hl RET
  refine x_aload_n C dX5_dropOldestRecord_0 rfl hl 0 rfl ?_
  refine x_get C inX5 hP 0 rfl rfl 2 (by decide) wf_X5_19 rfl dX5_dropOldestRecord_1 ?_
  refine x_iconst (v := (0 : Int32)) C dX5_dropOldestRecord_4 (by decide) ?_
  refine x_aald C (t0 := 1) (v := X.1 2 0) (Cn := "RetryStorm$State") (by decide) hP 1 rfl rfl rfl dX5_dropOldestRecord_5 ?_
  refine x_astore_n (lv' := [(1, .ref (X.1 2 0)), (0, .ref (aR 0))]) C dX5_dropOldestRecord_6 rfl hl (by decide) rfl (fun ls hl => ?_)
  refine x_iconst (v := (1 : Int32)) C dX5_dropOldestRecord_7 (by decide) ?_
  refine x_istore_n (lv' := [(2, .int (1 : Int32)), (1, .ref (X.1 2 0)), (0, .ref (aR 0))]) C dX5_dropOldestRecord_8 rfl hl (by decide) rfl (fun ls hl => ?_)
  refine x_iload_n C dX5_dropOldestRecord_9 rfl hl 0 rfl ?_
  refine x_aload_n C dX5_dropOldestRecord_10 rfl hl 2 rfl ?_
  refine x_get C inX5 hP 0 rfl rfl 2 (by decide) wf_X5_19 rfl dX5_dropOldestRecord_11 ?_
  refine x_alen C (v := (4 : Int32)) hP 1 rfl (t0 := 1) rfl rfl dX5_dropOldestRecord_14 ?_
  refine x_icmpK_lt C (by decide) dX5_dropOldestRecord_15 (tgt := 38) (by decide) ?_
  refine x_aload_n C dX5_dropOldestRecord_18 rfl hl 2 rfl ?_
  refine x_get C inX5 hP 0 rfl rfl 2 (by decide) wf_X5_19 rfl dX5_dropOldestRecord_19 ?_
  refine x_iload_n C dX5_dropOldestRecord_22 rfl hl 0 rfl ?_
  refine x_iconst (v := (1 : Int32)) C dX5_dropOldestRecord_23 (by decide) ?_
  refine x_isub C dX5_dropOldestRecord_24 ?_
  refine x_aload_n C dX5_dropOldestRecord_25 rfl hl 2 rfl ?_
  refine x_get C inX5 hP 0 rfl rfl 2 (by decide) wf_X5_19 rfl dX5_dropOldestRecord_26 ?_
  refine x_iload_n C dX5_dropOldestRecord_29 rfl hl 0 rfl ?_
  refine x_aald C (t0 := 1) (v := X.1 3 0) (Cn := "RetryStorm$State") (by decide) hP 1 rfl rfl rfl dX5_dropOldestRecord_30 ?_
  refine x_aast C (t0 := 1) (ws' := wRg cI cS aR X (va_up (recG X) 0 (some (X.1 3 0))) X.2.2) (by decide) hP hD hS 1 71 0 rfl rfl rfl rfl rfl dX5_dropOldestRecord_31 (fun H locs hP hD hS => ?_)
  refine x_iinc (v := (2 : Int32)) (lv' := [(2, .int (2 : Int32)), (1, .ref (X.1 2 0)), (0, .ref (aR 0))]) C dX5_dropOldestRecord_32 hl (k := 0) rfl (by decide) (by decide) rfl (fun ls hl => ?_)
  refine x_goto (tgt := 9) C dX5_dropOldestRecord_35 (by decide) ?_
  refine x_iload_n C dX5_dropOldestRecord_9 rfl hl 0 rfl ?_
  refine x_aload_n C dX5_dropOldestRecord_10 rfl hl 2 rfl ?_
  refine x_get C inX5 hP 0 rfl rfl 2 (by decide) wf_X5_19 rfl dX5_dropOldestRecord_11 ?_
  refine x_alen C (v := (4 : Int32)) hP 1 rfl (t0 := 1) rfl rfl dX5_dropOldestRecord_14 ?_
  refine x_icmpK_lt C (by decide) dX5_dropOldestRecord_15 (tgt := 38) (by decide) ?_
  refine x_aload_n C dX5_dropOldestRecord_18 rfl hl 2 rfl ?_
  refine x_get C inX5 hP 0 rfl rfl 2 (by decide) wf_X5_19 rfl dX5_dropOldestRecord_19 ?_
  refine x_iload_n C dX5_dropOldestRecord_22 rfl hl 0 rfl ?_
  refine x_iconst (v := (1 : Int32)) C dX5_dropOldestRecord_23 (by decide) ?_
  refine x_isub C dX5_dropOldestRecord_24 ?_
  refine x_aload_n C dX5_dropOldestRecord_25 rfl hl 2 rfl ?_
  refine x_get C inX5 hP 0 rfl rfl 2 (by decide) wf_X5_19 rfl dX5_dropOldestRecord_26 ?_
  refine x_iload_n C dX5_dropOldestRecord_29 rfl hl 0 rfl ?_
  refine x_aald C (t0 := 1) (v := X.1 4 0) (Cn := "RetryStorm$State") (by decide) hP 1 rfl rfl rfl dX5_dropOldestRecord_30 ?_
  refine x_aast C (t0 := 1) (ws' := wRg cI cS aR X (va_up (va_up (recG X) 0 (some (X.1 3 0))) 1 (some (X.1 4 0))) X.2.2) (by decide) hP hD hS 1 94 0 rfl rfl rfl rfl rfl dX5_dropOldestRecord_31 (fun H locs hP hD hS => ?_)
  refine x_iinc (v := (3 : Int32)) (lv' := [(2, .int (3 : Int32)), (1, .ref (X.1 2 0)), (0, .ref (aR 0))]) C dX5_dropOldestRecord_32 hl (k := 0) rfl (by decide) (by decide) rfl (fun ls hl => ?_)
  refine x_goto (tgt := 9) C dX5_dropOldestRecord_35 (by decide) ?_
  refine x_iload_n C dX5_dropOldestRecord_9 rfl hl 0 rfl ?_
  refine x_aload_n C dX5_dropOldestRecord_10 rfl hl 2 rfl ?_
  refine x_get C inX5 hP 0 rfl rfl 2 (by decide) wf_X5_19 rfl dX5_dropOldestRecord_11 ?_
  refine x_alen C (v := (4 : Int32)) hP 1 rfl (t0 := 1) rfl rfl dX5_dropOldestRecord_14 ?_
  refine x_icmpK_lt C (by decide) dX5_dropOldestRecord_15 (tgt := 38) (by decide) ?_
  refine x_aload_n C dX5_dropOldestRecord_18 rfl hl 2 rfl ?_
  refine x_get C inX5 hP 0 rfl rfl 2 (by decide) wf_X5_19 rfl dX5_dropOldestRecord_19 ?_
  refine x_iload_n C dX5_dropOldestRecord_22 rfl hl 0 rfl ?_
  refine x_iconst (v := (1 : Int32)) C dX5_dropOldestRecord_23 (by decide) ?_
  refine x_isub C dX5_dropOldestRecord_24 ?_
  refine x_aload_n C dX5_dropOldestRecord_25 rfl hl 2 rfl ?_
  refine x_get C inX5 hP 0 rfl rfl 2 (by decide) wf_X5_19 rfl dX5_dropOldestRecord_26 ?_
  refine x_iload_n C dX5_dropOldestRecord_29 rfl hl 0 rfl ?_
  refine x_aald C (t0 := 1) (v := X.1 5 0) (Cn := "RetryStorm$State") (by decide) hP 1 rfl rfl rfl dX5_dropOldestRecord_30 ?_
  refine x_aast C (t0 := 1) (ws' := wRg cI cS aR X (va_up (va_up (va_up (recG X) 0 (some (X.1 3 0))) 1 (some (X.1 4 0))) 2 (some (X.1 5 0))) X.2.2) (by decide) hP hD hS 1 117 0 rfl rfl rfl rfl rfl dX5_dropOldestRecord_31 (fun H locs hP hD hS => ?_)
  refine x_iinc (v := (4 : Int32)) (lv' := [(2, .int (4 : Int32)), (1, .ref (X.1 2 0)), (0, .ref (aR 0))]) C dX5_dropOldestRecord_32 hl (k := 0) rfl (by decide) (by decide) rfl (fun ls hl => ?_)
  refine x_goto (tgt := 9) C dX5_dropOldestRecord_35 (by decide) ?_
  refine x_iload_n C dX5_dropOldestRecord_9 rfl hl 0 rfl ?_
  refine x_aload_n C dX5_dropOldestRecord_10 rfl hl 2 rfl ?_
  refine x_get C inX5 hP 0 rfl rfl 2 (by decide) wf_X5_19 rfl dX5_dropOldestRecord_11 ?_
  refine x_alen C (v := (4 : Int32)) hP 1 rfl (t0 := 1) rfl rfl dX5_dropOldestRecord_14 ?_
  refine x_icmpK_ge C (by decide) dX5_dropOldestRecord_15 (tgt := 38) (by decide) ?_
  refine x_aload_n C dX5_dropOldestRecord_38 rfl hl 2 rfl ?_
  refine x_get C inX5 hP 0 rfl rfl 2 (by decide) wf_X5_19 rfl dX5_dropOldestRecord_39 ?_
  refine x_aload_n C dX5_dropOldestRecord_42 rfl hl 2 rfl ?_
  refine x_get C inX5 hP 0 rfl rfl 2 (by decide) wf_X5_19 rfl dX5_dropOldestRecord_43 ?_
  refine x_alen C (v := (4 : Int32)) hP 1 rfl (t0 := 1) rfl rfl dX5_dropOldestRecord_46 ?_
  refine x_iconst (v := (1 : Int32)) C dX5_dropOldestRecord_47 (by decide) ?_
  refine x_isub C dX5_dropOldestRecord_48 ?_
  refine x_aload_n C dX5_dropOldestRecord_49 rfl hl 1 rfl ?_
  refine x_aast C (t0 := 1) (ws' := wRg cI cS aR X (va_up (va_up (va_up (va_up (recG X) 0 (some (X.1 3 0))) 1 (some (X.1 4 0))) 2 (some (X.1 5 0))) 3 (some (X.1 2 0))) X.2.2) (by decide) hP hD hS 1 48 0 rfl rfl rfl rfl rfl dX5_dropOldestRecord_50 (fun H locs hP hD hS => ?_)
  refine x_aload_n C dX5_dropOldestRecord_51 rfl hl 2 rfl ?_
  refine x_dup C dX5_dropOldestRecord_52 rfl ?_
  refine x_get C inX5 hP 0 rfl rfl 3 (by decide) wf_X5_124 rfl dX5_dropOldestRecord_53 ?_
  refine x_iconst (v := (1 : Int32)) C dX5_dropOldestRecord_56 (by decide) ?_
  refine x_isub C dX5_dropOldestRecord_57 ?_
  refine x_put C (ws' := wRg cI cS aR X (va_up (va_up (va_up (va_up (recG X) 0 (some (X.1 3 0))) 1 (some (X.1 4 0))) 2 (some (X.1 5 0))) 3 (some (X.1 2 0))) (X.2.2 - 1)) (ft := .int) inX5 tyX5 tyX5_ok nmX5 hP hD hS 0 rfl rfl 3 (by decide) wf_X5_124 rfl (by decide +kernel) rfl rfl (Nat.le_of_ble_eq_true rfl) rfl dX5_dropOldestRecord_58 (fun H locs hP hD hS => ?_)
  exact RET (x_vret C dX5_dropOldestRecord_61) hP hD hS
theorem rot_perm {head s0 s1 s2 s3 s4 s5 : va_W} : (head ++ (s0 ++ (s1 ++ (s3 ++ (s4 ++ (s5 ++ s2)))))).Perm (head ++ (s0 ++ (s1 ++ (s2 ++ (s3 ++ (s4 ++ s5)))))) := by
  refine List.Perm.append_left _ (List.Perm.append_left _ (List.Perm.append_left _ ?_))
  refine (List.Perm.append_left s3 (List.Perm.append_left s4 List.perm_append_comm)).trans ?_
  refine (List.Perm.append_left s3 (List.perm_append_comm_assoc s4 s2 s5)).trans ?_
  exact List.perm_append_comm_assoc s3 s2 (s4 ++ s5)
theorem Mc.postP {l : Launch} {D : va_G} {ty : List (ClassId × FieldType)} {z : Bool} {y : MethodName} {cc : ByteArray} {nL : Nat} {ret : Option FieldType} {d : Nat} {as : List Value} {w w1 w2 : va_W} {v : Option Value} (h : Mc l D ty z y cc nL ret d as w v w1) (hP : ∀ H, va_P D vwCl w1 H → va_P D vwCl w2 H) (hadr : (w2.map Prod.fst).Perm (w1.map Prod.fst)) : Mc l D ty z y cc nL ret d as w v w2 := by
  intro sz
  refine (h sz).conseq (fun _ _ h => h) ?_ (fun _ h => h)
  rintro a s o t - ⟨q1, ⟨q2, q3, q4⟩, q5⟩
  have q4' := va_D_nd.mp q4
  refine ⟨q1, ⟨hP _ q2, q3, va_D_nd.mpr ⟨hadr.nodup_iff.mpr q4'.1, fun q hq => ?_⟩⟩, q5⟩
  have : q.1 ∈ w1.map Prod.fst := hadr.mem_iff.mp (List.mem_map.mpr ⟨q, hq, rfl⟩)
  obtain ⟨q', h1, h2⟩ := List.mem_map.mp this
  rw [← h2]
  exact q4'.2 q' h1
theorem wRg_congr {D : va_G} {cI cS : ClassId} {aR : Nat → Nat} {X : RS} {g g2 : Nat → Option Nat} {r : Int32} (h : ∀ j, j < 4 → g j = g2 j) (H : Heap) (hP : va_P D vwCl (wRg cI cS aR X g r) H) : va_P D vwCl (wRg cI cS aR X g2 r) H := by
  have h' := va_P_mem.mp hP
  refine va_P_mem.mpr fun q hq => ?_
  rcases List.mem_append.mp hq with hq | hq
  · rcases List.mem_cons.mp hq with rfl | hq
    · exact h' _ (List.mem_append_left _ List.mem_cons_self)
    · obtain rfl := List.mem_singleton.mp hq
      have h2 := h' (aR 1, .inl (cS, 4, .inr (.inr (.inr (.inr g))))) (List.mem_append_left _ (List.mem_cons_of_mem _ List.mem_cons_self))
      show H[aR 1]? = some (vp_cell cS (4, .inr (.inr (.inr (.inr g2)))))
      rw [vp_cell_q, ← arrV_congr (fun j hj => congrArg va_rf (h j hj)), ← vp_cell_q]
      exact h2
  · exact h' q (List.mem_append_right _ hq)
theorem kX5_dropOldestRecord (l : Launch) (D : va_G) (cI cS : ClassId) (aR : Nat → Nat) (X : RS) : Mc l D (tyL cI cS) false yX5_dropOldestRecord cX5_dropOldestRecord 3 none 1 [.ref (aR 0)] (wR cI cS aR X) none (wR cI cS aR (rdrop X)) := by
  have hg : ∀ j, j < 4 → (va_up (va_up (va_up (va_up (recG X) 0 (some (X.1 3 0))) 1 (some (X.1 4 0))) 2 (some (X.1 5 0))) 3 (some (X.1 2 0))) j = recG (rdrop X) j := by
    intro j hj
    match j, hj with
    | 0, _ => rfl
    | 1, _ => rfl
    | 2, _ => rfl
    | 3, _ => rfl
    | j + 4, h => exact absurd h (by omega)
  have hp : ∀ g : Nat → Option Nat, (wR cI cS aR (rdrop X)).Perm (wRg cI cS aR X (recG (rdrop X)) (X.2.2 - 1)) := fun g => rot_perm
  refine (kX5_drop_raw l D cI cS aR X).postP (fun H hP => ?_) ?_
  · have hP := va_P_mem.mp (wRg_congr hg H hP)
    exact va_P_mem.mpr fun q hq => hP q ((hp (recG X)).mem_iff.mp hq)
  · exact ((hp (recG X)).map Prod.fst)
end
section
theorem zz_last : (1 : Nat) = 1 := rfl
end
